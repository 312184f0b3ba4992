/-! PURE: all persons reckoned -/
def rkP (S : fw_DB) : Nat → fw_DB
  | 0 => S
  | p + 1 => if p < S 99 0 8 then prk (rkP S p) (wlS S p) (alS S p) (rlS S p) else rkP S p
theorem rkP_ic {n : Nat} {S : fw_DB} {A : fw_AD} {M : fw_MP} (h : IC n S A M) : ∀ i, IC n (rkP S i) A M ∧ sc S (rkP S i)
  | 0 => ⟨h, sc.rf⟩
  | p + 1 => by
    obtain ⟨I, s⟩ := rkP_ic h p
    unfold rkP
    split
    · rename_i c
      obtain ⟨I2, s2⟩ := ic_prk I s (by rw [s.N]; exact c)
      exact ⟨I2, s.tr s2⟩
    · exact ⟨I, s⟩
theorem prk_o {D : fw_DB} {wl al rl : List Nat} : (∀ w, w ∉ wl → prk D wl al rl 13 w = D 13 w) ∧ ∀ r, r ∉ rl → prk D wl al rl 17 r = D 17 r := by
  unfold prk
  rw [rkAll_A, rcAll_A]
  constructor
  · intro w hw
    rw [show rcA (fun _ => wl) (rkA (fun _ => al) D wl) rl 13 = rkA (fun _ => al) D wl 13 from rcA_k (by decide)]
    exact rkA_o hw
  · intro r hr
    rw [rcA_o hr]
    exact congrFun (rkA_k (by decide)) r
theorem rkP_row {n : Nat} {S : fw_DB} {A : fw_AD} {M : fw_MP} (h : IC n S A M) : ∀ i, (∀ w, w < S 99 0 13 → S 13 w 1 < i → rkP S i 13 w = FD S 13 w) ∧ ∀ r, r < S 99 0 17 → S 17 r 0 < i → rkP S i 17 r 5 = FD S 17 r 5
  | 0 => ⟨fun w _ z => by omega, fun r _ z => by omega⟩
  | p + 1 => by
    obtain ⟨h1, h2⟩ := rkP_row h p
    have s := (rkP_ic h p).2
    have hx := h.2.2.2.2.2.2
    have hf := prk_FD (p := p) h.2.2.2.2.2.1 s
    have ho := prk_o (D := rkP S p) (wl := wlS S p) (al := alS S p) (rl := rlS S p)
    unfold rkP
    constructor
    · intro w hw z
      have hn := (hx.1 w hw).2.2.2.2.1
      by_cases c : p < S 99 0 8
      · rw [if_pos c]
        by_cases c2 : S 13 w 1 = p
        · exact hf.1 w (mem_wlS.mpr ⟨hw, c2⟩)
        · rw [ho.1 w (fun z2 => c2 (mem_wlS.mp z2).2)]
          exact h1 w hw (by omega)
      · rw [if_neg c]
        exact h1 w hw (by omega)
    · intro w hw z
      have hn := (hx.2.2 w hw).2.2.2
      by_cases c : p < S 99 0 8
      · rw [if_pos c]
        by_cases c2 : S 17 w 0 = p
        · exact hf.2 w (mem_rlS.mpr ⟨hw, c2⟩)
        · rw [ho.2 w (fun z2 => c2 (mem_rlS.mp z2).2)]
          exact h2 w hw (by omega)
      · rw [if_neg c]
        exact h2 w hw (by omega)
def nsum (F : fw_DB) : Nat → Nat
  | 0 => 0
  | w + 1 => nsum F w + (if F 13 w 14 = 1000000 then 0 else F 13 w 15)
def bgn (F : fw_DB) : Nat → Nat
  | 0 => 0
  | w + 1 => bgn F w + (if F 13 w 14 = 1000000 then 0 else 1)
theorem nsum_c {F E : fw_DB} : ∀ {n}, (∀ w, w < n → F 13 w = E 13 w) → nsum F n = nsum E n
  | 0, _ => rfl
  | n + 1, h => by
    unfold nsum
    rw [nsum_c (fun w hw => h w (by omega)), h n (by omega)]
theorem bgn_c {F E : fw_DB} : ∀ {n}, (∀ w, w < n → F 13 w = E 13 w) → bgn F n = bgn E n
  | 0, _ => rfl
  | n + 1, h => by
    unfold bgn
    rw [bgn_c (fun w hw => h w (by omega)), h n (by omega)]
theorem bgn_le {F : fw_DB} : ∀ n, bgn F n ≤ n
  | 0 => Nat.le_refl _
  | n + 1 => by
    unfold bgn
    have := bgn_le (F := F) n
    split <;> omega
/-- how many are in prison on a day -/
def psN (S : fw_DB) (d : Nat) : Nat → Nat
  | 0 => 0
  | p + 1 => psN S d p + (if stS S p d = 112 then 1 else 0)
theorem psN_le {S : fw_DB} {d : Nat} : ∀ n, psN S d n ≤ n
  | 0 => Nat.le_refl _
  | n + 1 => by
    unfold psN
    have := psN_le (S := S) (d := d) n
    split <;> omega
/-- a state by the days of all reckoned -/
theorem rkP_st {n : Nat} {S : fw_DB} {A : fw_AD} {M : fw_MP} (h : IC n S A M) {i p d : Nat} (hp : p < i) : stt (rkP S i) (sB (rkP S i 10 p)) d (wlS S p) (rlS S p) = stS S p d := by
  have s := (rkP_ic h i).2
  obtain ⟨h1, h2⟩ := rkP_row h i
  unfold stS
  rw [show rkP S i 10 = S 10 from s.kind (fun f => rfl)]
  refine stt_c (fun w hw => ?_) (fun r hr => ?_)
  · obtain ⟨m1, m2⟩ := mem_wlS.mp hw
    exact h1 w m1 (by omega)
  · obtain ⟨m1, m2⟩ := mem_rlS.mp hr
    exact ⟨by rw [s 17 r 1 rfl, FD_sc 17 r 1 rfl], h2 r m1 (by omega)⟩
