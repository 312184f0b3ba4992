/-! PURE: what holds of the told things between two calls -/
def lastc : List Nat → Nat
  | [] => 0
  | [a] => a + 1
  | _ :: b :: l => lastc (b :: l)
def lwN (S : fw_DB) (w : Nat) : Nat → Nat
  | 0 => 0
  | n + 1 => if wapp (S 13 w) (S 7 n) = true then n + 1 else lwN S w n
def pO (D : fw_DB) (p : Nat) : Prop := pL D p (wlS D p) (alS D p) (rlS D p) ∧ D 8 p 3 = lastc (wlS D p) ∧ D 8 p 7 = lastc (rlS D p) ∧ D 8 p 8 = (rlS D p).length
def okX (n : Nat) (D : fw_DB) : Prop := (∀ w, w < D 99 0 13 → D 13 w 3 ≤ D 13 w 4 ∧ D 13 w 7 = lwN D w (D 99 0 7) ∧ (0 < D 13 w 9 → D 13 w 2 = 115 ∧ D 13 w 4 < D 13 w 9) ∧ D 13 w 11 + D 13 w 12 ≤ 999 * n ∧ D 13 w 1 < D 99 0 8 ∧ D 13 w 5 ≤ D 99 0 13) ∧ (∀ a, a < D 99 0 16 → D 16 a 3 < D 99 0 8) ∧ ∀ r, r < D 99 0 17 → D 17 r 1 ≤ D 17 r 4 ∧ (D 17 r 4 < 20000 ∨ D 17 r 4 = 1000000) ∧ D 17 r 3 ≤ D 99 0 13 ∧ D 17 r 0 < D 99 0 8
def nN (D : fw_DB) : Prop := D 99 0 9 = D 99 0 8 ∧ D 99 0 10 = D 99 0 8 ∧ D 99 0 11 = D 99 0 8 ∧ D 99 0 12 = D 99 0 8 ∧ D 99 0 14 = D 99 0 13 ∧ D 99 0 15 = D 99 0 13
def IC (n : Nat) (D : fw_DB) (A : fw_AD) (M : fw_MP) : Prop := gd D A M ∧ mI D ∧ (dB D ∧ ∀ j, j < D 99 0 13 → tB (D 14 j)) ∧ nN D ∧ (∀ p, p < D 99 0 8 → pO D p) ∧ okW D ∧ okX n D
theorem lwN_le {S : fw_DB} {w : Nat} : ∀ n, lwN S w n ≤ n
  | 0 => Nat.le_refl _
  | n + 1 => by
    unfold lwN
    have := lwN_le (S := S) (w := w) n
    split <;> omega
theorem ic_ok {n : Nat} {D : fw_DB} {A : fw_AD} {M : fw_MP} (h : IC n D A M) : okS D := by
  obtain ⟨g, m, b, nn, p, w, x⟩ := h
  refine ⟨g.2.1, g.2.2.2, w, fun v hv => ⟨(x.1 v hv).2.2.2.2.2, ?_⟩, fun r hr => ⟨(g.2.2.1 r hr).1, (x.2.2 r hr).1⟩⟩
  rw [(x.1 v hv).2.1]
  exact lwN_le _
theorem wlS_sc {D D' : fw_DB} (s : sc D D') (p : Nat) : wlS D' p = wlS D p := by
  unfold wlS
  rw [s.N]
  congr 1
  funext w
  rw [s 13 w 1 rfl]
theorem rlS_sc {D D' : fw_DB} (s : sc D D') (p : Nat) : rlS D' p = rlS D p := by
  unfold rlS
  rw [s.N]
  congr 1
  funext w
  rw [s 17 w 0 rfl]
theorem insA_c {D D' : fw_DB} (e : ∀ i, D' 16 i 0 = D 16 i 0) (a : Nat) (l : List Nat) : insA D' a l = insA D a l := by
  unfold insA
  simp only [e]
theorem alN_c {D D' : fw_DB} (e : ∀ i, D' 16 i 0 = D 16 i 0) {p : Nat} : ∀ {n}, (∀ i, i < n → D' 16 i 3 = D 16 i 3) → alN D' p n = alN D p n
  | 0, _ => rfl
  | n + 1, h => by
    unfold alN
    rw [h n (by omega), alN_c e (fun i hi => h i (by omega)), insA_c e]
theorem alS_sc {D D' : fw_DB} (s : sc D D') (p : Nat) : alS D' p = alS D p := by
  unfold alS
  rw [s.N]
  exact alN_c (fun i => s 16 i 0 rfl) (fun i _ => s 16 i 3 rfl)
theorem wapp_a {g g' lg : Nat → Nat} (h : agw g g') : wapp g lg = wapp g' lg := by
  unfold wapp
  rw [wfx_a h, h 3 (by omega), h 4 (by omega)]
theorem lwN_c {D D' : fw_DB} {w : Nat} (h : agw (D 13 w) (D' 13 w)) : ∀ {n}, (∀ i, i < n → D' 7 i = D 7 i) → lwN D' w n = lwN D w n
  | 0, _ => rfl
  | n + 1, e => by
    unfold lwN
    rw [lwN_c h (fun i hi => e i (by omega)), e n (by omega), wapp_a h]
theorem pO_sc {D D' : fw_DB} {p : Nat} (h : pO D p) (s : sc D D') : pO D' p := by
  obtain ⟨h1, h2, h3, h4⟩ := h
  unfold pO
  rw [wlS_sc s, rlS_sc s, alS_sc s, s 8 p 3 rfl, s 8 p 7 rfl, s 8 p 8 rfl]
  exact ⟨h1.sc s, h2, h3, h4⟩
theorem okW_sc {D D' : fw_DB} (h : okW D) (s : sc D D') : okW D' := by
  intro w hw
  rw [s.N] at hw
  rw [s 13 w 2 rfl, s 13 w 5 rfl, s 13 (D 13 w 5 - 1) 1 rfl, s 13 w 1 rfl]
  exact h w hw
theorem okX_sc {n : Nat} {D D' : fw_DB} (h : okX n D) (s : sc D D') : okX n D' := by
  obtain ⟨h1, h2, h3⟩ := h
  refine ⟨fun w hw => ?_, fun a ha => ?_, fun r hr => ?_⟩
  · rw [s.N] at hw
    rw [s.N, s 13 w 3 rfl, s 13 w 4 rfl, s 13 w 7 rfl, s 13 w 9 rfl, s 13 w 2 rfl, s 13 w 11 rfl, s 13 w 12 rfl, s 13 w 1 rfl, s 13 w 5 rfl, lwN_c (agw_sc s w) (fun i _ => s.row (fun f => rfl))]
    exact h1 w hw
  · rw [s.N] at ha
    rw [s.N, s 16 a 3 rfl]
    exact h2 a ha
  · rw [s.N] at hr
    rw [s.N, s 17 r 1 rfl, s 17 r 4 rfl, s 17 r 3 rfl, s 17 r 0 rfl]
    exact h3 r hr
theorem mI_sc {D D' : fw_DB} (h : mI D) (s : sc D D') : mI D' := by
  unfold mI at h ⊢
  rw [s.N, s 1 0 0 rfl, s 2 0 0 rfl, s 3 0 0 rfl, s 4 0 0 rfl, s 0 0 5 rfl, s 0 0 6 rfl, s 0 0 7 rfl, s 0 0 8 rfl, s 0 0 9 rfl]
  exact h
/-- what is reckoned may change -/
theorem ic_sc {n : Nat} {D D' : fw_DB} {A : fw_AD} {M : fw_MP} (h : IC n D A M) (s : sc D D') (g' : gd D' A M) (hb : ∀ d, 20000 ≤ d → D' 6 0 d = 0) (ht : ∀ j, j < D' 99 0 13 → tB (D' 14 j)) : IC n D' A M := by
  obtain ⟨g, m, b, nn, p, w, x⟩ := h
  refine ⟨g', mI_sc m s, ⟨⟨hb, fun q d hd => ?_⟩, ht⟩, ?_, fun q hq => ?_, okW_sc w s, okX_sc x s⟩
  · rw [s 10 q d rfl, s 12 q d rfl]
    exact b.1.2 q d hd
  · unfold nN at nn ⊢
    rw [s.N]
    exact nn
  · rw [s.N] at hq
    exact pO_sc (p q hq) s
theorem prk_kk {D : fw_DB} {wl al rl : List Nat} {k : Nat} (h : k ≠ 13) (h2 : k ≠ 17) : prk D wl al rl k = D k := by
  unfold prk
  rw [rkAll_A, rcAll_A]
  exact (rcA_k h2).trans (rkA_k h)
theorem ic_prk {n : Nat} {S D : fw_DB} {A : fw_AD} {M : fw_MP} {p : Nat} (h : IC n D A M) (s : sc S D) (hp : p < D 99 0 8) : IC n (prk D (wlS S p) (alS S p) (rlS S p)) A M ∧ sc D (prk D (wlS S p) (alS S p) (rlS S p)) := by
  have h0 := h
  obtain ⟨g, m, b, nn, q, w, x⟩ := h
  have P := (q p hp).1
  rw [wlS_sc s, alS_sc s, rlS_sc s] at P
  obtain ⟨g1, s1⟩ := prk_gd g P
  refine ⟨ic_sc h0 s1 g1 (fun d hd => ?_) (fun j hj => ?_), s1⟩
  · rw [prk_kk (by decide) (by decide)]
    exact b.1.1 d hd
  · rw [s1.N] at hj
    rw [prk_kk (by decide) (by decide)]
    exact b.2 j hj
