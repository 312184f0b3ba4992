/-! PURE: states, keepers, days due -/
theorem lett_128 {i a : Bool} : lett i a < 128 := by
  unfold lett
  split
  · omega
  · split <;> omega
theorem stt_lt {F : fw_DB} {aw : Nat → Bool} {d : Nat} {wl rl : List Nat} : stt F aw d wl rl < 128 := by
  unfold stt
  split
  · exact lett_128
  · split <;> omega
theorem stS_lt {S : fw_DB} {p d : Nat} : stS S p d < 128 := stt_lt
theorem kp_in {F : fw_DB} {d : Nat} : ∀ {l : List Nat} {k : Nat}, 0 < kp F d k l → kp F d k l = k ∨ kp F d k l - 1 ∈ l
  | [], k, _ => Or.inl rfl
  | w :: l, k, h => by
    unfold kp at h ⊢
    by_cases c : (wkeep (F 13 w) d && (decide (k = 0) || decide (F 13 (k - 1) 16 < F 13 w 16))) = true
    · rw [if_pos c] at h ⊢
      rcases kp_in h with e | e
      · right
        rw [e]
        exact List.mem_cons_self
      · exact Or.inr (List.mem_cons_of_mem _ e)
    · rw [if_neg c] at h ⊢
      rcases kp_in h with e | e
      · exact Or.inl e
      · exact Or.inr (List.mem_cons_of_mem _ e)
/-- who keeps a person, coded -/
def kpS (S : fw_DB) (p d : Nat) : Nat := kp (FD S) d 0 (wlS S p)
theorem kpS_in {S : fw_DB} {p d : Nat} (h : 0 < kpS S p d) : kpS S p d - 1 ∈ wlS S p := by
  rcases kp_in (k := 0) h with e | e
  · unfold kpS at h
    omega
  · exact e
theorem kpS_prk {S D : fw_DB} {p d : Nat} (h : okS S) (hs : sc S D) : kp (prk D (wlS S p) (alS S p) (rlS S p)) d 0 (wlS S p) = kpS S p d := kp_c (prk_FD (p := p) h.2.2.1 hs).1 (fun z => absurd z (by omega))
def dueS (S : fw_DB) (p : Nat) : Nat → Bool := duF (FD S) (wlS S p) (rlS S p)
theorem duW_c {D E : fw_DB} : ∀ {l : List Nat} {f : Nat → Bool}, (∀ w ∈ l, D 13 w = E 13 w) → duW D f l = duW E f l
  | [], _, _ => rfl
  | w :: l, f, h => by
    unfold duW
    rw [h w List.mem_cons_self]
    exact duW_c (fun v hv => h v (List.mem_cons_of_mem _ hv))
theorem duR_c {D E : fw_DB} : ∀ {l : List Nat} {f : Nat → Bool}, (∀ r ∈ l, D 17 r 1 = E 17 r 1 ∧ D 17 r 5 = E 17 r 5) → duR D f l = duR E f l
  | [], _, _ => rfl
  | w :: l, f, h => by
    unfold duR
    obtain ⟨h1, h2⟩ := h w List.mem_cons_self
    rw [h1, h2]
    exact duR_c (fun v hv => h v (List.mem_cons_of_mem _ hv))
theorem dueS_prk {S D : fw_DB} {p : Nat} (h : okS S) (hs : sc S D) : duF (prk D (wlS S p) (alS S p) (rlS S p)) (wlS S p) (rlS S p) = dueS S p := by
  have hp : sc S (prk D (wlS S p) (alS S p) (rlS S p)) := by
    unfold prk
    rw [rkAll_A, rcAll_A]
    exact (hs.tr rkA_sc).tr rcA_sc
  obtain ⟨h1, h2⟩ := prk_FD (p := p) h.2.2.1 hs
  unfold dueS duF
  rw [duW_c h1]
  exact duR_c (fun r hr => ⟨by rw [hp 17 r 1 rfl, FD_sc 17 r 1 rfl], h2 r hr⟩)
theorem duW_at {D : fw_DB} {d : Nat} : ∀ {l : List Nat} {f : Nat → Bool}, duW D f l d = (f d || l.any (fun w => iv (D 13 w 14) (min (D 13 w 16) 20000) d))
  | [], f => by rw [List.any_nil, Bool.or_false]; rfl
  | w :: l, f => by
    unfold duW
    rw [duW_at, List.any_cons, Bool.or_assoc]
theorem duR_at {D : fw_DB} {d : Nat} : ∀ {l : List Nat} {f : Nat → Bool}, duR D f l d = (f d || l.any (fun r => iv (D 17 r 1) (min (D 17 r 5) 20000) d))
  | [], f => by rw [List.any_nil, Bool.or_false]; rfl
  | w :: l, f => by
    unfold duR
    rw [duR_at, List.any_cons, Bool.or_assoc]
theorem duF_hi {D : fw_DB} {wl rl : List Nat} {d : Nat} (h : 20000 ≤ d) : duF D wl rl d = false := by
  have hi : ∀ a b, iv a (min b 20000) d = false := fun a b => by
    unfold iv
    rw [decide_eq_false (fun z : d < min b 20000 => by have := Nat.min_le_right b 20000; omega), Bool.and_false]
  unfold duF
  rw [duR_at, duW_at, Bool.false_or]
  simp only [hi]
  simp
theorem dueS_at {S : fw_DB} {p d : Nat} (h : d < 20000) : dueS S p d = ((wlS S p).any (fun w => wkeep (FD S 13 w) d) || (rlS S p).any (fun r => decide (FD S 17 r 1 ≤ d) && decide (d < FD S 17 r 5))) := by
  have hi : ∀ a b, iv a (min b 20000) d = (decide (a ≤ d) && decide (d < b)) := fun a b => by
    unfold iv
    congr 1
    rw [decide_eq_decide, Nat.lt_min]
    omega
  unfold dueS duF
  rw [duR_at, duW_at, Bool.false_or]
  simp only [hi]
  rfl
/-- days held that were not due, ahead of a day -/
def tlV (S : fw_DB) (p b : Nat) : Nat := cu (fun d => sB (S 12 p) d && !dueS S p d && iv 0 b d) 20032
/-- days due and not at large that were not held, ahead of a day -/
def tsV (S : fw_DB) (p b : Nat) : Nat := cu (fun d => (dueS S p d && !sB (S 10 p) d) && !sB (S 12 p) d && iv 0 b d) 20032
