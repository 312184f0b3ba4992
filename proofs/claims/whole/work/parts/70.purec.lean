/-! PURE: added days, recalls, days of a person told anew -/
theorem ic_aa {n : Nat} {D : fw_DB} {A : fw_AD} {M : fw_MP} (h : IC n D A M) {a : Nat} (ha : a < D 99 0 16) : aB D a ∧ D 16 a 3 < D 99 0 8 := ⟨h.1.2.1.2.2 a ha, h.2.2.2.2.2.2.2.1 a ha⟩
theorem ic_rr {n : Nat} {D : fw_DB} {A : fw_AD} {M : fw_MP} (h : IC n D A M) {r : Nat} (hr : r < D 99 0 17) : rB D r ∧ D 17 r 1 ≤ D 17 r 4 ∧ (D 17 r 4 < 20000 ∨ D 17 r 4 = 1000000) ∧ D 17 r 3 ≤ D 99 0 13 ∧ D 17 r 0 < D 99 0 8 := ⟨h.1.2.2.1 r hr, h.2.2.2.2.2.2.2.2 r hr⟩
theorem ic_16 {n a v : Nat} {D : fw_DB} {A : fw_AD} {M : fw_MP} (h : IC n D A M) (ha : a < D 99 0 16) (hv : v ≤ 200) : IC (n + 1) (dp D 16 a (va_up (D 16 a) 1 v)) A M := by
  have e17 : dp D 16 a (va_up (D 16 a) 1 v) 17 = D 17 := funext fun j => dp_k (by decide)
  refine ic_o h (st_dp (fun f hf => ?_)) (by decide) (h.1.1.ok ha) (fun b hb => ?_) (fun r hr => ?_) (fun p d hd => ?_)
  · show (if f = 1 then v else D 16 a f) = _
    rw [if_neg (fun z => by subst z; cases hf)]
  · by_cases c : b = a
    · subst c
      unfold aB
      rw [dp_s]
      exact ⟨⟨(ic_aa h hb).1.1, hv⟩, (ic_aa h hb).2⟩
    · unfold aB
      rw [dp_i c]
      exact ic_aa h hb
  · unfold rB
    rw [e17]
    exact ic_rr h hr
  · rw [dp_k (by decide), dp_k (by decide)]
    exact h.2.2.1.1.2 p d hd
theorem ic_17 {n r v : Nat} {D : fw_DB} {A : fw_AD} {M : fw_MP} (h : IC n D A M) (hr : r < D 99 0 17) (hv : v < 20000) (hv2 : D 17 r 1 ≤ v) : IC (n + 1) (dp D 17 r (va_up (D 17 r) 4 v)) A M := by
  have e16 : dp D 17 r (va_up (D 17 r) 4 v) 16 = D 16 := funext fun j => dp_k (by decide)
  refine ic_o h (st_dp (fun f hf => ?_)) (by decide) (h.1.1.ok hr) (fun b hb => ?_) (fun q hq => ?_) (fun p d hd => ?_)
  · show (if f = 4 then v else D 17 r f) = _
    rw [if_neg (fun z => by subst z; cases hf)]
  · unfold aB
    rw [e16]
    exact ic_aa h hb
  · by_cases c : q = r
    · subst c
      have x := ic_rr h hq
      unfold rB at x ⊢
      rw [dp_s]
      exact ⟨⟨x.1.1, x.1.2.1, (by omega : v ≤ 1000000), x.1.2.2.2⟩, hv2, Or.inl hv, x.2.2.2⟩
    · unfold rB
      rw [dp_i c]
      exact ic_rr h hq
  · rw [dp_k (by decide), dp_k (by decide)]
    exact h.2.2.1.1.2 p d hd
theorem ic_10 {n p : Nat} {D : fw_DB} {A : fw_AD} {M : fw_MP} {f : Nat → Bool} (h : IC n D A M) (hf : ∀ d, 20000 ≤ d → f d = false) : IC (n + 1) (dp D 10 p (oB f)) A M := by
  have e16 : dp D 10 p (oB f) 16 = D 16 := funext fun j => dp_k (by decide)
  have e17 : dp D 10 p (oB f) 17 = D 17 := funext fun j => dp_k (by decide)
  refine ic_o h (st_dp (fun f hf => by cases hf)) (by decide) trivial (fun b hb => ?_) (fun q hq => ?_) (fun q d hd => ?_)
  · unfold aB
    rw [e16]
    exact ic_aa h hb
  · unfold rB
    rw [e17]
    exact ic_rr h hq
  · refine ⟨?_, ?_⟩
    · by_cases c : q = p
      · subst c
        rw [dp_s]
        unfold oB
        rw [hf d hd]
        rfl
      · rw [dp_i c]
        exact (h.2.2.1.1.2 q d hd).1
    · rw [dp_k (by decide)]
      exact (h.2.2.1.1.2 q d hd).2
theorem ic_12 {n p : Nat} {D : fw_DB} {A : fw_AD} {M : fw_MP} {f : Nat → Bool} (h : IC n D A M) (hf : ∀ d, 20000 ≤ d → f d = false) : IC (n + 1) (dp D 12 p (oB f)) A M := by
  have e16 : dp D 12 p (oB f) 16 = D 16 := funext fun j => dp_k (by decide)
  have e17 : dp D 12 p (oB f) 17 = D 17 := funext fun j => dp_k (by decide)
  refine ic_o h (st_dp (fun f hf => by cases hf)) (by decide) trivial (fun b hb => ?_) (fun q hq => ?_) (fun q d hd => ?_)
  · unfold aB
    rw [e16]
    exact ic_aa h hb
  · unfold rB
    rw [e17]
    exact ic_rr h hq
  · refine ⟨?_, ?_⟩
    · rw [dp_k (by decide)]
      exact (h.2.2.1.1.2 q d hd).1
    · by_cases c : q = p
      · subst c
        rw [dp_s]
        unfold oB
        rw [hf d hd]
        rfl
      · rw [dp_i c]
        exact (h.2.2.1.1.2 q d hd).2
/-- the recall that goes on, coded -/
def rcS (S : fw_DB) (p d : Nat) : Nat := rc (FD S) d (rlS S p)
theorem rc_in {F : fw_DB} {d : Nat} : ∀ {l : List Nat}, 0 < rc F d l → rc F d l - 1 ∈ l ∧ F 17 (rc F d l - 1) 1 ≤ d ∧ d < F 17 (rc F d l - 1) 5
  | [], h => absurd h (by show ¬ 0 < 0; omega)
  | r :: l, h => by
    unfold rc at h ⊢
    by_cases c : F 17 r 1 ≤ d ∧ d < F 17 r 5
    · rw [if_pos c] at h ⊢
      exact ⟨List.mem_cons_self, c⟩
    · rw [if_neg c] at h ⊢
      obtain ⟨h1, h2⟩ := rc_in h
      exact ⟨List.mem_cons_of_mem _ h1, h2⟩
theorem rcS_prk {S D : fw_DB} {p d : Nat} (h : okS S) (hs : sc S D) : rc (prk D (wlS S p) (alS S p) (rlS S p)) d (rlS S p) = rcS S p d := by
  have hp : sc S (prk D (wlS S p) (alS S p) (rlS S p)) := by
    unfold prk
    rw [rkAll_A, rcAll_A]
    exact (hs.tr rkA_sc).tr rcA_sc
  exact rc_c (fun r hr => ⟨by rw [hp 17 r 1 rfl, FD_sc 17 r 1 rfl], (prk_FD (p := p) h.2.2.1 hs).2 r hr⟩)
