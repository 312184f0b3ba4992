/-! PURE: told things that change -/
def scT (k f : Nat) : Bool := match k with
  | 13 => decide (9 ≤ f) && decide (f ≤ 17)
  | 14 => true
  | 17 => decide (4 ≤ f) && decide (f ≤ 7)
  | 8 => decide (f = 5)
  | 6 => true
  | 10 => true
  | 12 => true
  | 16 => decide (f = 1)
  | _ => false
/-- the same objects, the same chains -/
def st (D D' : fw_DB) : Prop := ∀ k i f, scT k f = false → D' k i f = D k i f
theorem st.rf {D : fw_DB} : st D D := fun _ _ _ _ => rfl
theorem st.tr {D D' D2 : fw_DB} (h : st D D') (h2 : st D' D2) : st D D2 := fun k i f e => (h2 k i f e).trans (h k i f e)
theorem st.N {D D' : fw_DB} (h : st D D') : D' 99 0 = D 99 0 := funext fun f => h 99 0 f rfl
theorem sc_st {D D' : fw_DB} (h : sc D D') : st D D' := fun k i f e => h k i f (by
  unfold scT at e
  unfold scr
  split
  · have e : (decide (9 ≤ f) && decide (f ≤ 17)) = false := e
    rw [Bool.and_eq_false_iff, decide_eq_false_iff_not, decide_eq_false_iff_not] at e ⊢
    omega
  · cases e
  · have e : (decide (4 ≤ f) && decide (f ≤ 7)) = false := e
    rw [Bool.and_eq_false_iff, decide_eq_false_iff_not, decide_eq_false_iff_not] at e ⊢
    omega
  · exact e
  · cases e
  · rfl)
theorem st_dp {D : fw_DB} {k i : Nat} {g : Nat → Nat} (h : ∀ f, scT k f = false → g f = D k i f) : st D (dp D k i g) := fun k' i' f e => by
  rw [dp_at]
  by_cases c : k' = k ∧ i' = i
  · rw [if_pos c]
    obtain ⟨c1, c2⟩ := c
    subst c1
    subst c2
    exact h f e
  · rw [if_neg c]
theorem wlS_st {D D' : fw_DB} (s : st D D') (p : Nat) : wlS D' p = wlS D p := by
  unfold wlS
  rw [s.N]
  congr 1
  funext w
  rw [s 13 w 1 rfl]
theorem rlS_st {D D' : fw_DB} (s : st D D') (p : Nat) : rlS D' p = rlS D p := by
  unfold rlS
  rw [s.N]
  congr 1
  funext w
  rw [s 17 w 0 rfl]
theorem alS_st {D D' : fw_DB} (s : st D D') (p : Nat) : alS D' p = alS D p := by
  unfold alS
  rw [s.N]
  exact alN_c (fun i => s 16 i 0 rfl) (fun i _ => s 16 i 3 rfl)
theorem pL_st {D D' : fw_DB} {p : Nat} {wl al rl : List Nat} (h : pL D p wl al rl) (s : st D D') : pL D' p wl al rl := by
  obtain ⟨h1, h2, h3, h4, h5, h6, h7⟩ := h
  refine ⟨?_, fun i hi => ?_, ?_, fun i hi => ?_, ?_, fun i hi => ?_, ?_⟩
  · rw [s 8 p 2 rfl]
    exact ch_c (fun i _ => s 13 i 18 rfl) h1
  · rw [s.N, s 13 i 1 rfl]
    exact h2 i hi
  · rw [s 8 p 4 rfl]
    exact ch_c (fun i _ => s 16 i 2 rfl) h3
  · rw [s.N]
    exact h4 i hi
  · rw [s 8 p 6 rfl]
    exact ch_c (fun i _ => s 17 i 8 rfl) h5
  · rw [s.N, s 17 i 0 rfl]
    exact h6 i hi
  · rw [s.N]
    exact h7
theorem pO_st {D D' : fw_DB} {p : Nat} (h : pO D p) (s : st D D') : pO D' p := by
  obtain ⟨h1, h2, h3, h4⟩ := h
  unfold pO
  rw [wlS_st s, rlS_st s, alS_st s, s 8 p 3 rfl, s 8 p 7 rfl, s 8 p 8 rfl]
  exact ⟨pL_st h1 s, h2, h3, h4⟩
theorem okW_st {D D' : fw_DB} (h : okW D) (s : st D D') : okW D' := by
  intro w hw
  rw [s.N] at hw
  rw [s 13 w 2 rfl, s 13 w 5 rfl, s 13 (D 13 w 5 - 1) 1 rfl, s 13 w 1 rfl]
  exact h w hw
theorem mI_st {D D' : fw_DB} (h : mI D) (s : st D D') : mI D' := by
  unfold mI at h ⊢
  rw [s.N, s 1 0 0 rfl, s 2 0 0 rfl, s 3 0 0 rfl, s 4 0 0 rfl, s 0 0 5 rfl, s 0 0 6 rfl, s 0 0 7 rfl, s 0 0 8 rfl, s 0 0 9 rfl]
  exact h
theorem ic_st {n n' : Nat} {D D' : fw_DB} {A : fw_AD} {M : fw_MP} (h : IC n D A M) (s : st D D') (g' : gd D' A M) (hb : dB D') (ht : ∀ j, j < D' 99 0 13 → tB (D' 14 j)) (hx : okX n' D') : IC n' D' A M := by
  obtain ⟨g, m, b, nn, p, w, x⟩ := h
  refine ⟨g', mI_st m s, ⟨hb, ht⟩, ?_, fun q hq => ?_, okW_st w s, hx⟩
  · unfold nN at nn ⊢
    rw [s.N]
    exact nn
  · rw [s.N] at hq
    exact pO_st (p q hq) s
theorem okX_up {n : Nat} {D : fw_DB} (h : okX n D) : okX (n + 1) D := ⟨fun w hw => by
  have := h.1 w hw
  refine ⟨this.1, this.2.1, this.2.2.1, ?_, this.2.2.2.2⟩
  have := this.2.2.2.1
  omega, h.2⟩
theorem ic_up {n : Nat} {D : fw_DB} {A : fw_AD} {M : fw_MP} (h : IC n D A M) : IC (n + 1) D A M := by
  obtain ⟨g, m, b, nn, p, w, x⟩ := h
  exact ⟨g, m, b, nn, p, w, okX_up x⟩
/-- a warrant told anew -/
theorem ic_w {n : Nat} {D : fw_DB} {A : fw_AD} {M : fw_MP} {w : Nat} {g : Nat → Nat} (h : IC n D A M) (hn : n ≤ 600) (hw : w < D 99 0 13) (hg : ∀ f, ¬ (9 ≤ f ∧ f ≤ 13) → g f = D 13 w f) (h9 : g 9 ≤ 20000 ∧ g 10 ≤ 20000 ∧ g 11 + g 12 ≤ 999 * (n + 1)) (hr : 0 < g 9 → g 2 = 115 ∧ g 4 < g 9) : IC (n + 1) (dp D 13 w g) A M := by
  have s : st D (dp D 13 w g) := st_dp (fun f hf => hg f (by
    have hf : (decide (9 ≤ f) && decide (f ≤ 17)) = false := hf
    rw [Bool.and_eq_false_iff, decide_eq_false_iff_not, decide_eq_false_iff_not] at hf
    omega))
  have e1 := hg 1 (by omega)
  have e2 := hg 2 (by omega)
  have e3 := hg 3 (by omega)
  have e4 := hg 4 (by omega)
  have e5 := hg 5 (by omega)
  have e7 := hg 7 (by omega)
  have e14 := hg 14 (by omega)
  have e15 := hg 15 (by omega)
  have e16 := hg 16 (by omega)
  have e17 := hg 17 (by omega)
  have e18 := hg 18 (by omega)
  have hk := h.1.1.ok hw
  refine ic_st h s ⟨h.1.1.put (by decide) ?_, ?_, ?_, ?_⟩ ?_ ?_ ?_
  · show g 1 < _ ∧ g 5 ≤ _ ∧ w < _ ∧ g 7 ≤ _ ∧ w < _ ∧ g 18 ≤ _
    rw [e1, e5, e7, e18]
    exact hk
  · have C := h.1.2.1
    refine ⟨fun v hv => ?_, fun l hl => ?_, fun i hi => ?_⟩
    · rw [s.N] at hv
      by_cases c : v = w
      · subst c
        have B := C.1 v hv
        unfold wB at B ⊢
        rw [dp_s, show dp D 13 v g 15 = D 15 from funext fun j => dp_k (by decide), e2, e3, e4, e14, e15, e16, e17]
        refine ⟨B.1, B.2.1, B.2.2.1, h9.1, h9.2.1, by omega, B.2.2.2.2.2.2⟩
      · exact wB_c (dp_i c) (dp_k (by decide)) (C.1 v hv)
    · rw [s.N] at hl
      unfold lB
      rw [show dp D 13 w g 7 = D 7 from funext fun j => dp_k (by decide)]
      exact C.2.1 l hl
    · rw [s.N] at hi
      unfold aB
      rw [show dp D 13 w g 16 = D 16 from funext fun j => dp_k (by decide)]
      exact C.2.2 i hi
  · intro r hr
    rw [s.N] at hr
    unfold rB
    rw [show dp D 13 w g 17 = D 17 from funext fun j => dp_k (by decide)]
    exact h.1.2.2.1 r hr
  · rw [s.N]
    exact h.1.2.2.2
  · exact h.2.2.1.1
  · exact h.2.2.1.2
  · obtain ⟨x1, x2, x3⟩ := h.2.2.2.2.2.2
    refine ⟨fun v hv => ?_, fun a ha => ?_, fun r hr2 => ?_⟩
    · rw [s.N] at hv
      have x := x1 v hv
      rw [s.N]
      by_cases c : v = w
      · subst c
        have el : lwN (dp D 13 v g) v (D 99 0 7) = lwN D v (D 99 0 7) := by
          have q1 : ∀ n, lwN (dp D 13 v g) v n = lwN D v n := fun n => by
            induction n with
            | zero => rfl
            | succ n ih =>
              unfold lwN
              rw [ih, dp_s, show dp D 13 v g 7 = D 7 from funext fun j => dp_k (by decide)]
              have : wapp g (D 7 n) = wapp (D 13 v) (D 7 n) := by
                unfold wapp wfx
                rw [e2, e3, e4]
              rw [this]
          exact q1 _
        rw [el, dp_s, e3, e4, e7, e2, e1, e5]
        rw [e2, e4] at hr
        exact ⟨x.1, x.2.1, hr, h9.2.2, x.2.2.2.2⟩
      · have el : lwN (dp D 13 w g) v (D 99 0 7) = lwN D v (D 99 0 7) := by
          have q1 : ∀ n, lwN (dp D 13 w g) v n = lwN D v n := fun n => by
            induction n with
            | zero => rfl
            | succ n ih =>
              unfold lwN
              rw [ih, dp_i c, show dp D 13 w g 7 = D 7 from funext fun j => dp_k (by decide)]
          exact q1 _
        rw [el, dp_i c]
        refine ⟨x.1, x.2.1, x.2.2.1, ?_, x.2.2.2.2⟩
        have := x.2.2.2.1
        omega
    · rw [s.N] at ha
      rw [s.N, show dp D 13 w g 16 = D 16 from funext fun j => dp_k (by decide)]
      exact x2 a ha
    · rw [s.N] at hr2
      rw [s.N, show dp D 13 w g 17 = D 17 from funext fun j => dp_k (by decide)]
      exact x3 r hr2
/-- rows that no bound of warrants speaks of -/
theorem ic_o {n k i : Nat} {D : fw_DB} {A : fw_AD} {M : fw_MP} {g : Nat → Nat} (h : IC n D A M) (s : st D (dp D k i g)) (hk : k ≠ 13 ∧ k ≠ 14 ∧ k ≠ 15 ∧ k ≠ 7 ∧ k ≠ 99 ∧ k ≠ 6) (hr : rOk (D 99 0) k i g)
    (hA : ∀ a, a < D 99 0 16 → aB (dp D k i g) a ∧ dp D k i g 16 a 3 < D 99 0 8)
    (hR : ∀ r, r < D 99 0 17 → rB (dp D k i g) r ∧ dp D k i g 17 r 1 ≤ dp D k i g 17 r 4 ∧ (dp D k i g 17 r 4 < 20000 ∨ dp D k i g 17 r 4 = 1000000) ∧ dp D k i g 17 r 3 ≤ D 99 0 13 ∧ dp D k i g 17 r 0 < D 99 0 8)
    (hd : ∀ p d, 20000 ≤ d → dp D k i g 10 p d = 0 ∧ dp D k i g 12 p d = 0) : IC (n + 1) (dp D k i g) A M := by
  obtain ⟨k1, k2, k3, k4, k5, k6⟩ := hk
  have e : ∀ q, q ≠ k → dp D k i g q = D q := fun q hq => funext fun j => dp_k hq
  have x := okX_up h.2.2.2.2.2.2
  refine ic_st h s ⟨h.1.1.put k5 hr, ⟨fun v hv => ?_, fun l hl => ?_, fun a ha => ?_⟩, fun r hr2 => ?_, ?_⟩ ⟨?_, hd⟩ (fun j hj => ?_) ⟨fun v hv => ?_, fun a ha => ?_, fun r hr2 => ?_⟩
  · rw [s.N] at hv
    exact wB_c (congrFun (e 13 k1.symm) v) (congrFun (e 15 k3.symm) v) (h.1.2.1.1 v hv)
  · rw [s.N] at hl
    unfold lB
    rw [e 7 k4.symm]
    exact h.1.2.1.2.1 l hl
  · rw [s.N] at ha
    exact (hA a ha).1
  · rw [s.N] at hr2
    exact (hR r hr2).1
  · rw [s.N]
    exact h.1.2.2.2
  · rw [e 6 k6.symm]
    exact h.2.2.1.1.1
  · rw [s.N] at hj
    rw [e 14 k2.symm]
    exact h.2.2.1.2 j hj
  · rw [s.N] at hv
    have q1 : ∀ n, lwN (dp D k i g) v n = lwN D v n := fun n => by
      induction n with
      | zero => rfl
      | succ n ih =>
        unfold lwN
        rw [ih, e 13 k1.symm, e 7 k4.symm]
    rw [s.N, q1, e 13 k1.symm]
    exact x.1 v hv
  · rw [s.N] at ha
    rw [s.N]
    exact (hA a ha).2
  · rw [s.N] at hr2
    rw [s.N]
    exact (hR r hr2).2
/-- what the reference is told of -/
def es (k f : Nat) : Bool := match k with
  | 7 => true
  | 10 => true
  | 12 => true
  | 13 => (decide (1 ≤ f) && decide (f ≤ 5)) || (decide (9 ≤ f) && decide (f ≤ 13))
  | 15 => true
  | 16 => decide (f = 0) || decide (f = 1) || decide (f = 3)
  | 17 => decide (f ≤ 4)
  | 99 => decide (f = 7) || decide (f = 8) || decide (f = 13) || decide (f = 16) || decide (f = 17)
  | _ => false
def esq (S D : fw_DB) : Prop := ∀ k i f, es k f = true → D k i f = S k i f
theorem esq.rf {S : fw_DB} : esq S S := fun _ _ _ _ => rfl
theorem esq.tr {S D E : fw_DB} (h : esq S D) (h2 : esq D E) : esq S E := fun k i f e => (h2 k i f e).trans (h k i f e)
theorem esq.sy {S D : fw_DB} (h : esq S D) : esq D S := fun k i f e => (h k i f e).symm
theorem sc_es {S D : fw_DB} (h : sc S D) : esq S D := fun k i f e => h k i f (by
  unfold es at e
  unfold scr
  split
  · have e : ((decide (1 ≤ f) && decide (f ≤ 5)) || (decide (9 ≤ f) && decide (f ≤ 13))) = true := e
    rw [Bool.or_eq_true, Bool.and_eq_true, Bool.and_eq_true, decide_eq_true_eq, decide_eq_true_eq, decide_eq_true_eq, decide_eq_true_eq] at e
    rw [Bool.and_eq_false_iff, decide_eq_false_iff_not, decide_eq_false_iff_not]
    omega
  · cases e
  · have e : decide (f ≤ 4) = true := e
    rw [decide_eq_true_eq] at e
    rw [Bool.and_eq_false_iff, decide_eq_false_iff_not, decide_eq_false_iff_not]
    omega
  · cases e
  · cases e
  · rfl)
theorem esq_dp {S D : fw_DB} {k i : Nat} {g g' : Nat → Nat} (h : esq S D) (hg : ∀ f, es k f = true → g' f = g f) : esq (dp S k i g) (dp D k i g') := fun k' i' f e => by
  rw [dp_at, dp_at]
  by_cases c : k' = k ∧ i' = i
  · rw [if_pos c, if_pos c]
    obtain ⟨c1, c2⟩ := c
    subst c1
    exact hg f e
  · rw [if_neg c, if_neg c]
    exact h k' i' f e
/-- the reference's rows are left alone -/
def hik (D D' : fw_DB) : Prop := (∀ k, 30 ≤ k → k ≠ 99 → D' k = D k) ∧ ∀ f, 30 ≤ f → D' 99 0 f = D 99 0 f
theorem hik.rf {D : fw_DB} : hik D D := ⟨fun _ _ _ => rfl, fun _ _ => rfl⟩
theorem hik.tr {D D' E : fw_DB} (h : hik D D') (h2 : hik D' E) : hik D E := ⟨fun k a b => (h2.1 k a b).trans (h.1 k a b), fun f a => (h2.2 f a).trans (h.2 f a)⟩
theorem sc_hi {D D' : fw_DB} (h : sc D D') : hik D D' := ⟨fun k hk _ => h.kind (fun f => by
  unfold scr
  split <;> first | omega | rfl), fun f _ => h 99 0 f rfl⟩
theorem hik_dp {D : fw_DB} {k i : Nat} {g : Nat → Nat} (hk : k < 30) : hik D (dp D k i g) := ⟨fun q hq _ => funext fun j => dp_k (by omega), fun f _ => by rw [dp_k (by omega)]⟩
def adk (A A' : fw_AD) : Prop := A' 0 0 = A 0 0 ∧ A' 30 0 = A 30 0 ∧ A' 46 0 = A 46 0 ∧ A' 70 0 = A 70 0 ∧ A' 71 0 = A 71 0
theorem adk.rf {A : fw_AD} : adk A A := ⟨rfl, rfl, rfl, rfl, rfl⟩
