/-! THE LAW'S STATE: the class's days and the reference's in one heap -/
theorem ICd_lo {n : Nat} {D D' : fw_DB} (I : ICd n D) (e : ∀ k, k < 30 → D' k = D k) (eN : ∀ f, f < 30 → D' 99 0 f = D 99 0 f) : ICd n D' := by
  have ea : alN D' = alN D := funext fun p => funext fun k => alN_c (fun i => by rw [e 16 (by decide)]) (fun i _ => by rw [e 16 (by decide)])
  have eq : lwN D' = lwN D := funext fun w => funext fun k => lwN_c (fun f _ => by rw [e 13 (by decide)]) (fun i _ => by rw [e 7 (by decide)])
  have ew : wlS D' = wlS D := funext fun p => by
    unfold wlS
    rw [e 13 (by decide), eN 13 (by decide)]
  have er : rlS D' = rlS D := funext fun p => by
    unfold rlS
    rw [e 17 (by decide), eN 17 (by decide)]
  have es : alS D' = alS D := funext fun p => by
    unfold alS
    rw [ea, eN 16 (by decide)]
  obtain ⟨⟨i1, i2, i3⟩, i4, ⟨i5, i6⟩, i7, i8, i9, i10⟩ := I
  refine ⟨⟨?_, ?_, ?_⟩, ?_, ⟨?_, ?_⟩, ?_, ?_, ?_, ?_⟩
  · unfold cB wB lB aB at i1 ⊢
    rw [e 13 (by decide), e 15 (by decide), e 7 (by decide), e 16 (by decide), eN 13 (by decide), eN 7 (by decide), eN 16 (by decide)]
    exact i1
  · unfold rB at i2 ⊢
    rw [e 17 (by decide), eN 17 (by decide)]
    exact i2
  · rw [eN 13 (by decide)]
    exact i3
  · unfold mI at i4 ⊢
    rw [e 1 (by decide), e 2 (by decide), e 3 (by decide), e 4 (by decide), e 0 (by decide), eN 0 (by decide), eN 1 (by decide), eN 2 (by decide), eN 3 (by decide), eN 4 (by decide), eN 5 (by decide), eN 6 (by decide), eN 7 (by decide), eN 8 (by decide), eN 13 (by decide), eN 16 (by decide), eN 17 (by decide)]
    exact i4
  · unfold dB at i5 ⊢
    rw [e 6 (by decide), e 10 (by decide), e 12 (by decide)]
    exact i5
  · rw [e 14 (by decide), eN 13 (by decide)]
    exact i6
  · unfold nN at i7 ⊢
    rw [eN 8 (by decide), eN 9 (by decide), eN 10 (by decide), eN 11 (by decide), eN 12 (by decide), eN 13 (by decide), eN 14 (by decide), eN 15 (by decide)]
    exact i7
  · unfold pO pL at i8 ⊢
    rw [ew, er, es, e 13 (by decide), e 8 (by decide), e 16 (by decide), e 17 (by decide), eN 8 (by decide), eN 13 (by decide), eN 16 (by decide), eN 17 (by decide)]
    exact i8
  · unfold okW at i9 ⊢
    rw [e 13 (by decide), eN 13 (by decide)]
    exact i9
  · unfold okX at i10 ⊢
    rw [eq, e 13 (by decide), e 16 (by decide), e 17 (by decide), eN 7 (by decide), eN 8 (by decide), eN 13 (by decide), eN 16 (by decide), eN 17 (by decide)]
    exact i10
theorem IC_d {n : Nat} {D : fw_DB} {A : fw_AD} {M : fw_MP} (I : IC n D A M) : ICd n D := ⟨I.1.2, I.2⟩
theorem IC_of {n : Nat} {D : fw_DB} {A : fw_AD} {M : fw_MP} (I : ICd n D) (W : Wf D A M) : IC n D A M := ⟨⟨W, I.1⟩, I.2⟩
theorem waR_c {g g' t : Nat → Nat} (h : ∀ f, es 13 f = true → g' f = g f) : waR g' t = waR g t := funext fun f => by
  unfold waR
  rw [h 1 rfl, h 2 rfl, h 3 rfl, h 4 rfl, h 5 rfl, h 9 rfl, h 10 rfl, h 11 rfl, h 12 rfl, h 13 rfl]
theorem adR_c {g g' : Nat → Nat} (h : ∀ f, es 16 f = true → g' f = g f) : adR g' = adR g := funext fun f => by
  unfold adR
  rw [h 0 rfl, h 1 rfl, h 3 rfl]
theorem rcR_c {g g' : Nat → Nat} (h : ∀ f, es 17 f = true → g' f = g f) : rcR g' = rcR g := funext fun f => by
  unfold rcR
  rw [h 0 rfl, h 1 rfl, h 2 rfl, h 3 rfl, h 4 rfl]
def esr (S D : fw_DB) : Prop := ∀ k i f, es k f = true → (k = 99 → i = 0) → D k i f = S k i f
theorem adk.tr {A B C : fw_AD} (h : adk A B) (h2 : adk B C) : adk A C := ⟨h2.1.trans h.1, h2.2.1.trans h.2.1, h2.2.2.1.trans h.2.2.1, h2.2.2.2.1.trans h.2.2.2.1, h2.2.2.2.2.trans h.2.2.2.2⟩
/-- the reference's rows of days that are the same -/
theorem IR_S {S S' D : fw_DB} (I : IR S D) (e0 : esr S S') : IR S' D := by
  have e : ∀ k i f, es k f = true → k ≠ 99 → S' k i f = S k i f := fun k i f h hk => e0 k i f h (fun z => absurd z hk)
  have eN : ∀ f, es 99 f = true → S' 99 0 f = S 99 0 f := fun f h => e0 99 0 f h (fun _ => rfl)
  have e7 : S' 7 = S 7 := funext fun i => funext fun f => e 7 i f rfl (by decide)
  have e10 : S' 10 = S 10 := funext fun i => funext fun f => e 10 i f rfl (by decide)
  have e12 : S' 12 = S 12 := funext fun i => funext fun f => e 12 i f rfl (by decide)
  have e15 : S' 15 = S 15 := funext fun i => funext fun f => e 15 i f rfl (by decide)
  unfold IR at I ⊢
  rw [eN 7 rfl, eN 8 rfl, eN 13 rfl, eN 16 rfl, eN 17 rfl, e7, e10, e12, e15]
  obtain ⟨i1, i2, i3, i4, i5, i6, i7, i8, i9⟩ := I
  refine ⟨i1, i2, i3, i4, i5, fun w hw => ?_, fun a ha => ?_, fun r hr => ?_, i9⟩
  · rw [waR_c (fun f hf => e 13 w f hf (by decide))]
    exact i6 w hw
  · rw [adR_c (fun f hf => e 16 a f hf (by decide))]
    exact i7 a ha
  · rw [rcR_c (fun f hf => e 17 r f hf (by decide))]
    exact i8 r hr
/-- the class has been at work -/
def hkx (D D' : fw_DB) : Prop := (∀ k, 30 ≤ k → k < 70 → D' k = D k) ∧ ∀ f, 30 ≤ f → D' 99 0 f = D 99 0 f
theorem IR_hi {S D D' : fw_DB} (I : IR S D) (h : hkx D D') : IR S D' := by
  have e : ∀ k, 30 ≤ k → k < 70 → D' k = D k := h.1
  have eN : ∀ f, 30 ≤ f → D' 99 0 f = D 99 0 f := h.2
  unfold IR LR at I ⊢
  rw [e 31 (by decide) (by decide), e 32 (by decide) (by decide), e 33 (by decide) (by decide), e 34 (by decide) (by decide), e 35 (by decide) (by decide), e 41 (by decide) (by decide), e 42 (by decide) (by decide), e 43 (by decide) (by decide), e 44 (by decide) (by decide), e 45 (by decide) (by decide), e 51 (by decide) (by decide), e 53 (by decide) (by decide), e 54 (by decide) (by decide), e 55 (by decide) (by decide), e 56 (by decide) (by decide), e 57 (by decide) (by decide), e 58 (by decide) (by decide), eN 30 (by decide), eN 46 (by decide), eN 31 (by decide), eN 32 (by decide), eN 33 (by decide), eN 34 (by decide), eN 35 (by decide), eN 41 (by decide), eN 42 (by decide), eN 43 (by decide), eN 44 (by decide), eN 45 (by decide), eN 51 (by decide), eN 52 (by decide), eN 53 (by decide), eN 54 (by decide), eN 55 (by decide), eN 56 (by decide), eN 57 (by decide), eN 58 (by decide)]
  obtain ⟨i1, i2, i3, i4, i5⟩ := I
  exact ⟨i1, i2, i3, fun f a b => by rw [eN f (by omega)]; exact i4 f a b, i5⟩
def LI (G : fw_G) (n : Nat) (D : fw_DB) (A : fw_AD) (M : fw_MP) : Prop := IC n D A M ∧ IR D D ∧ (D 99 0 70 = 1 ∧ D 99 0 71 = 1) ∧ A 46 0 = tE G
theorem LI.rd {G : fw_G} {n : Nat} {D : fw_DB} {A : fw_AD} {M : fw_MP} (L : LI G n D A M) : RD G n D D A M (hp M A D) := ⟨IC_d L.1, L.2.1, L.1.1.1, fun _ _ z => z, L.2.2.2⟩
/-- behind the class's call, ahead of the reference's: n + 1 calls, K thrown, X answered (a long's 64 bits), Y (a double's) -/
def LM (G : fw_G) (n : Nat) (D S1 D1 : fw_DB) (A A1 : fw_AD) (M1 : fw_MP) : Prop := IC (n + 1) D1 A1 M1 ∧ esq S1 D1 ∧ hkx D D1 ∧ adk A A1
theorem LM.rd {G : fw_G} {n : Nat} {D S1 D1 : fw_DB} {A A1 : fw_AD} {M M1 : fw_MP} (L : LI G n D A M) (m : LM G n D S1 D1 A A1 M1) : RD G n D D1 A1 M1 (hp M1 A1 D1) := ⟨IC_d L.1, IR_hi L.2.1 m.2.2.1, m.1.1.1, fun _ _ z => z, m.2.2.2.2.2.1.trans L.2.2.2⟩
theorem LM.li {G : fw_G} {n K : Nat} {D S1 D1 : fw_DB} {A A1 : fw_AD} {M M1 : fw_MP} {h' : fw_H} (L : LI G n D A M) (m : LM G n D S1 D1 A A1 M1) (r : rdn S1 D1 A1 K h') : ∃ D2 A2 M2, LI G (n + 1) D2 A2 M2 ∧ fw_ss D2 A2 M2 h' ∧ D2 30 0 0 = K ∧ D2 70 = D1 70 ∧ D2 71 = D1 71 ∧ adk A A2 ∧ D2 99 0 8 = S1 99 0 8 := by
  obtain ⟨D2, A2, M2, r1, r2, r3, r4, r5, r6⟩ := r
  have ad : adk A A2 := adk.tr m.2.2.2 r5
  have e12 : esr S1 D2 := fun k i f h hi => by
    refine Eq.trans ?_ (m.2.1 k i f h)
    by_cases c : k = 99
    · rw [hi c]
      subst c
      refine r4.2 f ?_
      unfold es at h
      simp only [Bool.or_eq_true, decide_eq_true_eq] at h
      omega
    · rw [r4.1 k (by
        unfold es at h
        split at h <;> first | omega | (cases h))]
  refine ⟨D2, A2, M2, ⟨IC_of (ICd_lo (IC_d m.1) (fun k hk => r4.1 k (Or.inl hk)) (fun f hf => r4.2 f (Or.inl hf))) r2, IR_S r1 e12, ⟨?_, ?_⟩, ?_⟩, r3, r6, r4.1 70 (Or.inr (Or.inl rfl)), r4.1 71 (Or.inr (Or.inr rfl)), ad, (r4.2 8 (Or.inl (by decide))).trans (m.2.1 99 0 8 rfl)⟩
  · rw [r4.2 70 (Or.inr (Or.inl rfl)), m.2.2.1.2 70 (by decide)]
    exact L.2.2.1.1
  · rw [r4.2 71 (Or.inr (Or.inr rfl)), m.2.2.1.2 71 (by decide)]
    exact L.2.2.1.2
  · exact ad.2.2.1.trans L.2.2.2

