/-! PURE: recalls, one more -/
def rcG (p day o nw : Nat) : Nat → Nat := fun f => if f = 0 then p else if f = 1 then day else if f = 2 then o else if f = 3 then nw else if f = 4 then 1000000 else 0
/-- a recall told -/
def reS (D : fw_DB) (p day o : Nat) : fw_DB := dn D 17 (D 99 0 17) (rcG p day o (D 99 0 13))
def reT (D : fw_DB) : fw_DB := dp D 0 0 (va_up (D 0 0) 9 (D 99 0 17 + 1))
def reU (D : fw_DB) (p day o : Nat) : fw_DB := dn (reT D) 17 (D 99 0 17) (rcG p day o (D 99 0 13))
def reD (D : fw_DB) (p day o : Nat) : fw_DB := tkR (reU D p day o) p (D 99 0 17)
theorem tkR_o {D : fw_DB} {p r : Nat} : (∀ k, k ≠ 8 → k ≠ 17 → tkR D p r k = D k) ∧ (∀ q f, ¬ (q = p ∧ (f = 6 ∨ f = 7 ∨ f = 8)) → tkR D p r 8 q f = D 8 q f) ∧ (∀ i f, ¬ (f = 8 ∧ i + 1 = D 8 p 7) → tkR D p r 17 i f = D 17 i f) ∧ tkR D p r 8 p 7 = r + 1 ∧ tkR D p r 8 p 8 = D 8 p 8 + 1 ∧ tkR D p r 8 p 6 = (if D 8 p 7 = 0 then r + 1 else D 8 p 6) ∧ (0 < D 8 p 7 → tkR D p r 17 (D 8 p 7 - 1) 8 = r + 1) := by
  unfold tkR
  by_cases c : D 8 p 7 = 0
  · rw [if_pos c, if_pos c]
    refine ⟨fun k h1 h2 => funext fun j => dp_k h1, fun q f h => ?_, fun i f h => by rw [dp_k (by decide)], by rw [dp_s]; rfl, by rw [dp_s]; rfl, by rw [dp_s]; rfl, fun z => absurd c (by omega)⟩
    by_cases c2 : q = p
    · subst c2
      rw [dp_s]
      show (if f = 8 then _ else if f = 7 then _ else if f = 6 then _ else D 8 q f) = _
      rw [if_neg (fun z => h ⟨rfl, Or.inr (Or.inr z)⟩), if_neg (fun z => h ⟨rfl, Or.inr (Or.inl z)⟩), if_neg (fun z => h ⟨rfl, Or.inl z⟩)]
    · rw [dp_i c2]
  · rw [if_neg c, if_neg c]
    refine ⟨fun k h1 h2 => funext fun j => by rw [dp_k h1, dp_k h2], fun q f h => ?_, fun i f h => ?_, by rw [dp_s]; rfl, by rw [dp_s]; rfl, by rw [dp_s]; rfl, fun z => ?_⟩
    · by_cases c2 : q = p
      · subst c2
        rw [dp_s]
        show (if f = 8 then _ else if f = 7 then _ else D 8 q f) = _
        rw [if_neg (fun z => h ⟨rfl, Or.inr (Or.inr z)⟩), if_neg (fun z => h ⟨rfl, Or.inr (Or.inl z)⟩)]
      · rw [dp_i c2, dp_k (by decide)]
    · rw [dp_k (by decide)]
      by_cases c2 : i = D 8 p 7 - 1
      · rw [c2, dp_s]
        exact if_neg (fun z => h ⟨z, by omega⟩)
      · rw [dp_i c2]
    · rw [dp_k (by decide), dp_s]
      rfl
theorem reU_k {D : fw_DB} {p day o q : Nat} (h : q ≠ 0 ∧ q ≠ 17 ∧ q ≠ 99) : reU D p day o q = D q := by
  unfold reU
  rw [dn_k h.2.1 h.2.2]
  unfold reT
  exact funext fun j => dp_k h.1
theorem reD_k {D : fw_DB} {p day o q : Nat} (h : q ≠ 0 ∧ q ≠ 8 ∧ q ≠ 17 ∧ q ≠ 99) : reD D p day o q = D q := (tkR_o.1 q h.2.1 h.2.2.1).trans (reU_k ⟨h.1, h.2.2.1, h.2.2.2⟩)
theorem reU_N {D : fw_DB} {p day o : Nat} (f : Nat) : reU D p day o 99 0 f = if f = 17 then D 99 0 17 + 1 else D 99 0 f := by
  unfold reU
  rw [dn_N]
  unfold reT
  rw [dp_k (by decide)]
theorem reD_N {D : fw_DB} {p day o : Nat} (f : Nat) : reD D p day o 99 0 f = if f = 17 then D 99 0 17 + 1 else D 99 0 f := by
  unfold reD
  rw [tkR_o.1 99 (by decide) (by decide)]
  exact reU_N f
theorem reU_17 {D : fw_DB} {p day o i : Nat} : reU D p day o 17 i = if i = D 99 0 17 then rcG p day o (D 99 0 13) else D 17 i := by
  unfold reU
  split
  · rename_i c
    rw [c]
    exact dn_s (by decide)
  · rename_i c
    rw [dn_i c (by decide)]
    unfold reT
    exact dp_k (by decide)
theorem reD_17 {D : fw_DB} {p day o i f : Nat} (h : f ≠ 8) : reD D p day o 17 i f = if i = D 99 0 17 then rcG p day o (D 99 0 13) f else D 17 i f := by
  unfold reD
  rw [tkR_o.2.2.1 i f (fun z => h z.1), reU_17]
  split <;> rfl
theorem rlS_new {D D' : fw_DB} {p q : Nat} (h9 : D' 99 0 17 = D 99 0 17 + 1) (h : ∀ r, r < D 99 0 17 → D' 17 r 0 = D 17 r 0) (hp : D' 17 (D 99 0 17) 0 = p) : rlS D' q = if q = p then rlS D q ++ [D 99 0 17] else rlS D q := by
  unfold rlS
  rw [h9, List.range_succ, List.filter_append, List.filter_congr (fun w hw => by rw [h w (List.mem_range.mp hw)] : ∀ w ∈ List.range (D 99 0 17), decide (D' 17 w 0 = q) = decide (D 17 w 0 = q))]
  by_cases c : q = p
  · rw [if_pos c]
    congr 1
    rw [List.filter_cons, if_pos (by rw [hp, c]; simp)]
    rfl
  · rw [if_neg c, List.filter_cons, if_neg (by rw [hp]; simp; exact fun z => c z.symm)]
    simp
theorem icd_rec {n p day o : Nat} {D : fw_DB} (h : ICd n D) (hp : p < D 99 0 8) (hday : day < 20000) (hR : D 99 0 17 < 20) : ICd (n + 1) (reD D p day o) := by
  obtain ⟨⟨C, R, h24⟩, m, ⟨hb, ht⟩, nn, pp, okw, okx⟩ := h
  have eN := fun f => reD_N (D := D) (p := p) (day := day) (o := o) f
  have kk : ∀ q, q ≠ 0 ∧ q ≠ 8 ∧ q ≠ 17 ∧ q ≠ 99 → reD D p day o q = D q := fun q hq => reD_k hq
  have e13 := kk 13 (by decide)
  have e14 := kk 14 (by decide)
  have e15 := kk 15 (by decide)
  have e16 := kk 16 (by decide)
  have e7 := kk 7 (by decide)
  have e6 := kk 6 (by decide)
  have e10 := kk 10 (by decide)
  have e12 := kk 12 (by decide)
  have e1 := kk 1 (by decide)
  have e2 := kk 2 (by decide)
  have e3 := kk 3 (by decide)
  have e4 := kk 4 (by decide)
  have b13 : reD D p day o 99 0 13 = D 99 0 13 := by rw [eN]; rfl
  have b7 : reD D p day o 99 0 7 = D 99 0 7 := by rw [eN]; rfl
  have b8 : reD D p day o 99 0 8 = D 99 0 8 := by rw [eN]; rfl
  have b16 : reD D p day o 99 0 16 = D 99 0 16 := by rw [eN]; rfl
  have b17 : reD D p day o 99 0 17 = D 99 0 17 + 1 := by rw [eN]; rfl
  have f17 := fun i f hf => reD_17 (D := D) (p := p) (day := day) (o := o) (i := i) (f := f) hf
  have ew : ∀ q, wlS (reD D p day o) q = wlS D q := fun q => wlS_c b13 (fun w _ => by rw [e13])
  have er : ∀ q, rlS (reD D p day o) q = if q = p then rlS D q ++ [D 99 0 17] else rlS D q := fun q => rlS_new b17 (fun r hr => by rw [f17 r 0 (by decide), if_neg (by omega)]) (by rw [f17 _ 0 (by decide), if_pos rfl]; rfl)
  have ea : ∀ q, alS (reD D p day o) q = alS D q := fun q => by
    unfold alS
    rw [b16]
    exact alN_c2 (fun i _ => by rw [e16]; exact ⟨rfl, rfl⟩)
  have hU8 : reU D p day o 8 = D 8 := reU_k (by decide)
  refine ⟨⟨⟨fun v hv => ?_, fun l hl => ?_, fun i hi => ?_⟩, fun r hr => ?_, by rw [b13]; exact h24⟩, ?_, ⟨⟨fun d hd => by rw [e6]; exact hb.1 d hd, fun q d hd => by rw [e10, e12]; exact hb.2 q d hd⟩, fun j hj => ?_⟩, ?_, fun q hq => ?_, fun v hv => ?_, fun v hv => ?_, fun a ha => ?_, fun r hr => ?_⟩
  · rw [b13] at hv
    exact wB_c (congrFun e13 v) (congrFun e15 v) (C.1 v hv)
  · rw [b7] at hl
    unfold lB
    rw [e7]
    exact C.2.1 l hl
  · rw [b16] at hi
    unfold aB
    rw [e16]
    exact C.2.2 i hi
  · rw [b17] at hr
    unfold rB
    rw [f17 r 1 (by decide), f17 r 3 (by decide), f17 r 4 (by decide), f17 r 5 (by decide), f17 r 6 (by decide)]
    by_cases c : r = D 99 0 17
    · simp only [if_pos c]
      exact ⟨hday, h24, Nat.le_refl _, (by decide : (0 : Nat) < 4000000), (by decide : (0 : Nat) ≤ 20000)⟩
    · simp only [if_neg c]
      exact R r (by omega)
  · obtain ⟨⟨m0, m1, m2, m3, m4, m5, m6⟩, ⟨m7, m8, m9, m10⟩, ⟨m11, m12, m13, m14, m15⟩, n7, n8, n13, n16, n17⟩ := m
    have e0 : ∀ f, reD D p day o 0 0 f = if f = 9 then D 99 0 17 + 1 else D 0 0 f := fun f => by
      unfold reD
      rw [tkR_o.1 0 (by decide) (by decide)]
      unfold reU
      rw [dn_k (by decide) (by decide)]
      unfold reT
      rw [dp_s]
      rfl
    unfold mI
    rw [e1, e2, e3, e4, e0, e0, e0, e0, e0, b7, b8, b13, b16, b17]
    simp only [eN]
    exact ⟨⟨m0, m1, m2, m3, m4, m5, m6⟩, ⟨m7, m8, m9, m10⟩, ⟨m11, m12, m13, m14, by trivial⟩, n7, n8, n13, n16, hR⟩
  · rw [b13] at hj
    rw [e14]
    exact ht j hj
  · unfold nN at nn ⊢
    simp only [eN]
    exact nn
  · rw [b8] at hq
    obtain ⟨⟨p1, p2, p3, p4, p5, p6, p7⟩, p8, p9, p10⟩ := pp q hq
    have e8 : ∀ f, ¬ (q = p ∧ (f = 6 ∨ f = 7 ∨ f = 8)) → reD D p day o 8 q f = D 8 q f := fun f hf => by
      unfold reD
      rw [tkR_o.2.1 q f hf, hU8]
    unfold pO pL
    rw [ew, er, ea, e8 3 (fun z => by omega), e8 2 (fun z => by omega), e8 4 (fun z => by omega), e13, e16, b13, b16, b17, b8]
    by_cases c : q = p
    · subst c
      rw [if_pos rfl]
      obtain ⟨t1, t2, t3, t4, t5, t6, t7⟩ := tkR_o (D := reU D q day o) (p := q) (r := D 99 0 17)
      rw [hU8] at t3 t5 t6 t7
      refine ⟨⟨p1, p2, p3, p4, ?_, fun i hi => ?_, p7⟩, p8, ?_, ?_⟩
      · show ch (fun i => tkR (reU D q day o) q (D 99 0 17) 17 i 8) (tkR (reU D q day o) q (D 99 0 17) 8 q 6) _
        have hne : ∀ i ∈ rlS D q, i ≠ D 99 0 17 := fun i hi => by have := (mem_rlS.mp hi).1; omega
        refine ch_end (nx := fun i => D 17 i 8) p5 rlS_nd ?_ ?_ ?_ (fun i hi hl => ?_)
        · show tkR (reU D q day o) q (D 99 0 17) 17 (D 99 0 17) 8 = 0
          rw [t3 _ 8 (fun z => by
            rcases lastc_sp (l := rlS D q) with ⟨l1, l2⟩ | ⟨l0, l1, l2⟩
            · omega
            · have := hne (lastc (rlS D q) - 1) (by rw [l2, lastc_app]; exact List.mem_append_right _ List.mem_cons_self)
              omega), reU_17, if_pos rfl]
          rfl
        · rw [t6]
          have hu := ch_u p5
          by_cases c9 : D 8 q 7 = 0
          · rw [if_pos c9]
            rcases lastc_sp (l := rlS D q) with ⟨l1, l2⟩ | ⟨l0, l1, l2⟩
            · rw [if_pos l2]
            · omega
          · rw [if_neg c9]
            rcases lastc_sp (l := rlS D q) with ⟨l1, l2⟩ | ⟨l0, l1, l2⟩
            · omega
            · rw [if_neg (fun z => by rw [z] at l1; exact absurd l1 (by decide))]
        · intro z
          rw [← p9] at z ⊢
          exact t7 z
        · show tkR (reU D q day o) q (D 99 0 17) 17 i 8 = D 17 i 8
          rw [t3 i 8 (fun z => hl (by rw [← p9]; exact z.2)), reU_17, if_neg (hne i hi)]
      · rcases List.mem_append.mp hi with hi | hi
        · have := p6 i hi
          rw [f17 i 0 (by decide), if_neg (by omega)]
          exact ⟨by omega, this.2⟩
        · have : i = D 99 0 17 := by simpa using hi
          rw [this, f17 _ 0 (by decide), if_pos rfl]
          exact ⟨by omega, rfl⟩
      · rw [lastc_app]
        exact t4
      · rw [List.length_append, ← p10]
        exact t5
    · rw [if_neg c, e8 7 (fun z => c z.1), e8 8 (fun z => c z.1), e8 6 (fun z => c z.1)]
      refine ⟨⟨p1, p2, p3, p4, ?_, fun i hi => ?_, p7⟩, p8, p9, p10⟩
      · refine ch_c (fun i hi => ?_) p5
        have hi2 := p6 i hi
        show reD D p day o 17 i 8 = D 17 i 8
        unfold reD
        rw [tkR_o.2.2.1 i 8 (fun z => ?_), reU_17, if_neg (by omega)]
        have z2 := z.2
        rw [hU8] at z2
        have p9p := (pp p hp).2.2.1
        rcases lastc_sp (l := rlS D p) with ⟨l1, l2⟩ | ⟨l0, l1, l2⟩
        · omega
        · have hmem : lastc (rlS D p) - 1 ∈ rlS D p := by
            have q1 : lastc (rlS D p) - 1 ∈ l0 ++ [lastc (rlS D p) - 1] := List.mem_append_right _ List.mem_cons_self
            rw [← l2] at q1
            exact q1
          have hmo := (mem_rlS.mp hmem).2
          rw [← p9p, show D 8 p 7 - 1 = i by omega] at hmo
          exact c (hi2.2.symm.trans hmo)
      · have := p6 i hi
        rw [f17 i 0 (by decide), if_neg (by omega)]
        exact ⟨by omega, this.2⟩
  · rw [b13] at hv
    rw [e13]
    exact okw v hv
  · rw [b13] at hv
    have q1 : ∀ n, lwN (reD D p day o) v n = lwN D v n := fun n => by
      induction n with
      | zero => rfl
      | succ n ih =>
        unfold lwN
        rw [ih, e13, e7]
    rw [e13, b7, b8, b13, q1]
    exact (okX_up okx).1 v hv
  · rw [b16] at ha
    rw [b8, e16]
    exact okx.2.1 a ha
  · rw [b17] at hr
    rw [b13, b8, f17 r 1 (by decide), f17 r 4 (by decide), f17 r 3 (by decide), f17 r 0 (by decide)]
    by_cases c : r = D 99 0 17
    · simp only [if_pos c]
      exact ⟨by show day ≤ 1000000; omega, Or.inr rfl, Nat.le_refl _, hp⟩
    · simp only [if_neg c]
      exact okx.2.2 r (by omega)
theorem re_es {D S : fw_DB} {p day o : Nat} (h : sc S D) : esq (reS S p day o) (reD D p day o) := fun q i f hf => by
  have hq : q ≠ 0 ∧ q ≠ 8 := ⟨fun z => (by subst z; cases hf), fun z => (by subst z; cases hf)⟩
  have eN := h.N
  unfold reS
  by_cases c : q = 17
  · subst c
    rw [reD_17 (fun z => by rw [z] at hf; cases hf), eN]
    by_cases c2 : i = S 99 0 17
    · rw [if_pos c2, c2, dn_s (by decide)]
    · rw [if_neg c2, dn_i c2 (by decide)]
      exact sc_es h 17 i f hf
  · by_cases c9 : q = 99
    · subst c9
      by_cases c2 : i = 0
      · subst c2
        rw [reD_N, dn_N, eN]
      · unfold reD
        rw [tkR_o.1 99 (by decide) (by decide)]
        unfold reU
        rw [dn_i9 c2 (by decide), dn_i9 c2 (by decide)]
        unfold reT
        rw [dp_k (by decide)]
        exact sc_es h 99 i f hf
    · rw [reD_k ⟨hq.1, hq.2, c, c9⟩, dn_k c c9]
      exact sc_es h q i f hf
theorem re_hi {D : fw_DB} {p day o : Nat} : hik D (reD D p day o) := ⟨fun q hq h9 => reD_k (by omega), fun f hf => by rw [reD_N, if_neg (by omega)]⟩
