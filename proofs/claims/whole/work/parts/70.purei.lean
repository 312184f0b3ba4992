/-! PURE: warrants, one more -/
def wrG (p k o pa bh : Nat) : Nat → Nat := fun f => if f = 1 then p else if f = 2 then k else if f = 3 then o else if f = 4 then pa else if f = 5 then bh else if f = 14 then 1000000 else if f = 16 then 1000000 else if f = 17 then 1000000 else 0
def tyG : Nat → Nat := fun f => if f = 6 then 1000000 else 0
def wr1 (D : fw_DB) (t : Nat → Nat) : fw_DB := dn D 15 (D 99 0 13) t
def wr2 (D : fw_DB) (t : Nat → Nat) : fw_DB := dn (wr1 D t) 14 (D 99 0 13) tyG
/-- a warrant told, with the number of its law -/
def wr3 (D : fw_DB) (t g : Nat → Nat) : fw_DB := dn (wr2 D t) 13 (D 99 0 13) g
def wrS (D : fw_DB) (t g : Nat → Nat) : fw_DB := dn (dn D 15 (D 99 0 13) t) 13 (D 99 0 13) g
def wr5 (D : fw_DB) (t g : Nat → Nat) (p : Nat) : fw_DB := tkW (wr3 D t g) p (D 99 0 13)
def wr6 (D : fw_DB) (t g : Nat → Nat) (p : Nat) : fw_DB := dp (wr5 D t g p) 3 0 (va_up (wr5 D t g p 3 0) 0 (D 99 0 13 + 1))
def wrD (D : fw_DB) (t g : Nat → Nat) (p : Nat) : fw_DB := dp (wr6 D t g p) 0 0 (va_up (wr6 D t g p 0 0) 7 (D 99 0 13 + 1))
theorem wr3_set {D : fw_DB} {t g g' : Nat → Nat} : dp (wr3 D t g) 13 (D 99 0 13) g' = wr3 D t g' := by
  unfold wr3 dn
  funext k j
  by_cases h9 : k = 99
  · subst h9
    rw [dp_k (by decide)]
    by_cases hj : j = 0
    · subst hj
      rw [dp_s, dp_s]
    · rw [dp_i hj, dp_i hj, dp_k (by decide), dp_k (by decide)]
  · by_cases h13 : k = 13
    · subst h13
      by_cases hj : j = D 99 0 13
      · subst hj
        rw [dp_s, dp_k (by decide), dp_s]
      · have q : ∀ (X : fw_DB) (g : Nat → Nat), dp X 99 0 g 13 j = X 13 j := fun X g => dp_k (by decide)
        rw [dp_i hj, q, q, dp_i hj, dp_i hj]
    · rw [dp_k h13, dp_k h9, dp_k h9, dp_k h13, dp_k h13]
theorem tkW_o {D : fw_DB} {p r : Nat} : (∀ k, k ≠ 8 → k ≠ 13 → tkW D p r k = D k) ∧ (∀ q f, ¬ (q = p ∧ (f = 2 ∨ f = 3)) → tkW D p r 8 q f = D 8 q f) ∧ (∀ i f, ¬ (f = 18 ∧ i + 1 = D 8 p 3) → tkW D p r 13 i f = D 13 i f) ∧ tkW D p r 8 p 3 = r + 1 ∧ tkW D p r 8 p 2 = (if D 8 p 3 = 0 then r + 1 else D 8 p 2) ∧ (0 < D 8 p 3 → tkW D p r 13 (D 8 p 3 - 1) 18 = r + 1) := by
  unfold tkW
  by_cases c : D 8 p 3 = 0
  · rw [if_pos c, if_pos c]
    refine ⟨fun k h1 h2 => funext fun j => dp_k h1, fun q f h => ?_, fun i f h => by rw [dp_k (by decide)], by rw [dp_s]; rfl, by rw [dp_s]; rfl, fun z => absurd c (by omega)⟩
    by_cases c2 : q = p
    · subst c2
      rw [dp_s]
      show (if f = 3 then _ else if f = 2 then _ else D 8 q f) = _
      rw [if_neg (fun z => h ⟨rfl, Or.inr z⟩), if_neg (fun z => h ⟨rfl, Or.inl z⟩)]
    · rw [dp_i c2]
  · rw [if_neg c, if_neg c]
    refine ⟨fun k h1 h2 => funext fun j => by rw [dp_k h1, dp_k h2], fun q f h => ?_, fun i f h => ?_, by rw [dp_s]; rfl, by rw [dp_s]; rfl, fun z => ?_⟩
    · by_cases c2 : q = p
      · subst c2
        rw [dp_s]
        show (if f = 3 then _ else D 8 q f) = _
        rw [if_neg (fun z => h ⟨rfl, Or.inr z⟩)]
      · rw [dp_i c2, dp_k (by decide)]
    · rw [dp_k (by decide)]
      by_cases c2 : i = D 8 p 3 - 1
      · rw [c2, dp_s]
        exact if_neg (fun z => h ⟨z, by omega⟩)
      · rw [dp_i c2]
    · rw [dp_k (by decide), dp_s]
      rfl
theorem wr3_k {D : fw_DB} {t g : Nat → Nat} {q : Nat} (h : q ≠ 13 ∧ q ≠ 14 ∧ q ≠ 15 ∧ q ≠ 99) : wr3 D t g q = D q := by
  unfold wr3 wr2 wr1
  rw [dn_k h.1 h.2.2.2, dn_k h.2.1 h.2.2.2, dn_k h.2.2.1 h.2.2.2]
theorem wr3_N {D : fw_DB} {t g : Nat → Nat} (f : Nat) : wr3 D t g 99 0 f = if f = 13 ∨ f = 14 ∨ f = 15 then D 99 0 13 + 1 else D 99 0 f := by
  unfold wr3 wr2 wr1
  rw [dn_N, dn_N, dn_N]
  by_cases h1 : f = 13
  · rw [if_pos h1, if_pos (Or.inl h1)]
  · rw [if_neg h1]
    by_cases h2 : f = 14
    · rw [if_pos h2, if_pos (by omega)]
    · rw [if_neg h2]
      by_cases h3 : f = 15
      · rw [if_pos h3, if_pos (by omega)]
      · rw [if_neg h3, if_neg (by omega)]
theorem wr3_13 {D : fw_DB} {t g : Nat → Nat} {i : Nat} : wr3 D t g 13 i = if i = D 99 0 13 then g else D 13 i := by
  unfold wr3 wr2 wr1
  split
  · rename_i c
    rw [c]
    exact dn_s (by decide)
  · rename_i c
    rw [dn_i c (by decide), dn_k (by decide) (by decide), dn_k (by decide) (by decide)]
theorem wr3_14 {D : fw_DB} {t g : Nat → Nat} {i : Nat} : wr3 D t g 14 i = if i = D 99 0 13 then tyG else D 14 i := by
  unfold wr3 wr2 wr1
  rw [dn_k (by decide) (by decide)]
  split
  · rename_i c
    rw [c]
    exact dn_s (by decide)
  · rename_i c
    rw [dn_i c (by decide), dn_k (by decide) (by decide)]
theorem wr3_15 {D : fw_DB} {t g : Nat → Nat} {i : Nat} : wr3 D t g 15 i = if i = D 99 0 13 then t else D 15 i := by
  unfold wr3 wr2 wr1
  rw [dn_k (by decide) (by decide), dn_k (by decide) (by decide)]
  split
  · rename_i c
    rw [c]
    exact dn_s (by decide)
  · rename_i c
    rw [dn_i c (by decide)]
theorem wrD_5 {D : fw_DB} {t g : Nat → Nat} {p q : Nat} (h : q ≠ 0 ∧ q ≠ 3) : wrD D t g p q = wr5 D t g p q := funext fun j => by
  unfold wrD wr6
  rw [dp_k h.1, dp_k h.2]
theorem wrD_3 {D : fw_DB} {t g : Nat → Nat} {p q : Nat} (h : q ≠ 0 ∧ q ≠ 3 ∧ q ≠ 8 ∧ q ≠ 13) : wrD D t g p q = wr3 D t g q := (wrD_5 ⟨h.1, h.2.1⟩).trans (tkW_o.1 q h.2.2.1 h.2.2.2)
theorem wrD_k {D : fw_DB} {t g : Nat → Nat} {p q : Nat} (h : q ≠ 0 ∧ q ≠ 3 ∧ q ≠ 8 ∧ q ≠ 13 ∧ q ≠ 14 ∧ q ≠ 15 ∧ q ≠ 99) : wrD D t g p q = D q := (wrD_3 ⟨h.1, h.2.1, h.2.2.1, h.2.2.2.1⟩).trans (wr3_k h.2.2.2)
theorem wrD_13 {D : fw_DB} {t g : Nat → Nat} {p i f : Nat} (h : f ≠ 18) : wrD D t g p 13 i f = if i = D 99 0 13 then g f else D 13 i f := by
  rw [wrD_5 (by decide)]
  unfold wr5
  rw [tkW_o.2.2.1 i f (fun z => h z.1), wr3_13]
  split <;> rfl
theorem wlS_new {D D' : fw_DB} {p q : Nat} (h9 : D' 99 0 13 = D 99 0 13 + 1) (h : ∀ r, r < D 99 0 13 → D' 13 r 1 = D 13 r 1) (hp : D' 13 (D 99 0 13) 1 = p) : wlS D' q = if q = p then wlS D q ++ [D 99 0 13] else wlS D q := by
  unfold wlS
  rw [h9, List.range_succ, List.filter_append, List.filter_congr (fun w hw => by rw [h w (List.mem_range.mp hw)] : ∀ w ∈ List.range (D 99 0 13), decide (D' 13 w 1 = q) = decide (D 13 w 1 = q))]
  by_cases c : q = p
  · rw [if_pos c]
    congr 1
    rw [List.filter_cons, if_pos (by rw [hp, c]; simp)]
    rfl
  · rw [if_neg c, List.filter_cons, if_neg (by rw [hp]; simp; exact fun z => c z.symm)]
    simp
/-- what a new warrant's row holds -/
def wrok (D : fw_DB) (g : Nat → Nat) (p : Nat) : Prop := g 1 = p ∧ (g 2 = 102 ∨ g 2 = 108 ∨ g 2 = 100 ∨ g 2 = 115) ∧ g 3 ≤ g 4 ∧ g 4 < 20000 ∧ (0 < g 5 → g 5 - 1 < D 99 0 13 ∧ D 13 (g 5 - 1) 1 = p) ∧ (g 9 = 0 ∧ g 10 = 0 ∧ g 11 = 0 ∧ g 12 = 0) ∧ (g 14 = 1000000 ∧ g 15 = 0 ∧ g 16 = 1000000 ∧ g 17 = 1000000 ∧ g 18 = 0) ∧ g 7 = lwN (wr3 D zz g) (D 99 0 13) (D 99 0 7)
theorem icd_war {n p : Nat} {D : fw_DB} {t g : Nat → Nat} (h : ICd n D) (hp : p < D 99 0 8) (hW : D 99 0 13 < 24) (ht2 : t 0 ≤ 40 ∧ t 1 ≤ 11 ∧ t 2 ≤ 9999) (hg : wrok D g p) : ICd (n + 1) (wrD D t g p) := by
  obtain ⟨⟨C, R, h24⟩, m, ⟨hb, ht⟩, nn, pp, okw, okx⟩ := h
  obtain ⟨g1, g2, g3, g4, g5, ⟨g9, g10, g11, g12⟩, ⟨g14, g15, g16, g17, g18⟩, g7⟩ := hg
  have eN : ∀ f, wrD D t g p 99 0 f = if f = 13 ∨ f = 14 ∨ f = 15 then D 99 0 13 + 1 else D 99 0 f := fun f => by
    rw [wrD_3 (by decide)]
    exact wr3_N f
  have kk : ∀ q, q ≠ 0 ∧ q ≠ 3 ∧ q ≠ 8 ∧ q ≠ 13 ∧ q ≠ 14 ∧ q ≠ 15 ∧ q ≠ 99 → wrD D t g p q = D q := fun q hq => wrD_k hq
  have e16 := kk 16 (by decide)
  have e17 := kk 17 (by decide)
  have e7 := kk 7 (by decide)
  have e6 := kk 6 (by decide)
  have e10 := kk 10 (by decide)
  have e12 := kk 12 (by decide)
  have e1 := kk 1 (by decide)
  have e2 := kk 2 (by decide)
  have e4 := kk 4 (by decide)
  have b13 : wrD D t g p 99 0 13 = D 99 0 13 + 1 := by rw [eN]; rfl
  have b7 : wrD D t g p 99 0 7 = D 99 0 7 := by rw [eN]; rfl
  have b8 : wrD D t g p 99 0 8 = D 99 0 8 := by rw [eN]; rfl
  have b16 : wrD D t g p 99 0 16 = D 99 0 16 := by rw [eN]; rfl
  have b17 : wrD D t g p 99 0 17 = D 99 0 17 := by rw [eN]; rfl
  have f13 := fun i f hf => wrD_13 (D := D) (t := t) (g := g) (p := p) (i := i) (f := f) hf
  have e15 : ∀ i, wrD D t g p 15 i = if i = D 99 0 13 then t else D 15 i := fun i => by
    rw [wrD_3 (by decide)]
    exact wr3_15
  have e14 : ∀ i, wrD D t g p 14 i = if i = D 99 0 13 then tyG else D 14 i := fun i => by
    rw [wrD_3 (by decide)]
    exact wr3_14
  have er : ∀ q, rlS (wrD D t g p) q = rlS D q := fun q => rlS_c b17 (fun w _ => by rw [e17])
  have ew : ∀ q, wlS (wrD D t g p) q = if q = p then wlS D q ++ [D 99 0 13] else wlS D q := fun q => wlS_new b13 (fun r hr => by rw [f13 r 1 (by decide), if_neg (by omega)]) (by rw [f13 _ 1 (by decide), if_pos rfl, g1])
  have ea : ∀ q, alS (wrD D t g p) q = alS D q := fun q => by
    unfold alS
    rw [b16]
    exact alN_c2 (fun i _ => by rw [e16]; exact ⟨rfl, rfl⟩)
  have hU8 : wr3 D t g 8 = D 8 := wr3_k (by decide)
  refine ⟨⟨⟨fun v hv => ?_, fun l hl => ?_, fun i hi => ?_⟩, fun r hr => ?_, by rw [b13]; omega⟩, ?_, ⟨⟨fun d hd => by rw [e6]; exact hb.1 d hd, fun q d hd => by rw [e10, e12]; exact hb.2 q d hd⟩, fun j hj => ?_⟩, ?_, fun q hq => ?_, fun v hv => ?_, fun v hv => ?_, fun a ha => ?_, fun r hr => ?_⟩
  · rw [b13] at hv
    unfold wB
    rw [f13 v 2 (by decide), f13 v 3 (by decide), f13 v 4 (by decide), f13 v 9 (by decide), f13 v 10 (by decide), f13 v 11 (by decide), f13 v 12 (by decide), f13 v 14 (by decide), f13 v 15 (by decide), f13 v 16 (by decide), f13 v 17 (by decide), e15]
    by_cases c : v = D 99 0 13
    · simp only [if_pos c]
      rw [g9, g10, g11, g12, g14, g15, g16, g17]
      exact ⟨by omega, by omega, g4, Nat.zero_le _, Nat.zero_le _, (by decide : 0 + 0 < 1000000), ht2, Or.inr rfl, (by decide : 0 < 1000000), Or.inr rfl, (by decide : 1000000 < 4000000)⟩
    · simp only [if_neg c]
      exact C.1 v (by omega)
  · rw [b7] at hl
    unfold lB
    rw [e7]
    exact C.2.1 l hl
  · rw [b16] at hi
    unfold aB
    rw [e16]
    exact C.2.2 i hi
  · rw [b17] at hr
    unfold rB
    rw [e17]
    exact R r hr
  · obtain ⟨⟨m0, m1, m2, m3, m4, m5, m6⟩, ⟨m7, m8, m9, m10⟩, ⟨m11, m12, m13, m14, m15⟩, n7, n8, n13, n16, n17⟩ := m
    have w0 : wr6 D t g p 0 0 = D 0 0 := by
      unfold wr6
      rw [dp_k (by decide)]
      unfold wr5
      rw [tkW_o.1 0 (by decide) (by decide), wr3_k (by decide)]
    have e0 : ∀ f, wrD D t g p 0 0 f = if f = 7 then D 99 0 13 + 1 else D 0 0 f := fun f => by
      unfold wrD
      rw [dp_s, w0]
      rfl
    have e3 : wrD D t g p 3 0 0 = D 99 0 13 + 1 := by
      unfold wrD wr6
      rw [dp_k (by decide), dp_s]
      rfl
    unfold mI
    rw [e1, e2, e3, e4, e0, e0, e0, e0, e0, b7, b8, b13, b16, b17]
    simp only [eN]
    exact ⟨⟨m0, m1, m2, m3, m4, m5, m6⟩, ⟨m7, m8, by trivial, m10⟩, ⟨m11, m12, by trivial, m14, m15⟩, n7, n8, hW, n16, n17⟩
  · rw [b13] at hj
    rw [e14]
    by_cases c : j = D 99 0 13
    · rw [if_pos c]
      exact ⟨Or.inl (by decide : (0 : Nat) < 20000), (by decide : (0 : Nat) < 1000000), (by decide : (0 : Nat) < 1000000), (by decide : (0 : Nat) < 1000000), (by decide : (0 : Nat) < 1000000), (by decide : (0 : Nat) ≤ 1000000), (by decide : (1000000 : Nat) < 4000000)⟩
    · rw [if_neg c]
      exact ht j (by omega)
  · unfold nN at nn ⊢
    simp only [eN]
    exact ⟨nn.1, nn.2.1, nn.2.2.1, nn.2.2.2.1, by trivial, by trivial⟩
  · rw [b8] at hq
    obtain ⟨⟨p1, p2, p3, p4, p5, p6, p7⟩, p8, p9, p10⟩ := pp q hq
    have e8 : ∀ f, ¬ (q = p ∧ (f = 2 ∨ f = 3)) → wrD D t g p 8 q f = D 8 q f := fun f hf => by
      rw [wrD_5 (by decide)]
      unfold wr5
      rw [tkW_o.2.1 q f hf, hU8]
    unfold pO pL
    rw [ew, er, ea, e8 7 (fun z => by omega), e8 8 (fun z => by omega), e8 4 (fun z => by omega), e8 6 (fun z => by omega), e16, e17, b13, b16, b17, b8]
    by_cases c : q = p
    · subst c
      rw [if_pos rfl, wrD_5 (q := 8) (by decide), wrD_5 (q := 13) (by decide)]
      unfold wr5
      obtain ⟨t1, t2, t3, t4, t6, t7⟩ := tkW_o (D := wr3 D t g) (p := q) (r := D 99 0 13)
      rw [hU8] at t3 t6 t7
      have hne : ∀ i ∈ wlS D q, i ≠ D 99 0 13 := fun i hi => by have := (mem_wlS.mp hi).1; omega
      refine ⟨⟨?_, fun i hi => ?_, p3, p4, p5, p6, p7⟩, ?_, p9, p10⟩
      · refine ch_end (nx := fun i => D 13 i 18) p1 wlS_nd ?_ ?_ ?_ (fun i hi hl => ?_)
        · show tkW (wr3 D t g) q (D 99 0 13) 13 (D 99 0 13) 18 = 0
          rw [t3 _ 18 (fun z => by
            rcases lastc_sp (l := wlS D q) with ⟨l1, l2⟩ | ⟨l0, l1, l2⟩
            · omega
            · have := hne (lastc (wlS D q) - 1) (by rw [l2, lastc_app]; exact List.mem_append_right _ List.mem_cons_self)
              omega), wr3_13, if_pos rfl]
          exact g18
        · rw [t6]
          by_cases c9 : D 8 q 3 = 0
          · rw [if_pos c9]
            rcases lastc_sp (l := wlS D q) with ⟨l1, l2⟩ | ⟨l0, l1, l2⟩
            · rw [if_pos l2]
            · omega
          · rw [if_neg c9]
            rcases lastc_sp (l := wlS D q) with ⟨l1, l2⟩ | ⟨l0, l1, l2⟩
            · omega
            · rw [if_neg (fun z => by rw [z] at l1; exact absurd l1 (by decide))]
        · intro z
          rw [← p8] at z ⊢
          exact t7 z
        · show tkW (wr3 D t g) q (D 99 0 13) 13 i 18 = D 13 i 18
          rw [t3 i 18 (fun z => hl (by rw [← p8]; exact z.2)), wr3_13, if_neg (hne i hi)]
      · rcases List.mem_append.mp hi with hi | hi
        · have := p2 i hi
          rw [t3 i 1 (fun z => absurd z.1 (by decide)), wr3_13, if_neg (hne i hi)]
          exact ⟨by omega, this.2⟩
        · have : i = D 99 0 13 := by simpa using hi
          rw [this, t3 _ 1 (fun z => absurd z.1 (by decide)), wr3_13, if_pos rfl]
          exact ⟨by omega, g1⟩
      · rw [lastc_app]
        exact t4
    · rw [if_neg c, e8 3 (fun z => c z.1), e8 2 (fun z => c z.1)]
      refine ⟨⟨?_, fun i hi => ?_, p3, p4, p5, p6, p7⟩, p8, p9, p10⟩
      · refine ch_c (fun i hi => ?_) p1
        have hi2 := p2 i hi
        show wrD D t g p 13 i 18 = D 13 i 18
        rw [wrD_5 (by decide)]
        unfold wr5
        rw [tkW_o.2.2.1 i 18 (fun z => ?_), wr3_13, if_neg (by omega)]
        have z2 := z.2
        rw [hU8] at z2
        have p9p := (pp p hp).2.1
        rcases lastc_sp (l := wlS D p) with ⟨l1, l2⟩ | ⟨l0, l1, l2⟩
        · omega
        · have hmem : lastc (wlS D p) - 1 ∈ wlS D p := by
            have q1 : lastc (wlS D p) - 1 ∈ l0 ++ [lastc (wlS D p) - 1] := List.mem_append_right _ List.mem_cons_self
            rw [← l2] at q1
            exact q1
          have hmo := (mem_wlS.mp hmem).2
          rw [← p9p, show D 8 p 3 - 1 = i by omega] at hmo
          exact c (hi2.2.symm.trans hmo)
      · have := p2 i hi
        rw [f13 i 1 (by decide), if_neg (by omega)]
        exact ⟨by omega, this.2⟩
  · rw [b13] at hv
    rw [f13 v 2 (by decide), f13 v 5 (by decide), f13 v 1 (by decide)]
    by_cases c : v = D 99 0 13
    · simp only [if_pos c]
      refine ⟨g2, fun z => ?_⟩
      obtain ⟨z1, z2⟩ := g5 z
      rw [f13 _ 1 (by decide), if_neg (by omega), g1]
      exact ⟨by omega, z2⟩
    · simp only [if_neg c]
      obtain ⟨o1, o2⟩ := okw v (by omega)
      refine ⟨o1, fun z => ?_⟩
      obtain ⟨z1, z2⟩ := o2 z
      rw [f13 _ 1 (by decide), if_neg (by omega)]
      exact ⟨z1, z2⟩
  · rw [b13] at hv
    rw [f13 v 3 (by decide), f13 v 4 (by decide), f13 v 7 (by decide), f13 v 9 (by decide), f13 v 2 (by decide), f13 v 11 (by decide), f13 v 12 (by decide), f13 v 1 (by decide), f13 v 5 (by decide), b7, b8, b13]
    by_cases c : v = D 99 0 13
    · simp only [if_pos c]
      rw [g9, g11, g12, g1]
      refine ⟨g3, ?_, fun z => absurd z (by omega), Nat.zero_le _, hp, ?_⟩
      · rw [g7, c]
        exact (lwN_c2 (fun i hi => by
          rw [e7, show wr3 D zz g 7 = D 7 from wr3_k (by decide), show wr3 D zz g 13 (D 99 0 13) = g from by rw [wr3_13, if_pos rfl]]
          unfold wapp wfx
          rw [f13 _ 2 (by decide), f13 _ 3 (by decide), f13 _ 4 (by decide), if_pos rfl, if_pos rfl, if_pos rfl])).symm
      · by_cases c5 : 0 < g 5
        · have := (g5 c5).1
          omega
        · omega
    · simp only [if_neg c]
      have x := (okX_up okx).1 v (by omega)
      refine ⟨x.1, ?_, x.2.2.1, x.2.2.2.1, x.2.2.2.2.1, by have := x.2.2.2.2.2; omega⟩
      rw [x.2.1]
      exact (lwN_c2 (fun i hi => by
        rw [e7]
        unfold wapp wfx
        rw [f13 _ 2 (by decide), f13 _ 3 (by decide), f13 _ 4 (by decide), if_neg c, if_neg c, if_neg c])).symm
  · rw [b16] at ha
    rw [b8, e16]
    exact okx.2.1 a ha
  · rw [b17] at hr
    rw [b13, b8, e17]
    have x := okx.2.2 r hr
    exact ⟨x.1, x.2.1, by have := x.2.2.1; omega, x.2.2.2⟩
theorem wr_es {D : fw_DB} {t g : Nat → Nat} {p : Nat} : esq (wrS D t g) (wrD D t g p) := fun q i f hf => by
  have hq : q ≠ 0 ∧ q ≠ 3 ∧ q ≠ 8 ∧ q ≠ 14 := ⟨fun z => (by subst z; cases hf), fun z => (by subst z; cases hf), fun z => (by subst z; cases hf), fun z => (by subst z; cases hf)⟩
  unfold wrS
  by_cases c : q = 13
  · subst c
    rw [wrD_13 (fun z => by rw [z] at hf; cases hf)]
    by_cases c2 : i = D 99 0 13
    · rw [if_pos c2, c2, dn_s (by decide)]
    · rw [if_neg c2, dn_i c2 (by decide), dn_k (by decide) (by decide)]
  · rw [wrD_3 ⟨hq.1, hq.2.1, hq.2.2.1, c⟩]
    by_cases c9 : q = 99
    · subst c9
      by_cases c2 : i = 0
      · subst c2
        have hf : (decide (f = 7) || decide (f = 8) || decide (f = 13) || decide (f = 16) || decide (f = 17)) = true := hf
        have h14 : ¬ (f = 14 ∨ f = 15) := by
          simp only [Bool.or_eq_true, decide_eq_true_eq] at hf
          omega
        rw [wr3_N, dn_N, dn_N]
        by_cases c8 : f = 13
        · rw [if_pos (Or.inl c8), if_pos c8]
        · rw [if_neg (by omega), if_neg c8, if_neg (by omega)]
      · unfold wr3 wr2 wr1
        rw [dn_i9 c2 (by decide), dn_i9 c2 (by decide), dn_i9 c2 (by decide), dn_i9 c2 (by decide), dn_i9 c2 (by decide)]
    · rw [dn_k c c9]
      by_cases c15 : q = 15
      · subst c15
        rw [wr3_15]
        by_cases c2 : i = D 99 0 13
        · rw [if_pos c2, c2, dn_s (by decide)]
        · rw [if_neg c2, dn_i c2 (by decide)]
      · rw [dn_k c15 c9, wr3_k ⟨c, hq.2.2.2, c15, c9⟩]
theorem wr_hi {D : fw_DB} {t g : Nat → Nat} {p : Nat} : hik D (wrD D t g p) := ⟨fun q hq h9 => wrD_k (by omega), fun f hf => by
  rw [wrD_3 (by decide), wr3_N, if_neg (by omega)]⟩
