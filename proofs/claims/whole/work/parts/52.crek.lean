/-! WARRANT: reckoning -/
def wbeg (D : fw_DB) (w : Nat) : Nat := if wct (D 13 w) = true then (if 0 < D 13 w 5 ∧ wct (D 13 (D 13 w 5 - 1)) = true then max (wown (D 13 w)) (D 13 (D 13 w 5 - 1) 16) else wown (D 13 w)) else 1000000
def wrel (lw : Nat → Nat → Nat) (aw : Nat → Bool) (g : Nat → Nat) (b n : Nat) : Nat :=
  let t := db (fun d => !aw d) n b (20032 - b) 1000000
  let u := if wyes lw g = true then (if g 10 = 0 then 1000000 else max t (g 10 - 1)) else t
  if 19999 < u then 1000000 else u
theorem wrel_ok {lw : Nat → Nat → Nat} {aw : Nat → Bool} {g : Nat → Nat} {b n : Nat} : wrel lw aw g b n < 20000 ∨ wrel lw aw g b n = 1000000 := by
  unfold wrel
  dsimp only
  generalize (if wyes lw g = true then (if g 10 = 0 then 1000000 else max (db (fun d => !aw d) n b (20032 - b) 1000000) (g 10 - 1)) else db (fun d => !aw d) n b (20032 - b) 1000000) = u
  by_cases h : 19999 < u
  · rw [if_pos h]
    exact Or.inr rfl
  · rw [if_neg h]
    exact Or.inl (by omega)
/-- the licence's end, shifted -/
def wlend (aw : Nat → Bool) (g : Nat → Nat) (b r s : Nat) : Nat := if r = 1000000 ∨ g 2 = 100 then 1000000 else if g 2 = 108 then 2000000 else b + s + cu (fun d => aw d && iv b r d) 20032 + 1000000 - wcn g
/-- needed days with those that were added -/
def wadd (ad lw : Nat → Nat → Nat) (aw : Nat → Bool) (g : Nat → Nat) (b s : Nat) : Nat → List Nat → Nat
  | n, [] => n
  | n, i :: r => wadd ad lw aw g b s (if (wfx g && (decide (b ≤ ad i 0) && decide (ad i 0 < wrel lw aw g b n))) = true then min (n + ad i 1) (wmost g s) else n) r
/-- a chain by its next numbers, coded -/
def ch (nx : Nat → Nat) : Nat → List Nat → Prop
  | v, [] => v = 0
  | v, i :: r => v = i + 1 ∧ ch nx (nx i) r
def rset (g : Nat → Nat) (b n r e : Nat) : Nat → Nat := fun f => if f = 14 then b else if f = 15 then n else if f = 16 then r else if f = 17 then e else g f
theorem rset_b {g : Nat → Nat} {b n r e b' : Nat} : va_up (rset g b n r e) 14 b' = rset g b' n r e := funext fun f => by
  unfold va_up rset
  by_cases h : f = 14
  · rw [if_pos h, if_pos h]
  · rw [if_neg h, if_neg h, if_neg h]
theorem rset_n {g : Nat → Nat} {b n r e b' : Nat} : va_up (rset g b n r e) 15 b' = rset g b b' r e := funext fun f => by
  unfold va_up rset
  by_cases h : f = 15
  · subst h
    rfl
  · rw [if_neg h, if_neg h, if_neg h]
theorem rset_r {g : Nat → Nat} {b n r e b' : Nat} : va_up (rset g b n r e) 16 b' = rset g b n b' e := funext fun f => by
  unfold va_up rset
  by_cases h : f = 16
  · subst h
    rfl
  · rw [if_neg h, if_neg h, if_neg h]
theorem rset_e {g : Nat → Nat} {b n r e b' : Nat} : va_up (rset g b n r e) 17 b' = rset g b n r b' := funext fun f => by
  unfold va_up rset
  by_cases h : f = 17
  · subst h
    rfl
  · rw [if_neg h, if_neg h, if_neg h]
theorem rset_g {g : Nat → Nat} : rset g (g 14) (g 15) (g 16) (g 17) = g := funext fun f => by
  unfold rset
  by_cases h : f = 14
  · rw [if_pos h, h]
  · rw [if_neg h]
    by_cases h : f = 15
    · rw [if_pos h, h]
    · rw [if_neg h]
      by_cases h : f = 16
      · rw [if_pos h, h]
      · rw [if_neg h]
        by_cases h : f = 17
        · rw [if_pos h, h]
        · rw [if_neg h]
/-- bounds of a warrant's numbers -/
def wB (D : fw_DB) (w : Nat) : Prop := D 13 w 2 < 1000 ∧ D 13 w 3 < 20000 ∧ D 13 w 4 < 20000 ∧ D 13 w 9 ≤ 20000 ∧ D 13 w 10 ≤ 20000 ∧ D 13 w 11 + D 13 w 12 < 1000000 ∧ (D 15 w 0 ≤ 40 ∧ D 15 w 1 ≤ 11 ∧ D 15 w 2 ≤ 9999) ∧ (D 13 w 14 < 20000 ∨ D 13 w 14 = 1000000) ∧ D 13 w 15 < 1000000 ∧ (D 13 w 16 < 20000 ∨ D 13 w 16 = 1000000) ∧ D 13 w 17 < 4000000
def lB (D : fw_DB) (l : Nat) : Prop := D 7 l 2 < 20000 ∧ D 7 l 3 ≤ 8
def aB (D : fw_DB) (i : Nat) : Prop := D 16 i 0 < 20000 ∧ D 16 i 1 ≤ 200
def cB (D : fw_DB) : Prop := (∀ w, w < D 99 0 13 → wB D w) ∧ (∀ l, l < D 99 0 7 → lB D l) ∧ (∀ i, i < D 99 0 16 → aB D i)
theorem sp_len_up {d y m n : Nat} (h : d < 20000) (hy : y ≤ 40) (hm : m ≤ 11) (hn : n ≤ 9999) : sp_len d y m n < 50000 := by
  have := sp_to_up (n := n) (show d < 20089 by omega) hy hm
  unfold sp_len
  omega
theorem wown_lt {D : fw_DB} {w : Nat} (h : wB D w) : wown (D 13 w) < 20000 := by
  obtain ⟨h2, h3, h4, h9, h10, h11, h15, h14, -, h16, h17⟩ := h
  unfold wown
  split
  · omega
  · exact h4
theorem wbeg_ok {D : fw_DB} {w : Nat} (h : wB D w) (h5 : 0 < D 13 w 5 → wB D (D 13 w 5 - 1)) : wbeg D w < 20000 ∨ wbeg D w = 1000000 := by
  have h1 := wown_lt h
  unfold wbeg
  split
  · split
    · rename_i c
      have := (h5 c.1).2.2.2.2.2.2.2.2.2.1
      omega
    · exact Or.inl h1
  · exact Or.inr rfl
theorem wadd_le {ad lw : Nat → Nat → Nat} {aw : Nat → Bool} {g : Nat → Nat} {b s : Nat} : ∀ {l : List Nat} {n : Nat}, n ≤ wmost g s → wadd ad lw aw g b s n l ≤ wmost g s
  | [], n, h => h
  | i :: r, n, h => by
    unfold wadd
    refine wadd_le ?_
    split
    · exact Nat.min_le_right _ _
    · exact h
section CREK
variable {G : fw_G} {D : fw_DB} {A : fw_AD} {M : fw_MP} {w : Nat}
theorem wct_s {g : Nat → Nat} (h : wct g = true) (h2 : g 2 = 115) : 0 < g 9 := by
  unfold wct wwt at h
  rw [h2] at h
  by_cases c : g 9 = 0
  · simp [c] at h
  · omega
theorem w_begin (W : Wf D A M) (hw : w < D 99 0 13) (B : wB D w) (h5 : 0 < D 13 w 5 → wB D (D 13 w 5 - 1)) : PM G 2 0 0 mm_X9_reckonBegin [.ref (A 13 w)] (hp M A D) (fw_qp (nI (wbeg D w)) (hp M A D)) := by
  refine pm_of (by decide +kernel) rfl rfl rfl ?_
  have L := W.lv hw
  have hB := B
  obtain ⟨h2, h3, h4, h9, h10, h11, h15, h14, -, h16, h17⟩ := B
  have ho := wown_lt hB
  refine pw_go tk_X9_reckonBegin rfl rfl ?_
  refine pw_cvp tk_X9_reckonBegin rfl ca_X9_counts lk_X9_153 iv_X9_counts sv_X9_counts (hget L) rfl rfl (As := []) (rest := []) (w_counts L h2 (by omega)) rfl rfl rfl rfl ?_
  refine pw_ifneB tk_X9_reckonBegin rfl (fun c => ?_) (fun c => ?_)
  · skip
    have k27 : ¬ (0 < D 13 w 5 ∧ wct (D 13 (D 13 w 5 - 1)) = true) → PW G mm_X9_reckonBegin (fw_qp (nI (wbeg D w)) (hp M A D)) 2 0 0 (hp M A D) 27 [(0, .ref (A 13 w))] [] := by
      intro e
      refine pw_go tk_X9_reckonBegin rfl rfl ?_
      refine pw_cvp tk_X9_reckonBegin rfl ca_X9_ownDay lk_X9_156 iv_X9_ownDay sv_X9_ownDay (hget L) rfl rfl (As := []) (rest := []) (w_own L h2 (wct_s c)) rfl rfl rfl rfl ?_
      refine pw_i (x' := nI (wbeg D w)) (by unfold wbeg; rw [if_pos c, if_neg e]) ?_
      exact pw_iretp tk_X9_reckonBegin rfl rfl
    refine pw_go tk_X9_reckonBegin rfl rfl ?_
    refine pw_get tk_X9_reckonBegin rfl fl_X9_49 (hget L) rfl ?_
    refine pw_ifnullq tk_X9_reckonBegin rfl (fun c2 => k27 ?_) (fun b c2 => ?_)
    · have c2 := rq_n.mp c2
      exact fun z => by omega
    have c2 := (rq_s c2).1
    have hk := W.ok hw
    have la : D 13 w 5 - 1 < D 99 0 13 := by have := hk.2.1; omega
    have La := W.lv la
    have Ba := h5 c2
    refine pw_go tk_X9_reckonBegin rfl rfl ?_
    refine pw_get tk_X9_reckonBegin rfl fl_X9_49 (hget L) rfl ?_
    refine pw_q (rq_p c2) ?_
    refine pw_cvp tk_X9_reckonBegin rfl ca_X9_counts lk_X9_153 iv_X9_counts sv_X9_counts (hget La) rfl rfl (As := []) (rest := []) (w_counts La Ba.1 (by have := Ba.2.2.2.1; omega)) rfl rfl rfl rfl ?_
    refine pw_ifneB tk_X9_reckonBegin rfl (fun c3 => ?_) (fun c3 => k27 (fun z => by rw [c3] at z; exact nomatch z.2))
    refine pw_go tk_X9_reckonBegin rfl rfl ?_
    refine pw_cvp tk_X9_reckonBegin rfl ca_X9_ownDay lk_X9_156 iv_X9_ownDay sv_X9_ownDay (hget L) rfl rfl (As := []) (rest := []) (w_own L h2 (wct_s c)) rfl rfl rfl rfl ?_
    refine pw_go tk_X9_reckonBegin rfl rfl ?_
    refine pw_get tk_X9_reckonBegin rfl fl_X9_49 (hget L) rfl ?_
    refine pw_q (rq_p c2) ?_
    refine pw_get tk_X9_reckonBegin rfl fl_X9_29 (hget La) rfl ?_
    have hr := Ba.2.2.2.2.2.2.2.2.2.1
    refine pw_maxN (wown (D 13 w)) (D 13 (D 13 w 5 - 1) 16) tk_X9_reckonBegin rfl lk_X9_96 rfl rfl (by omega) (by omega) rfl ?_
    refine pw_i (x' := nI (wbeg D w)) (by unfold wbeg; rw [if_pos c, if_pos ⟨c2, c3⟩]) ?_
    exact pw_iretp tk_X9_reckonBegin rfl rfl
  · skip
    refine pw_ldc tk_X9_reckonBegin rfl kc_X9_25 ?_
    refine pw_i (x' := nI (wbeg D w)) (by unfold wbeg; rw [if_neg (by rw [c]; decide)]; rfl) ?_
    exact pw_iretp tk_X9_reckonBegin rfl rfl
/-- the days at large of a person -/
theorem dy_aw {p : Nat} (W : Wf D A M) (hp9 : p < D 99 0 9) : dyAt (hp M A D) (A 9 p) (A 10 p) (sB (D 10 p)) := ⟨hget (W.lv hp9), hget (W.lv (W.ok hp9 : p < D 99 0 10))⟩
theorem db_bound {f : Nat → Bool} {n t k : Nat} (h : t + k ≤ 1000000) : db f n t k 1000000 ≤ 1000000 := by
  rcases db_spec (f := f) (e := 1000000) k n t with ⟨-, h2, -, -⟩ | ⟨h1, -⟩ <;> omega
theorem w_release {n : Nat} (W : Wf D A M) (hw : w < D 99 0 13) (B : wB D w) (hb : D 13 w 14 < 20000) (hn : n < 1000000) : PM G 2 0 0 mm_X9_releaseAfter [.ref (A 13 w), .int (nI n)] (hp M A D) (fw_qp (nI (wrel (D 7) (sB (D 10 (D 13 w 1))) (D 13 w) (D 13 w 14) n)) (hp M A D)) := by
  refine pm_of (by decide +kernel) rfl rfl rfl ?_
  have L := W.lv hw
  have hk := W.ok hw
  have Lp := W.lv hk.1
  have hkp := W.ok hk.1
  obtain ⟨h2, h3, h4, h9, h10, h11, h15, h14, -, h16, h17⟩ := B
  obtain ⟨t, ht⟩ : ∃ t, t = db (fun d => !sB (D 10 (D 13 w 1)) d) n (D 13 w 14) (20032 - D 13 w 14) 1000000 := ⟨_, rfl⟩
  have htb : t ≤ 1000000 := by rw [ht]; exact db_bound (by omega)
  obtain ⟨R, hR⟩ : ∃ R, R = wrel (D 7) (sB (D 10 (D 13 w 1))) (D 13 w) (D 13 w 14) n := ⟨_, rfl⟩
  rw [← hR]
  have k45 : ∀ u, u = (if wyes (D 7) (D 13 w) = true then (if D 13 w 10 = 0 then 1000000 else max t (D 13 w 10 - 1)) else t) → PW G mm_X9_releaseAfter (fw_qp (nI R) (hp M A D)) 2 0 0 (hp M A D) 45 [(0, .ref (A 13 w)), (2, .int (nI u))] [] := by
    intro u hu
    have hRu : R = if 19999 < u then 1000000 else u := by rw [hR, hu, ht]; rfl
    have hub : u ≤ 1000000 := by
      rw [hu]
      split
      · split <;> omega
      · exact htb
    iterate 2 refine pw_go tk_X9_releaseAfter rfl rfl ?_
    refine pw_icN (u) (19999) tk_X9_releaseAfter rfl rfl rfl (by omega) (by omega) (fun c => ?_) (fun c => ?_)
    · have c : u ≤ 19999 := c
      refine pw_go tk_X9_releaseAfter rfl rfl ?_
      refine pw_i (x' := nI R) (by rw [hRu, if_neg (by omega)]) ?_
      exact pw_iretp tk_X9_releaseAfter rfl rfl
    · have c : ¬ u ≤ 19999 := c
      refine pw_ldc tk_X9_releaseAfter rfl kc_X9_25 ?_
      refine pw_go tk_X9_releaseAfter rfl rfl ?_
      refine pw_i (x' := nI R) (by rw [hRu, if_pos (by omega)]; rfl) ?_
      exact pw_iretp tk_X9_releaseAfter rfl rfl
  refine pw_go tk_X9_releaseAfter rfl rfl ?_
  refine pw_get tk_X9_releaseAfter rfl fl_X9_35 (hget L) rfl ?_
  refine pw_get tk_X9_releaseAfter rfl fl_X9_159 (hget Lp) rfl ?_
  refine pw_go tk_X9_releaseAfter rfl rfl ?_
  refine pw_get tk_X9_releaseAfter rfl fl_X9_26 (hget L) rfl ?_
  refine pw_go tk_X9_releaseAfter rfl rfl ?_
  refine pw_cvp tk_X9_releaseAfter rfl ca_X3_dayBehind lk_X9_163 iv_X3_dayBehind sv_X3_dayBehind (hget (W.lv hkp.1)) rfl rfl (As := [.int (nI (D 13 w 14)), .int (nI n)]) (rest := []) (c_dayBehind (dy_aw W hkp.1) hb (by omega)) rfl rfl rfl rfl ?_
  refine pw_i (x' := nI t) (by rw [ht]) ?_
  iterate 2 refine pw_go tk_X9_releaseAfter rfl rfl ?_
  refine pw_cvp tk_X9_releaseAfter rfl ca_X9_needsYes lk_X9_168 iv_X9_needsYes sv_X9_needsYes (hget L) rfl rfl (As := []) (rest := []) (w_yes L h2 (fun z => W.lv (by have := hk.2.2.2.1; omega))) rfl rfl rfl rfl ?_
  refine pw_ifeqB tk_X9_releaseAfter rfl (fun c => ?_) (fun c => ?_)
  · refine pw_M [(0, .ref (A 13 w)), (2, .int (nI t))] ⟨rfl, rfl, trivial⟩ ?_
    exact k45 t (by rw [c]; rfl)
  · skip
    refine pw_go tk_X9_releaseAfter rfl rfl ?_
    refine pw_get tk_X9_releaseAfter rfl fl_X9_22 (hget L) rfl ?_
    refine pw_go tk_X9_releaseAfter rfl rfl ?_
    refine pw_br tk_X9_releaseAfter rfl rfl (fun c2 => ?_) (fun c2 => ?_)
    · have c2 : D 13 w 10 ≠ 0 := fun z => c2 ((nP_0 (by omega)).mpr z)
      iterate 2 refine pw_go tk_X9_releaseAfter rfl rfl ?_
      refine pw_get tk_X9_releaseAfter rfl fl_X9_22 (hget L) rfl ?_
      refine pw_i (x' := nI (D 13 w 10 - 1)) (nP_p (by omega)) ?_
      refine pw_maxN (t) (D 13 w 10 - 1) tk_X9_releaseAfter rfl lk_X9_96 rfl rfl (by omega) (by omega) rfl ?_
      refine pw_go tk_X9_releaseAfter rfl rfl ?_
      refine pw_M [(0, .ref (A 13 w)), (2, .int (nI (max t (D 13 w 10 - 1))))] ⟨rfl, rfl, trivial⟩ ?_
      exact k45 _ (by rw [if_pos c, if_neg c2])
    · have c2 : D 13 w 10 = 0 := (nP_0 (by omega)).mp (Classical.not_not.mp c2)
      refine pw_ldc tk_X9_releaseAfter rfl kc_X9_25 ?_
      iterate 2 refine pw_go tk_X9_releaseAfter rfl rfl ?_
      refine pw_M [(0, .ref (A 13 w)), (2, .int (nI 1000000))] ⟨rfl, rfl, trivial⟩ ?_
      exact k45 _ (by rw [if_pos c, if_pos c2])
theorem nO_sum {a c m : Nat} (hc : c ≤ 1000000) : nI a - nI c + nI m = nO (a + m + 1000000 - c) := by
  unfold nO
  have e : a + m + 1000000 - c = a + m + (1000000 - c) := by omega
  have e2 : nI (1000000 - c) = nI 1000000 - nI c := (pk_sub hc).symm
  rw [e, ← nI_add, ← nI_add, e2, show (1000000 : Int32) = nI 1000000 from rfl]
  simp only [Int32.sub_eq_add_neg]
  rw [Int32.add_comm (nI 1000000) (-nI c), ← Int32.add_assoc, Int32.add_assoc _ (nI 1000000), Int32.add_right_neg, Int32.add_zero, Int32.add_assoc, Int32.add_comm (-nI c), ← Int32.add_assoc]
theorem w_end {s : Nat} (W : Wf D A M) (hw : w < D 99 0 13) (B : wB D w) (hb : D 13 w 14 < 20000) (hs : s < 1000000) : PM G 2 0 0 mm_X9_endAfter [.ref (A 13 w), .int (nI s)] (hp M A D) (fw_qp (nO (wlend (sB (D 10 (D 13 w 1))) (D 13 w) (D 13 w 14) (D 13 w 16) s)) (hp M A D)) := by
  refine pm_of (by decide +kernel) rfl rfl rfl ?_
  have L := W.lv hw
  have hk := W.ok hw
  have Lp := W.lv hk.1
  have hkp := W.ok hk.1
  obtain ⟨h2, h3, h4, h9, h10, h11, h15, h14, -, h16, h17⟩ := B
  obtain ⟨E, hE⟩ : ∃ E, E = wlend (sB (D 10 (D 13 w 1))) (D 13 w) (D 13 w 14) (D 13 w 16) s := ⟨_, rfl⟩
  rw [← hE]
  unfold wlend at hE
  have k18 : (D 13 w 16 = 1000000 ∨ D 13 w 2 = 100) → PW G mm_X9_endAfter (fw_qp (nO E) (hp M A D)) 2 0 0 (hp M A D) 18 [(0, .ref (A 13 w)), (1, .int (nI s))] [] := by
    intro c
    rw [if_pos c] at hE
    subst hE
    refine pw_go tk_X9_endAfter rfl rfl ?_
    refine pw_i (x' := nO 1000000) (by decide) ?_
    exact pw_iretp tk_X9_endAfter rfl rfl
  refine pw_go tk_X9_endAfter rfl rfl ?_
  refine pw_get tk_X9_endAfter rfl fl_X9_29 (hget L) rfl ?_
  refine pw_ldc tk_X9_endAfter rfl kc_X9_25 ?_
  refine pw_icN (D 13 w 16) (1000000) tk_X9_endAfter rfl rfl rfl (by omega) (by omega) (fun c => k18 (Or.inl c)) (fun c => ?_)
  have c : D 13 w 16 ≠ 1000000 := c
  refine pw_go tk_X9_endAfter rfl rfl ?_
  refine pw_get tk_X9_endAfter rfl fl_X9_39 (hget L) rfl ?_
  refine pw_go tk_X9_endAfter rfl rfl ?_
  refine pw_icN (D 13 w 2) (100) tk_X9_endAfter rfl rfl rfl (by omega) (by omega) (fun c2 => ?_) (fun c2 => k18 (Or.inr (Classical.not_not.mp c2)))
  have c2 : D 13 w 2 ≠ 100 := c2
  rw [if_neg (fun z => z.elim c c2)] at hE
  refine pw_go tk_X9_endAfter rfl rfl ?_
  refine pw_get tk_X9_endAfter rfl fl_X9_39 (hget L) rfl ?_
  refine pw_go tk_X9_endAfter rfl rfl ?_
  refine pw_icN (D 13 w 2) (108) tk_X9_endAfter rfl rfl rfl (by omega) (by omega) (fun c3 => ?_) (fun c3 => ?_)
  · have c3 : D 13 w 2 ≠ 108 := c3
    rw [if_neg c3] at hE
    refine pw_go tk_X9_endAfter rfl rfl ?_
    refine pw_get tk_X9_endAfter rfl fl_X9_26 (hget L) rfl ?_
    refine pw_go tk_X9_endAfter rfl rfl ?_
    refine pw_addN (D 13 w 14) (s) tk_X9_endAfter rfl rfl rfl ?_
    refine pw_go tk_X9_endAfter rfl rfl ?_
    refine pw_cvp tk_X9_endAfter rfl ca_X9_countedDays lk_X9_92 iv_X9_countedDays sv_X9_countedDays (hget L) rfl rfl (As := []) (rest := [.int (nI (D 13 w 14 + s))]) (w_counted L (by omega)) rfl rfl rfl rfl ?_
    refine pw_go tk_X9_endAfter rfl rfl ?_
    refine pw_go tk_X9_endAfter rfl rfl ?_
    refine pw_get tk_X9_endAfter rfl fl_X9_35 (hget L) rfl ?_
    refine pw_get tk_X9_endAfter rfl fl_X9_159 (hget Lp) rfl ?_
    refine pw_go tk_X9_endAfter rfl rfl ?_
    refine pw_get tk_X9_endAfter rfl fl_X9_26 (hget L) rfl ?_
    refine pw_go tk_X9_endAfter rfl rfl ?_
    refine pw_get tk_X9_endAfter rfl fl_X9_29 (hget L) rfl ?_
    refine pw_cvp tk_X9_endAfter rfl ca_X3_within lk_X9_171 iv_X3_within sv_X3_within (hget (W.lv hkp.1)) rfl rfl (As := [.int (nI (D 13 w 14)), .int (nI (D 13 w 16))]) (rest := [.int (nI (D 13 w 14 + s) - nI (wcn (D 13 w)))]) (c_within (dy_aw W hkp.1) (by omega) (by omega)) rfl rfl rfl rfl ?_
    refine pw_add tk_X9_endAfter rfl (nO_sum (by unfold wcn; omega)) ?_
    rw [← hE]
    exact pw_iretp tk_X9_endAfter rfl rfl
  · have c3 : D 13 w 2 = 108 := Classical.not_not.mp c3
    rw [if_pos c3] at hE
    refine pw_ldc tk_X9_endAfter rfl kc_X9_25 ?_
    subst hE
    refine pw_i (x' := nO 2000000) (by decide) ?_
    exact pw_iretp tk_X9_endAfter rfl rfl
/-- what is reckoned of a warrant -/
def rkN (D : fw_DB) (w : Nat) (al : List Nat) (b : Nat) : Nat :=
  let s := sp_len b (D 15 w 0) (D 15 w 1) (D 15 w 2)
  wadd (D 16) (D 7) (sB (D 10 (D 13 w 1))) (D 13 w) b s (wneed (D 7) (D 13 w) s) al
def rkRow (D : fw_DB) (w : Nat) (al : List Nat) : Nat → Nat :=
  let b := wbeg D w
  if b = 1000000 then rset (D 13 w) 1000000 0 1000000 1000000 else
  let s := sp_len b (D 15 w 0) (D 15 w 1) (D 15 w 2)
  let r := wrel (D 7) (sB (D 10 (D 13 w 1))) (D 13 w) b (rkN D w al b)
  rset (D 13 w) b (rkN D w al b) r (wlend (sB (D 10 (D 13 w 1))) (D 13 w) b r s)
theorem wrel_rset {lw : Nat → Nat → Nat} {aw : Nat → Bool} {g : Nat → Nat} {b n r e : Nat} : wrel lw aw (rset g b n r e) = wrel lw aw g := rfl
theorem wneed_le {D : fw_DB} {w s : Nat} (B : wB D w) (h7 : 0 < D 13 w 7 → lB D (D 13 w 7 - 1)) : wneed (D 7) (D 13 w) s ≤ wmost (D 13 w) s := by
  have he : wei (D 7) (D 13 w) ≤ 8 := by
    unfold wei
    split
    · split
      · omega
      · rename_i c
        exact (h7 (by omega)).2
    · exact Nat.le_refl _
  have h1 : s * wei (D 7) (D 13 w) ≤ s * 8 := Nat.mul_le_mul_left s he
  unfold wneed wmost
  omega
theorem rset_W {g : Nat → Nat} {b n r e : Nat} (W : Wf D A M) (h : rOk (D 99 0) 13 w g) : Wf (dp D 13 w (rset g b n r e)) A M := W.put (by decide) h
theorem rset_B {b n r e : Nat} (B : wB D w) (hb : b < 20000 ∨ b = 1000000) (hn : n < 1000000) (hr : r < 20000 ∨ r = 1000000) (he : e < 4000000) : wB (dp D 13 w (rset (D 13 w) b n r e)) w := by
  obtain ⟨h2, h3, h4, h9, h10, h11, h15, h14, h16, h17⟩ := B
  unfold wB
  rw [dp_s]
  exact ⟨h2, h3, h4, h9, h10, h11, h15, hb, hn, hr, he⟩
set_option maxRecDepth 20000 in
theorem w_reckon {al : List Nat} (W : Wf D A M) (C : cB D) (hw : w < D 99 0 13) (hal : ch (fun i => D 16 i 2) (D 8 (D 13 w 1) 4) al) (hin : ∀ i ∈ al, i < D 99 0 16) : PM G 3 0 0 mm_X9_reckon [.ref (A 13 w)] (hp M A D) (fw_qV (fun h' => h' = hp M A (dp D 13 w (rkRow D w al))) fw_noX) := by
  refine pm_of (by decide +kernel) rfl rfl rfl ?_
  have L := W.lv hw
  have hk := W.ok hw
  have B := C.1 w hw
  have h5 : 0 < D 13 w 5 → wB D (D 13 w 5 - 1) := fun z => C.1 _ (by have := hk.2.1; omega)
  have h7 : 0 < D 13 w 7 → lB D (D 13 w 7 - 1) := fun z => C.2.1 _ (by have := hk.2.2.2.1; omega)
  have hbo := wbeg_ok B h5
  obtain ⟨Q, hQ⟩ : ∃ Q, Q = fw_qV (fun h' => h' = hp M A (dp D 13 w (rkRow D w al))) fw_noX := ⟨_, rfl⟩
  rw [← hQ]
  have st : ∀ {b n r e : Nat}, Wf (dp D 13 w (rset (D 13 w) b n r e)) A M := fun {b n r e} => rset_W W hk
  obtain ⟨b, hb⟩ : ∃ b, b = wbeg D w := ⟨_, rfl⟩
  have hbo' : b < 20000 ∨ b = 1000000 := by rw [hb]; exact hbo
  obtain ⟨R, hR⟩ : ∃ R : Nat → Nat, R = fun n => wrel (D 7) (sB (D 10 (D 13 w 1))) (D 13 w) b n := ⟨_, rfl⟩
  have Rok : ∀ n, R n < 20000 ∨ R n = 1000000 := fun n => by rw [hR]; exact wrel_ok
  have relC : ∀ {n r e : Nat} (n' : Nat), b < 20000 → n < 1000000 → (r < 20000 ∨ r = 1000000) → e < 4000000 → n' < 1000000 → PM G 2 0 0 mm_X9_releaseAfter [.ref (A 13 w), .int (nI n')] (hp M A (dp D 13 w (rset (D 13 w) b n r e))) (fw_qp (nI (R n')) (hp M A (dp D 13 w (rset (D 13 w) b n r e)))) := by
    intro n r e n' hb2 hn hr he hn'
    have h := w_release (G := G) (w := w) (n := n') (st (b := b) (n := n) (r := r) (e := e)) hw (rset_B B hbo' hn hr he) (by rw [dp_s]; exact hb2) hn'
    rw [dp_s] at h
    rw [hR]
    exact h
  have tob : b < 20000 → PW G mm_X9_reckon Q 3 0 0 (hp M A (dp D 13 w (rset (D 13 w) b 0 1000000 1000000))) 34 [(0, .ref (A 13 w))] [] := by
    intro hb2
    obtain ⟨h2, h3, h4, h9, h10, h11, ⟨hy, hm, hdd⟩, h14, h15, h16, h17⟩ := B
    have B := C.1 w hw
    obtain ⟨s, hs⟩ : ∃ s, s = sp_len b (D 15 w 0) (D 15 w 1) (D 15 w 2) := ⟨_, rfl⟩
    have hsu : s < 50000 := by rw [hs]; exact sp_len_up hb2 hy hm hdd
    have hmu : wmost (D 13 w) s < 50000 := by unfold wmost; omega
    obtain ⟨N, hN⟩ : ∃ N, N = rkN D w al b := ⟨_, rfl⟩
    have hN2 : N = wadd (D 16) (D 7) (sB (D 10 (D 13 w 1))) (D 13 w) b s (wneed (D 7) (D 13 w) s) al := by rw [hN, hs]; rfl
    have fin : rkRow D w al = rset (D 13 w) b N (R N) (wlend (sB (D 10 (D 13 w 1))) (D 13 w) b (R N) s) := by
      unfold rkRow
      dsimp only
      rw [← hb, if_neg (by omega), ← hs, ← hN, hR]
    have hNu : N < 1000000 := by
      rw [hN2]
      exact Nat.lt_of_le_of_lt (wadd_le (wneed_le B h7)) (by omega)
    have k138 : PW G mm_X9_reckon Q 3 0 0 (hp M A (dp D 13 w (rset (D 13 w) b N (R N) 1000000))) 138 [(0, .ref (A 13 w)), (1, .int (nI s))] [] := by
      have endC := w_end (G := G) (w := w) (s := s) (st (b := b) (n := N) (r := R N) (e := 1000000)) hw (rset_B B hbo' hNu (Rok N) (by omega)) (by rw [dp_s]; exact hb2) (by omega)
      rw [dp_s] at endC
      iterate 3 refine pw_go tk_X9_reckon rfl rfl ?_
      refine pw_cvp tk_X9_reckon rfl ca_X9_endAfter lk_X9_150 iv_X9_endAfter sv_X9_endAfter (hgp L) rfl rfl (As := [.int (nI s)]) (rest := [.ref (A 13 w)]) (endC) rfl rfl rfl rfl ?_
      refine pw_put tk_X9_reckon rfl fp_X9_102 (hgp L) rfl rfl (Nat.le_of_ble_eq_true rfl) ?_
      refine pw_h (hset2 (rset (D 13 w) b N (R N) (wlend (sB (D 10 (D 13 w 1))) (D 13 w) b (R N) s)) W L) ?_
      subst hQ
      exact pw_vret tk_X9_reckon rfl rfl ⟨rfl, by rw [fin]⟩
    have fixC : ∀ {n r : Nat}, PM G 0 0 0 mm_X9_isLikeFixed [.ref (A 13 w)] (hp M A (dp D 13 w (rset (D 13 w) b n r 1000000))) (fw_qp (bI (wfx (D 13 w))) (hp M A (dp D 13 w (rset (D 13 w) b n r 1000000)))) := by
      intro n r
      have h := w_fixed (G := G) (D := dp D 13 w (rset (D 13 w) b n r 1000000)) L (by rw [dp_s]; exact h2)
      rw [dp_s] at h
      exact h
    have keepC : ∀ {n : Nat} (r d : Nat), r ≤ 1000000 → d < 20000 → PM G 0 0 0 mm_X9_keepsOn [.ref (A 13 w), .int (nI d)] (hp M A (dp D 13 w (rset (D 13 w) b n r 1000000))) (fw_qp (bI (decide (b ≤ d) && decide (d < r))) (hp M A (dp D 13 w (rset (D 13 w) b n r 1000000)))) := by
      intro n r d hr hd
      have h := w_keeps (G := G) (D := dp D 13 w (rset (D 13 w) b n r 1000000)) (d := d) L (by rw [dp_s]; show b < _; omega) (by rw [dp_s]; show r < _; omega) (by omega)
      rw [dp_s] at h
      exact h
    have mostC : ∀ {n r : Nat}, PM G 1 0 0 mm_X9_mostNeededOf [.ref (A 13 w), .int (nI s)] (hp M A (dp D 13 w (rset (D 13 w) b n r 1000000))) (fw_qp (nI (wmost (D 13 w) s)) (hp M A (dp D 13 w (rset (D 13 w) b n r 1000000)))) := by
      intro n r
      have h := w_most (G := G) (D := dp D 13 w (rset (D 13 w) b n r 1000000)) (s := s) L (by rw [dp_s]; exact h11) (by omega)
      rw [dp_s] at h
      exact h
    have needC : PM G 1 0 0 mm_X9_neededOf [.ref (A 13 w), .int (nI s)] (hp M A (dp D 13 w (rset (D 13 w) b 0 1000000 1000000))) (fw_qp (nI (wneed (D 7) (D 13 w) s)) (hp M A (dp D 13 w (rset (D 13 w) b 0 1000000 1000000)))) := by
      have h := w_need (G := G) (D := dp D 13 w (rset (D 13 w) b 0 1000000 1000000)) (s := s) L (by rw [dp_s]; exact h2) (by rw [dp_s]; exact h11) (by omega) (by
        rw [dp_s]
        exact fun (z : 0 < D 13 w 7) => ⟨W.lv (by have := hk.2.2.2.1; show D 13 w 7 - 1 < D 99 0 7; omega), (h7 z).2⟩)
      rw [dp_s] at h
      exact h
    have loop : ∀ (l : List Nat) (v n : Nat), ch (fun i => D 16 i 2) v l → (∀ i ∈ l, i < D 99 0 16) → n ≤ wmost (D 13 w) s → N = wadd (D 16) (D 7) (sB (D 10 (D 13 w 1))) (D 13 w) b s n l → PW G mm_X9_reckon Q 3 0 0 (hp M A (dp D 13 w (rset (D 13 w) b n (R n) 1000000))) 75 [(0, .ref (A 13 w)), (1, .int (nI s)), (2, va_rf (rq (A 16) v))] [] := by
      intro l
      induction l with
      | nil =>
        intro v n hv hin hn he
        have hv : v = 0 := hv
        have he : N = n := he
        subst hv
        subst he
        refine pw_M [(0, .ref (A 13 w)), (1, .int (nI s)), (2, .null)] ⟨rfl, rfl, rfl, trivial⟩ ?_
        refine pw_go tk_X9_reckon rfl rfl ?_
        refine pw_go tk_X9_reckon rfl rfl ?_
        refine pw_M [(0, .ref (A 13 w)), (1, .int (nI s))] ⟨rfl, rfl, trivial⟩ ?_
        exact k138
      | cons i l ih =>
        intro v n hv hin hn he
        obtain ⟨hv, hv2⟩ := hv
        subst hv
        have hi := hin i List.mem_cons_self
        have Bi := C.2.2 i hi
        have Li := W.lv hi
        have k130 : ∀ n', n' ≤ wmost (D 13 w) s → n' = (if (wfx (D 13 w) && (decide (b ≤ D 16 i 0) && decide (D 16 i 0 < wrel (D 7) (sB (D 10 (D 13 w 1))) (D 13 w) b n))) = true then min (n + D 16 i 1) (wmost (D 13 w) s) else n) → PW G mm_X9_reckon Q 3 0 0 (hp M A (dp D 13 w (rset (D 13 w) b n' (R n') 1000000))) 130 [(0, .ref (A 13 w)), (1, .int (nI s)), (2, .ref (A 16 i))] [] := by
          intro n' hn' he'
          refine pw_go tk_X9_reckon rfl rfl ?_
          refine pw_get tk_X9_reckon rfl fl_X9_147 (hget Li) rfl ?_
          refine pw_astoreq tk_X9_reckon rfl rfl rfl ?_
          refine pw_go tk_X9_reckon rfl rfl ?_
          refine pw_M [(0, .ref (A 13 w)), (1, .int (nI s)), (2, va_rf (rq (A 16) (D 16 i 2)))] ⟨rfl, rfl, rfl, trivial⟩ ?_
          refine ih _ n' hv2 (fun j hj => hin j (List.mem_cons_of_mem _ hj)) hn' ?_
          rw [he, he']
          rfl
        refine pw_M [(0, .ref (A 13 w)), (1, .int (nI s)), (2, .ref (A 16 i))] ⟨rfl, rfl, rfl, trivial⟩ ?_
        have hRn := Rok n
        have hRb : R n ≤ 1000000 := by omega
        refine pw_go tk_X9_reckon rfl rfl ?_
        refine pw_go tk_X9_reckon rfl rfl ?_
        refine pw_go tk_X9_reckon rfl rfl ?_
        refine pw_cvp tk_X9_reckon rfl ca_X9_isLikeFixed lk_X9_63 iv_X9_isLikeFixed sv_X9_isLikeFixed (hgp L) rfl rfl (As := []) (rest := []) (fixC) rfl rfl rfl rfl ?_
        refine pw_ifeqB tk_X9_reckon rfl (fun c => k130 n hn ?_) (fun c => ?_)
        · rw [c]
          rfl
        iterate 2 refine pw_go tk_X9_reckon rfl rfl ?_
        refine pw_get tk_X9_reckon rfl fl_X9_129 (hget Li) rfl ?_
        refine pw_cvp tk_X9_reckon rfl ca_X9_keepsOn lk_X9_134 iv_X9_keepsOn sv_X9_keepsOn (hgp L) rfl rfl (As := [.int (nI (D 16 i 0))]) (rest := []) (keepC (R n) _ hRb Bi.1) rfl rfl rfl rfl ?_
        refine pw_ifeqB tk_X9_reckon rfl (fun c2 => k130 n hn ?_) (fun c2 => ?_)
        · rw [hR] at c2
          rw [c2, Bool.and_false]
          rfl
        have hmn : min (n + D 16 i 1) (wmost (D 13 w) s) ≤ wmost (D 13 w) s := Nat.min_le_right _ _
        iterate 2 refine pw_go tk_X9_reckon rfl rfl ?_
        refine pw_get tk_X9_reckon rfl fl_X9_108 (hgp L) rfl ?_
        refine pw_go tk_X9_reckon rfl rfl ?_
        refine pw_get tk_X9_reckon rfl fl_X9_138 (hget Li) rfl ?_
        refine pw_addN (n) (D 16 i 1) tk_X9_reckon rfl rfl rfl ?_
        iterate 2 refine pw_go tk_X9_reckon rfl rfl ?_
        refine pw_cvp tk_X9_reckon rfl ca_X9_mostNeededOf lk_X9_141 iv_X9_mostNeededOf sv_X9_mostNeededOf (hgp L) rfl rfl (As := [.int (nI s)]) (rest := [.int (nI (n + D 16 i 1)), .ref (A 13 w)]) (mostC) rfl rfl rfl rfl ?_
        have h20 := Bi.2
        refine pw_minN (n + D 16 i 1) (wmost (D 13 w) s) tk_X9_reckon rfl lk_X9_144 rfl rfl (by omega) (by omega) rfl ?_
        refine pw_put tk_X9_reckon rfl fp_X9_108 (hgp L) rfl rfl (Nat.le_of_ble_eq_true rfl) ?_
        refine pw_h (hset2 (rset (D 13 w) b (min (n + D 16 i 1) (wmost (D 13 w) s)) (R n) 1000000) W L) ?_
        iterate 3 refine pw_go tk_X9_reckon rfl rfl ?_
        refine pw_get tk_X9_reckon rfl fl_X9_108 (hgp L) rfl ?_
        refine pw_cvp tk_X9_reckon rfl ca_X9_releaseAfter lk_X9_120 iv_X9_releaseAfter sv_X9_releaseAfter (hgp L) rfl rfl (As := [.int (nI (min (n + D 16 i 1) (wmost (D 13 w) s)))]) (rest := [.ref (A 13 w)]) (relC (min (n + D 16 i 1) (wmost (D 13 w) s)) hb2 (by omega) hRn (by omega) (by omega)) rfl rfl rfl rfl ?_
        refine pw_put tk_X9_reckon rfl fp_X9_29 (hgp L) rfl rfl (Nat.le_of_ble_eq_true rfl) ?_
        refine pw_h (hset2 (rset (D 13 w) b (min (n + D 16 i 1) (wmost (D 13 w) s)) (R (min (n + D 16 i 1) (wmost (D 13 w) s))) 1000000) W L) ?_
        refine k130 _ hmn ?_
        rw [hR] at c2
        rw [c, c2]
        rfl
    have hnu := wneed_le (s := s) B h7
    refine pw_go tk_X9_reckon rfl rfl ?_
    refine pw_get tk_X9_reckon rfl fl_X9_53 (hgp L) rfl ?_
    refine pw_go tk_X9_reckon rfl rfl ?_
    refine pw_get tk_X9_reckon rfl fl_X9_26 (hgp L) rfl ?_
    refine pw_cvp tk_X9_reckon rfl ca_X8_spanFrom lk_X9_111 iv_X8_spanFrom sv_X8_spanFrom (hget (W.lv hk.2.2.2.2.1)) rfl rfl (As := [.int (nI b)]) (rest := []) (c_spanFrom (hget (W.lv hk.2.2.2.2.1)) hb2 hy hm hdd) rfl rfl rfl rfl ?_
    refine pw_i (x' := nI s) (by rw [hs]; rfl) ?_
    iterate 4 refine pw_go tk_X9_reckon rfl rfl ?_
    refine pw_cvp tk_X9_reckon rfl ca_X9_neededOf lk_X9_117 iv_X9_neededOf sv_X9_neededOf (hgp L) rfl rfl (As := [.int (nI s)]) (rest := [.ref (A 13 w)]) (needC) rfl rfl rfl rfl ?_
    refine pw_put tk_X9_reckon rfl fp_X9_108 (hgp L) rfl rfl (Nat.le_of_ble_eq_true rfl) ?_
    refine pw_h (hset2 (rset (D 13 w) b (wneed (D 7) (D 13 w) s) 1000000 1000000) W L) ?_
    iterate 3 refine pw_go tk_X9_reckon rfl rfl ?_
    refine pw_get tk_X9_reckon rfl fl_X9_108 (hgp L) rfl ?_
    refine pw_cvp tk_X9_reckon rfl ca_X9_releaseAfter lk_X9_120 iv_X9_releaseAfter sv_X9_releaseAfter (hgp L) rfl rfl (As := [.int (nI (wneed (D 7) (D 13 w) s))]) (rest := [.ref (A 13 w)]) (relC (wneed (D 7) (D 13 w) s) hb2 (by omega) (Or.inr rfl) (by omega) (by omega)) rfl rfl rfl rfl ?_
    refine pw_put tk_X9_reckon rfl fp_X9_29 (hgp L) rfl rfl (Nat.le_of_ble_eq_true rfl) ?_
    refine pw_h (hset2 (rset (D 13 w) b (wneed (D 7) (D 13 w) s) (R (wneed (D 7) (D 13 w) s)) 1000000) W L) ?_
    refine pw_go tk_X9_reckon rfl rfl ?_
    refine pw_get tk_X9_reckon rfl fl_X9_35 (hgp L) rfl ?_
    refine pw_get tk_X9_reckon rfl fl_X9_123 (hget (W.lv hk.1)) rfl ?_
    refine pw_astoreq tk_X9_reckon rfl rfl rfl ?_
    refine pw_M [(0, .ref (A 13 w)), (1, .int (nI s)), (2, va_rf (rq (A 16) (D 8 (D 13 w 1) 4)))] ⟨rfl, rfl, rfl, trivial⟩ ?_
    exact loop al _ _ hal hin hnu hN2
  iterate 2 refine pw_go tk_X9_reckon rfl rfl ?_
  refine pw_cvp tk_X9_reckon rfl ca_X9_reckonBegin lk_X9_105 iv_X9_reckonBegin sv_X9_reckonBegin (hget L) rfl rfl (As := []) (rest := [.ref (A 13 w)]) (w_begin W hw B h5) rfl rfl rfl rfl ?_
  refine pw_i (x' := nI b) (by rw [hb]) ?_
  refine pw_put tk_X9_reckon rfl fp_X9_26 (hget L) rfl rfl (Nat.le_of_ble_eq_true rfl) ?_
  refine pw_h (hset (rset (D 13 w) b (D 13 w 15) (D 13 w 16) (D 13 w 17)) W L) ?_
  iterate 2 refine pw_go tk_X9_reckon rfl rfl ?_
  refine pw_put tk_X9_reckon rfl fp_X9_108 (hgp L) rfl rfl (Nat.le_of_ble_eq_true rfl) ?_
  refine pw_h (hset2 (rset (D 13 w) b 0 (D 13 w 16) (D 13 w 17)) W L) ?_
  refine pw_go tk_X9_reckon rfl rfl ?_
  refine pw_ldc tk_X9_reckon rfl kc_X9_25 ?_
  refine pw_put tk_X9_reckon rfl fp_X9_29 (hgp L) rfl rfl (Nat.le_of_ble_eq_true rfl) ?_
  refine pw_h (hset2 (rset (D 13 w) b 0 1000000 (D 13 w 17)) W L) ?_
  iterate 2 refine pw_go tk_X9_reckon rfl rfl ?_
  refine pw_i (x' := nO 1000000) (by decide) ?_
  refine pw_put tk_X9_reckon rfl fp_X9_102 (hgp L) rfl rfl (Nat.le_of_ble_eq_true rfl) ?_
  refine pw_h (hset2 (rset (D 13 w) b 0 1000000 1000000) W L) ?_
  refine pw_go tk_X9_reckon rfl rfl ?_
  refine pw_get tk_X9_reckon rfl fl_X9_26 (hgp L) rfl ?_
  refine pw_ldc tk_X9_reckon rfl kc_X9_25 ?_
  refine pw_icN (b) (1000000) tk_X9_reckon rfl rfl rfl (by omega) (by omega) (fun c => ?_) (fun c => ?_)
  · have c : b ≠ 1000000 := c
    refine pw_M [(0, .ref (A 13 w))] ⟨rfl, trivial⟩ ?_
    exact tob (by omega)
  · have c : b = 1000000 := Classical.not_not.mp c
    subst hQ
    exact pw_vret tk_X9_reckon rfl rfl ⟨rfl, by unfold rkRow; dsimp only; rw [← hb, if_pos c, c]⟩
end CREK

