/-! WARRANT: the class's short methods -/
def wfx (g : Nat → Nat) : Bool := decide (g 2 = 102) || decide (g 2 = 115)
def wwt (g : Nat → Nat) : Bool := decide (g 2 = 115) && decide (g 9 = 0)
def wct (g : Nat → Nat) : Bool := !decide (0 < g 13) && !wwt g
def wown (g : Nat → Nat) : Nat := if g 2 = 115 then g 9 - 1 else g 4
def wyes (lw : Nat → Nat → Nat) (g : Nat → Nat) : Bool := decide (g 2 = 108) || (decide (0 < g 7) && decide (0 < lw (g 7 - 1) 4))
def wcn (g : Nat → Nat) : Nat := g 11 + g 12 / 2
def wei (lw : Nat → Nat → Nat) (g : Nat → Nat) : Nat := if wfx g = true then (if g 7 = 0 then 4 else lw (g 7 - 1) 3) else 8
def wneed (lw : Nat → Nat → Nat) (g : Nat → Nat) (span : Nat) : Nat := (span * wei lw g + 7) / 8 - wcn g
def wmost (g : Nat → Nat) (span : Nat) : Nat := span - wcn g
theorem nP_p {v : Nat} (h : 0 < v) : nP v = nI (v - 1) := if_neg (by omega)
theorem nP_0 {v : Nat} (hv : v < 1073741824) : nP v = -1 ↔ v = 0 := by
  constructor
  · intro h
    by_cases c : v = 0
    · exact c
    · rw [nP_p (by omega)] at h
      have := congrArg Int32.toInt h
      rw [nI_toInt (by omega)] at this
      have e : (-1 : Int32).toInt = -1 := rfl
      omega
  · intro h
    subst h
    rfl
theorem rq_p {f : Nat → Nat} {v : Nat} (h : 0 < v) : rq f v = some (f (v - 1)) := if_neg (by omega)
theorem rq_0 {f : Nat → Nat} {v : Nat} (h : v = 0) : rq f v = none := if_pos h
theorem rq_n {f : Nat → Nat} {v : Nat} : rq f v = none ↔ v = 0 := by
  unfold rq
  split
  · rename_i c
    simp [c]
  · rename_i c
    simp [c]
theorem rq_s {f : Nat → Nat} {v b : Nat} (h : rq f v = some b) : 0 < v ∧ b = f (v - 1) := by
  unfold rq at h
  split at h
  · cases h
  · rename_i c
    exact ⟨by omega, (Option.some.inj h).symm⟩
section CWAR
variable {G : fw_G} {D : fw_DB} {A : fw_AD} {M : fw_MP} {w : Nat}
theorem w_fixed (L : M (A 13 w) = some (13, w)) (h2 : D 13 w 2 < 1000) : PM G 0 0 0 mm_X9_isLikeFixed [.ref (A 13 w)] (hp M A D) (fw_qp (bI (wfx (D 13 w))) (hp M A D)) := by
  refine pm_of (by decide +kernel) rfl rfl rfl ?_
  have k18 : wfx (D 13 w) = true → PW G mm_X9_isLikeFixed (fw_qp (bI (wfx (D 13 w))) (hp M A D)) 0 0 0 (hp M A D) 18 [(0, .ref (A 13 w))] [] := by
    intro e
    rw [e]
    iterate 2 refine pw_go tk_X9_isLikeFixed rfl rfl ?_
    exact pw_zretp (b := true) tk_X9_isLikeFixed rfl rfl
  refine pw_go tk_X9_isLikeFixed rfl rfl ?_
  refine pw_get tk_X9_isLikeFixed rfl fl_X9_39 (hget L) rfl ?_
  refine pw_go tk_X9_isLikeFixed rfl rfl ?_
  refine pw_icN (D 13 w 2) (102) tk_X9_isLikeFixed rfl rfl rfl (by omega) (by omega) (fun c => k18 ?_) (fun c => ?_)
  · have c : D 13 w 2 = 102 := c
    unfold wfx
    simp [c]
  have c : D 13 w 2 ≠ 102 := c
  refine pw_go tk_X9_isLikeFixed rfl rfl ?_
  refine pw_get tk_X9_isLikeFixed rfl fl_X9_39 (hget L) rfl ?_
  refine pw_go tk_X9_isLikeFixed rfl rfl ?_
  refine pw_icN (D 13 w 2) (115) tk_X9_isLikeFixed rfl rfl rfl (by omega) (by omega) (fun c2 => ?_) (fun c2 => k18 ?_)
  · have c2 : D 13 w 2 ≠ 115 := c2
    have e : wfx (D 13 w) = false := by
      unfold wfx
      simp [c, c2]
    rw [e]
    refine pw_go tk_X9_isLikeFixed rfl rfl ?_
    exact pw_zretp (b := false) tk_X9_isLikeFixed rfl rfl
  · have c2 : D 13 w 2 = 115 := Classical.not_not.mp c2
    unfold wfx
    simp [c2]
theorem w_waits (L : M (A 13 w) = some (13, w)) (h2 : D 13 w 2 < 1000) (h9 : D 13 w 9 < 1073741824) : PM G 0 0 0 mm_X9_waits [.ref (A 13 w)] (hp M A D) (fw_qp (bI (wwt (D 13 w))) (hp M A D)) := by
  refine pm_of (by decide +kernel) rfl rfl rfl ?_
  have k21 : wwt (D 13 w) = false → PW G mm_X9_waits (fw_qp (bI (wwt (D 13 w))) (hp M A D)) 0 0 0 (hp M A D) 21 [(0, .ref (A 13 w))] [] := by
    intro e
    rw [e]
    refine pw_go tk_X9_waits rfl rfl ?_
    exact pw_zretp (b := false) tk_X9_waits rfl rfl
  refine pw_go tk_X9_waits rfl rfl ?_
  refine pw_get tk_X9_waits rfl fl_X9_39 (hget L) rfl ?_
  refine pw_go tk_X9_waits rfl rfl ?_
  refine pw_icN (D 13 w 2) (115) tk_X9_waits rfl rfl rfl (by omega) (by omega) (fun c => k21 ?_) (fun c => ?_)
  · have c : D 13 w 2 ≠ 115 := c
    unfold wwt
    simp [c]
  have c : D 13 w 2 = 115 := Classical.not_not.mp c
  refine pw_go tk_X9_waits rfl rfl ?_
  refine pw_get tk_X9_waits rfl fl_X9_18 (hget L) rfl ?_
  refine pw_go tk_X9_waits rfl rfl ?_
  refine pw_br tk_X9_waits rfl rfl (fun c2 => k21 ?_) (fun c2 => ?_)
  · have c2 : D 13 w 9 ≠ 0 := fun z => c2 ((nP_0 h9).mpr z)
    unfold wwt
    simp [c2]
  · have c2 : D 13 w 9 = 0 := (nP_0 h9).mp (Classical.not_not.mp c2)
    have e : wwt (D 13 w) = true := by
      unfold wwt
      simp [c, c2]
    rw [e]
    iterate 2 refine pw_go tk_X9_waits rfl rfl ?_
    exact pw_zretp (b := true) tk_X9_waits rfl rfl
theorem w_counts (L : M (A 13 w) = some (13, w)) (h2 : D 13 w 2 < 1000) (h9 : D 13 w 9 < 1073741824) : PM G 1 0 0 mm_X9_counts [.ref (A 13 w)] (hp M A D) (fw_qp (bI (wct (D 13 w))) (hp M A D)) := by
  refine pm_of (by decide +kernel) rfl rfl rfl ?_
  have k18 : wct (D 13 w) = false → PW G mm_X9_counts (fw_qp (bI (wct (D 13 w))) (hp M A D)) 1 0 0 (hp M A D) 18 [(0, .ref (A 13 w))] [] := by
    intro e
    rw [e]
    refine pw_go tk_X9_counts rfl rfl ?_
    exact pw_zretp (b := false) tk_X9_counts rfl rfl
  refine pw_go tk_X9_counts rfl rfl ?_
  refine pw_get tk_X9_counts rfl fl_X9_74 (hget L) rfl ?_
  refine pw_ifneB tk_X9_counts rfl (fun c => k18 ?_) (fun c => ?_)
  · unfold wct
    rw [c]
    rfl
  refine pw_go tk_X9_counts rfl rfl ?_
  refine pw_cvp tk_X9_counts rfl ca_X9_waits lk_X9_77 iv_X9_waits sv_X9_waits (hget L) rfl rfl (As := []) (rest := []) (w_waits L h2 h9) rfl rfl rfl rfl ?_
  refine pw_ifneB tk_X9_counts rfl (fun c2 => k18 ?_) (fun c2 => ?_)
  · unfold wct
    rw [c2, Bool.not_true, Bool.and_false]
  have e : wct (D 13 w) = true := by
    unfold wct
    rw [c, c2]
    rfl
  rw [e]
  iterate 2 refine pw_go tk_X9_counts rfl rfl ?_
  exact pw_zretp (b := true) tk_X9_counts rfl rfl
theorem w_own (L : M (A 13 w) = some (13, w)) (h2 : D 13 w 2 < 1000) (h9 : D 13 w 2 = 115 → 0 < D 13 w 9) : PM G 0 0 0 mm_X9_ownDay [.ref (A 13 w)] (hp M A D) (fw_qp (nI (wown (D 13 w))) (hp M A D)) := by
  refine pm_of (by decide +kernel) rfl rfl rfl ?_
  refine pw_go tk_X9_ownDay rfl rfl ?_
  refine pw_get tk_X9_ownDay rfl fl_X9_39 (hget L) rfl ?_
  refine pw_go tk_X9_ownDay rfl rfl ?_
  refine pw_icN (D 13 w 2) (115) tk_X9_ownDay rfl rfl rfl (by omega) (by omega) (fun c => ?_) (fun c => ?_)
  · have c : D 13 w 2 ≠ 115 := c
    refine pw_go tk_X9_ownDay rfl rfl ?_
    refine pw_get tk_X9_ownDay rfl fl_X9_46 (hget L) rfl ?_
    refine pw_i (x' := nI (wown (D 13 w))) (by unfold wown; rw [if_neg c]) ?_
    exact pw_iretp tk_X9_ownDay rfl rfl
  · have c : D 13 w 2 = 115 := Classical.not_not.mp c
    refine pw_go tk_X9_ownDay rfl rfl ?_
    refine pw_get tk_X9_ownDay rfl fl_X9_18 (hget L) rfl ?_
    refine pw_i (x' := nI (wown (D 13 w))) (by unfold wown; rw [if_pos c, nP_p (h9 c)]) ?_
    refine pw_go tk_X9_ownDay rfl rfl ?_
    exact pw_iretp tk_X9_ownDay rfl rfl
theorem w_counted (L : M (A 13 w) = some (13, w)) (h11 : D 13 w 12 < 1073741824) : PM G 0 0 0 mm_X9_countedDays [.ref (A 13 w)] (hp M A D) (fw_qp (nI (wcn (D 13 w))) (hp M A D)) := by
  refine pm_of (by decide +kernel) rfl rfl rfl ?_
  refine pw_go tk_X9_countedDays rfl rfl ?_
  refine pw_get tk_X9_countedDays rfl fl_X9_83 (hget L) rfl ?_
  refine pw_go tk_X9_countedDays rfl rfl ?_
  refine pw_get tk_X9_countedDays rfl fl_X9_86 (hget L) rfl ?_
  refine pw_go tk_X9_countedDays rfl rfl ?_
  refine pw_divN (D 13 w 12) (2) tk_X9_countedDays rfl rfl rfl (by omega) (by omega) (by omega) ?_
  refine pw_addN (D 13 w 11) (D 13 w 12 / 2) tk_X9_countedDays rfl rfl rfl ?_
  exact pw_iretp tk_X9_countedDays rfl rfl
theorem w_most {s : Nat} (L : M (A 13 w) = some (13, w)) (h11 : D 13 w 11 + D 13 w 12 < 1000000) (hs : s < 1000000) : PM G 1 0 0 mm_X9_mostNeededOf [.ref (A 13 w), .int (nI s)] (hp M A D) (fw_qp (nI (wmost (D 13 w) s)) (hp M A D)) := by
  refine pm_of (by decide +kernel) rfl rfl rfl ?_
  have hc : wcn (D 13 w) < 1000000 := by unfold wcn; omega
  iterate 3 refine pw_go tk_X9_mostNeededOf rfl rfl ?_
  refine pw_cvp tk_X9_mostNeededOf rfl ca_X9_countedDays lk_X9_92 iv_X9_countedDays sv_X9_countedDays (hget L) rfl rfl (As := []) (rest := [.int (nI s), .int 0]) (w_counted L (by omega)) rfl rfl rfl rfl ?_
  refine pw_go tk_X9_mostNeededOf rfl rfl ?_
  refine pw_max tk_X9_mostNeededOf rfl lk_X9_96 rfl ?_
  refine pw_i (x' := nI (wmost (D 13 w) s)) (max0 (by omega) (by omega)) ?_
  exact pw_iretp tk_X9_mostNeededOf rfl rfl
theorem w_yes (L : M (A 13 w) = some (13, w)) (h2 : D 13 w 2 < 1000) (h7 : 0 < D 13 w 7 → M (A 7 (D 13 w 7 - 1)) = some (7, D 13 w 7 - 1)) : PM G 0 0 0 mm_X9_needsYes [.ref (A 13 w)] (hp M A D) (fw_qp (bI (wyes (D 7) (D 13 w))) (hp M A D)) := by
  refine pm_of (by decide +kernel) rfl rfl rfl ?_
  have k26 : wyes (D 7) (D 13 w) = true → PW G mm_X9_needsYes (fw_qp (bI (wyes (D 7) (D 13 w))) (hp M A D)) 0 0 0 (hp M A D) 26 [(0, .ref (A 13 w))] [] := by
    intro e
    rw [e]
    iterate 2 refine pw_go tk_X9_needsYes rfl rfl ?_
    exact pw_zretp (b := true) tk_X9_needsYes rfl rfl
  have k30 : wyes (D 7) (D 13 w) = false → PW G mm_X9_needsYes (fw_qp (bI (wyes (D 7) (D 13 w))) (hp M A D)) 0 0 0 (hp M A D) 30 [(0, .ref (A 13 w))] [] := by
    intro e
    rw [e]
    refine pw_go tk_X9_needsYes rfl rfl ?_
    exact pw_zretp (b := false) tk_X9_needsYes rfl rfl
  refine pw_go tk_X9_needsYes rfl rfl ?_
  refine pw_get tk_X9_needsYes rfl fl_X9_39 (hget L) rfl ?_
  refine pw_go tk_X9_needsYes rfl rfl ?_
  refine pw_icN (D 13 w 2) (108) tk_X9_needsYes rfl rfl rfl (by omega) (by omega) (fun c => k26 ?_) (fun c => ?_)
  · have c : D 13 w 2 = 108 := c
    unfold wyes
    simp [c]
  have c : D 13 w 2 ≠ 108 := c
  refine pw_go tk_X9_needsYes rfl rfl ?_
  refine pw_get tk_X9_needsYes rfl fl_X9_70 (hget L) rfl ?_
  refine pw_ifnullq tk_X9_needsYes rfl (fun c2 => k30 ?_) (fun b c2 => ?_)
  · have c2 := rq_n.mp c2
    unfold wyes
    simp [c, c2]
  have c2 := (rq_s c2).1
  refine pw_go tk_X9_needsYes rfl rfl ?_
  refine pw_get tk_X9_needsYes rfl fl_X9_70 (hget L) rfl ?_
  refine pw_q (rq_p c2) ?_
  refine pw_get tk_X9_needsYes rfl fl_X9_80 (hget (h7 c2)) rfl ?_
  refine pw_ifeqB tk_X9_needsYes rfl (fun c3 => k30 ?_) (fun c3 => k26 ?_)
  · unfold wyes
    rw [c3, Bool.and_false, Bool.or_false]
    simp [c]
  · unfold wyes
    rw [c3]
    simp [c2]
theorem w_need {s : Nat} (L : M (A 13 w) = some (13, w)) (h2 : D 13 w 2 < 1000) (h11 : D 13 w 11 + D 13 w 12 < 1000000) (hs : s < 1000000) (h7 : 0 < D 13 w 7 → M (A 7 (D 13 w 7 - 1)) = some (7, D 13 w 7 - 1) ∧ D 7 (D 13 w 7 - 1) 3 ≤ 8) : PM G 1 0 0 mm_X9_neededOf [.ref (A 13 w), .int (nI s)] (hp M A D) (fw_qp (nI (wneed (D 7) (D 13 w) s)) (hp M A D)) := by
  refine pm_of (by decide +kernel) rfl rfl rfl ?_
  have hc : wcn (D 13 w) < 1000000 := by unfold wcn; omega
  have k29 : ∀ e, e = wei (D 7) (D 13 w) → e ≤ 8 → PW G mm_X9_neededOf (fw_qp (nI (wneed (D 7) (D 13 w) s)) (hp M A D)) 1 0 0 (hp M A D) 29 [(0, .ref (A 13 w)), (1, .int (nI s)), (2, .int (nI e))] [] := by
    intro e he h8
    have hb : s * e ≤ s * 8 := Nat.mul_le_mul_left s h8
    iterate 3 refine pw_go tk_X9_neededOf rfl rfl ?_
    refine pw_mulN (s) (e) tk_X9_neededOf rfl rfl rfl ?_
    refine pw_go tk_X9_neededOf rfl rfl ?_
    refine pw_addN (s * e) (7) tk_X9_neededOf rfl rfl rfl ?_
    refine pw_go tk_X9_neededOf rfl rfl ?_
    refine pw_divN (s * e + 7) (8) tk_X9_neededOf rfl rfl rfl (by omega) (by omega) (by omega) ?_
    refine pw_go tk_X9_neededOf rfl rfl ?_
    refine pw_cvp tk_X9_neededOf rfl ca_X9_countedDays lk_X9_92 iv_X9_countedDays sv_X9_countedDays (hget L) rfl rfl (As := []) (rest := [.int (nI ((s * e + 7) / 8)), .int 0]) (w_counted L (by omega)) rfl rfl rfl rfl ?_
    refine pw_go tk_X9_neededOf rfl rfl ?_
    refine pw_max tk_X9_neededOf rfl lk_X9_96 rfl ?_
    refine pw_i (x' := nI (wneed (D 7) (D 13 w) s)) ((max0 (by omega) (by omega)).trans (by rw [he]; rfl)) ?_
    exact pw_iretp tk_X9_neededOf rfl rfl
  iterate 3 refine pw_go tk_X9_neededOf rfl rfl ?_
  refine pw_cvp tk_X9_neededOf rfl ca_X9_isLikeFixed lk_X9_63 iv_X9_isLikeFixed sv_X9_isLikeFixed (hget L) rfl rfl (As := []) (rest := []) (w_fixed L h2) rfl rfl rfl rfl ?_
  refine pw_ifeqB tk_X9_neededOf rfl (fun c => ?_) (fun c => ?_)
  · have c : wfx (D 13 w) = false := c
    refine pw_M [(0, .ref (A 13 w)), (1, .int (nI s)), (2, .int (nI 8))] ⟨rfl, rfl, rfl, trivial⟩ ?_
    exact k29 8 (by unfold wei; rw [c]; rfl) (Nat.le_refl _)
  · have c : wfx (D 13 w) = true := c
    refine pw_go tk_X9_neededOf rfl rfl ?_
    refine pw_get tk_X9_neededOf rfl fl_X9_70 (hget L) rfl ?_
    refine pw_ifnonnullq tk_X9_neededOf rfl (fun b c2 => ?_) (fun c2 => ?_)
    · have c2 := (rq_s c2).1
      refine pw_go tk_X9_neededOf rfl rfl ?_
      refine pw_get tk_X9_neededOf rfl fl_X9_70 (hget L) rfl ?_
      refine pw_q (rq_p c2) ?_
      refine pw_get tk_X9_neededOf rfl fl_X9_89 (hget (h7 c2).1) rfl ?_
      refine pw_go tk_X9_neededOf rfl rfl ?_
      refine pw_M [(0, .ref (A 13 w)), (1, .int (nI s)), (2, .int (nI (D 7 (D 13 w 7 - 1) 3)))] ⟨rfl, rfl, rfl, trivial⟩ ?_
      exact k29 _ (by unfold wei; rw [if_pos c, if_neg (by omega)]) (h7 c2).2
    · have c2 := rq_n.mp c2
      iterate 3 refine pw_go tk_X9_neededOf rfl rfl ?_
      refine pw_M [(0, .ref (A 13 w)), (1, .int (nI s)), (2, .int (nI 4))] ⟨rfl, rfl, rfl, trivial⟩ ?_
      exact k29 4 (by unfold wei; rw [if_pos c, if_pos c2]) (by omega)
def wkeep (g : Nat → Nat) (d : Nat) : Bool := decide (g 14 ≤ d) && decide (d < g 16)
def wlic (g : Nat → Nat) (d : Nat) : Bool := decide (g 16 ≤ d) && decide (d + 1000000 < g 17)
theorem nO_le {v a : Nat} (hv : v < 1073741824) (ha : a < 1073741824) : nO v ≤ nI a ↔ v ≤ a + 1000000 := by
  have h1 := nI_toInt (n := a) (by omega)
  have h2 := nI_toInt (n := v) (by omega)
  unfold nO
  rw [Int32.le_iff_toInt_le, Int32.toInt_sub, h1, h2, show (1000000 : Int32).toInt = 1000000 from rfl, Int.bmod_eq_of_le (by omega) (by omega)]
  omega
theorem w_keeps {d : Nat} (L : M (A 13 w) = some (13, w)) (h1 : D 13 w 14 < 1073741824) (h2 : D 13 w 16 < 1073741824) (hd : d < 1073741824) : PM G 0 0 0 mm_X9_keepsOn [.ref (A 13 w), .int (nI d)] (hp M A D) (fw_qp (bI (wkeep (D 13 w) d)) (hp M A D)) := by
  refine pm_of (by decide +kernel) rfl rfl rfl ?_
  have k20 : wkeep (D 13 w) d = false → PW G mm_X9_keepsOn (fw_qp (bI (wkeep (D 13 w) d)) (hp M A D)) 0 0 0 (hp M A D) 20 [(0, .ref (A 13 w)), (1, .int (nI d))] [] := by
    intro e
    rw [e]
    refine pw_go tk_X9_keepsOn rfl rfl ?_
    exact pw_zretp (b := false) tk_X9_keepsOn rfl rfl
  refine pw_go tk_X9_keepsOn rfl rfl ?_
  refine pw_get tk_X9_keepsOn rfl fl_X9_26 (hget L) rfl ?_
  refine pw_go tk_X9_keepsOn rfl rfl ?_
  refine pw_icN (D 13 w 14) (d) tk_X9_keepsOn rfl rfl rfl (by omega) (by omega) (fun c => k20 ?_) (fun c => ?_)
  · have c : d < D 13 w 14 := c
    unfold wkeep
    rw [decide_eq_false (by omega), Bool.false_and]
  have c : ¬ d < D 13 w 14 := c
  iterate 2 refine pw_go tk_X9_keepsOn rfl rfl ?_
  refine pw_get tk_X9_keepsOn rfl fl_X9_29 (hget L) rfl ?_
  refine pw_icN (d) (D 13 w 16) tk_X9_keepsOn rfl rfl rfl (by omega) (by omega) (fun c2 => k20 ?_) (fun c2 => ?_)
  · have c2 : D 13 w 16 ≤ d := c2
    unfold wkeep
    rw [decide_eq_false (p := d < _) (by omega), Bool.and_false]
  have c2 : ¬ D 13 w 16 ≤ d := c2
  have e : wkeep (D 13 w) d = true := by
    unfold wkeep
    rw [decide_eq_true (by omega), decide_eq_true (by omega)]
    rfl
  rw [e]
  iterate 2 refine pw_go tk_X9_keepsOn rfl rfl ?_
  exact pw_zretp (b := true) tk_X9_keepsOn rfl rfl
theorem w_lic {d : Nat} (L : M (A 13 w) = some (13, w)) (h1 : D 13 w 17 < 1073741824) (h2 : D 13 w 16 < 1073741824) (hd : d < 1073000000) : PM G 0 0 0 mm_X9_licensesOn [.ref (A 13 w), .int (nI d)] (hp M A D) (fw_qp (bI (wlic (D 13 w) d)) (hp M A D)) := by
  refine pm_of (by decide +kernel) rfl rfl rfl ?_
  have k20 : wlic (D 13 w) d = false → PW G mm_X9_licensesOn (fw_qp (bI (wlic (D 13 w) d)) (hp M A D)) 0 0 0 (hp M A D) 20 [(0, .ref (A 13 w)), (1, .int (nI d))] [] := by
    intro e
    rw [e]
    refine pw_go tk_X9_licensesOn rfl rfl ?_
    exact pw_zretp (b := false) tk_X9_licensesOn rfl rfl
  refine pw_go tk_X9_licensesOn rfl rfl ?_
  refine pw_get tk_X9_licensesOn rfl fl_X9_29 (hget L) rfl ?_
  refine pw_go tk_X9_licensesOn rfl rfl ?_
  refine pw_icN (D 13 w 16) (d) tk_X9_licensesOn rfl rfl rfl (by omega) (by omega) (fun c => k20 ?_) (fun c => ?_)
  · have c : d < D 13 w 16 := c
    unfold wlic
    rw [decide_eq_false (by omega), Bool.false_and]
  have c : ¬ d < D 13 w 16 := c
  iterate 2 refine pw_go tk_X9_licensesOn rfl rfl ?_
  refine pw_get tk_X9_licensesOn rfl fl_X9_102 (hget L) rfl ?_
  refine pw_br tk_X9_licensesOn rfl rfl (fun c2 => k20 ?_) (fun c2 => ?_)
  · have c2 := (nO_le h1 (by omega)).mp c2
    unfold wlic
    rw [decide_eq_false (p := d + 1000000 < _) (by omega), Bool.and_false]
  have c2 : ¬ _ := fun z => c2 ((nO_le h1 (by omega)).mpr z)
  have e : wlic (D 13 w) d = true := by
    unfold wlic
    rw [decide_eq_true (by omega), decide_eq_true (by omega)]
    rfl
  rw [e]
  iterate 2 refine pw_go tk_X9_licensesOn rfl rfl ?_
  exact pw_zretp (b := true) tk_X9_licensesOn rfl rfl
def wapp (g lg : Nat → Nat) : Bool := wfx g && decide (lg 2 ≤ (if 0 < lg 1 then g 3 else g 4))
theorem w_apply {l : Nat} (W : Wf D A M) (hw : w < D 99 0 13) (hl : l < D 99 0 7) (h2 : D 13 w 2 < 1000) (h3 : D 13 w 3 < 1073741824) (h4 : D 13 w 4 < 1073741824) (hl2 : D 7 l 2 < 1073741824) : PM G 1 0 0 mm_X9_apply [.ref (A 13 w), .ref (A 7 l)] (hp M A D) (fw_qV (fun h' => h' = hp M A (dp D 13 w (if wapp (D 13 w) (D 7 l) = true then va_up (D 13 w) 7 (l + 1) else D 13 w))) fw_noX) := by
  refine pm_of (by decide +kernel) rfl rfl rfl ?_
  have L := W.lv hw
  have LL := W.lv hl
  obtain ⟨Q, hQ⟩ : ∃ Q, Q = (fw_qV (fun h' => h' = hp M A (dp D 13 w (if wapp (D 13 w) (D 7 l) = true then va_up (D 13 w) 7 (l + 1) else D 13 w))) fw_noX) := ⟨_, rfl⟩
  rw [← hQ]
  have k39 : wapp (D 13 w) (D 7 l) = false → ∀ L9, PW G mm_X9_apply Q 1 0 0 (hp M A D) 39 L9 [] := by
    intro e L9
    subst hQ
    exact pw_vret tk_X9_apply rfl rfl ⟨rfl, by rw [e]; exact (congrArg (hp M A) dp_self).symm⟩
  have k18 : ∀ b, b = (if 0 < D 7 l 1 then D 13 w 3 else D 13 w 4) → b < 1073741824 → PW G mm_X9_apply Q 1 0 0 (hp M A D) 18 [(0, .ref (A 13 w)), (1, .ref (A 7 l))] [.int (nI b)] := by
    intro b hb hb2
    iterate 2 refine pw_go tk_X9_apply rfl rfl ?_
    refine pw_cvp tk_X9_apply rfl ca_X9_isLikeFixed lk_X9_63 iv_X9_isLikeFixed sv_X9_isLikeFixed (hget L) rfl rfl (As := []) (rest := []) (w_fixed L h2) rfl rfl rfl rfl ?_
    refine pw_ifeqB tk_X9_apply rfl (fun c => k39 ?_ _) (fun c => ?_)
    · unfold wapp
      rw [c]
      rfl
    iterate 2 refine pw_go tk_X9_apply rfl rfl ?_
    refine pw_get tk_X9_apply rfl fl_X9_67 (hget LL) rfl ?_
    refine pw_icN (b) (D 7 l 2) tk_X9_apply rfl rfl rfl (by omega) (by omega) (fun c2 => k39 ?_ _) (fun c2 => ?_)
    · have c2 : b < D 7 l 2 := c2
      unfold wapp
      rw [← hb, decide_eq_false (by omega), Bool.and_false]
    have c2 : ¬ b < D 7 l 2 := c2
    have e : wapp (D 13 w) (D 7 l) = true := by
      unfold wapp
      rw [← hb, c, decide_eq_true (by omega)]
      rfl
    iterate 2 refine pw_go tk_X9_apply rfl rfl ?_
    refine pw_put tk_X9_apply rfl fp_X9_70 (hget L) rfl rfl (Nat.le_of_ble_eq_true rfl) ?_
    refine pw_h (hset (va_up (D 13 w) 7 (l + 1)) W L) ?_
    subst hQ
    exact pw_vret tk_X9_apply rfl rfl ⟨rfl, by rw [if_pos e]⟩
  refine pw_go tk_X9_apply rfl rfl ?_
  refine pw_get tk_X9_apply rfl fl_X9_57 (hget LL) rfl ?_
  refine pw_ifeqB tk_X9_apply rfl (fun c => ?_) (fun c => ?_)
  · skip
    have c : ¬ 0 < D 7 l 1 := of_decide_eq_false c
    refine pw_go tk_X9_apply rfl rfl ?_
    refine pw_get tk_X9_apply rfl fl_X9_46 (hget L) rfl ?_
    exact k18 _ (by rw [if_neg c]) h4
  · skip
    have c : 0 < D 7 l 1 := of_decide_eq_true c
    refine pw_go tk_X9_apply rfl rfl ?_
    refine pw_get tk_X9_apply rfl fl_X9_43 (hget L) rfl ?_
    refine pw_go tk_X9_apply rfl rfl ?_
    exact k18 _ (by rw [if_pos c]) h3
end CWAR

