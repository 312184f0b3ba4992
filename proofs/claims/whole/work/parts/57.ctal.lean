/-! TALLY: the clerk's notes of a warrant -/
def trun (t : Nat → Nat) : Bool := !decide (t 0 = 1000000) && decide (t 5 = 1000000)
def tlic (t : Nat → Nat) (d : Nat) : Bool := !decide (t 5 = 1000000) && decide (d + 1000000 < t 6)
def tmb (D : fw_DB) (w d : Nat) : Bool := (wct (D 13 w) && decide (wown (D 13 w) ≤ d)) && (!(decide (0 < D 13 w 5) && wct (D 13 (D 13 w 5 - 1))) || !decide (D 14 (D 13 w 5 - 1) 5 = 1000000))
def tml (lw : Nat → Nat → Nat) (g : Nat → Nat) (d : Nat) : Bool := !wyes lw g || (decide (0 < g 10) && decide (g 10 - 1 ≤ d))
def teol (g t : Nat → Nat) : Nat := if g 2 = 108 then 2000000 else if wfx g = true then t 0 + t 1 + t 4 + 1000000 - wcn g else 1000000
def tp1 (D : fw_DB) (w d : Nat) (t : Nat → Nat) : Nat → Nat :=
  if (decide (t 0 = 1000000) && tmb D w d) = true then va_up (va_up (va_up t 0 d) 1 (sp_len d (D 15 w 0) (D 15 w 1) (D 15 w 2))) 2 (wneed (D 7) (D 13 w) (sp_len d (D 15 w 0) (D 15 w 1) (D 15 w 2))) else t
def tp2 (lw : Nat → Nat → Nat) (g : Nat → Nat) (d : Nat) (t : Nat → Nat) : Nat → Nat := if (trun t && (decide (t 2 ≤ t 3) && tml lw g d)) = true then va_up (va_up t 5 d) 6 (teol g (va_up t 5 d)) else t
def tp3 (a : Bool) (t : Nat → Nat) : Nat → Nat := if trun t = true then va_up (va_up t 4 (t 4 + (if a = true then 1 else 0))) 3 (t 3 + (if a = true then 0 else 1)) else t
def tpd (D : fw_DB) (w d : Nat) (a : Bool) : Nat → Nat := tp3 a (tp2 (D 7) (D 13 w) d (tp1 D w d (D 14 w)))
def tpa (g ag t : Nat → Nat) : Nat → Nat := if (wfx g && trun t) = true then va_up t 2 (min (t 2 + ag 1) (wmost g (t 1))) else t
def tnew : Nat → Nat := fun f => if f = 0 ∨ f = 5 ∨ f = 6 then 1000000 else 0
def tB (t : Nat → Nat) : Prop := (t 0 < 20000 ∨ t 0 = 1000000) ∧ t 1 < 1000000 ∧ t 2 < 1000000 ∧ t 3 < 1000000 ∧ t 4 < 1000000 ∧ t 5 ≤ 1000000 ∧ t 6 < 4000000
section CTAL
variable {G : fw_G} {D : fw_DB} {A : fw_AD} {M : fw_MP} {w : Nat}
theorem t_runs (L : M (A 14 w) = some (14, w)) (B : tB (D 14 w)) : PM G 0 0 0 mm_X7_runs [.ref (A 14 w)] (hp M A D) (fw_qp (bI (trun (D 14 w))) (hp M A D)) := by
  refine pm_of (by decide +kernel) rfl rfl rfl ?_
  obtain ⟨b0, b1, b2, b3, b4, b5, b6⟩ := B
  have k22 : trun (D 14 w) = false → PW G mm_X7_runs (fw_qp (bI (trun (D 14 w))) (hp M A D)) 0 0 0 (hp M A D) 22 [(0, .ref (A 14 w))] [] := by
    intro e
    rw [e]
    refine pw_go tk_X7_runs rfl rfl ?_
    exact pw_zretp (b := false) tk_X7_runs rfl rfl
  refine pw_go tk_X7_runs rfl rfl ?_
  refine pw_get tk_X7_runs rfl fl_X7_10 (hget L) rfl ?_
  refine pw_ldc tk_X7_runs rfl kc_X7_9 ?_
  refine pw_icN (D 14 w 0) (1000000) tk_X7_runs rfl rfl rfl (by omega) (by omega) (fun c => k22 ?_) (fun c => ?_)
  · have c : D 14 w 0 = 1000000 := c
    unfold trun
    rw [decide_eq_true c]
    rfl
  have c : D 14 w 0 ≠ 1000000 := c
  refine pw_go tk_X7_runs rfl rfl ?_
  refine pw_get tk_X7_runs rfl fl_X7_28 (hget L) rfl ?_
  refine pw_ldc tk_X7_runs rfl kc_X7_9 ?_
  refine pw_icN (D 14 w 5) (1000000) tk_X7_runs rfl rfl rfl (by omega) (by omega) (fun c2 => k22 ?_) (fun c2 => ?_)
  · have c2 : D 14 w 5 ≠ 1000000 := c2
    unfold trun
    rw [decide_eq_false c2, Bool.and_false]
  have c2 : D 14 w 5 = 1000000 := Classical.not_not.mp c2
  have e : trun (D 14 w) = true := by
    unfold trun
    rw [decide_eq_false c, decide_eq_true c2]
    rfl
  rw [e]
  iterate 2 refine pw_go tk_X7_runs rfl rfl ?_
  exact pw_zretp (b := true) tk_X7_runs rfl rfl
theorem t_lic {d : Nat} (L : M (A 14 w) = some (14, w)) (B : tB (D 14 w)) (hd : d < 1073000000) : PM G 0 0 0 mm_X7_licenses [.ref (A 14 w), .int (nI d)] (hp M A D) (fw_qp (bI (tlic (D 14 w) d)) (hp M A D)) := by
  refine pm_of (by decide +kernel) rfl rfl rfl ?_
  obtain ⟨b0, b1, b2, b3, b4, b5, b6⟩ := B
  have k21 : tlic (D 14 w) d = false → PW G mm_X7_licenses (fw_qp (bI (tlic (D 14 w) d)) (hp M A D)) 0 0 0 (hp M A D) 21 [(0, .ref (A 14 w)), (1, .int (nI d))] [] := by
    intro e
    rw [e]
    refine pw_go tk_X7_licenses rfl rfl ?_
    exact pw_zretp (b := false) tk_X7_licenses rfl rfl
  refine pw_go tk_X7_licenses rfl rfl ?_
  refine pw_get tk_X7_licenses rfl fl_X7_28 (hget L) rfl ?_
  refine pw_ldc tk_X7_licenses rfl kc_X7_9 ?_
  refine pw_icN (D 14 w 5) (1000000) tk_X7_licenses rfl rfl rfl (by omega) (by omega) (fun c => k21 ?_) (fun c => ?_)
  · have c : D 14 w 5 = 1000000 := c
    unfold tlic
    rw [decide_eq_true c]
    rfl
  have c : D 14 w 5 ≠ 1000000 := c
  iterate 2 refine pw_go tk_X7_licenses rfl rfl ?_
  refine pw_get tk_X7_licenses rfl fl_X7_31 (hget L) rfl ?_
  refine pw_br tk_X7_licenses rfl rfl (fun c2 => k21 ?_) (fun c2 => ?_)
  · have c2 := (nO_le (by omega) (by omega)).mp c2
    unfold tlic
    rw [decide_eq_false (p := d + 1000000 < _) (by omega), Bool.and_false]
  have c2 : ¬ _ := fun z => c2 ((nO_le (by omega) (by omega)).mpr z)
  have e : tlic (D 14 w) d = true := by
    unfold tlic
    rw [decide_eq_false c, decide_eq_true (by omega)]
    rfl
  rw [e]
  iterate 2 refine pw_go tk_X7_licenses rfl rfl ?_
  exact pw_zretp (b := true) tk_X7_licenses rfl rfl
theorem t_mayBegin {d : Nat} (W : Wf D A M) (C : cB D) (hw : w < D 99 0 13) (hT : 0 < D 13 w 5 → tB (D 14 (D 13 w 5 - 1))) (hd : d < 20000) : PM G 2 0 0 mm_X7_mayBegin [.ref (A 13 w), .int (nI d)] (hp M A D) (fw_qp (bI (tmb D w d)) (hp M A D)) := by
  refine pm_of (by decide +kernel) rfl rfl rfl ?_
  have L := W.lv hw
  have hk := W.ok hw
  obtain ⟨h2, h3, h4, h9, h10, h11, h15, h14, -, h16, h17⟩ := C.1 w hw
  have ho := wown_lt (C.1 w hw)
  have k15 : tmb D w d = false → PW G mm_X7_mayBegin (fw_qp (bI (tmb D w d)) (hp M A D)) 2 0 0 (hp M A D) 15 [(0, .ref (A 13 w)), (1, .int (nI d))] [] := by
    intro e
    rw [e]
    refine pw_go tk_X7_mayBegin rfl rfl ?_
    exact pw_zretp (b := false) tk_X7_mayBegin rfl rfl
  have k49 : tmb D w d = true → PW G mm_X7_mayBegin (fw_qp (bI (tmb D w d)) (hp M A D)) 2 0 0 (hp M A D) 49 [(0, .ref (A 13 w)), (1, .int (nI d))] [] := by
    intro e
    rw [e]
    iterate 2 refine pw_go tk_X7_mayBegin rfl rfl ?_
    exact pw_zretp (b := true) tk_X7_mayBegin rfl rfl
  refine pw_go tk_X7_mayBegin rfl rfl ?_
  refine pw_cvp tk_X7_mayBegin rfl ca_X9_counts lk_X7_81 iv_X9_counts sv_X9_counts (hget L) rfl rfl (As := []) (rest := []) (w_counts L h2 (by omega)) rfl rfl rfl rfl ?_
  refine pw_ifeqB tk_X7_mayBegin rfl (fun c => k15 ?_) (fun c => ?_)
  · unfold tmb
    rw [c]
    rfl
  iterate 2 refine pw_go tk_X7_mayBegin rfl rfl ?_
  refine pw_cvp tk_X7_mayBegin rfl ca_X9_ownDay lk_X7_84 iv_X9_ownDay sv_X9_ownDay (hget L) rfl rfl (As := []) (rest := [.int (nI d)]) (w_own L h2 (wct_s c)) rfl rfl rfl rfl ?_
  refine pw_icN (d) (wown (D 13 w)) tk_X7_mayBegin rfl rfl rfl (by omega) (by omega) (fun c2 => ?_) (fun c2 => k15 ?_)
  rotate_left
  · have c2 : ¬ wown (D 13 w) ≤ d := c2
    unfold tmb
    rw [decide_eq_false c2, Bool.and_false]
    rfl
  have c2 : wown (D 13 w) ≤ d := c2
  refine pw_go tk_X7_mayBegin rfl rfl ?_
  refine pw_get tk_X7_mayBegin rfl fl_X7_88 (hget L) rfl ?_
  refine pw_ifnullq tk_X7_mayBegin rfl (fun c3 => k49 ?_) (fun b c3 => ?_)
  · have c3 := rq_n.mp c3
    unfold tmb
    rw [c, decide_eq_true c2, decide_eq_false (show ¬ 0 < D 13 w 5 by omega)]
    rfl
  have c3 := (rq_s c3).1
  have la : D 13 w 5 - 1 < D 99 0 13 := by have := hk.2.1; omega
  have Ba := C.1 _ la
  have La := W.lv la
  have hka := W.ok la
  refine pw_go tk_X7_mayBegin rfl rfl ?_
  refine pw_get tk_X7_mayBegin rfl fl_X7_88 (hget L) rfl ?_
  refine pw_q (rq_p c3) ?_
  refine pw_cvp tk_X7_mayBegin rfl ca_X9_counts lk_X7_81 iv_X9_counts sv_X9_counts (hget La) rfl rfl (As := []) (rest := []) (w_counts La Ba.1 (by have := Ba.2.2.2.1; omega)) rfl rfl rfl rfl ?_
  refine pw_ifeqB tk_X7_mayBegin rfl (fun c4 => k49 ?_) (fun c4 => ?_)
  · unfold tmb
    rw [c, decide_eq_true c2, c4, Bool.and_false]
    rfl
  obtain ⟨b0, b1, b2, b3, b4, b5, b6⟩ := hT c3
  refine pw_go tk_X7_mayBegin rfl rfl ?_
  refine pw_get tk_X7_mayBegin rfl fl_X7_88 (hget L) rfl ?_
  refine pw_q (rq_p c3) ?_
  refine pw_get tk_X7_mayBegin rfl fl_X7_92 (hget La) rfl ?_
  refine pw_get tk_X7_mayBegin rfl fl_X7_28 (hget (W.lv hka.2.2.1)) rfl ?_
  refine pw_ldc tk_X7_mayBegin rfl kc_X7_9 ?_
  refine pw_icN (D 14 (D 13 w 5 - 1) 5) (1000000) tk_X7_mayBegin rfl rfl rfl (by omega) (by omega) (fun c5 => ?_) (fun c5 => k49 ?_)
  · have c5 : D 14 (D 13 w 5 - 1) 5 = 1000000 := c5
    have e : tmb D w d = false := by
      unfold tmb
      rw [c4, decide_eq_true c3, decide_eq_true c5, Bool.and_true]
      exact Bool.and_false _
    rw [e]
    refine pw_go tk_X7_mayBegin rfl rfl ?_
    exact pw_zretp (b := false) tk_X7_mayBegin rfl rfl
  · have c5 : D 14 (D 13 w 5 - 1) 5 ≠ 1000000 := c5
    unfold tmb
    rw [c, decide_eq_true c2, decide_eq_false c5]
    simp
theorem t_mayLeave {d : Nat} (W : Wf D A M) (C : cB D) (hw : w < D 99 0 13) (hd : d < 20000) : PM G 1 0 0 mm_X7_mayLeave [.ref (A 13 w), .int (nI d)] (hp M A D) (fw_qp (bI (tml (D 7) (D 13 w) d)) (hp M A D)) := by
  refine pm_of (by decide +kernel) rfl rfl rfl ?_
  have L := W.lv hw
  have hk := W.ok hw
  obtain ⟨h2, h3, h4, h9, h10, h11, h15, h14, -, h16, h17⟩ := C.1 w hw
  have k27 : tml (D 7) (D 13 w) d = false → PW G mm_X7_mayLeave (fw_qp (bI (tml (D 7) (D 13 w) d)) (hp M A D)) 1 0 0 (hp M A D) 27 [(0, .ref (A 13 w)), (1, .int (nI d))] [] := by
    intro e
    rw [e]
    refine pw_go tk_X7_mayLeave rfl rfl ?_
    exact pw_zretp (b := false) tk_X7_mayLeave rfl rfl
  have k23 : tml (D 7) (D 13 w) d = true → PW G mm_X7_mayLeave (fw_qp (bI (tml (D 7) (D 13 w) d)) (hp M A D)) 1 0 0 (hp M A D) 23 [(0, .ref (A 13 w)), (1, .int (nI d))] [] := by
    intro e
    rw [e]
    iterate 2 refine pw_go tk_X7_mayLeave rfl rfl ?_
    exact pw_zretp (b := true) tk_X7_mayLeave rfl rfl
  refine pw_go tk_X7_mayLeave rfl rfl ?_
  refine pw_cvp tk_X7_mayLeave rfl ca_X9_needsYes lk_X7_96 iv_X9_needsYes sv_X9_needsYes (hget L) rfl rfl (As := []) (rest := []) (w_yes L h2 (fun z => W.lv (by have := hk.2.2.2.1; omega))) rfl rfl rfl rfl ?_
  refine pw_ifeqB tk_X7_mayLeave rfl (fun c => k23 ?_) (fun c => ?_)
  · unfold tml
    rw [c]
    rfl
  refine pw_go tk_X7_mayLeave rfl rfl ?_
  refine pw_get tk_X7_mayLeave rfl fl_X7_99 (hget L) rfl ?_
  refine pw_go tk_X7_mayLeave rfl rfl ?_
  refine pw_br tk_X7_mayLeave rfl rfl (fun c2 => k27 ?_) (fun c2 => ?_)
  · have c2 : D 13 w 10 = 0 := (nP_0 (by omega)).mp c2
    unfold tml
    rw [c, decide_eq_false (show ¬ 0 < D 13 w 10 by omega)]
    rfl
  have c2 : D 13 w 10 ≠ 0 := fun z => c2 ((nP_0 (by omega)).mpr z)
  refine pw_go tk_X7_mayLeave rfl rfl ?_
  refine pw_get tk_X7_mayLeave rfl fl_X7_99 (hget L) rfl ?_
  refine pw_i (x' := nI (D 13 w 10 - 1)) (nP_p (by omega)) ?_
  refine pw_go tk_X7_mayLeave rfl rfl ?_
  refine pw_icN (D 13 w 10 - 1) (d) tk_X7_mayLeave rfl rfl rfl (by omega) (by omega) (fun c3 => k27 ?_) (fun c3 => k23 ?_)
  · have c3 : d < D 13 w 10 - 1 := c3
    unfold tml
    rw [c, decide_eq_false (show ¬ D 13 w 10 - 1 ≤ d by omega), Bool.and_false]
    rfl
  · have c3 : ¬ d < D 13 w 10 - 1 := c3
    unfold tml
    rw [decide_eq_true (show 0 < D 13 w 10 by omega), decide_eq_true (show D 13 w 10 - 1 ≤ d by omega)]
    simp
theorem t_eol (W : Wf D A M) (C : cB D) (hw : w < D 99 0 13) : PM G 1 0 0 mm_X7_endOfLicence [.ref (A 14 w), .ref (A 13 w)] (hp M A D) (fw_qp (nO (teol (D 13 w) (D 14 w))) (hp M A D)) := by
  refine pm_of (by decide +kernel) rfl rfl rfl ?_
  have L := W.lv hw
  have hk := W.ok hw
  have Lt := W.lv hk.2.2.1
  obtain ⟨h2, h3, h4, h9, h10, h11, h15, h14, -, h16, h17⟩ := C.1 w hw
  obtain ⟨E, hE⟩ : ∃ E, E = teol (D 13 w) (D 14 w) := ⟨_, rfl⟩
  rw [← hE]
  unfold teol at hE
  refine pw_go tk_X7_endOfLicence rfl rfl ?_
  refine pw_get tk_X7_endOfLicence rfl fl_X7_102 (hget L) rfl ?_
  refine pw_go tk_X7_endOfLicence rfl rfl ?_
  refine pw_icN (D 13 w 2) (108) tk_X7_endOfLicence rfl rfl rfl (by omega) (by omega) (fun c => ?_) (fun c => ?_)
  · have c : D 13 w 2 ≠ 108 := c
    rw [if_neg c] at hE
    refine pw_go tk_X7_endOfLicence rfl rfl ?_
    refine pw_cvp tk_X7_endOfLicence rfl ca_X9_isLikeFixed lk_X7_64 iv_X9_isLikeFixed sv_X9_isLikeFixed (hget L) rfl rfl (As := []) (rest := []) (w_fixed L h2) rfl rfl rfl rfl ?_
    refine pw_ifeqB tk_X7_endOfLicence rfl (fun c2 => ?_) (fun c2 => ?_)
    · rw [if_neg (by rw [c2]; decide)] at hE
      subst hE
      refine pw_go tk_X7_endOfLicence rfl rfl ?_
      refine pw_i (x' := nO 1000000) (by decide) ?_
      exact pw_iretp tk_X7_endOfLicence rfl rfl
    · rw [if_pos c2] at hE
      refine pw_go tk_X7_endOfLicence rfl rfl ?_
      refine pw_get tk_X7_endOfLicence rfl fl_X7_10 (hget Lt) rfl ?_
      refine pw_go tk_X7_endOfLicence rfl rfl ?_
      refine pw_get tk_X7_endOfLicence rfl fl_X7_16 (hget Lt) rfl ?_
      refine pw_addN (D 14 w 0) (D 14 w 1) tk_X7_endOfLicence rfl rfl rfl ?_
      refine pw_go tk_X7_endOfLicence rfl rfl ?_
      refine pw_cvp tk_X7_endOfLicence rfl ca_X9_countedDays lk_X7_106 iv_X9_countedDays sv_X9_countedDays (hget L) rfl rfl (As := []) (rest := [.int (nI (D 14 w 0 + D 14 w 1))]) (w_counted L (by omega)) rfl rfl rfl rfl ?_
      refine pw_go tk_X7_endOfLicence rfl rfl ?_
      refine pw_go tk_X7_endOfLicence rfl rfl ?_
      refine pw_get tk_X7_endOfLicence rfl fl_X7_25 (hget Lt) rfl ?_
      refine pw_add tk_X7_endOfLicence rfl (nO_sum (by unfold wcn; omega)) ?_
      refine pw_go tk_X7_endOfLicence rfl rfl ?_
      rw [← hE]
      exact pw_iretp tk_X7_endOfLicence rfl rfl
  · have c : D 13 w 2 = 108 := Classical.not_not.mp c
    rw [if_pos c] at hE
    refine pw_ldc tk_X7_endOfLicence rfl kc_X7_9 ?_
    subst hE
    refine pw_i (x' := nO 2000000) (by decide) ?_
    exact pw_iretp tk_X7_endOfLicence rfl rfl
theorem t_open (W : Wf D A M) (hw : w < D 99 0 14) : PM G 0 0 0 mm_X7_open [.ref (A 14 w)] (hp M A D) (fw_qV (fun h' => h' = hp M A (dp D 14 w (fun f => if f ≤ 6 then tnew f else D 14 w f))) fw_noX) := by
  refine pm_of (by decide +kernel) rfl rfl rfl ?_
  have L := W.lv hw
  have fin : va_up (va_up (va_up (va_up (va_up (va_up (va_up (D 14 w) 0 1000000) 1 0) 2 0) 3 0) 4 0) 5 1000000) 6 1000000 = (fun f => if f ≤ 6 then tnew f else D 14 w f) := by
    funext f
    unfold va_up tnew
    by_cases c : f ≤ 6
    · rw [if_pos c]
      rcases (show f = 0 ∨ f = 1 ∨ f = 2 ∨ f = 3 ∨ f = 4 ∨ f = 5 ∨ f = 6 by omega) with e | e | e | e | e | e | e <;> subst e <;> rfl
    · rw [if_neg c, if_neg (by omega), if_neg (by omega), if_neg (by omega), if_neg (by omega), if_neg (by omega), if_neg (by omega), if_neg (by omega)]
  refine pw_go tk_X7_open rfl rfl ?_
  refine pw_ldc tk_X7_open rfl kc_X7_9 ?_
  refine pw_put tk_X7_open rfl fp_X7_10 (hget L) rfl rfl (Nat.le_of_ble_eq_true rfl) ?_
  refine pw_h (hset (va_up (D 14 w) 0 1000000) W L) ?_
  iterate 2 refine pw_go tk_X7_open rfl rfl ?_
  refine pw_put tk_X7_open rfl fp_X7_16 (hgp L) rfl rfl (Nat.le_of_ble_eq_true rfl) ?_
  refine pw_h (hset2 (va_up (va_up (D 14 w) 0 1000000) 1 0) W L) ?_
  iterate 2 refine pw_go tk_X7_open rfl rfl ?_
  refine pw_put tk_X7_open rfl fp_X7_19 (hgp L) rfl rfl (Nat.le_of_ble_eq_true rfl) ?_
  refine pw_h (hset2 (va_up (va_up (va_up (D 14 w) 0 1000000) 1 0) 2 0) W L) ?_
  iterate 2 refine pw_go tk_X7_open rfl rfl ?_
  refine pw_put tk_X7_open rfl fp_X7_22 (hgp L) rfl rfl (Nat.le_of_ble_eq_true rfl) ?_
  refine pw_h (hset2 (va_up (va_up (va_up (va_up (D 14 w) 0 1000000) 1 0) 2 0) 3 0) W L) ?_
  iterate 2 refine pw_go tk_X7_open rfl rfl ?_
  refine pw_put tk_X7_open rfl fp_X7_25 (hgp L) rfl rfl (Nat.le_of_ble_eq_true rfl) ?_
  refine pw_h (hset2 (va_up (va_up (va_up (va_up (va_up (D 14 w) 0 1000000) 1 0) 2 0) 3 0) 4 0) W L) ?_
  refine pw_go tk_X7_open rfl rfl ?_
  refine pw_ldc tk_X7_open rfl kc_X7_9 ?_
  refine pw_put tk_X7_open rfl fp_X7_28 (hgp L) rfl rfl (Nat.le_of_ble_eq_true rfl) ?_
  refine pw_h (hset2 (va_up (va_up (va_up (va_up (va_up (va_up (D 14 w) 0 1000000) 1 0) 2 0) 3 0) 4 0) 5 1000000) W L) ?_
  iterate 2 refine pw_go tk_X7_open rfl rfl ?_
  refine pw_i (x' := nO 1000000) (by decide) ?_
  refine pw_put tk_X7_open rfl fp_X7_31 (hgp L) rfl rfl (Nat.le_of_ble_eq_true rfl) ?_
  refine pw_h (hset2 (va_up (va_up (va_up (va_up (va_up (va_up (va_up (D 14 w) 0 1000000) 1 0) 2 0) 3 0) 4 0) 5 1000000) 6 1000000) W L) ?_
  exact pw_vret tk_X7_open rfl rfl ⟨rfl, by rw [fin]⟩
end CTAL

