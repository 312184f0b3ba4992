/-! REFERENCE: what it throws down, what it asks of numbers -/
theorem IR_c {S D D' : fw_DB} (e : ∀ k, k ≠ 30 → D' k = D k) (h : IR S D) : IR S D' := by
  unfold IR LR at h ⊢
  rw [e 31 (by decide), e 32 (by decide), e 33 (by decide), e 34 (by decide), e 35 (by decide), e 41 (by decide), e 42 (by decide), e 43 (by decide), e 44 (by decide), e 45 (by decide), e 51 (by decide), e 53 (by decide), e 54 (by decide), e 55 (by decide), e 56 (by decide), e 57 (by decide), e 58 (by decide), e 99 (by decide)]
  exact h
theorem sub_set {D : fw_DB} {A : fw_AD} {M : fw_MP} {h : fw_H} {k i : Nat} (g : Nat → Nat) (W : Wf D A M) (L : M (A k i) = some (k, i)) (hs : ∀ (b : Nat) (o : fw_O), hp M A D b = some o → h b = some o) : ∀ (b : Nat) (o : fw_O), hp M A (dp D k i g) b = some o → fw_up h (A k i) (kRow A k i g) b = some o := by
  intro b o hb
  rw [← hset g W L] at hb
  by_cases c : b = A k i
  · rw [c, fw_up_s] at hb ⊢
    exact hb
  · rw [fw_up_n c] at hb ⊢
    exact hs b o hb
/-- the number thrown, put down -/
def sT (D : fw_DB) (t : Nat) : fw_DB := dp D 30 0 (va_up (D 30 0) 0 t)
def tU (A : fw_AD) (D : fw_DB) (h : fw_H) (t : Nat) : fw_H := fw_up h (A 30 0) (kRow A 30 0 (va_up (D 30 0) 0 t))
theorem RD.t {G : fw_G} {n : Nat} {S D : fw_DB} {A : fw_AD} {M : fw_MP} {h : fw_H} (R : RD G n S D A M h) (t : Nat) : RD G n S (sT D t) A M (tU A D h t) := by
  have h30 : 0 < D 99 0 30 := by rw [R.2.1.1.1]; decide
  exact ⟨R.1, IR_c (fun k hk => funext fun j => dp_k hk) R.2.1, R.2.2.1.put (by decide) (R.2.2.1.ok h30), sub_set _ R.2.2.1 (R.2.2.1.lv h30) R.2.2.2.1, R.2.2.2.2⟩
section REF2
variable {G : fw_G} {n : Nat} {S D : fw_DB} {A : fw_AD} {M : fw_MP} {h : fw_H}
theorem n_raises {t : Nat} (R : RD G n S D A M h) : PM G 0 0 0 mm_X17_raises [.ref (A 30 0), .int (nI t)] h (fw_qp 0 (tU A D h t)) := by
  refine pm_of (by decide +kernel) rfl rfl rfl ?_
  iterate 2 refine pw_go tk_X17_raises rfl rfl ?_
  refine pw_put tk_X17_raises rfl fp_X17_28 R.m rfl rfl (Nat.le_of_ble_eq_true rfl) ?_
  refine pw_h (h' := tU A D h t) rfl ?_
  refine pw_go tk_X17_raises rfl rfl ?_
  exact pw_iretp tk_X17_raises rfl rfl
theorem n_thrown (R : RD G n S D A M h) : PM G 0 0 0 mm_X17_thrown [.ref (A 30 0)] h (fw_qp (nI (D 30 0 0)) h) := by
  refine pm_of (by decide +kernel) rfl rfl rfl ?_
  refine pw_go tk_X17_thrown rfl rfl ?_
  refine pw_get tk_X17_thrown rfl fl_X17_28 R.m rfl ?_
  exact pw_iretp tk_X17_thrown rfl rfl
def nwK (S : fw_DB) (x : Int32) : Nat := if knI x (S 99 0 13) = true then 0 else 1
theorem n_noWarrant {x : Int32} (R : RD G n S D A M h) : PM G 2 0 0 mm_X17_noWarrant [.ref (A 30 0), .int x] h (fw_qp (bI (!knI x (S 99 0 13))) (tU A D h (nwK S x))) := by
  refine pm_of (by decide +kernel) rfl rfl rfl ?_
  iterate 3 refine pw_go tk_X17_noWarrant rfl rfl ?_
  refine pw_cvp tk_X17_noWarrant rfl ca_X17_isWarrant lk_X17_98 iv_X17_isWarrant sv_X17_isWarrant R.m rfl rfl (As := [.int x]) (rest := [.ref (A 30 0)]) (n_isWarrant R) rfl rfl rfl rfl ?_
  unfold nwK
  refine pw_ifeqB tk_X17_noWarrant rfl (fun c => ?_) (fun c => ?_)
  · skip
    rw [c, if_neg (by decide)]
    refine pw_go tk_X17_noWarrant rfl rfl ?_
    refine pw_put tk_X17_noWarrant rfl fp_X17_28 R.m rfl rfl (Nat.le_of_ble_eq_true rfl) ?_
    refine pw_h (h' := tU A D h 1) rfl ?_
    refine pw_go tk_X17_noWarrant rfl rfl ?_
    refine pw_get tk_X17_noWarrant rfl fl_X17_28 ((R.t 1).m) rfl ?_
    refine pw_ifN (1) tk_X17_noWarrant rfl rfl (by omega) (fun c2 => ?_) (fun c2 => ?_)
    · have c2 : 1 ≤ 0 := c2
      omega
    iterate 2 refine pw_go tk_X17_noWarrant rfl rfl ?_
    exact pw_zretp (b := true) tk_X17_noWarrant rfl rfl
  · skip
    rw [c, if_pos rfl]
    iterate 2 refine pw_go tk_X17_noWarrant rfl rfl ?_
    refine pw_put tk_X17_noWarrant rfl fp_X17_28 R.m rfl rfl (Nat.le_of_ble_eq_true rfl) ?_
    refine pw_h (h' := tU A D h 0) rfl ?_
    refine pw_go tk_X17_noWarrant rfl rfl ?_
    refine pw_get tk_X17_noWarrant rfl fl_X17_28 ((R.t 0).m) rfl ?_
    refine pw_ifN (0) tk_X17_noWarrant rfl rfl (by omega) (fun c2 => ?_) (fun c2 => ?_)
    · skip
      refine pw_go tk_X17_noWarrant rfl rfl ?_
      exact pw_zretp (b := false) tk_X17_noWarrant rfl rfl
    · have c2 : ¬ 0 ≤ 0 := c2
      omega
theorem n_noPerson {x : Int32} {b : Bool} (R : RD G n S D A M h) : PM G 2 0 0 mm_X17_noPerson [.ref (A 30 0), .int x, .int (bI b)] h (fw_qp (bI (decide (0 < pdK (S 99 0 8) x b))) (tU A D h (pdK (S 99 0 8) x b))) := by
  refine pm_of (by decide +kernel) rfl rfl rfl ?_
  iterate 3 refine pw_go tk_X17_noPerson rfl rfl ?_
  refine pw_cvp tk_X17_noPerson rfl ca_X17_isPerson lk_X17_115 iv_X17_isPerson sv_X17_isPerson R.m rfl rfl (As := [.int x]) (rest := [.ref (A 30 0)]) (n_isPerson R) rfl rfl rfl rfl ?_
  unfold pdK
  refine pw_ifneB tk_X17_noPerson rfl (fun c => ?_) (fun c => ?_)
  · skip
    rw [c, if_neg (by decide)]
    refine pw_go tk_X17_noPerson rfl rfl ?_
    refine pw_ifeqB tk_X17_noPerson rfl (fun c2 => ?_) (fun c2 => ?_)
    · skip
      subst c2
      rw [if_pos rfl]
      refine pw_go tk_X17_noPerson rfl rfl ?_
      refine pw_put tk_X17_noPerson rfl fp_X17_28 R.m rfl rfl (Nat.le_of_ble_eq_true rfl) ?_
      refine pw_h (h' := tU A D h 2) rfl ?_
      refine pw_go tk_X17_noPerson rfl rfl ?_
      refine pw_get tk_X17_noPerson rfl fl_X17_28 ((R.t 2).m) rfl ?_
      refine pw_ifN (2) tk_X17_noPerson rfl rfl (by omega) (fun c2 => ?_) (fun c2 => ?_)
      · have c2 : 2 ≤ 0 := c2
        omega
      iterate 2 refine pw_go tk_X17_noPerson rfl rfl ?_
      exact pw_zretp (b := true) tk_X17_noPerson rfl rfl
    · skip
      subst c2
      rw [if_neg (by decide)]
      iterate 2 refine pw_go tk_X17_noPerson rfl rfl ?_
      refine pw_put tk_X17_noPerson rfl fp_X17_28 R.m rfl rfl (Nat.le_of_ble_eq_true rfl) ?_
      refine pw_h (h' := tU A D h 0) rfl ?_
      refine pw_go tk_X17_noPerson rfl rfl ?_
      refine pw_get tk_X17_noPerson rfl fl_X17_28 ((R.t 0).m) rfl ?_
      refine pw_ifN (0) tk_X17_noPerson rfl rfl (by omega) (fun c2 => ?_) (fun c2 => ?_)
      · skip
        refine pw_go tk_X17_noPerson rfl rfl ?_
        exact pw_zretp (b := false) tk_X17_noPerson rfl rfl
      · have c2 : ¬ 0 ≤ 0 := c2
        omega
  · skip
    rw [c, if_pos rfl]
    iterate 2 refine pw_go tk_X17_noPerson rfl rfl ?_
    refine pw_put tk_X17_noPerson rfl fp_X17_28 R.m rfl rfl (Nat.le_of_ble_eq_true rfl) ?_
    refine pw_h (h' := tU A D h 1) rfl ?_
    refine pw_go tk_X17_noPerson rfl rfl ?_
    refine pw_get tk_X17_noPerson rfl fl_X17_28 ((R.t 1).m) rfl ?_
    refine pw_ifN (1) tk_X17_noPerson rfl rfl (by omega) (fun c2 => ?_) (fun c2 => ?_)
    · have c2 : 1 ≤ 0 := c2
      omega
    iterate 2 refine pw_go tk_X17_noPerson rfl rfl ?_
    exact pw_zretp (b := true) tk_X17_noPerson rfl rfl
def ndK (x : Int32) : Nat := if inI x 0 (nI 19999) = true then 0 else 1
theorem n_noDay {x : Int32} (R : RD G n S D A M h) : PM G 1 0 0 mm_X17_noDay [.ref (A 30 0), .int x] h (fw_qp (bI (!inI x 0 (nI 19999))) (tU A D h (ndK x))) := by
  refine pm_of (by decide +kernel) rfl rfl rfl ?_
  iterate 4 refine pw_go tk_X17_noDay rfl rfl ?_
  refine pw_csp tk_X17_noDay rfl ca_X17_in lk_X17_52 sx_X17_in (As := [.int x, .int 0, .int (nI 19999)]) (rest := [.ref (A 30 0)]) (n_in) rfl rfl rfl rfl ?_
  unfold ndK
  refine pw_ifeqB tk_X17_noDay rfl (fun c => ?_) (fun c => ?_)
  · skip
    rw [c, if_neg (by decide)]
    refine pw_go tk_X17_noDay rfl rfl ?_
    refine pw_put tk_X17_noDay rfl fp_X17_28 R.m rfl rfl (Nat.le_of_ble_eq_true rfl) ?_
    refine pw_h (h' := tU A D h 1) rfl ?_
    refine pw_go tk_X17_noDay rfl rfl ?_
    refine pw_get tk_X17_noDay rfl fl_X17_28 ((R.t 1).m) rfl ?_
    refine pw_ifN (1) tk_X17_noDay rfl rfl (by omega) (fun c2 => ?_) (fun c2 => ?_)
    · have c2 : 1 ≤ 0 := c2
      omega
    iterate 2 refine pw_go tk_X17_noDay rfl rfl ?_
    exact pw_zretp (b := true) tk_X17_noDay rfl rfl
  · skip
    rw [c, if_pos rfl]
    iterate 2 refine pw_go tk_X17_noDay rfl rfl ?_
    refine pw_put tk_X17_noDay rfl fp_X17_28 R.m rfl rfl (Nat.le_of_ble_eq_true rfl) ?_
    refine pw_h (h' := tU A D h 0) rfl ?_
    refine pw_go tk_X17_noDay rfl rfl ?_
    refine pw_get tk_X17_noDay rfl fl_X17_28 ((R.t 0).m) rfl ?_
    refine pw_ifN (0) tk_X17_noDay rfl rfl (by omega) (fun c2 => ?_) (fun c2 => ?_)
    · skip
      refine pw_go tk_X17_noDay rfl rfl ?_
      exact pw_zretp (b := false) tk_X17_noDay rfl rfl
    · have c2 : ¬ 0 ≤ 0 := c2
      omega
theorem n_areTerm {y m t : Int32} : PM G 1 0 0 mm_X17_areTerm [.int y, .int m, .int t] h (fw_qp (bI (tmI y m t)) h) := by
  refine pm_of (by decide +kernel) rfl rfl rfl ?_
  have k35 : tmI y m t = false → PW G mm_X17_areTerm (fw_qp (bI (tmI y m t)) h) 1 0 0 h 35 [(0, .int y), (1, .int m), (2, .int t)] [] := by
    intro e
    rw [e]
    refine pw_go tk_X17_areTerm rfl rfl ?_
    exact pw_zretp (b := false) tk_X17_areTerm rfl rfl
  iterate 3 refine pw_go tk_X17_areTerm rfl rfl ?_
  refine pw_csp tk_X17_areTerm rfl ca_X17_in lk_X17_52 sx_X17_in (As := [.int y, .int 0, .int (nI 40)]) (rest := []) (n_in) rfl rfl rfl rfl ?_
  refine pw_ifeqB tk_X17_areTerm rfl (fun c => k35 (by unfold tmI; rw [c]; rfl)) (fun c => ?_)
  iterate 3 refine pw_go tk_X17_areTerm rfl rfl ?_
  refine pw_csp tk_X17_areTerm rfl ca_X17_in lk_X17_52 sx_X17_in (As := [.int m, .int 0, .int (nI 11)]) (rest := []) (n_in) rfl rfl rfl rfl ?_
  refine pw_ifeqB tk_X17_areTerm rfl (fun c2 => k35 (by unfold tmI; rw [c2]; simp)) (fun c2 => ?_)
  iterate 3 refine pw_go tk_X17_areTerm rfl rfl ?_
  refine pw_csp tk_X17_areTerm rfl ca_X17_in lk_X17_52 sx_X17_in (As := [.int t, .int 0, .int (nI 9999)]) (rest := []) (n_in) rfl rfl rfl rfl ?_
  refine pw_ifeqB tk_X17_areTerm rfl (fun c3 => k35 (by unfold tmI; rw [c3]; simp)) (fun c3 => ?_)
  rw [show tmI y m t = true by unfold tmI; rw [c, c2, c3]; rfl]
  iterate 2 refine pw_go tk_X17_areTerm rfl rfl ?_
  exact pw_zretp (b := true) tk_X17_areTerm rfl rfl
theorem n_areSpan {x y : Int32} : PM G 1 0 0 mm_X17_areSpan [.int x, .int y] h (fw_qp (bI (spI x y)) h) := by
  refine pm_of (by decide +kernel) rfl rfl rfl ?_
  have k28 : spI x y = false → PW G mm_X17_areSpan (fw_qp (bI (spI x y)) h) 1 0 0 h 28 [(0, .int x), (1, .int y)] [] := by
    intro e
    rw [e]
    refine pw_go tk_X17_areSpan rfl rfl ?_
    exact pw_zretp (b := false) tk_X17_areSpan rfl rfl
  iterate 3 refine pw_go tk_X17_areSpan rfl rfl ?_
  refine pw_csp tk_X17_areSpan rfl ca_X17_in lk_X17_52 sx_X17_in (As := [.int x, .int 0, .int (nI 19999)]) (rest := []) (n_in) rfl rfl rfl rfl ?_
  refine pw_ifeqB tk_X17_areSpan rfl (fun c => k28 (by unfold spI; rw [c]; rfl)) (fun c => ?_)
  iterate 3 refine pw_go tk_X17_areSpan rfl rfl ?_
  refine pw_go tk_X17_areSpan rfl rfl ?_
  refine pw_go tk_X17_areSpan rfl rfl ?_
  refine pw_csp tk_X17_areSpan rfl ca_X17_in lk_X17_52 sx_X17_in (As := [.int y, .int (x + 1), .int (nI 20000)]) (rest := []) (n_in) rfl rfl rfl rfl ?_
  refine pw_ifeqB tk_X17_areSpan rfl (fun c2 => k28 (by unfold spI; rw [c2]; simp)) (fun c2 => ?_)
  rw [show spI x y = true by unfold spI; rw [c, c2]; rfl]
  iterate 2 refine pw_go tk_X17_areSpan rfl rfl ?_
  exact pw_zretp (b := true) tk_X17_areSpan rfl rfl
theorem n_warrants (R : RD G n S D A M h) : PM G 1 0 0 mm_X17_warrants [.ref (A 30 0)] h (fw_qp (nI (S 99 0 13)) (tU A D h 0)) := by
  refine pm_of (by decide +kernel) rfl rfl rfl ?_
  iterate 2 refine pw_go tk_X17_warrants rfl rfl ?_
  refine pw_put tk_X17_warrants rfl fp_X17_28 R.m rfl rfl (Nat.le_of_ble_eq_true rfl) ?_
  refine pw_h (h' := tU A D h 0) rfl ?_
  refine pw_go tk_X17_warrants rfl rfl ?_
  refine pw_get tk_X17_warrants rfl fl_X17_19 ((R.t 0).m) rfl ?_
  refine pw_lsz tk_X17_warrants rfl ((R.t 0).l3) rfl rfl rfl ?_
  exact pw_iretp tk_X17_warrants rfl rfl
/-! a warrant of the reference's -/
theorem n_counted {w : Nat} (R : RD G n S D A M h) (hw : w < S 99 0 13) (hb : S 13 w 11 + S 13 w 12 < 1000000) : PM G 0 0 0 mm_X16_counted [.ref (A 53 w)] h (fw_qp (nI (wcn (S 13 w))) h) := by
  refine pm_of (by decide +kernel) rfl rfl rfl ?_
  refine pw_go tk_X16_counted rfl rfl ?_
  refine pw_get tk_X16_counted rfl fl_X16_34 (R.war hw) rfl ?_
  refine pw_go tk_X16_counted rfl rfl ?_
  refine pw_get tk_X16_counted rfl fl_X16_37 (R.war hw) rfl ?_
  refine pw_go tk_X16_counted rfl rfl ?_
  refine pw_divN (S 13 w 12) (2) tk_X16_counted rfl rfl rfl (by omega) (by omega) (by omega) ?_
  refine pw_addN (S 13 w 11) (S 13 w 12 / 2) tk_X16_counted rfl rfl rfl ?_
  exact pw_iretp tk_X16_counted rfl rfl
theorem n_isFixed {w : Nat} (R : RD G n S D A M h) (hw : w < S 99 0 13) (hb : S 13 w 2 < 1000) : PM G 0 0 0 mm_X16_isFixed [.ref (A 53 w)] h (fw_qp (bI (wfx (S 13 w))) h) := by
  refine pm_of (by decide +kernel) rfl rfl rfl ?_
  refine pw_go tk_X16_isFixed rfl rfl ?_
  refine pw_get tk_X16_isFixed rfl fl_X16_21 (R.war hw) rfl ?_
  refine pw_go tk_X16_isFixed rfl rfl ?_
  refine pw_icN (S 13 w 2) (102) tk_X16_isFixed rfl rfl rfl (by omega) (by omega) (fun c => ?_) (fun c => ?_)
  · skip
    have c : S 13 w 2 = 102 := c
    have e : wfx (S 13 w) = true := by unfold wfx; simp [c]
    rw [e]
    iterate 2 refine pw_go tk_X16_isFixed rfl rfl ?_
    exact pw_zretp (b := true) tk_X16_isFixed rfl rfl
  have c : S 13 w 2 ≠ 102 := c
  refine pw_go tk_X16_isFixed rfl rfl ?_
  refine pw_get tk_X16_isFixed rfl fl_X16_21 (R.war hw) rfl ?_
  refine pw_go tk_X16_isFixed rfl rfl ?_
  refine pw_icN (S 13 w 2) (115) tk_X16_isFixed rfl rfl rfl (by omega) (by omega) (fun c2 => ?_) (fun c2 => ?_)
  · skip
    have c2 : S 13 w 2 ≠ 115 := c2
    have e : wfx (S 13 w) = false := by unfold wfx; simp [c, c2]
    rw [e]
    refine pw_go tk_X16_isFixed rfl rfl ?_
    exact pw_zretp (b := false) tk_X16_isFixed rfl rfl
  · skip
    have c2 : S 13 w 2 = 115 := Decidable.not_not.mp c2
    have e : wfx (S 13 w) = true := by unfold wfx; simp [c2]
    rw [e]
    iterate 2 refine pw_go tk_X16_isFixed rfl rfl ?_
    exact pw_zretp (b := true) tk_X16_isFixed rfl rfl
theorem n_counts {w : Nat} (R : RD G n S D A M h) (hw : w < S 99 0 13) (hb : S 13 w 2 < 1000) (h9 : S 13 w 9 ≤ 20000) : PM G 0 0 0 mm_X16_counts [.ref (A 53 w)] h (fw_qp (bI (wct (S 13 w))) h) := by
  refine pm_of (by decide +kernel) rfl rfl rfl ?_
  refine pw_go tk_X16_counts rfl rfl ?_
  refine pw_get tk_X16_counts rfl fl_X16_40 (R.war hw) rfl ?_
  refine pw_ifneB (b := decide (0 < S 13 w 13)) tk_X16_counts rfl (fun c => ?_) (fun c => ?_)
  · skip
    have e : wct (S 13 w) = false := by unfold wct; rw [c]; rfl
    rw [e]
    refine pw_go tk_X16_counts rfl rfl ?_
    exact pw_zretp (b := false) tk_X16_counts rfl rfl
  refine pw_go tk_X16_counts rfl rfl ?_
  refine pw_get tk_X16_counts rfl fl_X16_21 (R.war hw) rfl ?_
  refine pw_go tk_X16_counts rfl rfl ?_
  refine pw_icN (S 13 w 2) (115) tk_X16_counts rfl rfl rfl (by omega) (by omega) (fun c2 => ?_) (fun c2 => ?_)
  · skip
    have c2 : S 13 w 2 ≠ 115 := c2
    have e : wct (S 13 w) = true := by unfold wct wwt; rw [c, decide_eq_false c2]; rfl
    rw [e]
    iterate 2 refine pw_go tk_X16_counts rfl rfl ?_
    exact pw_zretp (b := true) tk_X16_counts rfl rfl
  have c2 : S 13 w 2 = 115 := Decidable.not_not.mp c2
  refine pw_go tk_X16_counts rfl rfl ?_
  refine pw_get tk_X16_counts rfl fl_X16_9 (R.war hw) rfl ?_
  refine pw_go tk_X16_counts rfl rfl ?_
  refine pw_br tk_X16_counts rfl rfl (fun c3 => ?_) (fun c3 => ?_)
  · skip
    have c3 : S 13 w 9 = 0 := (nP_0 (by omega)).mp c3
    have e : wct (S 13 w) = false := by unfold wct wwt; rw [c2, c3]; simp
    rw [e]
    refine pw_go tk_X16_counts rfl rfl ?_
    exact pw_zretp (b := false) tk_X16_counts rfl rfl
  · skip
    have c3 : S 13 w 9 ≠ 0 := fun z => c3 ((nP_0 (by omega)).mpr z)
    have e : wct (S 13 w) = true := by unfold wct wwt; rw [c, decide_eq_false c3, Bool.and_false]; rfl
    rw [e]
    iterate 2 refine pw_go tk_X16_counts rfl rfl ?_
    exact pw_zretp (b := true) tk_X16_counts rfl rfl
theorem n_wlen {w b : Nat} (R : RD G n S D A M h) (hw : w < S 99 0 13) (hb : b < 20000) (h15 : S 15 w 0 ≤ 40 ∧ S 15 w 1 ≤ 11 ∧ S 15 w 2 ≤ 9999) : PM G 5 0 0 mm_X16_length [.ref (A 53 w), .int (nI b)] h (fw_qp (nI (sp_len b (S 15 w 0) (S 15 w 1) (S 15 w 2))) h) := by
  refine pm_of (by decide +kernel) rfl rfl rfl ?_
  iterate 2 refine pw_go tk_X16_length rfl rfl ?_
  refine pw_get tk_X16_length rfl fl_X16_44 (R.war hw) rfl ?_
  refine pw_go tk_X16_length rfl rfl ?_
  refine pw_get tk_X16_length rfl fl_X16_47 (R.war hw) rfl ?_
  refine pw_go tk_X16_length rfl rfl ?_
  refine pw_get tk_X16_length rfl fl_X16_50 (R.war hw) rfl ?_
  refine pw_csN tk_X16_length rfl ca_X17_lengthOf lk_X16_53 sx_X17_lengthOf (As := [.int (nI b), .int (nI (S 15 w 0)), .int (nI (S 15 w 1)), .int (nI (S 15 w 2))]) (rest := [])  (n_lengthOf hb h15.1 h15.2.1 h15.2.2) (fun _ _ z => z) rfl rfl rfl (Nat.le_of_ble_eq_true rfl) (Nat.le_of_eq (Nat.zero_add _)) (Nat.le_of_eq (Nat.zero_add _)) ?_
  rintro _ h2 ⟨x, rfl, e1, e2⟩
  rw [e1, e2]
  exact pw_iretp tk_X16_length rfl rfl
end REF2

