/-! REFERENCE: days, states, keepers, sums -/
section FCO
variable {G : fw_G} {y : fw_M} {Q : fw_Q} {d kc ks : Nat} {h : fw_H} {pc nx a : Nat} {v : Int32} {L : List (Nat × Value)} {st : List Value} {tb : List fw_R}
theorem pw_fc0 (hT : fw_tok y tb) (hr : fw_at tb pc = some (.fconst 0, nx, a, v)) (k : PW G y Q d kc ks h nx L (.float FP.fconst0 :: st)) : PW G y Q d kc ks h pc L st := by
  have hd := fw_row hT hr
  have en : nx = pc + 1 := hd.2.1
  intro p e R s m args below meth c H locs cells slots ls C X
  exact lv_fconst0 C.1 C.2.1 hd.1 (en ▸ k p e R s m args below meth c H locs cells slots ls C X)
theorem pw_dc0 (hT : fw_tok y tb) (hr : fw_at tb pc = some (.dconst 0, nx, a, v)) (k : PW G y Q d kc ks h nx L (.double FP.dconst0 :: st)) : PW G y Q d kc ks h pc L st := by
  have hd := fw_row hT hr
  have en : nx = pc + 1 := hd.2.1
  intro p e R s m args below meth c H locs cells slots ls C X
  exact lv_dconst0 C.1 C.2.1 hd.1 (en ▸ k p e R s m args below meth c H locs cells slots ls C X)
end FCO
section REFD
variable {G : fw_G} {n : Nat} {S D : fw_DB} {A : fw_AD} {M : fw_MP} {h : fw_H}
def dyK (y m t : Int32) : Nat := if doD y m t ≤ 19999 then 0 else 1
theorem m_dayOf {y m t : Int32} (R : RD G n S D A M h) : PM G 3 0 0 mm_X17_dayOf [.ref (A 30 0), .int y, .int m, .int t] h (fw_qI (fun r h' => rdn S D A (dyK y m t) h' ∧ (dyK y m t = 0 → r = nI (doD y m t))) fw_noX) := by
  refine pm_of (by decide +kernel) rfl rfl rfl ?_
  have k73 : ∀ g, doD y m t ≤ 21000000 → PW G mm_X17_dayOf (fw_qI (fun r h' => rdn S D A (dyK y m t) h' ∧ (dyK y m t = 0 → r = nI (doD y m t))) fw_noX) 3 0 0 h 73 [(4, .int g), (0, .ref (A 30 0)), (1, .int y), (2, .int m), (3, .int t)] [.int (nI (doD y m t))] := by
    intro g hle
    unfold dyK
    generalize doD y m t = v at *
    iterate 4 refine pw_go tk_X17_dayOf rfl rfl ?_
    refine pw_icN (v) (19999) tk_X17_dayOf rfl rfl rfl (by omega) (by omega) (fun c => ?_) (fun c => ?_)
    · have c : 19999 < v := c
      rw [if_neg (by omega)]
      refine pw_go tk_X17_dayOf rfl rfl ?_
      refine pw_put tk_X17_dayOf rfl fp_X17_28 R.m rfl rfl (Nat.le_of_ble_eq_true rfl) ?_
      refine pw_h (h' := tU A D h 1) rfl ?_
      refine pw_go tk_X17_dayOf rfl rfl ?_
      refine pw_get tk_X17_dayOf rfl fl_X17_28 ((R.t 1).m) rfl ?_
      refine pw_ifN (1) tk_X17_dayOf rfl rfl (by omega) (fun c => absurd (show 1 ≤ 0 from c) (by omega)) (fun _ => ?_)
      iterate 2 refine pw_go tk_X17_dayOf rfl rfl ?_
      exact pw_iret tk_X17_dayOf rfl rfl rfl ⟨_, rfl, rdn_of (R.t 1), fun z => absurd z (by decide)⟩
    · have c : ¬ 19999 < v := c
      rw [if_pos (by omega)]
      iterate 2 refine pw_go tk_X17_dayOf rfl rfl ?_
      refine pw_put tk_X17_dayOf rfl fp_X17_28 R.m rfl rfl (Nat.le_of_ble_eq_true rfl) ?_
      refine pw_h (h' := tU A D h 0) rfl ?_
      refine pw_go tk_X17_dayOf rfl rfl ?_
      refine pw_get tk_X17_dayOf rfl fl_X17_28 ((R.t 0).m) rfl ?_
      refine pw_ifN (0) tk_X17_dayOf rfl rfl (by omega) (fun _ => ?_) (fun c => absurd (show 0 ≤ 0 by omega) c)
      refine pw_go tk_X17_dayOf rfl rfl ?_
      exact pw_iret tk_X17_dayOf rfl rfl rfl ⟨_, rfl, rdn_of (R.t 0), fun _ => rfl⟩
  have k40 : (inI y (nI 2000) (nI 2054) && (inI m 1 (nI 12) && inI t 1 (nI (cal_dm (cal_lp y.toNatClampNeg) m.toNatClampNeg)))) = false → PW G mm_X17_dayOf (fw_qI (fun r h' => rdn S D A (dyK y m t) h' ∧ (dyK y m t = 0 → r = nI (doD y m t))) fw_noX) 3 0 0 h 40 [(0, .ref (A 30 0)), (1, .int y), (2, .int m), (3, .int t)] [] := by
    intro e
    have e2 : doD y m t = 20000 := by
      unfold doD
      rw [e, if_neg (by decide)]
    iterate 3 refine pw_go tk_X17_dayOf rfl rfl ?_
    refine pw_ifeqB (b := false) tk_X17_dayOf rfl (fun _ => ?_) (fun c => absurd c (by decide))
    refine pw_go tk_X17_dayOf rfl rfl ?_
    refine pw_e (st2 := [.int (nI (doD y m t))]) (by rw [e2]; rfl) ?_
    exact pw_W (k73 0 (by omega)) ⟨rfl, rfl, rfl, rfl, rfl, trivial⟩
  iterate 3 refine pw_go tk_X17_dayOf rfl rfl ?_
  refine pw_csp tk_X17_dayOf rfl ca_X17_in lk_X17_52 sx_X17_in (As := [.int y, .int (nI 2000), .int (nI 2054)]) (rest := []) (n_in) rfl rfl rfl rfl ?_
  cases ey : inI y (nI 2000) (nI 2054) with
  | false =>
    refine pw_ifeqB tk_X17_dayOf rfl (fun _ => ?_) (fun c => absurd c (by decide))
    exact k40 (by rw [ey]; rfl)
  | true =>
    obtain ⟨yy, rfl, y1, y2⟩ := inI_N ey (by omega) (by omega)
    refine pw_ifeqB tk_X17_dayOf rfl (fun c => absurd c (by decide)) (fun _ => ?_)
    iterate 3 refine pw_go tk_X17_dayOf rfl rfl ?_
    refine pw_csp tk_X17_dayOf rfl ca_X17_in lk_X17_52 sx_X17_in (As := [.int m, .int 1, .int (nI 12)]) (rest := []) (n_in) rfl rfl rfl rfl ?_
    cases em : inI m 1 (nI 12) with
    | false =>
      refine pw_ifeqB tk_X17_dayOf rfl (fun _ => ?_) (fun c => absurd c (by decide))
      exact k40 (by rw [em, Bool.false_and, Bool.and_false])
    | true =>
      obtain ⟨mm, rfl, m1, m2⟩ := inI_N (a := 1) em (by omega) (by omega)
      refine pw_ifeqB tk_X17_dayOf rfl (fun c => absurd c (by decide)) (fun _ => ?_)
      iterate 4 refine pw_go tk_X17_dayOf rfl rfl ?_
      refine pw_csp tk_X17_dayOf rfl ca_X17_daysOf lk_X17_36 sx_X17_daysOf (As := [.int (nI yy), .int (nI mm)]) (rest := [.int 1, .int t]) (n_daysOf (by omega) (by omega)) rfl rfl rfl rfl ?_
      refine pw_csp tk_X17_dayOf rfl ca_X17_in lk_X17_52 sx_X17_in (As := [.int t, .int 1, .int (nI (cal_dm (cal_lp yy) mm))]) (rest := []) (n_in) rfl rfl rfl rfl ?_
      have hdm := (cal_dm_lo (cal_lp yy) mm).2
      cases et : inI t 1 (nI (cal_dm (cal_lp yy) mm)) with
      | false =>
        refine pw_ifeqB tk_X17_dayOf rfl (fun _ => ?_) (fun c => absurd c (by decide))
        exact k40 (by rw [nI_tn (by omega), nI_tn (by omega), et, Bool.and_false, Bool.and_false])
      | true =>
        obtain ⟨tt, rfl, t1, t2⟩ := inI_N (a := 1) et (by omega) (by omega)
        obtain ⟨p, rfl⟩ : ∃ p, yy = 2000 + p := ⟨yy - 2000, by omega⟩
        have e : doD (nI (2000 + p)) (nI mm) (nI tt) = cal_f (12 * p + (mm - 1)) + (tt - 1) := by
          unfold doD
          rw [ey, em, nI_tn (by omega), nI_tn (by omega), nI_tn (by omega), et, Nat.add_sub_cancel_left]
          rfl
        have hb := cal_f_up (12 * p + (mm - 1)) (by omega)
        refine pw_ifeqB tk_X17_dayOf rfl (fun c => absurd c (by decide)) (fun _ => ?_)
        iterate 4 refine pw_go tk_X17_dayOf rfl rfl ?_
        refine pw_ifeqB (b := true) tk_X17_dayOf rfl (fun c => absurd c (by decide)) (fun _ => ?_)
        iterate 3 refine pw_go tk_X17_dayOf rfl rfl ?_
        refine pw_subN (2000 + p) (2000) tk_X17_dayOf rfl rfl rfl (by omega) ?_
        refine pw_mulN (12) (2000 + p - 2000) tk_X17_dayOf rfl rfl rfl ?_
        refine pw_go tk_X17_dayOf rfl rfl ?_
        refine pw_addN (12 * (2000 + p - 2000)) (mm) tk_X17_dayOf rfl rfl rfl ?_
        refine pw_go tk_X17_dayOf rfl rfl ?_
        refine pw_subN (12 * (2000 + p - 2000) + mm) (1) tk_X17_dayOf rfl rfl rfl (by omega) ?_
        refine pw_i (x' := nI (12 * p + (mm - 1))) (congrArg nI (by omega)) ?_
        refine pw_csp tk_X17_dayOf rfl ca_X17_firstOf lk_X17_40 sx_X17_firstOf (As := [.int (nI (12 * p + (mm - 1)))]) (rest := []) (n_firstOf (by omega)) rfl rfl rfl rfl ?_
        refine pw_go tk_X17_dayOf rfl rfl ?_
        refine pw_addN (cal_f (12 * p + (mm - 1))) (tt) tk_X17_dayOf rfl rfl rfl ?_
        refine pw_go tk_X17_dayOf rfl rfl ?_
        refine pw_subN (cal_f (12 * p + (mm - 1)) + tt) (1) tk_X17_dayOf rfl rfl rfl (by omega) ?_
        refine pw_i (x' := nI (doD (nI (2000 + p)) (nI mm) (nI tt))) (congrArg nI (by omega)) ?_
        refine pw_go tk_X17_dayOf rfl rfl ?_
        exact pw_W (k73 1 (by omega)) ⟨rfl, rfl, rfl, rfl, rfl, trivial⟩
theorem m_dateOf {x : Int32} (R : RD G n S D A M h) : PM G 4 0 0 mm_X17_dateOf [.ref (A 30 0), .int x] h (fw_qI (fun r h' => rdn S D A (ndK x) h' ∧ (ndK x = 0 → r = nI (sp_date x.toNatClampNeg))) fw_noX) := by
  refine pm_of (by decide +kernel) rfl rfl rfl ?_
  iterate 2 refine pw_go tk_X17_dateOf rfl rfl ?_
  refine pw_cv tk_X17_dateOf rfl ca_X17_noDay lk_X17_56 iv_X17_noDay sv_X17_noDay R.m rfl rfl (As := [.int x]) (rest := [])  (n_noDay R) rfl rfl rfl (Nat.le_of_ble_eq_true rfl) (Nat.le_of_eq (Nat.zero_add _)) (Nat.le_of_eq (Nat.zero_add _)) ?_ ?_
  · rintro _ H ⟨_, rfl, rfl, e9⟩
    rw [e9]
    have R1 := R.t (ndK x)
    cases hk : inI x 0 (nI 19999) with
    | false =>
      refine pw_ifeqB tk_X17_dateOf rfl (fun c => absurd c (by decide)) (fun _ => ?_)
      refine pw_go tk_X17_dateOf rfl rfl ?_
      exact pw_iret tk_X17_dateOf rfl rfl rfl ⟨_, rfl, rdn_of R1, fun z => absurd z (by unfold ndK; rw [hk]; decide)⟩
    | true =>
      obtain ⟨d, rfl, -, hd⟩ := inI_N (a := 0) hk (by omega) (by omega)
      obtain ⟨a1, a2, a3⟩ := cal_m_spec (d := d) (by omega)
      have hml := cal_m_lt (d := d) (by omega)
      refine pw_ifeqB tk_X17_dateOf rfl (fun _ => ?_) (fun c => absurd c (by decide))
      refine pw_go tk_X17_dateOf rfl rfl ?_
      refine pw_csp tk_X17_dateOf rfl ca_X17_monthOf lk_X17_44 sx_X17_monthOf (As := [.int (nI d)]) (rest := []) (n_monthOf (by omega)) rfl rfl rfl rfl ?_
      iterate 5 refine pw_go tk_X17_dateOf rfl rfl ?_
      refine pw_divN (cal_m d) (12) tk_X17_dateOf rfl rfl rfl (by omega) (by omega) (by omega) ?_
      refine pw_addN (2000) (cal_m d / 12) tk_X17_dateOf rfl rfl rfl ?_
      refine pw_mulN (10000) (2000 + cal_m d / 12) tk_X17_dateOf rfl rfl rfl ?_
      iterate 3 refine pw_go tk_X17_dateOf rfl rfl ?_
      refine pw_remN (cal_m d) (12) tk_X17_dateOf rfl rfl rfl (by omega) (by omega) (by omega) ?_
      refine pw_go tk_X17_dateOf rfl rfl ?_
      refine pw_addN (cal_m d % 12) (1) tk_X17_dateOf rfl rfl rfl ?_
      refine pw_mulN (100) (cal_m d % 12 + 1) tk_X17_dateOf rfl rfl rfl ?_
      refine pw_addN (10000 * (2000 + cal_m d / 12)) (100 * (cal_m d % 12 + 1)) tk_X17_dateOf rfl rfl rfl ?_
      refine pw_go tk_X17_dateOf rfl rfl ?_
      refine pw_addN (10000 * (2000 + cal_m d / 12) + 100 * (cal_m d % 12 + 1)) (d) tk_X17_dateOf rfl rfl rfl ?_
      refine pw_go tk_X17_dateOf rfl rfl ?_
      refine pw_csp tk_X17_dateOf rfl ca_X17_firstOf lk_X17_40 sx_X17_firstOf (As := [.int (nI (cal_m d))]) (rest := [.int (nI (10000 * (2000 + cal_m d / 12) + 100 * (cal_m d % 12 + 1) + d))]) (n_firstOf (by omega)) rfl rfl rfl rfl ?_
      refine pw_subN (10000 * (2000 + cal_m d / 12) + 100 * (cal_m d % 12 + 1) + d) (cal_f (cal_m d)) tk_X17_dateOf rfl rfl rfl (by omega) ?_
      refine pw_go tk_X17_dateOf rfl rfl ?_
      refine pw_addN (10000 * (2000 + cal_m d / 12) + 100 * (cal_m d % 12 + 1) + d - cal_f (cal_m d)) (1) tk_X17_dateOf rfl rfl rfl ?_
      refine pw_i (x' := nI (sp_date d)) (congrArg nI (by unfold sp_date cal_o; omega)) ?_
      exact pw_iret tk_X17_dateOf rfl rfl rfl ⟨_, rfl, rdn_of R1, fun _ => by rw [nI_tn (by omega)]⟩
  · exact fun _ _ z => z.elim
def leK (x y m t : Int32) : Nat := if (inI x 0 (nI 19999) && tmI y m t) = true then 0 else 1
theorem m_length {x y m t : Int32} (R : RD G n S D A M h) : PM G 5 0 0 mm_X17_length [.ref (A 30 0), .int x, .int y, .int m, .int t] h (fw_qI (fun r h' => rdn S D A (leK x y m t) h' ∧ (leK x y m t = 0 → r = nI (sp_len x.toNatClampNeg y.toNatClampNeg m.toNatClampNeg t.toNatClampNeg))) fw_noX) := by
  refine pm_of (by decide +kernel) rfl rfl rfl ?_
  have k26 : (inI x 0 (nI 19999) && tmI y m t) = false → PW G mm_X17_length (fw_qI (fun r h' => rdn S D A (leK x y m t) h' ∧ (leK x y m t = 0 → r = nI (sp_len x.toNatClampNeg y.toNatClampNeg m.toNatClampNeg t.toNatClampNeg))) fw_noX) 5 0 0 h 26 [(0, .ref (A 30 0)), (1, .int x), (2, .int y), (3, .int m), (4, .int t)] [.ref (A 30 0)] := by
    intro e
    unfold leK
    rw [e, if_neg (by decide)]
    refine pw_go tk_X17_length rfl rfl ?_
    refine pw_put tk_X17_length rfl fp_X17_28 R.m rfl rfl (Nat.le_of_ble_eq_true rfl) ?_
    refine pw_h (h' := tU A D h 1) rfl ?_
    refine pw_go tk_X17_length rfl rfl ?_
    refine pw_get tk_X17_length rfl fl_X17_28 ((R.t 1).m) rfl ?_
    refine pw_ifN (1) tk_X17_length rfl rfl (by omega) (fun c => absurd (show 1 ≤ 0 from c) (by omega)) (fun _ => ?_)
    iterate 2 refine pw_go tk_X17_length rfl rfl ?_
    exact pw_iret tk_X17_length rfl rfl rfl ⟨_, rfl, rdn_of (R.t 1), fun z => absurd z (by decide)⟩
  iterate 4 refine pw_go tk_X17_length rfl rfl ?_
  refine pw_csp tk_X17_length rfl ca_X17_in lk_X17_52 sx_X17_in (As := [.int x, .int 0, .int (nI 19999)]) (rest := [.ref (A 30 0)]) (n_in) rfl rfl rfl rfl ?_
  refine pw_ifeqB tk_X17_length rfl (fun c => k26 (by rw [c]; rfl)) (fun c => ?_)
  iterate 3 refine pw_go tk_X17_length rfl rfl ?_
  refine pw_csp tk_X17_length rfl ca_X17_areTerm lk_X17_59 sx_X17_areTerm (As := [.int y, .int m, .int t]) (rest := [.ref (A 30 0)]) (n_areTerm) rfl rfl rfl rfl ?_
  refine pw_ifeqB tk_X17_length rfl (fun c2 => k26 (by rw [c2, Bool.and_false])) (fun c2 => ?_)
  have e : leK x y m t = 0 := by
    unfold leK
    rw [c, c2]
    rfl
  rw [e]
  obtain ⟨d, rfl, -, hd⟩ := inI_N (a := 0) c (by omega) (by omega)
  unfold tmI at c2
  rw [Bool.and_eq_true, Bool.and_eq_true] at c2
  obtain ⟨y1, rfl, -, hy⟩ := inI_N (a := 0) c2.1.1 (by omega) (by omega)
  obtain ⟨m1, rfl, -, hm⟩ := inI_N (a := 0) c2.1.2 (by omega) (by omega)
  obtain ⟨t1, rfl, -, ht⟩ := inI_N (a := 0) c2.2 (by omega) (by omega)
  iterate 2 refine pw_go tk_X17_length rfl rfl ?_
  refine pw_put tk_X17_length rfl fp_X17_28 R.m rfl rfl (Nat.le_of_ble_eq_true rfl) ?_
  refine pw_h (h' := tU A D h 0) rfl ?_
  refine pw_go tk_X17_length rfl rfl ?_
  refine pw_get tk_X17_length rfl fl_X17_28 ((R.t 0).m) rfl ?_
  refine pw_ifN (0) tk_X17_length rfl rfl (by omega) (fun _ => ?_) (fun c => absurd (show 0 ≤ 0 by omega) c)
  iterate 4 refine pw_go tk_X17_length rfl rfl ?_
  refine pw_csp tk_X17_length rfl ca_X17_lengthOf lk_X17_62 sx_X17_lengthOf (As := [.int (nI d), .int (nI y1), .int (nI m1), .int (nI t1)]) (rest := []) (n_lengthOf (by omega) hy hm ht) rfl rfl rfl rfl ?_
  exact pw_iret tk_X17_length rfl rfl rfl ⟨_, rfl, rdn_of (R.t 0), fun _ => by rw [nI_tn (by omega), nI_tn (by omega), nI_tn (by omega), nI_tn (by omega)]⟩
theorem pd0 {N : Nat} {x : Int32} {b : Bool} (e : pdK N x b = 0) : knI x N = true ∧ b = true := by
  unfold pdK at e
  cases h1 : knI x N <;> cases h2 : b <;> simp [h1, h2] at e ⊢
theorem pdlt {N : Nat} {x : Int32} {b : Bool} : pdK N x b < 3 := by
  unfold pdK
  split
  · omega
  · split <;> omega
theorem m_stateOn {x y : Int32} (R : RD G n S D A M h) : PM G 9 194 2356 mm_X17_stateOn [.ref (A 30 0), .int x, .int y] h (fw_qI (fun r h' => rdn S D A (pdK (S 99 0 8) x (inI y 0 (nI 19999))) h' ∧ (pdK (S 99 0 8) x (inI y 0 (nI 19999)) = 0 → r = nI (stS S x.toNatClampNeg y.toNatClampNeg)) ∧ narrow .char (.int r) = .int r) fw_noX) := by
  refine pm_of (by decide +kernel) rfl rfl rfl ?_
  have hN := R.n7
  iterate 5 refine pw_go tk_X17_stateOn rfl rfl ?_
  refine pw_csp tk_X17_stateOn rfl ca_X17_in lk_X17_52 sx_X17_in (As := [.int y, .int 0, .int (nI 19999)]) (rest := [.int x, .ref (A 30 0)]) (n_in) rfl rfl rfl rfl ?_
  refine pw_cv tk_X17_stateOn rfl ca_X17_noPerson lk_X17_181 iv_X17_noPerson sv_X17_noPerson R.m rfl rfl (As := [.int x, .int (bI (inI y 0 (nI 19999)))]) (rest := [])  (n_noPerson R) rfl rfl rfl (Nat.le_of_ble_eq_true rfl) (Nat.le_of_eq (Nat.zero_add _)) (Nat.le_of_eq (Nat.zero_add _)) ?_ ?_
  · rintro _ H ⟨_, rfl, rfl, e9⟩
    rw [e9]
    have R1 := R.t (pdK (S 99 0 8) x (inI y 0 (nI 19999)))
    by_cases hk : 0 < pdK (S 99 0 8) x (inI y 0 (nI 19999))
    · rw [decide_eq_true hk]
      refine pw_ifeqB tk_X17_stateOn rfl (fun c => absurd c (by decide)) (fun _ => ?_)
      iterate 2 refine pw_go tk_X17_stateOn rfl rfl ?_
      exact pw_iret tk_X17_stateOn rfl rfl rfl ⟨_, rfl, rdn_of R1, fun z => absurd z (by omega), rfl⟩
    · have hk0 : pdK (S 99 0 8) x (inI y 0 (nI 19999)) = 0 := by omega
      obtain ⟨h1, h2⟩ := pd0 hk0
      obtain ⟨p, hp, rfl⟩ := knI_to h1 (by omega)
      obtain ⟨d, rfl, -, hd⟩ := inI_N (a := 0) h2 (by omega) (by omega)
      rw [decide_eq_false hk]
      rw [hk0] at R1
      rw [hk0]
      refine pw_ifeqB tk_X17_stateOn rfl (fun _ => ?_) (fun c => absurd c (by decide))
      iterate 4 refine pw_go tk_X17_stateOn rfl rfl ?_
      refine pw_cv tk_X17_stateOn rfl ca_X17_facts lk_X17_294 iv_X17_facts sv_X17_facts R1.m rfl rfl (As := []) (rest := [.int (nI d), .int (nI p), .ref (A 30 0)]) (kc' := 1) (ks' := 4) (n_facts R1) rfl rfl rfl (Nat.le_of_ble_eq_true rfl) (show 193 + 1 ≤ 194 by omega) (show 2352 + 4 ≤ 2356 by omega) ?_ ?_
      · rintro _ H2 ⟨_, rfl, q, ad, rfl, s1, F⟩
        have R2 := R1.mono s1
        refine pw_cv tk_X17_stateOn rfl ca_X17_stateOf lk_X17_298 iv_X17_stateOf sv_X17_stateOf R2.m rfl rfl (As := [.int (nI p), .int (nI d), .ref q]) (rest := []) (kc' := 0) (ks' := 0) (n_stateOf R2 F hp (by omega)) rfl rfl rfl (Nat.le_of_ble_eq_true rfl) (Nat.le_refl _) (Nat.le_refl _) ?_ ?_
        · rintro _ H3 ⟨_, rfl, rfl, e8⟩
          rw [e8]
          refine pw_iret tk_X17_stateOn rfl rfl (nar_c stS_lt) ⟨_, rfl, rdn_of R2, fun _ => by rw [nI_tn (by omega), nI_tn (by omega)], nar_c stS_lt⟩
        · exact fun _ _ z => z.elim
      · exact fun _ _ z => z.elim
  · exact fun _ _ z => z.elim
theorem m_byClerk {x y : Int32} (R : RD G n S D A M h) : PM G 10 194 2356 mm_X17_byClerk [.ref (A 30 0), .int x, .int y] h (fw_qI (fun r h' => rdn S D A (pdK (S 99 0 8) x (inI y 0 (nI 19999))) h' ∧ (pdK (S 99 0 8) x (inI y 0 (nI 19999)) = 0 → r = nI (stS S x.toNatClampNeg y.toNatClampNeg)) ∧ narrow .char (.int r) = .int r) fw_noX) := by
  refine pm_of (by decide +kernel) rfl rfl rfl ?_
  iterate 3 refine pw_go tk_X17_byClerk rfl rfl ?_
  refine pw_cv tk_X17_byClerk rfl ca_X17_stateOn lk_X17_309 iv_X17_stateOn sv_X17_stateOn R.m rfl rfl (As := [.int x, .int y]) (rest := []) (kc' := 0) (ks' := 0) (m_stateOn R) rfl rfl rfl (Nat.le_of_ble_eq_true rfl) (Nat.le_refl _) (Nat.le_refl _) ?_ ?_
  · rintro _ H ⟨r, rfl, h1, h2, h3⟩
    exact pw_iret tk_X17_byClerk rfl rfl h3 ⟨_, rfl, h1, h2, h3⟩
  · exact fun _ _ z => z.elim
theorem m_warrants (R : RD G n S D A M h) : PM G 1 0 0 mm_X17_warrants [.ref (A 30 0)] h (fw_qI (fun r h' => rdn S D A 0 h' ∧ r = nI (S 99 0 13)) fw_noX) := by
  refine pm_of (by decide +kernel) rfl rfl rfl ?_
  iterate 2 refine pw_go tk_X17_warrants rfl rfl ?_
  refine pw_put tk_X17_warrants rfl fp_X17_28 R.m rfl rfl (Nat.le_of_ble_eq_true rfl) ?_
  refine pw_h (h' := tU A D h 0) rfl ?_
  refine pw_go tk_X17_warrants rfl rfl ?_
  refine pw_get tk_X17_warrants rfl fl_X17_19 ((R.t 0).m) rfl ?_
  refine pw_lsz tk_X17_warrants rfl ((R.t 0).l3) rfl rfl rfl ?_
  exact pw_iret tk_X17_warrants rfl rfl rfl ⟨_, rfl, rdn_of (R.t 0), rfl⟩
theorem m_isTrue (R : RD G n S D A M h) : PM G 1 0 0 mm_X17_isTrue [.ref (A 30 0)] h (fw_qI (fun r h' => rdn S D A 0 h' ∧ r = 1) fw_noX) := by
  refine pm_of (by decide +kernel) rfl rfl rfl ?_
  iterate 2 refine pw_go tk_X17_isTrue rfl rfl ?_
  refine pw_put tk_X17_isTrue rfl fp_X17_28 R.m rfl rfl (Nat.le_of_ble_eq_true rfl) ?_
  refine pw_h (h' := tU A D h 0) rfl ?_
  refine pw_go tk_X17_isTrue rfl rfl ?_
  exact pw_iret tk_X17_isTrue rfl rfl rfl ⟨_, rfl, rdn_of (R.t 0), rfl⟩
end REFD

