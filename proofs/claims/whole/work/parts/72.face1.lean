/-! the face: the calendar, and what follows from the warrants -/
section FACE1
variable {G : fw_G} {D : fw_DB} {A : fw_AD} {M : fw_MP} {n : Nat} {h : fw_H}
/-- but what is reckoned anew, all is as it was -/
def kept (n : Nat) (D : fw_DB) (A : fw_AD) (M : fw_MP) (h' : fw_H) : Prop := ∃ D', h' = hp M A D' ∧ IC n D' A M ∧ sc D D'
def exI (k : Nat) (E : String) (l : List (Nat × String)) : Prop := (k, E) ∈ l
/-- a day told by year, month and date; 20000 if there is none -/
def doD (y m t : Int32) : Nat := if (inI y (nI 2000) (nI 2054) && (inI m 1 (nI 12) && inI t 1 (nI (cal_dm (cal_lp y.toNatClampNeg) m.toNatClampNeg)))) = true then cal_f (12 * (y.toNatClampNeg - 2000) + (m.toNatClampNeg - 1)) + (t.toNatClampNeg - 1) else 20000
theorem nI_tn {k : Nat} (h : k < 2147483648) : (nI k).toNatClampNeg = k := by
  show (nI k).toInt.toNat = k
  rw [nI_toInt h]
  omega
theorem md_0 {lp : Bool} {x : Int32} (h : inI x 1 (nI 12) = false) : md lp x = 0 := by
  unfold md
  rw [if_neg (fun z => ?_)]
  have : inI x 1 (nI 12) = true := inI_iff.mpr z
  rw [h] at this
  cases this
theorem f_dayOf {a : Nat} {y m t : Int32} (hl : G.1.stackTraces = false) : PM G 2 3 18 mm_X10_dayOf [.ref a, .int y, .int m, .int t] h (fw_qI (fun x h' => h' = h ∧ doD y m t ≤ 19999 ∧ x = nI (doD y m t)) (fun E h' => E = eIA ∧ h' = h ∧ ¬ doD y m t ≤ 19999)) := by
  refine pm_of (by decide +kernel) rfl rfl rfl ?_
  have nd : (inI y (nI 2000) (nI 2054) && (inI m 1 (nI 12) && inI t 1 (nI (cal_dm (cal_lp y.toNatClampNeg) m.toNatClampNeg)))) = false → ¬ doD y m t ≤ 19999 := fun e => by
    unfold doD
    rw [e, if_neg (by decide)]
    omega
  have k14 : inI y (nI 2000) (nI 2054) = false → PW G mm_X10_dayOf (fw_qI (fun x h' => h' = h ∧ doD y m t ≤ 19999 ∧ x = nI (doD y m t)) (fun E h' => E = eIA ∧ h' = h ∧ ¬ doD y m t ≤ 19999)) 2 3 18 h 14 [(0, .ref a), (1, .int y), (2, .int m), (3, .int t)] [] := by
    intro e
    exact pw_throw hl rfl th_46_44 tk_X10_dayOf rfl rfl rfl rfl rfl rfl ⟨rfl, rfl, nd (by rw [e]; rfl)⟩
  have k41 : (inI m 1 (nI 12) && inI t 1 (nI (cal_dm (cal_lp y.toNatClampNeg) m.toNatClampNeg))) = false → PW G mm_X10_dayOf (fw_qI (fun x h' => h' = h ∧ doD y m t ≤ 19999 ∧ x = nI (doD y m t)) (fun E h' => E = eIA ∧ h' = h ∧ ¬ doD y m t ≤ 19999)) 2 3 18 h 41 [(0, .ref a), (1, .int y), (2, .int m), (3, .int t)] [] := by
    intro e
    exact pw_throw hl rfl th_46_57 tk_X10_dayOf rfl rfl rfl rfl rfl rfl ⟨rfl, rfl, nd (by rw [e, Bool.and_false])⟩
  iterate 2 refine pw_go tk_X10_dayOf rfl rfl ?_
  refine pw_br tk_X10_dayOf rfl rfl (fun c => k14 ?_) (fun c => ?_)
  · have c : y < nI 2000 := c
    unfold inI
    rw [decide_eq_false (fun z => (i_nlt.mpr z) c)]
    rfl
  iterate 2 refine pw_go tk_X10_dayOf rfl rfl ?_
  refine pw_br tk_X10_dayOf rfl rfl (fun c2 => ?_) (fun c2 => k14 ?_)
  · have c : ¬ y < nI 2000 := c
    have c2 : y ≤ nI 2054 := c2
    have ey : inI y (nI 2000) (nI 2054) = true := inI_iff.mpr ⟨i_nlt.mp c, c2⟩
    obtain ⟨yy, rfl, y1, y2⟩ := inI_N ey (by omega) (by omega)
    have nd2 : (inI m 1 (nI 12) && inI t 1 (nI (cal_dm (cal_lp yy) m.toNatClampNeg))) = true → doD (nI yy) m t = cal_f (12 * (yy - 2000) + (m.toNatClampNeg - 1)) + (t.toNatClampNeg - 1) := fun e => by
      unfold doD
      rw [ey, Bool.true_and, nI_tn (by omega), e, if_pos rfl]
    rw [nI_tn (by omega)] at k41
    iterate 2 refine pw_go tk_X10_dayOf rfl rfl ?_
    refine pw_br tk_X10_dayOf rfl rfl (fun c3 => k41 ?_) (fun c3 => ?_)
    · have c3 : t < 1 := c3
      have : inI t 1 (nI (cal_dm (cal_lp yy) m.toNatClampNeg)) = false := by
        unfold inI
        rw [decide_eq_false (fun z => (i_nlt.mpr z) c3)]
        rfl
      rw [this, Bool.and_false]
    have c3 : ¬ t < 1 := c3
    iterate 2 refine pw_go tk_X10_dayOf rfl rfl ?_
    refine pw_csp tk_X10_dayOf rfl ca_X1_isLeap lk_X10_49 sx_X1_isLeap (As := [.int (nI yy)]) (rest := [.int t]) (c_isLeap (by omega)) rfl rfl rfl rfl ?_
    refine pw_go tk_X10_dayOf rfl rfl ?_
    refine pw_csp tk_X10_dayOf rfl ca_X1_daysOfMonth lk_X10_53 sx_X1_daysOfMonth (As := [.int (bI (cal_lp yy)), .int m]) (rest := [.int t]) (c_daysOfMonth) rfl rfl rfl rfl ?_
    have em : ∀ e : inI m 1 (nI 12) = true, md (cal_lp yy) m = nI (cal_dm (cal_lp yy) m.toNatClampNeg) := fun e => by
      unfold md
      exact if_pos (inI_iff.mp e)
    refine pw_br tk_X10_dayOf rfl rfl (fun c4 => ?_) (fun c4 => k41 ?_)
    · have c4 : t ≤ md (cal_lp yy) m := c4
      have e1 : inI m 1 (nI 12) = true := by
        cases hq : inI m 1 (nI 12) with
        | true => rfl
        | false =>
          rw [md_0 hq] at c4
          exact absurd (Int32.lt_of_le_of_lt c4 (by decide)) c3
      rw [em e1] at c4
      have e2 : inI t 1 (nI (cal_dm (cal_lp yy) m.toNatClampNeg)) = true := inI_iff.mpr ⟨i_nlt.mp c3, c4⟩
      have nd2 := nd2 (by rw [e1, e2]; rfl)
      have hdm := (cal_dm_lo (cal_lp yy) m.toNatClampNeg).2
      obtain ⟨mm, rfl, m1, m2⟩ := inI_N (a := 1) e1 (by omega) (by omega)
      obtain ⟨tt, rfl, t1, t2⟩ := inI_N (a := 1) e2 (by omega) (by omega)
      rw [nI_tn (by omega), nI_tn (by omega)] at nd2
      obtain ⟨p, rfl⟩ : ∃ p, yy = 2000 + p := ⟨yy - 2000, by omega⟩
      rw [Nat.add_sub_cancel_left] at nd2
      iterate 3 refine pw_go tk_X10_dayOf rfl rfl ?_
      refine pw_csp tk_X10_dayOf rfl ca_X1_numberOf lk_X10_59 sx_X1_numberOf (As := [.int (nI (2000 + p)), .int (nI mm), .int (nI tt)]) (rest := []) (c_numberOf (by omega) m1 m2 t1 (by omega)) rfl rfl rfl rfl ?_
      rw [← nd2]
      iterate 2 refine pw_go tk_X10_dayOf rfl rfl ?_
      refine pw_cs tk_X10_dayOf rfl ca_X10_requireDay lk_X10_63 sx_X10_requireDay (As := [.int (nI (doD (nI (2000 + p)) (nI mm) (nI tt)))]) (rest := []) (kc' := 2) (ks' := 12) (q_day hl) rfl rfl rfl (Nat.le_of_ble_eq_true rfl) (by decide) (by decide) ?_ ?_
      · rintro _ h2 ⟨rfl, e9, e⟩
        rw [e9]
        have hb : doD (nI (2000 + p)) (nI mm) (nI tt) < 2147483648 := by
          have := cal_f_up (12 * p + (mm - 1)) (by omega)
          omega
        have e : inI (nI (doD (nI (2000 + p)) (nI mm) (nI tt))) (nI 0) (nI 19999) = true := e
        rw [inI_nN (by omega) (by omega) hb, Bool.and_eq_true, decide_eq_true_eq, decide_eq_true_eq] at e
        refine pw_go tk_X10_dayOf rfl rfl ?_
        exact pw_iret tk_X10_dayOf rfl rfl rfl ⟨_, rfl, rfl, e.2, rfl⟩
      · rintro E h2 ⟨⟨rfl, e9⟩, e⟩
        rw [e9]
        have hb : doD (nI (2000 + p)) (nI mm) (nI tt) < 2147483648 := by
          have := cal_f_up (12 * p + (mm - 1)) (by omega)
          omega
        have e : inI (nI (doD (nI (2000 + p)) (nI mm) (nI tt))) (nI 0) (nI 19999) = false := e
        rw [inI_nN (by omega) (by omega) hb, Bool.and_eq_false_iff, decide_eq_false_iff_not, decide_eq_false_iff_not] at e
        exact px_out rfl ⟨rfl, rfl, by omega⟩
    · have c4 : ¬ t ≤ md (cal_lp yy) m := c4
      cases hq : inI m 1 (nI 12) with
      | false => rfl
      | true =>
        rw [em hq] at c4
        unfold inI
        rw [decide_eq_false c4, Bool.and_false, Bool.and_false]
  · have c2 : ¬ y ≤ nI 2054 := c2
    unfold inI
    rw [decide_eq_false c2, Bool.and_false]
theorem f_dateOf {a : Nat} {x : Int32} (hl : G.1.stackTraces = false) : PM G 2 1 6 mm_X10_dateOf [.ref a, .int x] h (fw_qI (fun r h' => h' = h ∧ inI x 0 (nI 19999) = true ∧ r = nI (sp_date x.toNatClampNeg)) (fun E h' => E = eIA ∧ h' = h ∧ inI x 0 (nI 19999) = false)) := by
  refine pm_of (by decide +kernel) rfl rfl rfl ?_
  refine pw_go tk_X10_dateOf rfl rfl ?_
  refine pw_cs tk_X10_dateOf rfl ca_X10_requireDay lk_X10_63 sx_X10_requireDay (As := [.int x]) (rest := []) (kc' := 0) (ks' := 0) (q_day hl) rfl rfl rfl (Nat.le_of_ble_eq_true rfl) (Nat.le_refl _) (Nat.le_refl _) ?_ ?_
  · rintro _ h2 ⟨rfl, e9, e⟩
    rw [e9]
    obtain ⟨d, rfl, -, hd⟩ := inI_N (a := 0) e (by omega) (by omega)
    refine pw_go tk_X10_dateOf rfl rfl ?_
    refine pw_csp tk_X10_dateOf rfl ca_X1_dateAt lk_X10_67 sx_X1_dateAt (As := [.int (nI d)]) (rest := []) (c_dateAt (by omega)) rfl rfl rfl rfl ?_
    exact pw_iret tk_X10_dateOf rfl rfl rfl ⟨_, rfl, rfl, e, by rw [nI_tn (by omega)]⟩
  · rintro E h2 ⟨⟨rfl, e9⟩, e⟩
    exact px_out rfl ⟨rfl, e9, e⟩
theorem f_length {a : Nat} {x y m t : Int32} (hl : G.1.stackTraces = false) : PM G 3 5 27 mm_X10_length [.ref a, .int x, .int y, .int m, .int t] h (fw_qI (fun r h' => h' = h ∧ (inI x 0 (nI 19999) && tmI y m t) = true ∧ r = nI (sp_len x.toNatClampNeg y.toNatClampNeg m.toNatClampNeg t.toNatClampNeg)) (fun E h' => E = eIA ∧ h' = h ∧ (inI x 0 (nI 19999) && tmI y m t) = false)) := by
  refine pm_of (by decide +kernel) rfl rfl rfl ?_
  refine pw_go tk_X10_length rfl rfl ?_
  refine pw_cs tk_X10_length rfl ca_X10_requireDay lk_X10_63 sx_X10_requireDay (As := [.int x]) (rest := []) (kc' := 4) (ks' := 21) (q_day hl) rfl rfl rfl (Nat.le_of_ble_eq_true rfl) (by decide) (by decide) ?_ ?_
  · rintro _ h2 ⟨rfl, e9, e⟩
    rw [e9]
    obtain ⟨d, rfl, -, hd⟩ := inI_N (a := 0) e (by omega) (by omega)
    iterate 3 refine pw_go tk_X10_length rfl rfl ?_
    refine pw_cs tk_X10_length rfl ca_X10_requireTerm lk_X10_71 sx_X10_requireTerm (As := [.int y, .int m, .int t]) (rest := []) (kc' := 1) (ks' := 3) (q_term hl) rfl rfl rfl (Nat.le_of_ble_eq_true rfl) (by decide) (by decide) ?_ ?_
    · rintro _ h3 ⟨rfl, e8, e2⟩
      rw [e8]
      have e3 := e2
      unfold tmI at e3
      rw [Bool.and_eq_true, Bool.and_eq_true] at e3
      obtain ⟨yy, rfl, -, hy⟩ := inI_N (a := 0) e3.1.1 (by omega) (by omega)
      obtain ⟨mm, rfl, -, hm⟩ := inI_N (a := 0) e3.1.2 (by omega) (by omega)
      obtain ⟨tt, rfl, -, ht⟩ := inI_N (a := 0) e3.2 (by omega) (by omega)
      refine pw_new tk_X10_length rfl nw_X10_75 (fun q qf qg => ?_)
      iterate 4 refine pw_go tk_X10_length rfl rfl ?_
      refine pw_ci tk_X10_length rfl ca_X8_init (Or.inl lk_X10_77) iv_X8_init rfl rfl (As := [.int (nI yy), .int (nI mm), .int (nI tt)]) (rest := [.ref q])  (n_Term fw_up_s) (fun _ _ z => z) rfl rfl rfl (Nat.le_of_ble_eq_true rfl) (Nat.le_of_eq (Nat.zero_add _)) (Nat.le_of_eq (Nat.zero_add _)) ?_
      rintro _ _ ⟨rfl, rfl⟩
      refine pw_h fw_up_2 ?_
      refine pw_go tk_X10_length rfl rfl ?_
      refine pw_cvp tk_X10_length rfl ca_X8_spanFrom lk_X10_79 iv_X8_spanFrom sv_X8_spanFrom fw_up_s rfl rfl (As := [.int (nI d)]) (rest := []) (c_spanFrom fw_up_s (by omega) hy hm ht) rfl rfl rfl rfl ?_
      refine pw_forget (h' := h) (fun b o z => ?_) ?_
      · rw [fw_up_n (fun z2 => by rw [z2, qf] at z; cases z)]
        exact z
      exact pw_iret tk_X10_length rfl rfl rfl ⟨_, rfl, rfl, by rw [e, e2]; rfl, by rw [nI_tn (by omega), nI_tn (by omega), nI_tn (by omega), nI_tn (by omega)]⟩
    · rintro E h3 ⟨⟨rfl, e8⟩, e2⟩
      exact px_out rfl ⟨rfl, e8, by rw [e2, Bool.and_false]⟩
  · rintro E h2 ⟨⟨rfl, e9⟩, e⟩
    exact px_out rfl ⟨rfl, e9, by rw [e, Bool.false_and]⟩
end FACE1

