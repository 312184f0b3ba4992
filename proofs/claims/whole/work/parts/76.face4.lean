/-! the face: all persons -/
section FACE4
variable {G : fw_G} {D : fw_DB} {A : fw_AD} {M : fw_MP} {n : Nat}
theorem pL_s {S D : fw_DB} {p : Nat} (I : IC n D A M) (s : sc S D) (hp : p < S 99 0 8) : pL D p (wlS S p) (alS S p) (rlS S p) := by
  have P := (I.2.2.2.2.1 p (by rw [s.N]; exact hp)).1
  rw [wlS_sc s, alS_sc s, rlS_sc s] at P
  exact P
theorem q_reckonAll (I : IC n D A M) : PM G 5 0 0 mm_X10_reckonAll [.ref (A 0 0)] (hp M A D) (fw_qV (fun h' => h' = hp M A (rkP D 6)) fw_noX) := by
  refine pm_of (by decide +kernel) rfl rfl rfl ?_
  have loop : ∀ (k i : Nat), i + k = 6 → PW G mm_X10_reckonAll (fw_qV (fun h' => h' = hp M A (rkP D 6)) fw_noX) 5 0 0 (hp M A (rkP D i)) 10 [(0, .ref (A 0 0)), (1, .ref (A 2 0)), (2, .int (nI 6)), (3, .int (nI i))] [] := by
    intro k
    induction k with
    | zero =>
      intro i hi
      have hi : i = 6 := by omega
      subst hi
      iterate 2 refine pw_go tk_X10_reckonAll rfl rfl ?_
      refine pw_icN (6) (6) tk_X10_reckonAll rfl rfl rfl (by omega) (by omega) (fun c => ?_) (fun c => absurd (Nat.le_refl 6) c)
      exact pw_vret tk_X10_reckonAll rfl rfl ⟨rfl, rfl⟩
    | succ k ih =>
      intro i hi
      obtain ⟨I1, s1⟩ := rkP_ic I i
      have La := I1.1.1.lv (k := 2) (i := 0) (by have := I1.2.1.1.2.2.1; omega)
      have e2 : rkP D i 2 0 0 = D 99 0 8 := by rw [I1.2.1.2.1.2.1, s1.N]
      iterate 2 refine pw_go tk_X10_reckonAll rfl rfl ?_
      refine pw_icN (i) (6) tk_X10_reckonAll rfl rfl rfl (by omega) (by omega) (fun c => absurd (show 6 ≤ i from c) (by omega)) (fun c => ?_)
      iterate 2 refine pw_go tk_X10_reckonAll rfl rfl ?_
      refine pw_aaldN tk_X10_reckonAll rfl (hget La) (by decide) rfl rfl (by omega) (by omega) ?_
      refine pw_astoreq tk_X10_reckonAll rfl rfl rfl ?_
      refine pw_aloadq tk_X10_reckonAll rfl rfl rfl ?_
      by_cases hc : i < D 99 0 8
      · have P1 := pL_s I1 s1 hc
        refine pw_q (rfs_p (by omega : i < rkP D i 2 0 0)) ?_
        refine pw_go tk_X10_reckonAll rfl rfl ?_
        refine pw_aloadq tk_X10_reckonAll rfl rfl rfl ?_
        refine pw_q (rfs_p (by omega : i < rkP D i 2 0 0)) ?_
        refine pw_cv tk_X10_reckonAll rfl ca_X5_reckon lk_X10_233 iv_X5_reckon sv_X5_reckon (hget (I1.1.1.lv P1.2.2.2.2.2.2)) rfl rfl (As := []) (rest := []) (kc' := 0) (ks' := 0) (p_reckon I1.1 P1) rfl rfl rfl (Nat.le_of_ble_eq_true rfl) (Nat.le_of_eq (Nat.zero_add _)) (Nat.le_of_eq (Nat.zero_add _)) ?_ ?_
        · rintro _ _ ⟨rfl, rfl⟩
          refine pw_h (h' := hp M A (rkP D (i + 1))) (congrArg (hp M A) (show _ = if i < D 99 0 8 then _ else _ from (if_pos hc).symm)) ?_
          iterate 2 refine pw_go tk_X10_reckonAll rfl rfl ?_
          refine pw_M [(0, .ref (A 0 0)), (1, .ref (A 2 0)), (2, .int (nI 6)), (3, .int (nI (i + 1)))] ⟨rfl, rfl, rfl, congrArg (fun z => some (Value.int z)) (nI_1 i), trivial⟩ ?_
          exact ih (i + 1) (by omega)
        · exact fun E h' z => z.elim
      · refine pw_q (rfs_n (by omega : ¬ i < rkP D i 2 0 0)) ?_
        refine pw_go tk_X10_reckonAll rfl rfl ?_
        refine pw_h (h' := hp M A (rkP D (i + 1))) (congrArg (hp M A) (show _ = if i < D 99 0 8 then _ else _ from (if_neg hc).symm)) ?_
        iterate 2 refine pw_go tk_X10_reckonAll rfl rfl ?_
        refine pw_M [(0, .ref (A 0 0)), (1, .ref (A 2 0)), (2, .int (nI 6)), (3, .int (nI (i + 1)))] ⟨rfl, rfl, rfl, congrArg (fun z => some (Value.int z)) (nI_1 i), trivial⟩ ?_
        exact ih (i + 1) (by omega)
  have L0 := I.1.1.lv (k := 0) (i := 0) (by have := I.2.1.1.1; omega)
  have La := I.1.1.lv (k := 2) (i := 0) (by have := I.2.1.1.2.2.1; omega)
  refine pw_go tk_X10_reckonAll rfl rfl ?_
  refine pw_get tk_X10_reckonAll rfl fl_X10_17 (hget L0) rfl ?_
  iterate 2 refine pw_go tk_X10_reckonAll rfl rfl ?_
  refine pw_alen tk_X10_reckonAll rfl (hget La) (by decide) ?_
  iterate 3 refine pw_go tk_X10_reckonAll rfl rfl ?_
  refine pw_M [(0, .ref (A 0 0)), (1, .ref (A 2 0)), (2, .int (nI 6)), (3, .int (nI 0))] ⟨rfl, rfl, rfl, rfl, trivial⟩ ?_
  exact loop 6 0 (by omega)
theorem nsum_lt (B : cB D) : ∀ k, k ≤ D 99 0 13 → nsum D k ≤ 1000000 * k
  | 0, _ => Nat.le_refl _
  | k + 1, h => by
    unfold nsum
    have := nsum_lt B k (by omega)
    have := (B.1 k (by omega)).2.2.2.2.2.2.2.2.1
    split <;> omega
theorem q_sumNeeded (I : IC n D A M) : PM G 0 0 0 mm_X10_sumNeeded [.ref (A 0 0)] (hp M A D) (fw_qpL (lN (nsum D (D 99 0 13))) (hp M A D)) := by
  refine pm_of (by decide +kernel) rfl rfl rfl ?_
  have n13 := I.1.2.2.2
  have L0 := I.1.1.lv (k := 0) (i := 0) (by have := I.2.1.1.1; omega)
  have La := I.1.1.lv (k := 3) (i := 0) (by have := I.2.1.1.2.2.2.1; omega)
  have e3 : D 3 0 0 = D 99 0 13 := I.2.1.2.1.2.2.1
  have loop : ∀ (k i u : Nat), i + k = 24 → u = nsum D (min i (D 99 0 13)) → PW G mm_X10_sumNeeded (fw_qpL (lN (nsum D (D 99 0 13))) (hp M A D)) 0 0 0 (hp M A D) 14 [(0, .ref (A 0 0)), (1, .long (lN u)), (3, .ref (A 3 0)), (4, .int (nI 24)), (5, .int (nI i))] [] := by
    intro k
    induction k with
    | zero =>
      intro i u hi hu
      have hi : i = 24 := by omega
      subst hi
      rw [Nat.min_eq_right n13] at hu
      subst hu
      iterate 2 refine pw_go tk_X10_sumNeeded rfl rfl ?_
      refine pw_icN (24) (24) tk_X10_sumNeeded rfl rfl rfl (by omega) (by omega) (fun c => ?_) (fun c => absurd (Nat.le_refl 24) c)
      refine pw_go tk_X10_sumNeeded rfl rfl ?_
      exact pw_lret tk_X10_sumNeeded rfl rfl ⟨_, rfl, rfl, rfl⟩
    | succ k ih =>
      intro i u hi hu
      iterate 2 refine pw_go tk_X10_sumNeeded rfl rfl ?_
      refine pw_icN (i) (24) tk_X10_sumNeeded rfl rfl rfl (by omega) (by omega) (fun c => absurd (show 24 ≤ i from c) (by omega)) (fun c => ?_)
      iterate 2 refine pw_go tk_X10_sumNeeded rfl rfl ?_
      refine pw_aaldN tk_X10_sumNeeded rfl (hget La) (by decide) rfl rfl (by omega) (by omega) ?_
      refine pw_astoreq tk_X10_sumNeeded rfl rfl rfl ?_
      refine pw_aloadq tk_X10_sumNeeded rfl rfl rfl ?_
      by_cases hc : i < D 99 0 13
      · have Lw := I.1.1.lv hc
        have Bw := I.1.2.1.1 i hc
        rw [Nat.min_eq_left (by omega)] at hu
        have hm : min (i + 1) (D 99 0 13) = i + 1 := Nat.min_eq_left (by omega)
        have hs : nsum D (i + 1) = u + (if D 13 i 14 = 1000000 then 0 else D 13 i 15) := by rw [hu]; rfl
        refine pw_q (rfs_p (by omega : i < D 3 0 0)) ?_
        refine pw_go tk_X10_sumNeeded rfl rfl ?_
        refine pw_aloadq tk_X10_sumNeeded rfl rfl rfl ?_
        refine pw_q (rfs_p (by omega : i < D 3 0 0)) ?_
        refine pw_get tk_X10_sumNeeded rfl fl_X10_271 (hget Lw) rfl ?_
        refine pw_ldcw tk_X10_sumNeeded rfl kc_X10_280 ?_
        have hb14 : D 13 i 14 < 2147483648 := by have := Bw.2.2.2.2.2.2.2.1; omega
        have hb15 : D 13 i 15 < 2147483648 := by have := Bw.2.2.2.2.2.2.2.2.1; omega
        refine pw_icN (D 13 i 14) (1000000) tk_X10_sumNeeded rfl rfl rfl (by omega) (by omega) (fun c => ?_) (fun c => ?_)
        · have c2 : D 13 i 14 = 1000000 := c
          iterate 2 refine pw_go tk_X10_sumNeeded rfl rfl ?_
          refine pw_M [(0, .ref (A 0 0)), (1, .long (lN u)), (3, .ref (A 3 0)), (4, .int (nI 24)), (5, .int (nI (i + 1)))] ⟨rfl, rfl, rfl, rfl, congrArg (fun z => some (Value.int z)) (nI_1 i), trivial⟩ ?_
          exact ih (i + 1) u (by omega) (by rw [hm, hs, if_pos c2]; rfl)
        · have c2 : ¬ D 13 i 14 = 1000000 := c
          refine pw_go tk_X10_sumNeeded rfl rfl ?_
          refine pw_aloadq tk_X10_sumNeeded rfl rfl rfl ?_
          refine pw_q (rfs_p (by omega : i < D 3 0 0)) ?_
          refine pw_get tk_X10_sumNeeded rfl fl_X10_274 (hget Lw) rfl ?_
          iterate 5 refine pw_go tk_X10_sumNeeded rfl rfl ?_
          refine pw_M [(0, .ref (A 0 0)), (1, .long (lN (u + D 13 i 15))), (3, .ref (A 3 0)), (4, .int (nI 24)), (5, .int (nI (i + 1)))] ⟨rfl, congrArg (fun z => some (Value.long z)) (by rw [lN_s hb15, lN_a]), rfl, rfl, congrArg (fun z => some (Value.int z)) (nI_1 i), trivial⟩ ?_
          exact ih (i + 1) _ (by omega) (by rw [hm, hs, if_neg c2])
      · rw [Nat.min_eq_right (by omega)] at hu
        refine pw_q (rfs_n (by omega : ¬ i < D 3 0 0)) ?_
        refine pw_go tk_X10_sumNeeded rfl rfl ?_
        iterate 2 refine pw_go tk_X10_sumNeeded rfl rfl ?_
        refine pw_M [(0, .ref (A 0 0)), (1, .long (lN u)), (3, .ref (A 3 0)), (4, .int (nI 24)), (5, .int (nI (i + 1)))] ⟨rfl, rfl, rfl, rfl, congrArg (fun z => some (Value.int z)) (nI_1 i), trivial⟩ ?_
        exact ih (i + 1) u (by omega) (by rw [hu, Nat.min_eq_right (by omega)])
  iterate 3 refine pw_go tk_X10_sumNeeded rfl rfl ?_
  refine pw_get tk_X10_sumNeeded rfl fl_X10_23 (hget L0) rfl ?_
  iterate 2 refine pw_go tk_X10_sumNeeded rfl rfl ?_
  refine pw_alen tk_X10_sumNeeded rfl (hget La) (by decide) ?_
  iterate 3 refine pw_go tk_X10_sumNeeded rfl rfl ?_
  refine pw_M [(0, .ref (A 0 0)), (1, .long (lN 0)), (3, .ref (A 3 0)), (4, .int (nI 24)), (5, .int (nI 0))] ⟨rfl, rfl, rfl, rfl, rfl, trivial⟩ ?_
  exact loop 24 0 0 (by omega) (by rw [Nat.min_eq_left (by omega)]; rfl)
theorem rkP_sum (I : IC n D A M) : nsum (rkP D 6) (rkP D 6 99 0 13) = nsum (FD D) (D 99 0 13) ∧ bgn (rkP D 6) (D 99 0 13) = bgn (FD D) (D 99 0 13) := by
  have s := (rkP_ic I 6).2
  have hr := (rkP_row I 6).1
  have hx := I.2.2.2.2.2.2.1
  have h8 := I.2.1.2.2.2.2.1
  have h : ∀ w, w < D 99 0 13 → rkP D 6 13 w = FD D 13 w := fun w hw => hr w hw (by have := (hx w hw).2.2.2.2.1; omega)
  rw [s.N]
  exact ⟨nsum_c h, bgn_c h⟩
theorem f_owed (I : IC n D A M) : PM G 6 0 0 mm_X10_owed [.ref (A 0 0)] (hp M A D) (fw_qL (fun r h' => kept n D A M h' ∧ r = lN (nsum (FD D) (D 99 0 13))) fw_noX) := by
  refine pm_of (by decide +kernel) rfl rfl rfl ?_
  have L0 := I.1.1.lv (k := 0) (i := 0) (by have := I.2.1.1.1; omega)
  obtain ⟨I2, s2⟩ := rkP_ic I 6
  refine pw_go tk_X10_owed rfl rfl ?_
  refine pw_cv tk_X10_owed rfl ca_X10_reckonAll lk_X10_313 iv_X10_reckonAll sv_X10_reckonAll (hget L0) rfl rfl (As := []) (rest := []) (kc' := 0) (ks' := 0) (q_reckonAll I) rfl rfl rfl (Nat.le_of_ble_eq_true rfl) (Nat.le_of_eq (Nat.zero_add _)) (Nat.le_of_eq (Nat.zero_add _)) ?_ ?_
  · rintro _ _ ⟨rfl, rfl⟩
    refine pw_go tk_X10_owed rfl rfl ?_
    refine pw_cv tk_X10_owed rfl ca_X10_sumNeeded lk_X10_316 iv_X10_sumNeeded sv_X10_sumNeeded (hget (I2.1.1.lv (k := 0) (i := 0) (by have := I2.2.1.1.1; omega))) rfl rfl (As := []) (rest := []) (kc' := 0) (ks' := 0) (q_sumNeeded I2) rfl rfl rfl (Nat.le_of_ble_eq_true rfl) (Nat.le_of_eq (Nat.zero_add _)) (Nat.le_of_eq (Nat.zero_add _)) ?_ ?_
    · rintro _ _ ⟨_, rfl, rfl, rfl⟩
      exact pw_lret tk_X10_owed rfl rfl ⟨_, rfl, ⟨_, rfl, I2, s2⟩, by rw [(rkP_sum I).1]⟩
    · exact fun E h' z => z.elim
  · exact fun E h' z => z.elim
def shK (D : fw_DB) (x : Int32) : Nat := if inI x 0 (nI 19999) = false then 1 else if D 99 0 8 = 0 then 2 else 0
def shV (D : fw_DB) (d : Nat) : UInt32 := FP.fdiv (FP.i2f (nI (psN D d (D 99 0 8)))) (FP.i2f (nI (D 99 0 8)))
set_option maxRecDepth 20000 in
theorem f_prisonShare {x : Int32} (hl : G.1.stackTraces = false) (I : IC n D A M) : PM G 6 2 12 mm_X10_prisonShare [.ref (A 0 0), .int x] (hp M A D) (fw_qF (fun r h' => kept n D A M h' ∧ shK D x = 0 ∧ r = shV D x.toNatClampNeg) (fun E h' => kept n D A M h' ∧ exI (shK D x) E [(1, eIA), (2, eAR)])) := by
  refine pm_of (by decide +kernel) rfl rfl rfl ?_
  have L0 := I.1.1.lv (k := 0) (i := 0) (by have := I.2.1.1.1; omega)
  have n8 := I.2.1.2.2.2.2.1
  have e06 : D 0 0 6 = D 99 0 8 := I.2.1.2.2.1.2.1
  obtain ⟨I2, s2⟩ := rkP_ic I 6
  refine pw_go tk_X10_prisonShare rfl rfl ?_
  refine pw_cs tk_X10_prisonShare rfl ca_X10_requireDay lk_X10_63 sx_X10_requireDay (As := [.int x]) (rest := []) (kc' := 1) (ks' := 6) (q_day hl) rfl rfl rfl (Nat.le_of_ble_eq_true rfl) (by decide) (by decide) ?_ ?_
  · rintro _ _ ⟨rfl, rfl, e⟩
    have eK : shK D x = if D 99 0 8 = 0 then 2 else 0 := by
      unfold shK
      rw [e, if_neg (by decide)]
    obtain ⟨d, rfl, -, hd⟩ := inI_N (a := 0) e (by omega) (by omega)
    rw [eK, nI_tn (by omega)]
    refine pw_go tk_X10_prisonShare rfl rfl ?_
    refine pw_get tk_X10_prisonShare rfl fl_X10_128 (hget L0) rfl ?_
    refine pw_ifN (D 0 0 6) tk_X10_prisonShare rfl rfl (by omega) (fun c => ?_) (fun c => ?_)
    · have c : D 0 0 6 ≠ 0 := c
      rw [if_neg (by omega)]
      have hst : ∀ i, i < D 99 0 8 → stt (rkP D 6) (sB (rkP D 6 10 i)) d (wlS D i) (rlS D i) = stS D i d := fun i hi => rkP_st I (by omega)
      have h99 := s2.N
      have P2 : ∀ i, i < D 99 0 8 → pL (rkP D 6) i (wlS D i) (alS D i) (rlS D i) := fun i hi => pL_s I2 s2 hi
      refine pw_go tk_X10_prisonShare rfl rfl ?_
      refine pw_cv tk_X10_prisonShare rfl ca_X10_reckonAll lk_X10_313 iv_X10_reckonAll sv_X10_reckonAll (hget L0) rfl rfl (As := []) (rest := []) (kc' := 1) (ks' := 6) (q_reckonAll I) rfl rfl rfl (Nat.le_of_ble_eq_true rfl) (Nat.le_of_eq (Nat.zero_add _)) (Nat.le_of_eq (Nat.zero_add _)) ?_ ?_
      · rintro _ _ ⟨rfl, rfl⟩
        generalize rkP D 6 = D2 at *
        have L02 := I2.1.1.lv (k := 0) (i := 0) (by have := I2.2.1.1.1; omega)
        have La := I2.1.1.lv (k := 2) (i := 0) (by have := I2.2.1.1.2.2.1; omega)
        have e2 : D2 2 0 0 = D 99 0 8 := by rw [I2.2.1.2.1.2.1, h99]
        have e6 : D2 0 0 6 = D 99 0 8 := by rw [I2.2.1.2.2.1.2.1, h99]
        obtain ⟨Q, hQ⟩ : ∃ Q, Q = (fw_qF (fun r h' => kept n D A M h' ∧ 0 = 0 ∧ r = shV D d) (fun E h' => kept n D A M h' ∧ exI 0 E [(1, eIA), (2, eAR)])) := ⟨_, rfl⟩
        rw [← hQ]
        have loop : ∀ (k i u : Nat), i + k = 6 → u = psN D d (min i (D 99 0 8)) → PW G mm_X10_prisonShare Q 6 1 6 (hp M A D2) 40 [(0, .ref (A 0 0)), (1, .int (nI d)), (2, .int (nI u)), (3, .ref (A 2 0)), (4, .int (nI 6)), (5, .int (nI i))] [] := by
          intro k
          induction k with
          | zero =>
            intro i u hi hu
            have hi : i = 6 := by omega
            subst hi
            rw [Nat.min_eq_right n8] at hu
            subst hu
            iterate 2 refine pw_go tk_X10_prisonShare rfl rfl ?_
            refine pw_icN (6) (6) tk_X10_prisonShare rfl rfl rfl (by omega) (by omega) (fun c => ?_) (fun c => absurd (Nat.le_refl 6) c)
            iterate 3 refine pw_go tk_X10_prisonShare rfl rfl ?_
            refine pw_get tk_X10_prisonShare rfl fl_X10_128 (hget L02) rfl ?_
            refine pw_go tk_X10_prisonShare rfl rfl ?_
            refine pw_fdiv tk_X10_prisonShare rfl (fl_n ?_) ?_
            · rw [e6]
              intro z
              have z : nI (D 99 0 8) = nI 0 := z
              have := nI_inj (by omega) (by omega) z
              omega
            subst hQ
            exact pw_fret tk_X10_prisonShare rfl rfl ⟨_, rfl, ⟨D2, rfl, I2, s2⟩, rfl, by rw [e6]; rfl⟩
          | succ k ih =>
            intro i u hi hu
            iterate 2 refine pw_go tk_X10_prisonShare rfl rfl ?_
            refine pw_icN (i) (6) tk_X10_prisonShare rfl rfl rfl (by omega) (by omega) (fun c => absurd (show 6 ≤ i from c) (by omega)) (fun c => ?_)
            iterate 2 refine pw_go tk_X10_prisonShare rfl rfl ?_
            refine pw_aaldN tk_X10_prisonShare rfl (hget La) (by decide) rfl rfl (by omega) (by omega) ?_
            refine pw_astoreq tk_X10_prisonShare rfl rfl rfl ?_
            refine pw_aloadq tk_X10_prisonShare rfl rfl rfl ?_
            by_cases hc : i < D 99 0 8
            · have P3 := P2 i hc
              rw [Nat.min_eq_left (by omega)] at hu
              have hm : min (i + 1) (D 99 0 8) = i + 1 := Nat.min_eq_left (by omega)
              have hs : psN D d (i + 1) = u + (if stS D i d = 112 then 1 else 0) := by rw [hu]; rfl
              have hst := hst i hc
              refine pw_q (rfs_p (by omega : i < D2 2 0 0)) ?_
              refine pw_go tk_X10_prisonShare rfl rfl ?_
              refine pw_aloadq tk_X10_prisonShare rfl rfl rfl ?_
              refine pw_q (rfs_p (by omega : i < D2 2 0 0)) ?_
              refine pw_go tk_X10_prisonShare rfl rfl ?_
              refine pw_cvp tk_X10_prisonShare rfl ca_X5_stateAt lk_X10_236 iv_X5_stateAt sv_X5_stateAt (hget (I2.1.1.lv P3.2.2.2.2.2.2)) rfl rfl (As := [.int (nI d)]) (rest := []) (p_state I2.1.1 I2.1.2.1 I2.1.2.2.1 P3.2.2.2.2.2.2 P3.1 (fun i hi => (P3.2.1 i hi).1) P3.2.2.2.2.1 (fun i hi => (P3.2.2.2.2.2.1 i hi).1) (by omega)) rfl rfl rfl rfl ?_
              rw [hst]
              refine pw_go tk_X10_prisonShare rfl rfl ?_
              have hlt := stS_lt (S := D) (p := i) (d := d)
              refine pw_icN (stS D i d) (112) tk_X10_prisonShare rfl rfl rfl (by omega) (by omega) (fun c => ?_) (fun c => ?_)
              · have c2 : ¬ stS D i d = 112 := c
                iterate 2 refine pw_go tk_X10_prisonShare rfl rfl ?_
                refine pw_M [(0, .ref (A 0 0)), (1, .int (nI d)), (2, .int (nI u)), (3, .ref (A 2 0)), (4, .int (nI 6)), (5, .int (nI (i + 1)))] ⟨rfl, rfl, rfl, rfl, rfl, congrArg (fun z => some (Value.int z)) (nI_1 i), trivial⟩ ?_
                exact ih (i + 1) u (by omega) (by rw [hm, hs, if_neg c2]; rfl)
              · have c2 : stS D i d = 112 := Decidable.not_not.mp c
                iterate 3 refine pw_go tk_X10_prisonShare rfl rfl ?_
                refine pw_M [(0, .ref (A 0 0)), (1, .int (nI d)), (2, .int (nI (u + 1))), (3, .ref (A 2 0)), (4, .int (nI 6)), (5, .int (nI (i + 1)))] ⟨rfl, rfl, congrArg (fun z => some (Value.int z)) (nI_1 u), rfl, rfl, congrArg (fun z => some (Value.int z)) (nI_1 i), trivial⟩ ?_
                exact ih (i + 1) _ (by omega) (by rw [hm, hs, if_pos c2])
            · rw [Nat.min_eq_right (by omega)] at hu
              refine pw_q (rfs_n (by omega : ¬ i < D2 2 0 0)) ?_
              refine pw_go tk_X10_prisonShare rfl rfl ?_
              iterate 2 refine pw_go tk_X10_prisonShare rfl rfl ?_
              refine pw_M [(0, .ref (A 0 0)), (1, .int (nI d)), (2, .int (nI u)), (3, .ref (A 2 0)), (4, .int (nI 6)), (5, .int (nI (i + 1)))] ⟨rfl, rfl, rfl, rfl, rfl, congrArg (fun z => some (Value.int z)) (nI_1 i), trivial⟩ ?_
              exact ih (i + 1) u (by omega) (by rw [hu, Nat.min_eq_right (by omega)])
        iterate 3 refine pw_go tk_X10_prisonShare rfl rfl ?_
        refine pw_get tk_X10_prisonShare rfl fl_X10_17 (hget L02) rfl ?_
        iterate 2 refine pw_go tk_X10_prisonShare rfl rfl ?_
        refine pw_alen tk_X10_prisonShare rfl (hget La) (by decide) ?_
        iterate 3 refine pw_go tk_X10_prisonShare rfl rfl ?_
        refine pw_M [(0, .ref (A 0 0)), (1, .int (nI d)), (2, .int (nI 0)), (3, .ref (A 2 0)), (4, .int (nI 6)), (5, .int (nI 0))] ⟨rfl, rfl, rfl, rfl, rfl, rfl, trivial⟩ ?_
        exact loop 6 0 0 (by omega) (by rw [Nat.min_eq_left (by omega)]; rfl)
      · exact fun E h' z => z.elim
    · have c : ¬ D 0 0 6 ≠ 0 := c
      rw [if_pos (by omega)]
      exact pw_throwW hl rfl th_324_322 tk_X10_prisonShare rfl rfl rfl rfl rfl rfl ⟨kept_0 I, List.mem_cons_of_mem _ List.mem_cons_self⟩
  · rintro E _ ⟨⟨rfl, rfl⟩, e⟩
    refine px_out rfl ⟨kept_0 I, ?_⟩
    unfold shK
    rw [e, if_pos rfl]
    exact List.mem_cons_self
def mnV (D : fw_DB) : UInt64 := FP.ddiv (FP.l2d (lN (nsum (FD D) (D 99 0 13)))) (FP.i2d (nI (bgn (FD D) (D 99 0 13))))
def mnK (D : fw_DB) : Nat := if bgn (FD D) (D 99 0 13) = 0 then 1 else 0
set_option maxRecDepth 20000 in
theorem f_meanNeeded (hl : G.1.stackTraces = false) (I : IC n D A M) : PM G 6 1 6 mm_X10_meanNeeded [.ref (A 0 0)] (hp M A D) (fw_qD (fun r h' => kept n D A M h' ∧ mnK D = 0 ∧ r = mnV D) (fun E h' => kept n D A M h' ∧ exI (mnK D) E [(1, eAR)])) := by
  refine pm_of (by decide +kernel) rfl rfl rfl ?_
  have L0 := I.1.1.lv (k := 0) (i := 0) (by have := I.2.1.1.1; omega)
  obtain ⟨I2, s2⟩ := rkP_ic I 6
  obtain ⟨hs1, hs2⟩ := rkP_sum I
  have h99 := s2.N
  have hbl := bgn_le (F := FD D) (D 99 0 13)
  refine pw_go tk_X10_meanNeeded rfl rfl ?_
  refine pw_cv tk_X10_meanNeeded rfl ca_X10_reckonAll lk_X10_313 iv_X10_reckonAll sv_X10_reckonAll (hget L0) rfl rfl (As := []) (rest := []) (kc' := 1) (ks' := 6) (q_reckonAll I) rfl rfl rfl (Nat.le_of_ble_eq_true rfl) (Nat.le_of_eq (Nat.zero_add _)) (Nat.le_of_eq (Nat.zero_add _)) ?_ ?_
  · rintro _ _ ⟨rfl, rfl⟩
    unfold mnK mnV
    rw [← hs1, ← hs2]
    rw [← hs2] at hbl
    generalize rkP D 6 = D2 at *
    have n13 := I2.1.2.2.2
    rw [h99] at n13
    have L02 := I2.1.1.lv (k := 0) (i := 0) (by have := I2.2.1.1.1; omega)
    have La := I2.1.1.lv (k := 3) (i := 0) (by have := I2.2.1.1.2.2.2.1; omega)
    have e3 : D2 3 0 0 = D 99 0 13 := by rw [I2.2.1.2.1.2.2.1, h99]
    obtain ⟨Q, hQ⟩ : ∃ Q, Q = (fw_qD (fun r h' => kept n D A M h' ∧ (if bgn D2 (D 99 0 13) = 0 then 1 else 0) = 0 ∧ r = FP.ddiv (FP.l2d (lN (nsum D2 (D2 99 0 13)))) (FP.i2d (nI (bgn D2 (D 99 0 13))))) (fun E h' => kept n D A M h' ∧ exI (if bgn D2 (D 99 0 13) = 0 then 1 else 0) E [(1, eAR)])) := ⟨_, rfl⟩
    rw [← hQ]
    have loop : ∀ (k i u : Nat), i + k = 24 → u = bgn D2 (min i (D 99 0 13)) → PW G mm_X10_meanNeeded Q 6 1 6 (hp M A D2) 17 [(0, .ref (A 0 0)), (1, .int (nI u)), (2, .ref (A 3 0)), (3, .int (nI 24)), (4, .int (nI i))] [] := by
      intro k
      induction k with
      | zero =>
        intro i u hi hu
        have hi : i = 24 := by omega
        subst hi
        rw [Nat.min_eq_right n13] at hu
        iterate 2 refine pw_go tk_X10_meanNeeded rfl rfl ?_
        refine pw_icN (24) (24) tk_X10_meanNeeded rfl rfl rfl (by omega) (by omega) (fun c => ?_) (fun c => absurd (Nat.le_refl 24) c)
        refine pw_go tk_X10_meanNeeded rfl rfl ?_
        refine pw_ifN (u) tk_X10_meanNeeded rfl rfl (by omega) (fun c => ?_) (fun c => ?_)
        · have c2 : u ≠ 0 := c
          refine pw_go tk_X10_meanNeeded rfl rfl ?_
          refine pw_cv tk_X10_meanNeeded rfl ca_X10_sumNeeded lk_X10_316 iv_X10_sumNeeded sv_X10_sumNeeded (hget L02) rfl rfl (As := []) (rest := []) (kc' := 1) (ks' := 6) (q_sumNeeded I2) rfl rfl rfl (Nat.le_of_ble_eq_true rfl) (Nat.le_of_eq (Nat.zero_add _)) (Nat.le_of_eq (Nat.zero_add _)) ?_ ?_
          · rintro _ _ ⟨_, rfl, rfl, rfl⟩
            iterate 3 refine pw_go tk_X10_meanNeeded rfl rfl ?_
            refine pw_ddiv tk_X10_meanNeeded rfl (dl_n ?_) ?_
            · intro z
              have z : nI u = nI 0 := z
              exact c2 (nI_inj (by omega) (by omega) z)
            subst hQ
            subst hu
            exact pw_dret tk_X10_meanNeeded rfl rfl ⟨_, rfl, ⟨D2, rfl, I2, s2⟩, if_neg c2, rfl⟩
          · exact fun E h' z => z.elim
        · have c2 : u = 0 := Decidable.not_not.mp c
          subst hQ
          subst hu
          exact pw_throwW hl rfl th_324_325 tk_X10_meanNeeded rfl rfl rfl rfl rfl rfl ⟨⟨D2, rfl, I2, s2⟩, by rw [if_pos c2]; exact List.mem_cons_self⟩
      | succ k ih =>
        intro i u hi hu
        iterate 2 refine pw_go tk_X10_meanNeeded rfl rfl ?_
        refine pw_icN (i) (24) tk_X10_meanNeeded rfl rfl rfl (by omega) (by omega) (fun c => absurd (show 24 ≤ i from c) (by omega)) (fun c => ?_)
        iterate 2 refine pw_go tk_X10_meanNeeded rfl rfl ?_
        refine pw_aaldN tk_X10_meanNeeded rfl (hget La) (by decide) rfl rfl (by omega) (by omega) ?_
        refine pw_astoreq tk_X10_meanNeeded rfl rfl rfl ?_
        refine pw_aloadq tk_X10_meanNeeded rfl rfl rfl ?_
        by_cases hc : i < D 99 0 13
        · have hc2 : i < D2 99 0 13 := by rw [h99]; exact hc
          have Lw := I2.1.1.lv hc2
          have Bw := I2.1.2.1.1 i hc2
          rw [Nat.min_eq_left (by omega)] at hu
          have hm : min (i + 1) (D 99 0 13) = i + 1 := Nat.min_eq_left (by omega)
          have hs : bgn D2 (i + 1) = u + (if D2 13 i 14 = 1000000 then 0 else 1) := by rw [hu]; rfl
          refine pw_q (rfs_p (by omega : i < D2 3 0 0)) ?_
          refine pw_go tk_X10_meanNeeded rfl rfl ?_
          refine pw_aloadq tk_X10_meanNeeded rfl rfl rfl ?_
          refine pw_q (rfs_p (by omega : i < D2 3 0 0)) ?_
          refine pw_get tk_X10_meanNeeded rfl fl_X10_271 (hget Lw) rfl ?_
          refine pw_ldcw tk_X10_meanNeeded rfl kc_X10_280 ?_
          have hb14 : D2 13 i 14 < 2147483648 := by have := Bw.2.2.2.2.2.2.2.1; omega
          refine pw_icN (D2 13 i 14) (1000000) tk_X10_meanNeeded rfl rfl rfl (by omega) (by omega) (fun c => ?_) (fun c => ?_)
          · have c2 : D2 13 i 14 = 1000000 := c
            iterate 2 refine pw_go tk_X10_meanNeeded rfl rfl ?_
            refine pw_M [(0, .ref (A 0 0)), (1, .int (nI u)), (2, .ref (A 3 0)), (3, .int (nI 24)), (4, .int (nI (i + 1)))] ⟨rfl, rfl, rfl, rfl, congrArg (fun z => some (Value.int z)) (nI_1 i), trivial⟩ ?_
            exact ih (i + 1) u (by omega) (by rw [hm, hs, if_pos c2]; rfl)
          · have c2 : ¬ D2 13 i 14 = 1000000 := c
            iterate 3 refine pw_go tk_X10_meanNeeded rfl rfl ?_
            refine pw_M [(0, .ref (A 0 0)), (1, .int (nI (u + 1))), (2, .ref (A 3 0)), (3, .int (nI 24)), (4, .int (nI (i + 1)))] ⟨rfl, congrArg (fun z => some (Value.int z)) (nI_1 u), rfl, rfl, congrArg (fun z => some (Value.int z)) (nI_1 i), trivial⟩ ?_
            exact ih (i + 1) _ (by omega) (by rw [hm, hs, if_neg c2])
        · rw [Nat.min_eq_right (by omega)] at hu
          refine pw_q (rfs_n (by omega : ¬ i < D2 3 0 0)) ?_
          refine pw_go tk_X10_meanNeeded rfl rfl ?_
          iterate 2 refine pw_go tk_X10_meanNeeded rfl rfl ?_
          refine pw_M [(0, .ref (A 0 0)), (1, .int (nI u)), (2, .ref (A 3 0)), (3, .int (nI 24)), (4, .int (nI (i + 1)))] ⟨rfl, rfl, rfl, rfl, congrArg (fun z => some (Value.int z)) (nI_1 i), trivial⟩ ?_
          exact ih (i + 1) u (by omega) (by rw [hu, Nat.min_eq_right (by omega)])
    iterate 3 refine pw_go tk_X10_meanNeeded rfl rfl ?_
    refine pw_get tk_X10_meanNeeded rfl fl_X10_23 (hget L02) rfl ?_
    iterate 2 refine pw_go tk_X10_meanNeeded rfl rfl ?_
    refine pw_alen tk_X10_meanNeeded rfl (hget La) (by decide) ?_
    iterate 3 refine pw_go tk_X10_meanNeeded rfl rfl ?_
    refine pw_M [(0, .ref (A 0 0)), (1, .int (nI 0)), (2, .ref (A 3 0)), (3, .int (nI 24)), (4, .int (nI 0))] ⟨rfl, rfl, rfl, rfl, rfl, trivial⟩ ?_
    exact loop 24 0 0 (by omega) (by rw [Nat.min_eq_left (by omega)]; rfl)
  · exact fun E h' z => z.elim
/-- behind the clerk's test of the first persons -/
def trP (S : fw_DB) : Nat → fw_DB
  | 0 => S
  | p + 1 => if p < S 99 0 8 then (cEE p (wlS S p) (alS S p) (rlS S p) (prk (trP S p) (wlS S p) (alS S p) (rlS S p)) 3881).1 else trP S p
theorem trP_ic (I : IC n D A M) : ∀ i, IC n (trP D i) A M ∧ sc D (trP D i)
  | 0 => ⟨I, sc.rf⟩
  | p + 1 => by
    obtain ⟨I1, s1⟩ := trP_ic I p
    unfold trP
    split
    · rename_i c
      obtain ⟨I2, s2⟩ := ic_prk I1 s1 (by rw [s1.N]; exact c)
      have s12 := s1.tr s2
      obtain ⟨I3, s3⟩ := ic_clerk (p := p) (d := 3881) I2 (by rw [s12.N]; exact c) (by omega)
      rw [wlS_sc s12, alS_sc s12, rlS_sc s12] at I3 s3
      exact ⟨I3, s12.tr s3⟩
    · exact ⟨I1, s1⟩
theorem f_isTrue (I : IC n D A M) : PM G 7 0 0 mm_X10_isTrue [.ref (A 0 0)] (hp M A D) (fw_qI (fun r h' => kept n D A M h' ∧ r = 1) fw_noX) := by
  refine pm_of (by decide +kernel) rfl rfl rfl ?_
  obtain ⟨Q, hQ⟩ : ∃ Q, Q = (fw_qI (fun r h' => kept n D A M h' ∧ r = 1) fw_noX) := ⟨_, rfl⟩
  rw [← hQ]
  have loop : ∀ (k i : Nat), i + k = 6 → PW G mm_X10_isTrue Q 7 0 0 (hp M A (trP D i)) 10 [(0, .ref (A 0 0)), (1, .ref (A 2 0)), (2, .int (nI 6)), (3, .int (nI i))] [] := by
    intro k
    induction k with
    | zero =>
      intro i hi
      have hi : i = 6 := by omega
      subst hi
      obtain ⟨I1, s1⟩ := trP_ic I 6
      iterate 2 refine pw_go tk_X10_isTrue rfl rfl ?_
      refine pw_icN (6) (6) tk_X10_isTrue rfl rfl rfl (by omega) (by omega) (fun c => ?_) (fun c => absurd (Nat.le_refl 6) c)
      refine pw_go tk_X10_isTrue rfl rfl ?_
      subst hQ
      exact pw_iret tk_X10_isTrue rfl rfl rfl ⟨_, rfl, ⟨_, rfl, I1, s1⟩, rfl⟩
    | succ k ih =>
      intro i hi
      obtain ⟨I1, s1⟩ := trP_ic I i
      have La := I1.1.1.lv (k := 2) (i := 0) (by have := I1.2.1.1.2.2.1; omega)
      have e2 : trP D i 2 0 0 = D 99 0 8 := by rw [I1.2.1.2.1.2.1, s1.N]
      iterate 2 refine pw_go tk_X10_isTrue rfl rfl ?_
      refine pw_icN (i) (6) tk_X10_isTrue rfl rfl rfl (by omega) (by omega) (fun c => absurd (show 6 ≤ i from c) (by omega)) (fun c => ?_)
      iterate 2 refine pw_go tk_X10_isTrue rfl rfl ?_
      refine pw_aaldN tk_X10_isTrue rfl (hget La) (by decide) rfl rfl (by omega) (by omega) ?_
      refine pw_astoreq tk_X10_isTrue rfl rfl rfl ?_
      refine pw_aloadq tk_X10_isTrue rfl rfl rfl ?_
      by_cases hc : i < D 99 0 8
      · have P1 := pL_s I1 s1 hc
        refine pw_q (rfs_p (by omega : i < trP D i 2 0 0)) ?_
        refine pw_go tk_X10_isTrue rfl rfl ?_
        refine pw_aloadq tk_X10_isTrue rfl rfl rfl ?_
        refine pw_q (rfs_p (by omega : i < trP D i 2 0 0)) ?_
        refine pw_cs tk_X10_isTrue rfl ca_X2_agrees lk_X10_327 sx_X2_agrees (As := [.ref (A 8 i)]) (rest := []) (kc' := 0) (ks' := 0) (k_agrees I1.1 P1 wlS_nd rlS_nd I1.2.2.1.2 (fun d hd => agree_is (ic_ok I) s1 (by omega))) rfl rfl rfl (Nat.le_of_ble_eq_true rfl) (Nat.le_of_eq (Nat.zero_add _)) (Nat.le_of_eq (Nat.zero_add _)) ?_ ?_
        · rintro _ _ ⟨_, rfl, rfl, rfl⟩
          refine pw_h (h' := hp M A (trP D (i + 1))) (congrArg (hp M A) (show _ = if i < D 99 0 8 then _ else _ from (if_pos hc).symm)) ?_
          refine pw_ifneB tk_X10_isTrue rfl (fun c2 => ?_) (fun c2 => by cases c2)
          iterate 2 refine pw_go tk_X10_isTrue rfl rfl ?_
          refine pw_M [(0, .ref (A 0 0)), (1, .ref (A 2 0)), (2, .int (nI 6)), (3, .int (nI (i + 1)))] ⟨rfl, rfl, rfl, congrArg (fun z => some (Value.int z)) (nI_1 i), trivial⟩ ?_
          exact ih (i + 1) (by omega)
        · exact fun E h' z => z.elim
      · refine pw_q (rfs_n (by omega : ¬ i < trP D i 2 0 0)) ?_
        refine pw_go tk_X10_isTrue rfl rfl ?_
        refine pw_h (h' := hp M A (trP D (i + 1))) (congrArg (hp M A) (show _ = if i < D 99 0 8 then _ else _ from (if_neg hc).symm)) ?_
        iterate 2 refine pw_go tk_X10_isTrue rfl rfl ?_
        refine pw_M [(0, .ref (A 0 0)), (1, .ref (A 2 0)), (2, .int (nI 6)), (3, .int (nI (i + 1)))] ⟨rfl, rfl, rfl, congrArg (fun z => some (Value.int z)) (nI_1 i), trivial⟩ ?_
        exact ih (i + 1) (by omega)
  have L0 := I.1.1.lv (k := 0) (i := 0) (by have := I.2.1.1.1; omega)
  have La := I.1.1.lv (k := 2) (i := 0) (by have := I.2.1.1.2.2.1; omega)
  refine pw_go tk_X10_isTrue rfl rfl ?_
  refine pw_get tk_X10_isTrue rfl fl_X10_17 (hget L0) rfl ?_
  iterate 2 refine pw_go tk_X10_isTrue rfl rfl ?_
  refine pw_alen tk_X10_isTrue rfl (hget La) (by decide) ?_
  iterate 3 refine pw_go tk_X10_isTrue rfl rfl ?_
  refine pw_M [(0, .ref (A 0 0)), (1, .ref (A 2 0)), (2, .int (nI 6)), (3, .int (nI 0))] ⟨rfl, rfl, rfl, rfl, trivial⟩ ?_
  exact loop 6 0 (by omega)
end FACE4

