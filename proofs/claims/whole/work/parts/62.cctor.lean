/-! the class's constructors, over any heap -/
theorem fw_up_c {h : fw_H} {a b : Nat} {x y : fw_O} (n : a ≠ b) : fw_up (fw_up h a x) b y = fw_up (fw_up h b y) a x := funext fun c => by
  by_cases h1 : c = a
  · subst h1
    rw [fw_up_n n, fw_up_s, fw_up_s]
  · by_cases h2 : c = b
    · subst h2
      rw [fw_up_s, fw_up_n h1, fw_up_s]
    · rw [fw_up_n h2, fw_up_n h1, fw_up_n h1, fw_up_n h2]
theorem fw_fr0 {h : fw_H} {a b : Nat} {x : fw_O} (e : fw_up h a x b = none) : b ≠ a ∧ h b = none := by
  by_cases c : b = a
  · subst c
    rw [fw_up_s] at e
    cases e
  · rw [fw_up_n c] at e
    exact ⟨c, e⟩
theorem fw_fr1 {h : fw_H} {a b : Nat} {x : fw_O} (e : h a = some x) (e2 : h b = none) : b ≠ a := fun z => by
  subst z
  rw [e] at e2
  cases e2
section CCTOR
variable {G : fw_G} {h : fw_H} {b : Nat}
theorem n_Term {x y z : Int32} (ho : h b = some (.inr (11, [.int 0, .int 0, .int 0]))) : PM G 0 0 0 mm_X8_init [.ref b, .int x, .int y, .int z] h (fw_qV (fun h' => h' = fw_up h b (.inr (11, [.int x, .int y, .int z]))) fw_noX) := by
  refine pm_of (by decide +kernel) rfl rfl rfl ?_
  refine pw_go tk_X8_init rfl rfl ?_
  refine pw_oinit tk_X8_init rfl lk_X8_1 oi_1 oi_2 rfl ?_
  iterate 2 refine pw_go tk_X8_init rfl rfl ?_
  refine pw_putF tk_X8_init rfl fq_X8_7 rfl ho rfl rfl (Nat.le_of_ble_eq_true rfl) ?_
  iterate 2 refine pw_go tk_X8_init rfl rfl ?_
  refine pw_putF tk_X8_init rfl fq_X8_13 rfl fw_up_s rfl rfl (Nat.le_of_ble_eq_true rfl) ?_
  refine pw_h fw_up_2 ?_
  iterate 2 refine pw_go tk_X8_init rfl rfl ?_
  refine pw_putF tk_X8_init rfl fq_X8_16 rfl fw_up_s rfl rfl (Nat.le_of_ble_eq_true rfl) ?_
  refine pw_h fw_up_2 ?_
  exact pw_vret tk_X8_init rfl rfl ⟨rfl, rfl⟩
theorem n_Added {x y : Int32} (ho : h b = some (.inr (5, [.int 0, .int 0, .null]))) : PM G 0 0 0 mm_X0_init [.ref b, .int x, .int y] h (fw_qV (fun h' => h' = fw_up h b (.inr (5, [.int x, .int y, .null]))) fw_noX) := by
  refine pm_of (by decide +kernel) rfl rfl rfl ?_
  refine pw_go tk_X0_init rfl rfl ?_
  refine pw_oinit tk_X0_init rfl lk_X0_1 oi_1 oi_2 rfl ?_
  iterate 2 refine pw_go tk_X0_init rfl rfl ?_
  refine pw_putF tk_X0_init rfl fq_X0_7 rfl ho rfl rfl (Nat.le_of_ble_eq_true rfl) ?_
  iterate 2 refine pw_go tk_X0_init rfl rfl ?_
  refine pw_put tk_X0_init rfl fp_X0_13 fw_up_s rfl rfl (Nat.le_of_ble_eq_true rfl) ?_
  refine pw_h fw_up_2 ?_
  exact pw_vret tk_X0_init rfl rfl ⟨rfl, rfl⟩
theorem n_Tally : PM G 0 0 0 mm_X7_init [.ref b] h (fw_qV (fun h' => h' = h) fw_noX) := by
  refine pm_of (by decide +kernel) rfl rfl rfl ?_
  refine pw_go tk_X7_init rfl rfl ?_
  refine pw_oinit tk_X7_init rfl lk_X7_3 oi_1 oi_2 rfl ?_
  exact pw_vret tk_X7_init rfl rfl ⟨rfl, rfl⟩
theorem n_Law {x z u : Int32} {y v : Bool} (ho : h b = some (.inr (7, [.int 0, .int 0, .int 0, .int 0, .int 0]))) : PM G 0 0 0 mm_X4_init [.ref b, .int x, .int (bI y), .int z, .int u, .int (bI v)] h (fw_qV (fun h' => h' = fw_up h b (.inr (7, [.int x, .int (bI y), .int z, .int u, .int (bI v)]))) fw_noX) := by
  refine pm_of (by decide +kernel) rfl rfl rfl ?_
  refine pw_go tk_X4_init rfl rfl ?_
  refine pw_oinit tk_X4_init rfl lk_X4_1 oi_1 oi_2 rfl ?_
  iterate 2 refine pw_go tk_X4_init rfl rfl ?_
  refine pw_putF tk_X4_init rfl fq_X4_7 rfl ho rfl rfl (Nat.le_of_ble_eq_true rfl) ?_
  iterate 2 refine pw_go tk_X4_init rfl rfl ?_
  refine pw_putF tk_X4_init rfl fq_X4_13 rfl fw_up_s (bI_z y) (by cases y <;> rfl) (Nat.le_of_ble_eq_true rfl) ?_
  refine pw_h fw_up_2 ?_
  iterate 2 refine pw_go tk_X4_init rfl rfl ?_
  refine pw_putF tk_X4_init rfl fq_X4_17 rfl fw_up_s rfl rfl (Nat.le_of_ble_eq_true rfl) ?_
  refine pw_h fw_up_2 ?_
  iterate 2 refine pw_go tk_X4_init rfl rfl ?_
  refine pw_putF tk_X4_init rfl fq_X4_20 rfl fw_up_s rfl rfl (Nat.le_of_ble_eq_true rfl) ?_
  refine pw_h fw_up_2 ?_
  iterate 2 refine pw_go tk_X4_init rfl rfl ?_
  refine pw_putF tk_X4_init rfl fq_X4_23 rfl fw_up_s (bI_z v) (by cases v <;> rfl) (Nat.le_of_ble_eq_true rfl) ?_
  refine pw_h fw_up_2 ?_
  exact pw_vret tk_X4_init rfl rfl ⟨rfl, rfl⟩
theorem n_Recall {o : Nat} {x z : Int32} {y : Bool} (ho : h b = some (.inr (9, [.null, .int 0, .int 0, .int 0, .int 0, .int 0, .int 0, .int 0, .null]))) : PM G 0 0 0 mm_X6_init [.ref b, .ref o, .int x, .int (bI y), .int z] h (fw_qV (fun h' => h' = fw_up h b (.inr (9, [.ref o, .int x, .int (bI y), .int z, .int (nI 1000000), .int 0, .int 0, .int 0, .null]))) fw_noX) := by
  refine pm_of (by decide +kernel) rfl rfl rfl ?_
  refine pw_go tk_X6_init rfl rfl ?_
  refine pw_oinit tk_X6_init rfl lk_X6_3 oi_1 oi_2 rfl ?_
  refine pw_go tk_X6_init rfl rfl ?_
  refine pw_ldc tk_X6_init rfl kc_X6_9 ?_
  refine pw_put tk_X6_init rfl fp_X6_10 ho rfl rfl (Nat.le_of_ble_eq_true rfl) ?_
  iterate 2 refine pw_go tk_X6_init rfl rfl ?_
  refine pw_putF tk_X6_init rfl fq_X6_16 rfl fw_up_s rfl rfl (Nat.le_of_ble_eq_true rfl) ?_
  refine pw_h fw_up_2 ?_
  iterate 2 refine pw_go tk_X6_init rfl rfl ?_
  refine pw_putF tk_X6_init rfl fq_X6_20 rfl fw_up_s rfl rfl (Nat.le_of_ble_eq_true rfl) ?_
  refine pw_h fw_up_2 ?_
  iterate 2 refine pw_go tk_X6_init rfl rfl ?_
  refine pw_putF tk_X6_init rfl fq_X6_23 rfl fw_up_s (bI_z y) (by cases y <;> rfl) (Nat.le_of_ble_eq_true rfl) ?_
  refine pw_h fw_up_2 ?_
  iterate 2 refine pw_go tk_X6_init rfl rfl ?_
  refine pw_putF tk_X6_init rfl fq_X6_27 rfl fw_up_s rfl rfl (Nat.le_of_ble_eq_true rfl) ?_
  refine pw_h fw_up_2 ?_
  exact pw_vret tk_X6_init rfl rfl ⟨rfl, rfl⟩
theorem n_Person (ho : h b = some (.inr (8, [.null, .null, .null, .null, .null, .null, .null, .null, .int 0]))) : PM G 1 4 628 mm_X5_init [.ref b] h (fw_qV (fun h' => ∃ q1 q2 q3 q4, h q1 = none ∧ h q2 = none ∧ h q3 = none ∧ h q4 = none ∧ q1 ≠ q2 ∧ q1 ≠ q3 ∧ q1 ≠ q4 ∧ q2 ≠ q3 ∧ q2 ≠ q4 ∧ q3 ≠ q4 ∧ h' = fw_up (fw_up (fw_up (fw_up (fw_up h q2 (.inl (1, 313, .inr (.inl (wd (fun _ => false)))))) q1 (.inr (6, [.ref q2]))) q4 (.inl (1, 313, .inr (.inl (wd (fun _ => false)))))) q3 (.inr (6, [.ref q4]))) b (.inr (8, [.ref q1, .ref q3, .null, .null, .null, .null, .null, .null, .int 0]))) fw_noX) := by
  refine pm_of (by decide +kernel) rfl rfl rfl ?_
  refine pw_go tk_X5_init rfl rfl ?_
  refine pw_oinit tk_X5_init rfl lk_X5_1 oi_1 oi_2 rfl ?_
  refine pw_go tk_X5_init rfl rfl ?_
  refine pw_new tk_X5_init rfl nw_X5_7 (fun q1 q1f q1g => ?_)
  refine pw_go tk_X5_init rfl rfl ?_
  refine pw_ci tk_X5_init rfl ca_X3_init (Or.inr ⟨_, lk_X5_9⟩) iv_X3_init rfl rfl (As := []) (rest := [.ref q1, .ref b]) (mc := 1) (kc' := 2) (ms := 313) (ks' := 314) (c_Days fw_up_s) (fun _ _ z => z) rfl rfl rfl (Nat.le_of_ble_eq_true rfl) (Nat.le_refl _) (Nat.le_refl _) ?_
  rintro _ _ ⟨rfl, q2, q2f0, q2g, rfl⟩
  obtain ⟨n21, q2f⟩ := fw_fr0 q2f0
  have nb1 := fw_fr1 ho q1f
  have nb2 := fw_fr1 ho q2f
  refine pw_h (h' := fw_up (fw_up h q2 (.inl (1, 313, .inr (.inl (wd (fun _ => false)))))) q1 (.inr (6, [.ref q2]))) (by rw [fw_up_c (a := q1) (b := q2) n21.symm, fw_up_2]) ?_
  refine pw_putF tk_X5_init rfl fq_X5_10 rfl ((fw_up_n nb1.symm).trans ((fw_up_n nb2.symm).trans ho)) rfl rfl (Nat.le_of_ble_eq_true rfl) ?_
  refine pw_go tk_X5_init rfl rfl ?_
  refine pw_new tk_X5_init rfl nw_X5_7 (fun q3 q3f q3g => ?_)
  obtain ⟨n3b, q3f1⟩ := fw_fr0 q3f
  obtain ⟨n31, q3f2⟩ := fw_fr0 q3f1
  obtain ⟨n32, q3f3⟩ := fw_fr0 q3f2
  refine pw_go tk_X5_init rfl rfl ?_
  refine pw_ci tk_X5_init rfl ca_X3_init (Or.inr ⟨_, lk_X5_9⟩) iv_X3_init rfl rfl (As := []) (rest := [.ref q3, .ref b]) (mc := 1) (kc' := 0) (ms := 313) (ks' := 0) (c_Days fw_up_s) (fun _ _ z => z) rfl rfl rfl (Nat.le_of_ble_eq_true rfl) (Nat.le_refl _) (Nat.le_refl _) ?_
  rintro _ _ ⟨rfl, q4, q4f0, q4g, rfl⟩
  obtain ⟨n43, q4f1⟩ := fw_fr0 q4f0
  obtain ⟨n4b, q4f2⟩ := fw_fr0 q4f1
  obtain ⟨n41, q4f3⟩ := fw_fr0 q4f2
  obtain ⟨n42, q4f4⟩ := fw_fr0 q4f3
  obtain ⟨H2, hH2⟩ : ∃ H2, H2 = fw_up (fw_up (fw_up (fw_up h q2 (.inl (1, 313, .inr (.inl (wd (fun _ => false)))))) q1 (.inr (6, [.ref q2]))) q4 (.inl (1, 313, .inr (.inl (wd (fun _ => false)))))) q3 (.inr (6, [.ref q4])) := ⟨_, rfl⟩
  refine pw_h (h' := fw_up H2 b (.inr (8, [.ref q1, .null, .null, .null, .null, .null, .null, .null, .int 0]))) ?_ ?_
  · rw [hH2, fw_up_c (a := q3) (b := q4) n43.symm, fw_up_2, fw_up_c (a := b) (b := q4) n4b.symm, fw_up_c (a := b) (b := q3) n3b.symm]
    rfl
  refine pw_putF tk_X5_init rfl fq_X5_16 rfl fw_up_s rfl rfl (Nat.le_of_ble_eq_true rfl) ?_
  refine pw_h fw_up_2 ?_
  exact pw_vret tk_X5_init rfl rfl ⟨rfl, q1, q2, q3, q4, q1f, q2f, q3f3, q4f4, n21.symm, n31.symm, n41.symm, n32.symm, n42.symm, n43.symm, by rw [hH2]; rfl⟩
theorem n_Warrant {x k o p : Int32} {ow : Nat} {ah : Option Nat} {te : Nat} (hk : narrow .char (.int k) = .int k) (hk2 : fits .char (.int k) = true) (ho : h b = some (.inr (12, [.int 0, .null, .int 0, .int 0, .int 0, .null, .null, .null, .null, .int 0, .int 0, .int 0, .int 0, .int 0, .int 0, .int 0, .int 0, .int 0, .null]))) : PM G 1 1 7 mm_X9_init [.ref b, .int x, .ref ow, .int k, .int o, .int p, va_rf ah, .ref te] h (fw_qV (fun h' => ∃ q, h q = none ∧ h' = fw_up (fw_up h q (.inr (10, [.int 0, .int 0, .int 0, .int 0, .int 0, .int 0, .int 0]))) b (.inr (12, [.int x, .ref ow, .int k, .int o, .int p, va_rf ah, .ref q, .null, .ref te, .int (-1), .int (-1), .int 0, .int 0, .int 0, .int (nI 1000000), .int 0, .int (nI 1000000), .int 0, .null]))) fw_noX) := by
  cases ah with
  | none =>
    refine pm_of (by decide +kernel) rfl rfl rfl ?_
    refine pw_go tk_X9_init rfl rfl ?_
    refine pw_oinit tk_X9_init rfl lk_X9_3 oi_1 oi_2 rfl ?_
    refine pw_go tk_X9_init rfl rfl ?_
    refine pw_new tk_X9_init rfl nw_X9_9 (fun q qf qg => ?_)
    have nb := fw_fr1 ho qf
    refine pw_go tk_X9_init rfl rfl ?_
    refine pw_ci tk_X9_init rfl ca_X7_init (Or.inr ⟨_, lk_X9_11⟩) iv_X7_init rfl rfl (As := []) (rest := [.ref q, .ref b]) (mc := 0) (kc' := 0) (ms := 0) (ks' := 0) (n_Tally) (fun _ _ z => z) rfl rfl rfl (Nat.le_of_ble_eq_true rfl) (Nat.le_refl _) (Nat.le_refl _) ?_
    rintro _ _ ⟨rfl, rfl⟩
    refine pw_putF tk_X9_init rfl fq_X9_12 rfl ((fw_up_n nb.symm).trans ho) rfl rfl (Nat.le_of_ble_eq_true rfl) ?_
    iterate 2 refine pw_go tk_X9_init rfl rfl ?_
    refine pw_put tk_X9_init rfl fp_X9_18 fw_up_s rfl rfl (Nat.le_of_ble_eq_true rfl) ?_
    refine pw_h fw_up_2 ?_
    iterate 2 refine pw_go tk_X9_init rfl rfl ?_
    refine pw_put tk_X9_init rfl fp_X9_22 fw_up_s rfl rfl (Nat.le_of_ble_eq_true rfl) ?_
    refine pw_h fw_up_2 ?_
    refine pw_go tk_X9_init rfl rfl ?_
    refine pw_ldc tk_X9_init rfl kc_X9_25 ?_
    refine pw_put tk_X9_init rfl fp_X9_26 fw_up_s rfl rfl (Nat.le_of_ble_eq_true rfl) ?_
    refine pw_h fw_up_2 ?_
    refine pw_go tk_X9_init rfl rfl ?_
    refine pw_ldc tk_X9_init rfl kc_X9_25 ?_
    refine pw_put tk_X9_init rfl fp_X9_29 fw_up_s rfl rfl (Nat.le_of_ble_eq_true rfl) ?_
    refine pw_h fw_up_2 ?_
    iterate 2 refine pw_go tk_X9_init rfl rfl ?_
    refine pw_putF tk_X9_init rfl fq_X9_32 rfl fw_up_s rfl rfl (Nat.le_of_ble_eq_true rfl) ?_
    refine pw_h fw_up_2 ?_
    iterate 2 refine pw_go tk_X9_init rfl rfl ?_
    refine pw_putF tk_X9_init rfl fq_X9_35 rfl fw_up_s rfl rfl (Nat.le_of_ble_eq_true rfl) ?_
    refine pw_h fw_up_2 ?_
    iterate 2 refine pw_go tk_X9_init rfl rfl ?_
    refine pw_putF tk_X9_init rfl fq_X9_39 rfl fw_up_s hk hk2 (Nat.le_of_ble_eq_true rfl) ?_
    refine pw_h fw_up_2 ?_
    iterate 2 refine pw_go tk_X9_init rfl rfl ?_
    refine pw_putF tk_X9_init rfl fq_X9_43 rfl fw_up_s rfl rfl (Nat.le_of_ble_eq_true rfl) ?_
    refine pw_h fw_up_2 ?_
    iterate 2 refine pw_go tk_X9_init rfl rfl ?_
    refine pw_putF tk_X9_init rfl fq_X9_46 rfl fw_up_s rfl rfl (Nat.le_of_ble_eq_true rfl) ?_
    refine pw_h fw_up_2 ?_
    iterate 2 refine pw_go tk_X9_init rfl rfl ?_
    refine pw_putF tk_X9_init rfl fq_X9_49 rfl fw_up_s rfl rfl (Nat.le_of_ble_eq_true rfl) ?_
    refine pw_h fw_up_2 ?_
    iterate 2 refine pw_go tk_X9_init rfl rfl ?_
    refine pw_put tk_X9_init rfl fp_X9_53 fw_up_s rfl rfl (Nat.le_of_ble_eq_true rfl) ?_
    refine pw_h fw_up_2 ?_
    exact pw_vret tk_X9_init rfl rfl ⟨rfl, q, qf, rfl⟩
  | some a =>
    refine pm_of (by decide +kernel) rfl rfl rfl ?_
    refine pw_go tk_X9_init rfl rfl ?_
    refine pw_oinit tk_X9_init rfl lk_X9_3 oi_1 oi_2 rfl ?_
    refine pw_go tk_X9_init rfl rfl ?_
    refine pw_new tk_X9_init rfl nw_X9_9 (fun q qf qg => ?_)
    have nb := fw_fr1 ho qf
    refine pw_go tk_X9_init rfl rfl ?_
    refine pw_ci tk_X9_init rfl ca_X7_init (Or.inr ⟨_, lk_X9_11⟩) iv_X7_init rfl rfl (As := []) (rest := [.ref q, .ref b]) (mc := 0) (kc' := 0) (ms := 0) (ks' := 0) (n_Tally) (fun _ _ z => z) rfl rfl rfl (Nat.le_of_ble_eq_true rfl) (Nat.le_refl _) (Nat.le_refl _) ?_
    rintro _ _ ⟨rfl, rfl⟩
    refine pw_putF tk_X9_init rfl fq_X9_12 rfl ((fw_up_n nb.symm).trans ho) rfl rfl (Nat.le_of_ble_eq_true rfl) ?_
    iterate 2 refine pw_go tk_X9_init rfl rfl ?_
    refine pw_put tk_X9_init rfl fp_X9_18 fw_up_s rfl rfl (Nat.le_of_ble_eq_true rfl) ?_
    refine pw_h fw_up_2 ?_
    iterate 2 refine pw_go tk_X9_init rfl rfl ?_
    refine pw_put tk_X9_init rfl fp_X9_22 fw_up_s rfl rfl (Nat.le_of_ble_eq_true rfl) ?_
    refine pw_h fw_up_2 ?_
    refine pw_go tk_X9_init rfl rfl ?_
    refine pw_ldc tk_X9_init rfl kc_X9_25 ?_
    refine pw_put tk_X9_init rfl fp_X9_26 fw_up_s rfl rfl (Nat.le_of_ble_eq_true rfl) ?_
    refine pw_h fw_up_2 ?_
    refine pw_go tk_X9_init rfl rfl ?_
    refine pw_ldc tk_X9_init rfl kc_X9_25 ?_
    refine pw_put tk_X9_init rfl fp_X9_29 fw_up_s rfl rfl (Nat.le_of_ble_eq_true rfl) ?_
    refine pw_h fw_up_2 ?_
    iterate 2 refine pw_go tk_X9_init rfl rfl ?_
    refine pw_putF tk_X9_init rfl fq_X9_32 rfl fw_up_s rfl rfl (Nat.le_of_ble_eq_true rfl) ?_
    refine pw_h fw_up_2 ?_
    iterate 2 refine pw_go tk_X9_init rfl rfl ?_
    refine pw_putF tk_X9_init rfl fq_X9_35 rfl fw_up_s rfl rfl (Nat.le_of_ble_eq_true rfl) ?_
    refine pw_h fw_up_2 ?_
    iterate 2 refine pw_go tk_X9_init rfl rfl ?_
    refine pw_putF tk_X9_init rfl fq_X9_39 rfl fw_up_s hk hk2 (Nat.le_of_ble_eq_true rfl) ?_
    refine pw_h fw_up_2 ?_
    iterate 2 refine pw_go tk_X9_init rfl rfl ?_
    refine pw_putF tk_X9_init rfl fq_X9_43 rfl fw_up_s rfl rfl (Nat.le_of_ble_eq_true rfl) ?_
    refine pw_h fw_up_2 ?_
    iterate 2 refine pw_go tk_X9_init rfl rfl ?_
    refine pw_putF tk_X9_init rfl fq_X9_46 rfl fw_up_s rfl rfl (Nat.le_of_ble_eq_true rfl) ?_
    refine pw_h fw_up_2 ?_
    iterate 2 refine pw_go tk_X9_init rfl rfl ?_
    refine pw_putF tk_X9_init rfl fq_X9_49 rfl fw_up_s rfl rfl (Nat.le_of_ble_eq_true rfl) ?_
    refine pw_h fw_up_2 ?_
    iterate 2 refine pw_go tk_X9_init rfl rfl ?_
    refine pw_put tk_X9_init rfl fp_X9_53 fw_up_s rfl rfl (Nat.le_of_ble_eq_true rfl) ?_
    refine pw_h fw_up_2 ?_
    exact pw_vret tk_X9_init rfl rfl ⟨rfl, q, qf, rfl⟩
end CCTOR

