/-! REFERENCE: its constructor -/
section MCT
variable {G : fw_G} {S D : fw_DB} {A : fw_AD} {M : fw_MP} {h : fw_H}
abbrev lO0 (G : fw_G) : fw_O := lsO 0 (tE G) 0
set_option maxRecDepth 50000 in
theorem m_ctor {q : Nat} (W : Wf D A M) (s : fw_ss D A M h) (h46 : D 99 0 46 = 1) (hz : ∀ f, 30 ≤ f → f ≤ 66 → f ≠ 46 → D 99 0 f = 0) (hS : S 99 0 7 = 0 ∧ S 99 0 8 = 0 ∧ S 99 0 13 = 0 ∧ S 99 0 16 = 0 ∧ S 99 0 17 = 0) (htE : A 46 0 = tE G) (hq : h q = none) : PM G 3 5 15 mm_X17_init [.ref q] (fw_up h q (.inr (20, [.int 0, .null, .null, .null, .null, .null]))) (fw_qV (fun h' => ∃ D' A' M', IR S D' ∧ Wf D' A' M' ∧ fw_ss D' A' M' h' ∧ lo D D' ∧ A' 30 0 = q ∧ (∀ k j, k ≠ 30 → ¬ (31 ≤ k ∧ k ≤ 35) → A' k j = A k j) ∧ D' 30 0 0 = 0) fw_noX) := by
  refine pm_of (by decide +kernel) rfl rfl rfl ?_
  obtain ⟨Q, hQ⟩ : ∃ Q, Q = (fw_qV (fun h' => ∃ D' A' M', IR S D' ∧ Wf D' A' M' ∧ fw_ss D' A' M' h' ∧ lo D D' ∧ A' 30 0 = q ∧ (∀ k j, k ≠ 30 → ¬ (31 ≤ k ∧ k ≤ 35) → A' k j = A k j) ∧ D' 30 0 0 = 0) fw_noX) := ⟨_, rfl⟩
  rw [← hQ]
  have nn : ∀ {H : fw_H} {a b : Nat} {o : fw_O}, fw_up H a o b = none → b ≠ a ∧ H b = none := fun {H a b o} e => by
    by_cases c : b = a
    · rw [c, fw_up_s] at e
      cases e
    · rw [fw_up_n c] at e
      exact ⟨c, e⟩
  have n2 : ∀ {H : fw_H} {a b : Nat} {o : fw_O}, b ≠ a → H b = none → fw_up H a o b = none := fun {H a b o} c e => by
    rw [fw_up_n c]
    exact e
  refine pw_go tk_X17_init rfl rfl ?_
  refine pw_oinit tk_X17_init rfl lk_X17_1 oi_1 oi_2 rfl ?_
  refine pw_go tk_X17_init rfl rfl ?_
  refine pw_mono (Q' := Q) (kc' := 4 + 1) (ks' := 12 + 3) (Nat.le_refl _) (Nat.le_refl _) (Nat.le_refl _) ?_
  refine pw_new tk_X17_init rfl nw_X17_7 (fun q1 q1f q1g => ?_)
  obtain ⟨c1, f1⟩ := nn q1f
  refine pw_go tk_X17_init rfl rfl ?_
  refine pw_ci tk_X17_init rfl ca_Jx4a65c_init_da8c8 (Or.inl lk_X17_9) iv_Jx4a65c_init_da8c8 rfl rfl (As := []) (rest := [.ref q1, .ref q]) (kc' := 4) (ks' := 12) (j_init fw_up_s) (fun _ _ z => z) rfl rfl rfl (Nat.le_of_ble_eq_true rfl) (Nat.le_of_eq (Nat.zero_add _)) (Nat.le_of_eq (Nat.zero_add _)) ?_
  rintro _ _ ⟨rfl, rfl⟩
  rw [fw_up_2]
  refine pw_putF tk_X17_init rfl fq_X17_10 rfl ((by rw [fw_up_n c1.symm]; exact fw_up_s)) rfl rfl (Nat.le_of_ble_eq_true rfl) ?_
  refine pw_h (h' := fw_up (fw_up h q1 (lO0 G)) q (.inr (20, [.int 0, .ref q1, .null, .null, .null, .null]))) fw_up_q2 ?_
  have g1 := n2 (o := lO0 G) c1.symm hq
  obtain ⟨h1, e1⟩ : ∃ h1, h1 = fw_up h q1 (lO0 G) := ⟨_, rfl⟩
  rw [← e1] at g1 ⊢
  refine pw_go tk_X17_init rfl rfl ?_
  refine pw_mono (Q' := Q) (kc' := 3 + 1) (ks' := 9 + 3) (Nat.le_refl _) (Nat.le_refl _) (Nat.le_refl _) ?_
  refine pw_new tk_X17_init rfl nw_X17_7 (fun q2 q2f q2g => ?_)
  obtain ⟨c2, f2⟩ := nn q2f
  refine pw_go tk_X17_init rfl rfl ?_
  refine pw_ci tk_X17_init rfl ca_Jx4a65c_init_da8c8 (Or.inl lk_X17_9) iv_Jx4a65c_init_da8c8 rfl rfl (As := []) (rest := [.ref q2, .ref q]) (kc' := 3) (ks' := 9) (j_init fw_up_s) (fun _ _ z => z) rfl rfl rfl (Nat.le_of_ble_eq_true rfl) (Nat.le_of_eq (Nat.zero_add _)) (Nat.le_of_eq (Nat.zero_add _)) ?_
  rintro _ _ ⟨rfl, rfl⟩
  rw [fw_up_2]
  refine pw_putF tk_X17_init rfl fq_X17_16 rfl ((by rw [fw_up_n c2.symm]; exact fw_up_s)) rfl rfl (Nat.le_of_ble_eq_true rfl) ?_
  refine pw_h (h' := fw_up (fw_up h1 q2 (lO0 G)) q (.inr (20, [.int 0, .ref q1, .ref q2, .null, .null, .null]))) fw_up_q2 ?_
  have g2 := n2 (o := lO0 G) c2.symm g1
  obtain ⟨h2, e2⟩ : ∃ h2, h2 = fw_up h1 q2 (lO0 G) := ⟨_, rfl⟩
  rw [← e2] at g2 ⊢
  refine pw_go tk_X17_init rfl rfl ?_
  refine pw_mono (Q' := Q) (kc' := 2 + 1) (ks' := 6 + 3) (Nat.le_refl _) (Nat.le_refl _) (Nat.le_refl _) ?_
  refine pw_new tk_X17_init rfl nw_X17_7 (fun q3 q3f q3g => ?_)
  obtain ⟨c3, f3⟩ := nn q3f
  refine pw_go tk_X17_init rfl rfl ?_
  refine pw_ci tk_X17_init rfl ca_Jx4a65c_init_da8c8 (Or.inl lk_X17_9) iv_Jx4a65c_init_da8c8 rfl rfl (As := []) (rest := [.ref q3, .ref q]) (kc' := 2) (ks' := 6) (j_init fw_up_s) (fun _ _ z => z) rfl rfl rfl (Nat.le_of_ble_eq_true rfl) (Nat.le_of_eq (Nat.zero_add _)) (Nat.le_of_eq (Nat.zero_add _)) ?_
  rintro _ _ ⟨rfl, rfl⟩
  rw [fw_up_2]
  refine pw_putF tk_X17_init rfl fq_X17_19 rfl ((by rw [fw_up_n c3.symm]; exact fw_up_s)) rfl rfl (Nat.le_of_ble_eq_true rfl) ?_
  refine pw_h (h' := fw_up (fw_up h2 q3 (lO0 G)) q (.inr (20, [.int 0, .ref q1, .ref q2, .ref q3, .null, .null]))) fw_up_q2 ?_
  have g3 := n2 (o := lO0 G) c3.symm g2
  obtain ⟨h3, e3⟩ : ∃ h3, h3 = fw_up h2 q3 (lO0 G) := ⟨_, rfl⟩
  rw [← e3] at g3 ⊢
  refine pw_go tk_X17_init rfl rfl ?_
  refine pw_mono (Q' := Q) (kc' := 1 + 1) (ks' := 3 + 3) (Nat.le_refl _) (Nat.le_refl _) (Nat.le_refl _) ?_
  refine pw_new tk_X17_init rfl nw_X17_7 (fun q4 q4f q4g => ?_)
  obtain ⟨c4, f4⟩ := nn q4f
  refine pw_go tk_X17_init rfl rfl ?_
  refine pw_ci tk_X17_init rfl ca_Jx4a65c_init_da8c8 (Or.inl lk_X17_9) iv_Jx4a65c_init_da8c8 rfl rfl (As := []) (rest := [.ref q4, .ref q]) (kc' := 1) (ks' := 3) (j_init fw_up_s) (fun _ _ z => z) rfl rfl rfl (Nat.le_of_ble_eq_true rfl) (Nat.le_of_eq (Nat.zero_add _)) (Nat.le_of_eq (Nat.zero_add _)) ?_
  rintro _ _ ⟨rfl, rfl⟩
  rw [fw_up_2]
  refine pw_putF tk_X17_init rfl fq_X17_22 rfl ((by rw [fw_up_n c4.symm]; exact fw_up_s)) rfl rfl (Nat.le_of_ble_eq_true rfl) ?_
  refine pw_h (h' := fw_up (fw_up h3 q4 (lO0 G)) q (.inr (20, [.int 0, .ref q1, .ref q2, .ref q3, .ref q4, .null]))) fw_up_q2 ?_
  have g4 := n2 (o := lO0 G) c4.symm g3
  obtain ⟨h4, e4⟩ : ∃ h4, h4 = fw_up h3 q4 (lO0 G) := ⟨_, rfl⟩
  rw [← e4] at g4 ⊢
  refine pw_go tk_X17_init rfl rfl ?_
  refine pw_mono (Q' := Q) (kc' := 0 + 1) (ks' := 0 + 3) (Nat.le_refl _) (Nat.le_refl _) (Nat.le_refl _) ?_
  refine pw_new tk_X17_init rfl nw_X17_7 (fun q5 q5f q5g => ?_)
  obtain ⟨c5, f5⟩ := nn q5f
  refine pw_go tk_X17_init rfl rfl ?_
  refine pw_ci tk_X17_init rfl ca_Jx4a65c_init_da8c8 (Or.inl lk_X17_9) iv_Jx4a65c_init_da8c8 rfl rfl (As := []) (rest := [.ref q5, .ref q]) (kc' := 0) (ks' := 0) (j_init fw_up_s) (fun _ _ z => z) rfl rfl rfl (Nat.le_of_ble_eq_true rfl) (Nat.le_of_eq (Nat.zero_add _)) (Nat.le_of_eq (Nat.zero_add _)) ?_
  rintro _ _ ⟨rfl, rfl⟩
  rw [fw_up_2]
  refine pw_putF tk_X17_init rfl fq_X17_25 rfl ((by rw [fw_up_n c5.symm]; exact fw_up_s)) rfl rfl (Nat.le_of_ble_eq_true rfl) ?_
  refine pw_h (h' := fw_up (fw_up h4 q5 (lO0 G)) q (.inr (20, [.int 0, .ref q1, .ref q2, .ref q3, .ref q4, .ref q5]))) fw_up_q2 ?_
  have g5 := n2 (o := lO0 G) c5.symm g4
  have NNx : ∀ (E : fw_DB) (k : Nat) f, f ≠ k → dn E k 0 zz 99 0 f = E 99 0 f := fun E k f hf => by rw [dn_N, if_neg hf]
  obtain ⟨A1, M1, W1, s1, x1, y1, -⟩ := sub_new (k := 31) (m := 0) (g := zz) (o := lO0 G) W s f1 (hz 31 (by decide) (by decide) (by decide)).symm (by decide) ⟨fun z => absurd z (by decide), by rw [NNx _ _ _ (by decide)]; omega⟩ (fun A' _ hA => by show _ = lsO 0 (A' 46 0) 0; rw [hA _ _ (by decide), htE])
  rw [← e1] at s1
  have t1 : A1 46 0 = tE G := by rw [y1 _ _ (by decide)]; exact htE
  obtain ⟨A2, M2, W2, s2, x2, y2, -⟩ := sub_new (k := 32) (m := 0) (g := zz) (o := lO0 G) W1 s1 f2 (by rw [NNx _ _ _ (by decide)]; exact (hz 32 (by decide) (by decide) (by decide)).symm) (by decide) ⟨fun z => absurd z (by decide), by rw [NNx _ _ _ (by decide), NNx _ _ _ (by decide)]; omega⟩ (fun A' _ hA => by show _ = lsO 0 (A' 46 0) 0; rw [hA _ _ (by decide), t1])
  rw [← e2] at s2
  have t2 : A2 46 0 = tE G := by rw [y2 _ _ (by decide)]; exact t1
  obtain ⟨A3, M3, W3, s3, x3, y3, -⟩ := sub_new (k := 33) (m := 0) (g := zz) (o := lO0 G) W2 s2 f3 (by rw [NNx _ _ _ (by decide), NNx _ _ _ (by decide)]; exact (hz 33 (by decide) (by decide) (by decide)).symm) (by decide) ⟨fun z => absurd z (by decide), by rw [NNx _ _ _ (by decide), NNx _ _ _ (by decide), NNx _ _ _ (by decide)]; omega⟩ (fun A' _ hA => by show _ = lsO 0 (A' 46 0) 0; rw [hA _ _ (by decide), t2])
  rw [← e3] at s3
  have t3 : A3 46 0 = tE G := by rw [y3 _ _ (by decide)]; exact t2
  obtain ⟨A4, M4, W4, s4, x4, y4, -⟩ := sub_new (k := 34) (m := 0) (g := zz) (o := lO0 G) W3 s3 f4 (by rw [NNx _ _ _ (by decide), NNx _ _ _ (by decide), NNx _ _ _ (by decide)]; exact (hz 34 (by decide) (by decide) (by decide)).symm) (by decide) ⟨fun z => absurd z (by decide), by rw [NNx _ _ _ (by decide), NNx _ _ _ (by decide), NNx _ _ _ (by decide), NNx _ _ _ (by decide)]; omega⟩ (fun A' _ hA => by show _ = lsO 0 (A' 46 0) 0; rw [hA _ _ (by decide), t3])
  rw [← e4] at s4
  have t4 : A4 46 0 = tE G := by rw [y4 _ _ (by decide)]; exact t3
  obtain ⟨A5, M5, W5, s5, x5, y5, -⟩ := sub_new (k := 35) (m := 0) (g := zz) (o := lO0 G) W4 s4 f5 (by rw [NNx _ _ _ (by decide), NNx _ _ _ (by decide), NNx _ _ _ (by decide), NNx _ _ _ (by decide)]; exact (hz 35 (by decide) (by decide) (by decide)).symm) (by decide) ⟨fun z => absurd z (by decide), by rw [NNx _ _ _ (by decide), NNx _ _ _ (by decide), NNx _ _ _ (by decide), NNx _ _ _ (by decide), NNx _ _ _ (by decide)]; omega⟩ (fun A' _ hA => by show _ = lsO 0 (A' 46 0) 0; rw [hA _ _ (by decide), t4])
  obtain ⟨E, hE⟩ : ∃ E, E = dn (dn (dn (dn (dn D 31 0 zz) 32 0 zz) 33 0 zz) 34 0 zz) 35 0 zz := ⟨_, rfl⟩
  rw [← hE] at W5 s5
  have EN : ∀ f, E 99 0 f = if 31 ≤ f ∧ f ≤ 35 then 1 else D 99 0 f := fun f => by
    rw [hE, dn_N, dn_N, dn_N, dn_N, dn_N]
    by_cases z1 : f = 35
    · rw [if_pos z1, if_pos (by omega)]
    rw [if_neg z1]
    by_cases z2 : f = 34
    · rw [if_pos z2, if_pos (by omega)]
    rw [if_neg z2]
    by_cases z3 : f = 33
    · rw [if_pos z3, if_pos (by omega)]
    rw [if_neg z3]
    by_cases z4 : f = 32
    · rw [if_pos z4, if_pos (by omega)]
    rw [if_neg z4]
    by_cases z5 : f = 31
    · rw [if_pos z5, if_pos (by omega)]
    · rw [if_neg z5, if_neg (by omega)]
  obtain ⟨A6, M6, W6, s6, x6, y6, -⟩ := sub_new (k := 30) (m := 0) (g := zz) (o := .inr (20, [.int 0, .ref q1, .ref q2, .ref q3, .ref q4, .ref q5])) W5 s5 g5 (by rw [EN, if_neg (by decide)]; exact (hz 30 (by decide) (by decide) (by decide)).symm) (by decide) (by
    show 0 < _ ∧ 0 < _ ∧ 0 < _ ∧ 0 < _ ∧ 0 < _
    rw [NNx _ _ _ (by decide), NNx _ _ _ (by decide), NNx _ _ _ (by decide), NNx _ _ _ (by decide), NNx _ _ _ (by decide), EN, EN, EN, EN, EN, if_pos (by decide), if_pos (by decide), if_pos (by decide), if_pos (by decide), if_pos (by decide)]
    decide) (fun A' _ hA => by
    show _ = (Sum.inr (20, [.int 0, .ref (A' 31 0), .ref (A' 32 0), .ref (A' 33 0), .ref (A' 34 0), .ref (A' 35 0)]) : fw_O)
    rw [hA 31 0 (by decide), hA 32 0 (by decide), hA 33 0 (by decide), hA 34 0 (by decide), hA 35 0 (by decide), x5, y5 34 _ (by decide), x4, y5 33 _ (by decide), y4 33 _ (by decide), x3, y5 32 _ (by decide), y4 32 _ (by decide), y3 32 _ (by decide), x2, y5 31 _ (by decide), y4 31 _ (by decide), y3 31 _ (by decide), y2 31 _ (by decide), x1])
  have FN : ∀ f, dn E 30 0 zz 99 0 f = if 30 ≤ f ∧ f ≤ 35 then 1 else D 99 0 f := fun f => by
    rw [dn_N]
    by_cases z : f = 30
    · rw [if_pos z, if_pos (by omega)]
    · rw [if_neg z, EN]
      by_cases z2 : 31 ≤ f ∧ f ≤ 35
      · rw [if_pos z2, if_pos (by omega)]
      · rw [if_neg z2, if_neg (by omega)]
  have F0 : ∀ k, 31 ≤ k → k ≤ 35 → dn E 30 0 zz k 0 = zz := fun k k1 k2 => by
    rw [dw_k (by omega) (by omega), hE]
    rcases (show k = 35 ∨ k = 34 ∨ k = 33 ∨ k = 32 ∨ k = 31 by omega) with rfl | rfl | rfl | rfl | rfl
    · exact dw_s (by decide)
    · rw [dw_k (by decide) (by decide)]
      exact dw_s (by decide)
    · rw [dw_k (by decide) (by decide), dw_k (by decide) (by decide)]
      exact dw_s (by decide)
    · rw [dw_k (by decide) (by decide), dw_k (by decide) (by decide), dw_k (by decide) (by decide)]
      exact dw_s (by decide)
    · rw [dw_k (by decide) (by decide), dw_k (by decide) (by decide), dw_k (by decide) (by decide), dw_k (by decide) (by decide)]
      exact dw_s (by decide)
  obtain ⟨s7, s8, s13, s16, s17⟩ := hS
  have I : IR S (dn E 30 0 zz) := by
    refine IR_of ⟨by rw [FN, if_pos (by decide)], by rw [FN, if_neg (by decide)]; exact h46⟩ (fun t ht => ?_) ⟨?_, ?_, ?_⟩ (fun f a b => ?_) ⟨fun l hl => ?_, fun l hl => ?_, fun l hl => ?_, fun l hl => ?_, fun l hl => ?_⟩
    · have e : S 99 0 (cT t) = 0 := by
        rcases cT_m ht with z | z | z | z | z <;> rw [z] <;> assumption
      unfold LR
      rw [e, F0 _ (by omega) (by omega), FN, FN, FN, if_pos (by omega), if_neg (by omega), if_neg (by omega)]
      exact ⟨rfl, rfl, rfl, hz _ (by omega) (by omega) (by omega), Or.inl ⟨rfl, rfl, hz _ (by omega) (by omega) (by omega)⟩, by omega⟩
    · rw [FN, if_neg (by decide), s8]
      exact hz _ (by decide) (by decide) (by decide)
    · rw [FN, if_neg (by decide), s8]
      exact hz _ (by decide) (by decide) (by decide)
    · rw [FN, if_neg (by decide), s8]
      exact hz _ (by decide) (by decide) (by decide)
    · rw [FN, if_neg (by omega)]
      exact hz _ (by omega) (by omega) (by omega)
    · omega
    · omega
    · omega
    · omega
    · omega
  have L1 : lo D (dn E 30 0 zz) := by
    rw [hE]
    exact (((((lo_dn (by decide)).tr (lo_dn (by decide))).tr (lo_dn (by decide))).tr (lo_dn (by decide))).tr (lo_dn (by decide))).tr (lo_dn (by decide))
  have L2 : ∀ k j, k ≠ 30 → ¬ (31 ≤ k ∧ k ≤ 35) → A6 k j = A k j := fun k j k1 k2 => by
    rw [y6 _ _ (by omega), y5 _ _ (by omega), y4 _ _ (by omega), y3 _ _ (by omega), y2 _ _ (by omega), y1 _ _ (by omega)]
  have L3 : dn E 30 0 zz 30 0 0 = 0 := by
    rw [dw_s (by decide)]
    rfl
  rw [hQ]
  exact pw_vret tk_X17_init rfl rfl ⟨rfl, dn E 30 0 zz, A6, M6, I, W6, s6, L1, x6, L2, L3⟩
end MCT

