/-! REFERENCE: persons, warrants told -/
section WRF
variable {G : fw_G} {n : Nat} {S D : fw_DB} {A : fw_AD} {M : fw_MP} {h : fw_H}
abbrev pO1 : fw_O := .inl (0, 20001, .inl (fun j => nI (frR zz j)))
abbrev pO2 : fw_O := .inl (2, 20000, .inl (fun j => bN (mkR zz j)))
set_option maxRecDepth 50000 in
theorem n_rPer {q : Nat} (hq : h q = none) : PM G 1 3 60001 mm_X14_init [.ref q] (fw_up h q (.inr (17, [.null, .null, .null]))) (fw_qV (fun h' => ∃ q1 q2 q3, h q1 = none ∧ fw_up h q1 pO1 q2 = none ∧ fw_up (fw_up h q1 pO1) q2 pO2 q3 = none ∧ fw_up (fw_up (fw_up h q1 pO1) q2 pO2) q3 pO2 q = none ∧ h' = fw_up (fw_up (fw_up (fw_up h q1 pO1) q2 pO2) q3 pO2) q (.inr (17, [.ref q1, .ref q2, .ref q3]))) fw_noX) := by
  refine pm_of (by decide +kernel) rfl rfl rfl ?_
  obtain ⟨Q, hQ⟩ : ∃ Q, Q = (fw_qV (fun h' => ∃ q1 q2 q3, h q1 = none ∧ fw_up h q1 pO1 q2 = none ∧ fw_up (fw_up h q1 pO1) q2 pO2 q3 = none ∧ fw_up (fw_up (fw_up h q1 pO1) q2 pO2) q3 pO2 q = none ∧ h' = fw_up (fw_up (fw_up (fw_up h q1 pO1) q2 pO2) q3 pO2) q (.inr (17, [.ref q1, .ref q2, .ref q3]))) fw_noX) := ⟨_, rfl⟩
  rw [← hQ]
  have nn : ∀ {H : fw_H} {a b : Nat} {o : fw_O}, fw_up H a o b = none → b ≠ a ∧ H b = none := fun {H a b o} e => by
    by_cases c : b = a
    · rw [c, fw_up_s] at e
      cases e
    · rw [fw_up_n c] at e
      exact ⟨c, e⟩
  have n2 : ∀ {H : fw_H} {a b : Nat} {o : fw_O}, b ≠ a → H b = none → fw_up H a o b = none := fun {H a b o} c e => by
    rw [fw_up_n c]
    exact e
  refine pw_go tk_X14_init rfl rfl ?_
  refine pw_oinit tk_X14_init rfl lk_X14_3 oi_1 oi_2 rfl ?_
  iterate 2 refine pw_go tk_X14_init rfl rfl ?_
  refine pw_mono (Q' := Q) (kc' := 2 + 1) (ks' := 40000 + 20001) (Nat.le_refl _) (Nat.le_refl _) (Nat.le_refl _) ?_
  refine pw_newa (t := 0) (N' := 20001) (a0 := (20001, .inl (fun _ => 0))) tk_X14_init rfl (by decide) rfl rfl ar_int (fun _ => rfl) (by decide) (by decide) (by decide) (fun q1 hq1 _ => ?_)
  obtain ⟨c1, hq1⟩ := nn hq1
  refine pw_putF tk_X14_init rfl fq_X14_9 rfl ((by rw [fw_up_n c1.symm]; exact fw_up_s)) rfl rfl (Nat.le_of_ble_eq_true rfl) ?_
  refine pw_h (h' := fw_up (fw_up h q1 (.inl (0, 20001, .inl (fun _ => 0)))) q (.inr (17, [.ref q1, .null, .null]))) fw_up_q2 ?_
  iterate 2 refine pw_go tk_X14_init rfl rfl ?_
  refine pw_mono (Q' := Q) (kc' := 1 + 1) (ks' := 20000 + 20000) (Nat.le_refl _) (Nat.le_refl _) (Nat.le_refl _) ?_
  refine pw_newa (t := 2) (N' := 20000) (a0 := (20000, .inl (fun _ => 0))) tk_X14_init rfl (by decide) rfl rfl ar_boolean (fun _ => rfl) (by decide) (by decide) (by decide) (fun q2 hq2 _ => ?_)
  obtain ⟨c2, hq2⟩ := nn hq2
  refine pw_putF tk_X14_init rfl fq_X14_15 rfl ((by rw [fw_up_n c2.symm]; exact fw_up_s)) rfl rfl (Nat.le_of_ble_eq_true rfl) ?_
  refine pw_h (h' := fw_up (fw_up (fw_up h q1 (.inl (0, 20001, .inl (fun _ => 0)))) q2 (.inl (2, 20000, .inl (fun _ => 0)))) q (.inr (17, [.ref q1, .ref q2, .null]))) fw_up_q2 ?_
  iterate 2 refine pw_go tk_X14_init rfl rfl ?_
  refine pw_mono (Q' := Q) (kc' := 0 + 1) (ks' := 0 + 20000) (Nat.le_refl _) (Nat.le_refl _) (Nat.le_refl _) ?_
  refine pw_newa (t := 2) (N' := 20000) (a0 := (20000, .inl (fun _ => 0))) tk_X14_init rfl (by decide) rfl rfl ar_boolean (fun _ => rfl) (by decide) (by decide) (by decide) (fun q3 hq3 _ => ?_)
  obtain ⟨c3, hq3⟩ := nn hq3
  refine pw_putF tk_X14_init rfl fq_X14_19 rfl ((by rw [fw_up_n c3.symm]; exact fw_up_s)) rfl rfl (Nat.le_of_ble_eq_true rfl) ?_
  refine pw_h (h' := fw_up (fw_up (fw_up (fw_up h q1 (.inl (0, 20001, .inl (fun _ => 0)))) q2 (.inl (2, 20000, .inl (fun _ => 0)))) q3 (.inl (2, 20000, .inl (fun _ => 0)))) q (.inr (17, [.ref q1, .ref q2, .ref q3]))) fw_up_q2 ?_
  obtain ⟨d2, hq2⟩ := nn hq2
  obtain ⟨d3, hq3⟩ := nn hq3
  obtain ⟨d4, hq3⟩ := nn hq3
  have a1 : fw_up (fw_up (fw_up (fw_up h q1 (.inl (0, 20001, .inl (fun _ => 0)))) q2 (.inl (2, 20000, .inl (fun _ => 0)))) q3 (.inl (2, 20000, .inl (fun _ => 0)))) q (.inr (17, [.ref q1, .ref q2, .ref q3])) q1 = some (.inl (0, 20001, .inl (fun _ => 0))) := by
    rw [fw_up_n c1, fw_up_n d4.symm, fw_up_n d2.symm, fw_up_s]
  have a2 : fw_up (fw_up (fw_up (fw_up h q1 (.inl (0, 20001, .inl (fun _ => 0)))) q2 (.inl (2, 20000, .inl (fun _ => 0)))) q3 (.inl (2, 20000, .inl (fun _ => 0)))) q (.inr (17, [.ref q1, .ref q2, .ref q3])) q2 = some (.inl (2, 20000, .inl (fun j => bN (mkR zz j)))) := by
    rw [fw_up_n c2, fw_up_n d3.symm, fw_up_s]
    rfl
  refine pw_go tk_X14_init rfl rfl ?_
  refine pw_cv tk_X14_init rfl ca_X14_sums lk_X14_22 iv_X14_sums sv_X14_sums fw_up_s rfl rfl (As := []) (rest := [])  (n_sums fw_up_s a1 a2 rfl (fun _ _ => rfl)) rfl rfl rfl (Nat.le_of_ble_eq_true rfl) (Nat.le_of_eq (Nat.zero_add _)) (Nat.le_of_eq (Nat.zero_add _)) ?_ ?_
  · rintro _ H ⟨rfl, e9⟩
    rw [e9]
    refine pw_h (h' := fw_up (fw_up (fw_up (fw_up h q1 pO1) q2 pO2) q3 pO2) q (.inr (17, [.ref q1, .ref q2, .ref q3]))) (funext fun b => ?_) ?_
    · by_cases z : b = q1
      · rw [z, fw_up_s, fw_up_n c1, fw_up_n d4.symm, fw_up_n d2.symm, fw_up_s]
      · rw [fw_up_n z]
        by_cases z0 : b = q
        · rw [z0, fw_up_s, fw_up_s]
        · rw [fw_up_n z0, fw_up_n z0]
          by_cases z3 : b = q3
          · rw [z3, fw_up_s, fw_up_s]
            rfl
          · rw [fw_up_n z3, fw_up_n z3]
            by_cases z2 : b = q2
            · rw [z2, fw_up_s, fw_up_s]
              rfl
            · rw [fw_up_n z2, fw_up_n z2, fw_up_n z, fw_up_n z]
    · rw [hQ]
      exact pw_vret tk_X14_init rfl rfl ⟨rfl, q1, q2, q3, hq1, n2 d2 hq2, n2 d3 (n2 d4 hq3), n2 c3.symm (n2 c2.symm (n2 c1.symm hq)), rfl⟩
  · exact fun _ _ z => z.elim
theorem RW_per {S D E : fw_DB} {g : Nat → Nat} (R : RW S D) (hE : ∀ k, 51 ≤ k → k ≤ 55 → E k = D k) (h56 : ∀ p, E 56 p = if p = S 99 0 8 then frR zz else D 56 p) (h57 : ∀ p, E 57 p = if p = S 99 0 8 then mkR zz else D 57 p) (h58 : ∀ p, E 58 p = if p = S 99 0 8 then mkR zz else D 58 p) {D3 : fw_DB} (h3 : ∀ f, 46 ≤ f → f ≠ 99 → D3 f = dn E (51 + 1) (S 99 0 8) g f) : RW (peS S) D3 := by
  obtain ⟨a1, a2, a3, a4, a5⟩ := R
  have NN : ∀ f, peS S 99 0 f = if f = 8 then S 99 0 8 + 1 else S 99 0 f := fun f => by
    unfold peS
    rw [dp_s]
    rfl
  have c : ∀ f, f ≠ 99 → f ≠ 10 → f ≠ 12 → peS S f = S f := fun f k1 k2 k3 => funext fun j => by
    unfold peS
    rw [dp_k k1, dp_k k3, dp_k k2]
  have c10 : ∀ p, peS S 10 p = if p = S 99 0 8 then zz else S 10 p := fun p => by
    unfold peS
    rw [dp_k (by decide), dp_k (by decide)]
    by_cases z : p = S 99 0 8
    · rw [z, dp_s, if_pos rfl]
    · rw [dp_i z, if_neg z]
  have c12 : ∀ p, peS S 12 p = if p = S 99 0 8 then zz else S 12 p := fun p => by
    unfold peS
    rw [dp_k (by decide)]
    by_cases z : p = S 99 0 8
    · rw [z, dp_s, if_pos rfl]
    · rw [dp_i z, dp_k (by decide), if_neg z]
  have d : ∀ k, 51 ≤ k → k ≤ 58 → k ≠ 52 → D3 k = E k := fun k k1 k2 k3 => by rw [h3 k (by omega) (by omega), dw_k (by omega) (by omega)]
  unfold RW
  rw [NN, NN, NN, NN, NN, if_pos rfl, if_neg (by decide), if_neg (by decide), if_neg (by decide), if_neg (by decide), c 7 (by decide) (by decide) (by decide), c 13 (by decide) (by decide) (by decide), c 15 (by decide) (by decide) (by decide), c 16 (by decide) (by decide) (by decide), c 17 (by decide) (by decide) (by decide), d 51 (by decide) (by decide) (by decide), d 53 (by decide) (by decide) (by decide), d 54 (by decide) (by decide) (by decide), d 55 (by decide) (by decide) (by decide), d 56 (by decide) (by decide) (by decide), d 57 (by decide) (by decide) (by decide), d 58 (by decide) (by decide) (by decide), hE 51 (by decide) (by decide), hE 53 (by decide) (by decide), hE 54 (by decide) (by decide), hE 55 (by decide) (by decide)]
  refine ⟨a1, a2, a3, a4, fun p hp => ?_⟩
  rw [h56, h57, h58, c10, c12]
  by_cases z : p = S 99 0 8
  · rw [if_pos z, if_pos z, if_pos z, if_pos z, if_pos z]
    exact ⟨rfl, rfl, rfl⟩
  · rw [if_neg z, if_neg z, if_neg z, if_neg z, if_neg z]
    exact a5 p (by omega)
set_option maxRecDepth 20000 in
theorem m_person (R : RD G n S D A M h) : PM G 6 5 60052 mm_X17_person [.ref (A 30 0)] h (fw_qI (fun r h' => wdn S (peS S) D A (peK S) (nI (S 99 0 8)) r h') fw_noX) := by
  refine pm_of (by decide +kernel) rfl rfl rfl ?_
  have hN := R.n7
  obtain ⟨Q, hQ⟩ : ∃ Q, Q = (fw_qI (fun r h' => wdn S (peS S) D A (peK S) (nI (S 99 0 8)) r h') fw_noX) := ⟨_, rfl⟩
  rw [← hQ]
  iterate 2 refine pw_go tk_X17_person rfl rfl ?_
  refine pw_get tk_X17_person rfl fl_X17_16 R.m rfl ?_
  refine pw_lsz tk_X17_person rfl (R.l2) rfl rfl rfl ?_
  refine pw_go tk_X17_person rfl rfl ?_
  refine pw_icN (S 99 0 8) (6) tk_X17_person rfl rfl rfl (by omega) (by omega) (fun c => ?_) (fun c => ?_)
  · have c : S 99 0 8 ≠ 6 := c
    have eK : peK S = 0 := if_neg c
    have R1 := R.t 0
    have rw1 := R1.2.1.rw
    refine pw_go tk_X17_person rfl rfl ?_
    refine pw_put tk_X17_person rfl fp_X17_28 R.m rfl rfl (Nat.le_of_ble_eq_true rfl) ?_
    refine pw_h (h' := tU A D h 0) rfl ?_
    generalize tU A D h 0 = h1 at *
    refine pw_go tk_X17_person rfl rfl ?_
    refine pw_get tk_X17_person rfl fl_X17_28 R1.m rfl ?_
    refine pw_ifN (0) tk_X17_person rfl rfl (by omega) (fun _ => ?_) (fun c => absurd (show 0 ≤ 0 by omega) c)
    refine pw_go tk_X17_person rfl rfl ?_
    refine pw_get tk_X17_person rfl fl_X17_16 R1.m rfl ?_
    refine pw_mono (Q' := Q) (kc' := 4 + 1) (ks' := 60049 + 3) (Nat.le_refl _) (Nat.le_refl _) (Nat.le_refl _) ?_
    refine pw_new tk_X17_person rfl nw_X17_112 (fun q qf qg => ?_)
    refine pw_go tk_X17_person rfl rfl ?_
    refine pw_ci tk_X17_person rfl ca_X14_init (Or.inl lk_X17_114) iv_X14_init rfl rfl (As := []) (rest := [.ref q, .ref (A 32 0)]) (kc' := 1) (ks' := 48) (n_rPer qf) (fun _ _ z => z) rfl rfl rfl (Nat.le_of_ble_eq_true rfl) (show 3 + 1 ≤ 4 by omega) (show 60001 + 48 ≤ 60049 by omega) ?_
    rintro _ _ ⟨rfl, q1, q2, q3, f1, f2, f3, f4, rfl⟩
    have I := R1.2.1.2.2.1
    have e56 : S 99 0 8 = sT D 0 99 0 56 := I.1.symm
    obtain ⟨A1, M1, W1, s1, x1, y1, -⟩ := sub_new (k := 56) (m := S 99 0 8) (g := frR zz) (o := pO1) R1.2.2.1 R1.2.2.2.1 f1 e56 (by decide) trivial (fun A' _ _ => rfl)
    have e57 : S 99 0 8 = dn (sT D 0) 56 (S 99 0 8) (frR zz) 99 0 57 := by rw [dn_N, if_neg (by decide)]; exact I.2.1.symm
    obtain ⟨A2, M2, W2, s2, x2, y2, -⟩ := sub_new (k := 57) (m := S 99 0 8) (g := mkR zz) (o := pO2) W1 s1 f2 e57 (by decide) trivial (fun A' _ _ => rfl)
    have e58 : S 99 0 8 = dn (dn (sT D 0) 56 (S 99 0 8) (frR zz)) 57 (S 99 0 8) (mkR zz) 99 0 58 := by rw [dn_N, if_neg (by decide), dn_N, if_neg (by decide)]; exact I.2.2.symm
    obtain ⟨A3, M3, W3, s3, x3, y3, -⟩ := sub_new (k := 58) (m := S 99 0 8) (g := mkR zz) (o := pO2) W2 s2 f3 e58 (by decide) trivial (fun A' _ _ => rfl)
    obtain ⟨E, hE⟩ : ∃ E, E = dn (dn (dn (sT D 0) 56 (S 99 0 8) (frR zz)) 57 (S 99 0 8) (mkR zz)) 58 (S 99 0 8) (mkR zz) := ⟨_, rfl⟩
    have eA : ∀ k j, k ≠ 56 → k ≠ 57 → k ≠ 58 → A3 k j = A k j := fun k j k1 k2 k3 => by rw [y3 k j k3, y2 k j k2, y1 k j k1]
    have Ek : ∀ k, k ≠ 56 → k ≠ 57 → k ≠ 58 → k ≠ 99 → E k = sT D 0 k := fun k k1 k2 k3 k4 => by rw [hE, dw_k k4 k3, dw_k k4 k2, dw_k k4 k1]
    have EN : ∀ f, E 99 0 f = if 56 ≤ f ∧ f ≤ 58 then S 99 0 8 + 1 else sT D 0 99 0 f := fun f => by
      rw [hE, dn_N, dn_N, dn_N]
      by_cases z1 : f = 58
      · rw [if_pos z1, if_pos (by omega)]
      · rw [if_neg z1]
        by_cases z2 : f = 57
        · rw [if_pos z2, if_pos (by omega)]
        · rw [if_neg z2]
          by_cases z3 : f = 56
          · rw [if_pos z3, if_pos (by omega)]
          · rw [if_neg z3, if_neg (by omega)]
    have E56 : ∀ p, E 56 p = if p = S 99 0 8 then frR zz else sT D 0 56 p := fun p => by
      rw [hE, dw_k (by decide) (by decide), dw_k (by decide) (by decide)]
      by_cases z : p = S 99 0 8
      · rw [z, dw_s (by decide), if_pos rfl]
      · rw [dw_i (by decide) z, if_neg z]
    have E57 : ∀ p, E 57 p = if p = S 99 0 8 then mkR zz else sT D 0 57 p := fun p => by
      rw [hE, dw_k (by decide) (by decide)]
      by_cases z : p = S 99 0 8
      · rw [z, dw_s (by decide), if_pos rfl]
      · rw [dw_i (by decide) z, dw_k (by decide) (by decide), if_neg z]
    have E58 : ∀ p, E 58 p = if p = S 99 0 8 then mkR zz else sT D 0 58 p := fun p => by
      rw [hE]
      by_cases z : p = S 99 0 8
      · rw [z, dw_s (by decide), if_pos rfl]
      · rw [dw_i (by decide) z, dw_k (by decide) (by decide), dw_k (by decide) (by decide), if_neg z]
    rw [← hE] at W3 s3
    have NN : ∀ f, peS S 99 0 f = if f = 8 then S 99 0 8 + 1 else S 99 0 f := fun f => by
      unfold peS
      rw [dp_s]
      rfl
    have hlo : lo D E := by
      rw [hE]
      exact (((lo_dp (by decide)).tr (lo_dn (by decide))).tr (lo_dn (by decide))).tr (lo_dn (by decide))
    refine pw_e (st2 := [.ref q, .ref (A3 (31 + 1) 0)]) (by rw [eA _ _ (by decide) (by decide) (by decide)]; rfl) ?_
    refine pw_grow (t := 1) (N := S 99 0 8) (ci := 17) (g := zz) (S' := peS S) (by decide) tk_X17_person rfl rfl R1.2.1 W3 s3 (fun k hk => Ek k (by omega) (by omega) (by omega) (by omega)) (fun f hf => by rw [EN, if_neg hf]) (fun f hf => by rw [EN, if_pos hf, NN, if_pos rfl]) ((eA 46 0 (by decide) (by decide) (by decide)).trans R1.2.2.2.2) (by rw [Ek 30 (by decide) (by decide) (by decide) (by decide)]; exact R1.z) hlo ⟨eA 0 0 (by decide) (by decide) (by decide), eA 30 0 (by decide) (by decide) (by decide), eA 46 0 (by decide) (by decide) (by decide), eA 70 0 (by decide) (by decide) (by decide), eA 71 0 (by decide) (by decide) (by decide)⟩ f4 rfl (by omega) (fun A' hA' => ?_) ?_ rfl (by decide) (fw_nw 2112 (by decide +kernel) (by decide +kernel)) (fun A i g => ⟨_, rfl⟩) (fun f hf _ => (NN f).trans (if_neg hf)) ((NN 8).trans (if_pos rfl)) (fun D3 h3 => RW_per rw1 (fun k k1 k2 => Ek k (by omega) (by omega) (by omega) (by omega)) E56 E57 E58 h3) rfl rfl (kc' := 0) (ks' := 0) (Nat.le_refl _) (Nat.le_refl _) (fun h' A' M' D' R4 rd e30 => ?_)
    · show _ = (Sum.inr (17, [.ref (A' 56 (S 99 0 8)), .ref (A' 57 (S 99 0 8)), .ref (A' 58 (S 99 0 8))]) : fw_O)
      rw [hA' _ _ (by decide), hA' _ _ (by decide), hA' _ _ (by decide), x3, y3 57 _ (by decide), x2, y3 56 _ (by decide), y2 56 _ (by decide), x1]
    · show S 99 0 8 < _ ∧ S 99 0 8 < _ ∧ S 99 0 8 < _
      rw [dn_N, dn_N, dn_N, if_neg (by decide), if_neg (by decide), if_neg (by decide), EN, EN, EN, if_pos (by decide), if_pos (by decide), if_pos (by decide)]
      omega
    · have m4 := R4.m
      rw [e30, eA 30 0 (by decide) (by decide) (by decide)] at m4
      have l1 := R4.l2
      rw [NN, if_pos rfl] at l1
      iterate 2 refine pw_go tk_X17_person rfl rfl ?_
      refine pw_get tk_X17_person rfl fl_X17_16 m4 rfl ?_
      refine pw_lsz tk_X17_person rfl (l1) rfl rfl rfl ?_
      refine pw_go tk_X17_person rfl rfl ?_
      refine pw_subN (S 99 0 8 + 1) (1) tk_X17_person rfl rfl rfl (by omega) ?_
      rw [Nat.add_sub_cancel, hQ]
      exact pw_iret tk_X17_person rfl rfl rfl ⟨_, rfl, wdn_0 eK rd⟩
  · have c : S 99 0 8 = 6 := Decidable.not_not.mp c
    have eK : peK S = 1 := if_pos c
    have R3 := R.t 1
    iterate 2 refine pw_go tk_X17_person rfl rfl ?_
    refine pw_put tk_X17_person rfl fp_X17_28 R.m rfl rfl (Nat.le_of_ble_eq_true rfl) ?_
    refine pw_h (h' := tU A D h 1) rfl ?_
    refine pw_go tk_X17_person rfl rfl ?_
    refine pw_get tk_X17_person rfl fl_X17_28 R3.m rfl ?_
    refine pw_ifN (1) tk_X17_person rfl rfl (by omega) (fun c => absurd (show 1 ≤ 0 from c) (by omega)) (fun _ => ?_)
    refine pw_go tk_X17_person rfl rfl ?_
    rw [hQ]
    exact pw_iret tk_X17_person rfl rfl rfl ⟨_, rfl, wdn_1 eK (by decide) (rdn_of R3)⟩
end WRF

