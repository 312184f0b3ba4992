/-! REFERENCE: laws, added days, recalls told -/
section WRD
variable {G : fw_G} {n : Nat} {S D : fw_DB} {A : fw_AD} {M : fw_MP} {h : fw_H}
theorem RD.z (R : RD G n S (sT D 0) A M h) : sT D 0 30 0 0 = 0 := sT_0
theorem sT_k {t k : Nat} (hk : k ≠ 30) : sT D t k = D k := funext fun j => dp_k hk
theorem n_rLaw {b c : Nat} {y z : Int32} {v : Bool} (hc : c = 111 ∨ c = 112) (ho : h b = some (.inr (16, [.int 0, .int 0, .int 0, .int 0]))) : PM G 0 0 0 mm_X13_init [.ref b, .int (nI c), .int y, .int z, .int (bI v)] h (fw_qV (fun h' => h' = fw_up h b (.inr (16, [.int (nI c), .int y, .int z, .int (bI v)]))) fw_noX) := by
  refine pm_of (by decide +kernel) rfl rfl rfl ?_
  refine pw_go tk_X13_init rfl rfl ?_
  refine pw_oinit tk_X13_init rfl lk_X13_1 oi_1 oi_2 rfl ?_
  iterate 2 refine pw_go tk_X13_init rfl rfl ?_
  refine pw_putF tk_X13_init rfl fq_X13_7 rfl ho (nar_c (by omega)) (by rcases hc with z | z <;> rw [z] <;> rfl) (Nat.le_of_ble_eq_true rfl) ?_
  iterate 2 refine pw_go tk_X13_init rfl rfl ?_
  refine pw_putF tk_X13_init rfl fq_X13_13 rfl fw_up_s rfl rfl (Nat.le_of_ble_eq_true rfl) ?_
  refine pw_h fw_up_2 ?_
  iterate 2 refine pw_go tk_X13_init rfl rfl ?_
  refine pw_putF tk_X13_init rfl fq_X13_17 rfl fw_up_s rfl rfl (Nat.le_of_ble_eq_true rfl) ?_
  refine pw_h fw_up_2 ?_
  iterate 2 refine pw_go tk_X13_init rfl rfl ?_
  refine pw_putF tk_X13_init rfl fq_X13_20 rfl fw_up_s (bI_z v) (by cases v <;> rfl) (Nat.le_of_ble_eq_true rfl) ?_
  refine pw_h fw_up_2 ?_
  exact pw_vret tk_X13_init rfl rfl ⟨rfl, rfl⟩
theorem n_rAdd {b : Nat} {x y z : Int32} (ho : h b = some (.inr (14, [.int 0, .int 0, .int 0]))) : PM G 0 0 0 mm_X11_init [.ref b, .int x, .int y, .int z] h (fw_qV (fun h' => h' = fw_up h b (.inr (14, [.int x, .int y, .int z]))) fw_noX) := by
  refine pm_of (by decide +kernel) rfl rfl rfl ?_
  refine pw_go tk_X11_init rfl rfl ?_
  refine pw_oinit tk_X11_init rfl lk_X11_1 oi_1 oi_2 rfl ?_
  iterate 2 refine pw_go tk_X11_init rfl rfl ?_
  refine pw_putF tk_X11_init rfl fq_X11_7 rfl ho rfl rfl (Nat.le_of_ble_eq_true rfl) ?_
  iterate 2 refine pw_go tk_X11_init rfl rfl ?_
  refine pw_putF tk_X11_init rfl fq_X11_13 rfl fw_up_s rfl rfl (Nat.le_of_ble_eq_true rfl) ?_
  refine pw_h fw_up_2 ?_
  iterate 2 refine pw_go tk_X11_init rfl rfl ?_
  refine pw_put tk_X11_init rfl fp_X11_16 fw_up_s rfl rfl (Nat.le_of_ble_eq_true rfl) ?_
  refine pw_h fw_up_2 ?_
  exact pw_vret tk_X11_init rfl rfl ⟨rfl, rfl⟩
theorem n_rRec {b c : Nat} {x y z : Int32} (hc : c = 102 ∨ c = 115) (ho : h b = some (.inr (18, [.int 0, .int 0, .int 0, .int 0, .int 0]))) : PM G 0 0 0 mm_X15_init [.ref b, .int x, .int y, .int (nI c), .int z] h (fw_qV (fun h' => h' = fw_up h b (.inr (18, [.int x, .int y, .int (nI c), .int z, .int (nI 20000)]))) fw_noX) := by
  refine pm_of (by decide +kernel) rfl rfl rfl ?_
  refine pw_go tk_X15_init rfl rfl ?_
  refine pw_oinit tk_X15_init rfl lk_X15_3 oi_1 oi_2 rfl ?_
  iterate 2 refine pw_go tk_X15_init rfl rfl ?_
  refine pw_put tk_X15_init rfl fp_X15_9 ho rfl rfl (Nat.le_of_ble_eq_true rfl) ?_
  iterate 2 refine pw_go tk_X15_init rfl rfl ?_
  refine pw_putF tk_X15_init rfl fq_X15_15 rfl fw_up_s rfl rfl (Nat.le_of_ble_eq_true rfl) ?_
  refine pw_h fw_up_2 ?_
  iterate 2 refine pw_go tk_X15_init rfl rfl ?_
  refine pw_putF tk_X15_init rfl fq_X15_18 rfl fw_up_s rfl rfl (Nat.le_of_ble_eq_true rfl) ?_
  refine pw_h fw_up_2 ?_
  iterate 2 refine pw_go tk_X15_init rfl rfl ?_
  refine pw_putF tk_X15_init rfl fq_X15_21 rfl fw_up_s (nar_c (by omega)) (by rcases hc with z | z <;> rw [z] <;> rfl) (Nat.le_of_ble_eq_true rfl) ?_
  refine pw_h fw_up_2 ?_
  iterate 2 refine pw_go tk_X15_init rfl rfl ?_
  refine pw_putF tk_X15_init rfl fq_X15_25 rfl fw_up_s rfl rfl (Nat.le_of_ble_eq_true rfl) ?_
  refine pw_h fw_up_2 ?_
  exact pw_vret tk_X15_init rfl rfl ⟨rfl, rfl⟩
theorem lwK_r {S : fw_DB} {x y z : Int32} : lwK S x y z = if ((decide (x = nI 111) || decide (x = nI 112)) && (inI y 0 (nI 19999) && inI z 1 (nI 8))) = false then 1 else if S 99 0 7 = 8 then 2 else 0 := rfl
theorem RW_law {S D E : fw_DB} {o fr e b : Nat} (R : RW S D) (hE : ∀ k, 51 ≤ k → k ≤ 58 → E k = D k) {D3 : fw_DB} (h3 : ∀ k, 46 ≤ k → k ≠ 99 → D3 k = dn E (51 + 0) (S 99 0 7) (lwR (lwG o fr e b)) k) : RW (lwS S o fr e b) D3 := by
  obtain ⟨a1, a2, a3, a4, a5⟩ := R
  have NN : ∀ f, lwS S o fr e b 99 0 f = if f = 7 then S 99 0 7 + 1 else S 99 0 f := fun f => dn_N f
  have c : ∀ k, k ≠ 99 → k ≠ 7 → lwS S o fr e b k = S k := fun k k1 k2 => dw_k k1 k2
  have d : ∀ k, 52 ≤ k → k ≤ 58 → D3 k = D k := fun k k1 k2 => by rw [h3 k (by omega) (by omega), dw_k (by omega) (by omega), hE k (by omega) k2]
  unfold RW
  rw [NN, NN, NN, NN, NN, if_pos rfl, if_neg (by decide), if_neg (by decide), if_neg (by decide), if_neg (by decide), c 13 (by decide) (by decide), c 15 (by decide) (by decide), c 16 (by decide) (by decide), c 17 (by decide) (by decide), c 10 (by decide) (by decide), c 12 (by decide) (by decide), d 53 (by decide) (by decide), d 54 (by decide) (by decide), d 55 (by decide) (by decide), d 56 (by decide) (by decide), d 57 (by decide) (by decide), d 58 (by decide) (by decide)]
  refine ⟨fun l hl => ?_, a2, a3, a4, a5⟩
  rw [h3 51 (by decide) (by decide)]
  by_cases z : l = S 99 0 7
  · rw [z, dw_s (by decide)]
    unfold lwS
    rw [dw_s (by decide)]
  · rw [dw_i (by decide) z, hE 51 (by decide) (by decide)]
    unfold lwS
    rw [dw_i (by decide) z]
    exact a1 l (by omega)
set_option maxRecDepth 20000 in
theorem m_law {x y z : Int32} {b : Bool} (R : RD G n S D A M h) : PM G 6 2 52 mm_X17_law [.ref (A 30 0), .int x, .int y, .int z, .int (bI b)] h (fw_qI (fun r h' => wdn S (lwS S (if decide (x = nI 111) = true then 1 else 0) y.toNatClampNeg z.toNatClampNeg (if b = true then 1 else 0)) D A (lwK S x y z) (nI (S 99 0 7)) r h') fw_noX) := by
  refine pm_of (by decide +kernel) rfl rfl rfl ?_
  have hN := R.n7
  obtain ⟨Q, hQ⟩ : ∃ Q, Q = (fw_qI (fun r h' => wdn S (lwS S (if decide (x = nI 111) = true then 1 else 0) y.toNatClampNeg z.toNatClampNeg (if b = true then 1 else 0)) D A (lwK S x y z) (nI (S 99 0 7)) r h') fw_noX) := ⟨_, rfl⟩
  rw [← hQ]
  have k55 : ∀ t, t ≠ 0 → t < 10 → lwK S x y z = t → ∀ L, fw_sL L [(0, .ref (A 30 0))] → PW G mm_X17_law Q 6 2 52 h 55 L [.int (nI t), .ref (A 30 0)] := by
    intro t t0 t10 e L hL
    refine pw_M _ hL ?_
    refine pw_put tk_X17_law rfl fp_X17_28 R.m rfl rfl (Nat.le_of_ble_eq_true rfl) ?_
    refine pw_h (h' := tU A D h t) rfl ?_
    have R3 := R.t t
    refine pw_go tk_X17_law rfl rfl ?_
    refine pw_get tk_X17_law rfl fl_X17_28 R3.m rfl ?_
    refine pw_ifN (t) tk_X17_law rfl rfl (by omega) (fun c => absurd (show t ≤ 0 from c) (by omega)) (fun _ => ?_)
    refine pw_go tk_X17_law rfl rfl ?_
    rw [hQ]
    exact pw_iret tk_X17_law rfl rfl rfl ⟨_, rfl, wdn_1 e t0 (rdn_of R3)⟩
  have k34 : ((decide (x = nI 111) || decide (x = nI 112)) && (inI y 0 (nI 19999) && inI z 1 (nI 8))) = false → ∀ L, fw_sL L [(0, .ref (A 30 0))] → PW G mm_X17_law Q 6 2 52 h 34 L [.ref (A 30 0)] := by
    intro e L hL
    refine pw_M _ hL ?_
    iterate 2 refine pw_go tk_X17_law rfl rfl ?_
    exact k55 1 (by decide) (by decide) (by rw [lwK_r, if_pos e]) _ ⟨rfl, trivial⟩
  have k13 : (decide (x = nI 111) || decide (x = nI 112)) = true → ∀ L, fw_sL L [(0, .ref (A 30 0)), (1, .int x), (2, .int y), (3, .int z), (4, .int (bI b))] → PW G mm_X17_law Q 6 2 52 h 13 L [.ref (A 30 0)] := by
    intro ex L hL
    refine pw_M _ hL ?_
    iterate 3 refine pw_go tk_X17_law rfl rfl ?_
    refine pw_csp tk_X17_law rfl ca_X17_in lk_X17_52 sx_X17_in (As := [.int y, .int 0, .int (nI 19999)]) (rest := [.ref (A 30 0)]) (n_in) rfl rfl rfl rfl ?_
    refine pw_ifeqB tk_X17_law rfl (fun c => k34 (by rw [c, Bool.false_and, Bool.and_false]) _ ⟨rfl, trivial⟩) (fun c => ?_)
    iterate 3 refine pw_go tk_X17_law rfl rfl ?_
    refine pw_csp tk_X17_law rfl ca_X17_in lk_X17_52 sx_X17_in (As := [.int z, .int 1, .int (nI 8)]) (rest := [.ref (A 30 0)]) (n_in) rfl rfl rfl rfl ?_
    refine pw_ifneB tk_X17_law rfl (fun c2 => ?_) (fun c2 => ?_)
    · obtain ⟨fr, rfl, -, hfr⟩ := inI_N (a := 0) c (by omega) (by omega)
      obtain ⟨ei, rfl, i1, i2⟩ := inI_N (a := 1) c2 (by omega) (by omega)
      have eK : lwK S x (nI fr) (nI ei) = if S 99 0 7 = 8 then 2 else 0 := by
        rw [lwK_r, ex, c, c2, if_neg (by decide)]
      refine pw_go tk_X17_law rfl rfl ?_
      refine pw_get tk_X17_law rfl fl_X17_10 R.m rfl ?_
      refine pw_lsz tk_X17_law rfl (R.l1) rfl rfl rfl ?_
      refine pw_go tk_X17_law rfl rfl ?_
      refine pw_icN (S 99 0 7) (8) tk_X17_law rfl rfl rfl (by omega) (by omega) (fun c3 => ?_) (fun c3 => ?_)
      · have c3 : S 99 0 7 ≠ 8 := c3
        rw [if_neg c3] at eK
        rw [nI_tn (by omega), nI_tn (by omega)] at hQ
        obtain ⟨cx, rfl, hcx⟩ : ∃ c : Nat, x = nI c ∧ (c = 111 ∨ c = 112) := by
          rw [Bool.or_eq_true, decide_eq_true_eq, decide_eq_true_eq] at ex
          rcases ex with e | e
          · exact ⟨111, e, Or.inl rfl⟩
          · exact ⟨112, e, Or.inr rfl⟩
        have R1 := R.t 0
        have rw1 := R1.2.1.rw
        refine pw_go tk_X17_law rfl rfl ?_
        refine pw_put tk_X17_law rfl fp_X17_28 R.m rfl rfl (Nat.le_of_ble_eq_true rfl) ?_
        refine pw_h (h' := tU A D h 0) rfl ?_
        generalize tU A D h 0 = h1 at *
        refine pw_go tk_X17_law rfl rfl ?_
        refine pw_get tk_X17_law rfl fl_X17_28 R1.m rfl ?_
        refine pw_ifN (0) tk_X17_law rfl rfl (by omega) (fun _ => ?_) (fun c => absurd (show 0 ≤ 0 by omega) c)
        refine pw_go tk_X17_law rfl rfl ?_
        refine pw_get tk_X17_law rfl fl_X17_10 R1.m rfl ?_
        refine pw_mono (Q' := Q) (kc' := 1 + 1) (ks' := 48 + 4) (Nat.le_refl _) (Nat.le_refl _) (Nat.le_refl _) ?_
        refine pw_new tk_X17_law rfl nw_X17_70 (fun q qf qg => ?_)
        iterate 5 refine pw_go tk_X17_law rfl rfl ?_
        refine pw_ci tk_X17_law rfl ca_X13_init (Or.inl lk_X17_72) iv_X13_init rfl rfl (As := [.int (nI cx), .int (nI fr), .int (nI ei), .int (bI b)]) (rest := [.ref q, .ref (A 31 0)]) (kc' := 1) (ks' := 48) (n_rLaw hcx fw_up_s) (fun _ _ z => z) rfl rfl rfl (Nat.le_of_ble_eq_true rfl) (show 0 + 1 ≤ 1 by omega) (show 0 + 48 ≤ 48 by omega) ?_
        rintro _ _ ⟨rfl, rfl⟩
        rw [fw_up_2]
        refine pw_grow (t := 0) (N := S 99 0 7) (ci := 16) (g := lwR (lwG (if decide (nI cx = nI 111) = true then 1 else 0) fr ei (if b = true then 1 else 0))) (S' := lwS S (if decide (nI cx = nI 111) = true then 1 else 0) fr ei (if b = true then 1 else 0)) (by decide) tk_X17_law rfl rfl R1.2.1 R1.2.2.1 R1.2.2.2.1 (fun _ _ => rfl) (fun _ _ => rfl) (fun f hf => ?_) R1.2.2.2.2 R1.z (lo_dp (by decide)) adk.rf qf rfl (by omega) (fun A' _ => ?_) trivial rfl (by decide) (fw_nw 2107 (by decide +kernel) (by decide +kernel)) (fun A i g => ⟨_, rfl⟩) (fun f hf _ => ?_) ?_ (fun D3 h3 => RW_law rw1 (fun k k1 k2 => rfl) h3) rfl rfl (kc' := 0) (ks' := 0) (Nat.le_refl _) (Nat.le_refl _) (fun h' A' M' D' R4 rd e30 => ?_)
        · have I := R1.2.1.2.2.1
          have e8 : lwS S (if decide (nI cx = nI 111) = true then 1 else 0) fr ei (if b = true then 1 else 0) 99 0 8 = S 99 0 8 := by
            unfold lwS
            rw [dn_N, if_neg (by decide)]
          rw [e8]
          rcases (show f = 56 ∨ f = 57 ∨ f = 58 by omega) with rfl | rfl | rfl
          · exact I.1
          · exact I.2.1
          · exact I.2.2
        · show _ = (Sum.inr (16, [.int (nI (if 0 < (if decide (nI cx = nI 111) = true then 1 else 0) then 111 else 112)), .int (nI fr), .int (nI ei), .int (bN (if b = true then 1 else 0))]) : fw_O)
          rw [bN_b]
          rcases hcx with e | e
          · subst e
            rfl
          · subst e
            rfl
        · unfold lwS
          rw [dn_N]
          exact if_neg hf
        · unfold lwS
          rw [dn_N]
          exact if_pos rfl
        · have m4 := R4.m
          rw [e30] at m4
          have l1 := R4.l1
          have e7 : lwS S (if decide (nI cx = nI 111) = true then 1 else 0) fr ei (if b = true then 1 else 0) 99 0 7 = S 99 0 7 + 1 := by
            unfold lwS
            rw [dn_N, if_pos rfl]
          rw [e7] at l1
          iterate 2 refine pw_go tk_X17_law rfl rfl ?_
          refine pw_get tk_X17_law rfl fl_X17_10 m4 rfl ?_
          refine pw_lsz tk_X17_law rfl (l1) rfl rfl rfl ?_
          refine pw_go tk_X17_law rfl rfl ?_
          refine pw_subN (S 99 0 7 + 1) (1) tk_X17_law rfl rfl rfl (by omega) ?_
          rw [Nat.add_sub_cancel, hQ]
          exact pw_iret tk_X17_law rfl rfl rfl ⟨_, rfl, wdn_0 eK rd⟩
      · have c3 : S 99 0 7 = 8 := Decidable.not_not.mp c3
        iterate 2 refine pw_go tk_X17_law rfl rfl ?_
        exact k55 2 (by decide) (by decide) (by rw [eK, if_pos c3]) _ ⟨rfl, trivial⟩
    · skip
      exact k34 (by rw [c2, Bool.and_false, Bool.and_false]) _ ⟨rfl, trivial⟩
  iterate 3 refine pw_go tk_X17_law rfl rfl ?_
  refine pw_br tk_X17_law rfl rfl (fun c => ?_) (fun c => ?_)
  · have c : x = nI 111 := c
    exact k13 (by rw [decide_eq_true c]; rfl) _ ⟨rfl, rfl, rfl, rfl, rfl, trivial⟩
  have c : ¬ x = nI 111 := c
  iterate 2 refine pw_go tk_X17_law rfl rfl ?_
  refine pw_br tk_X17_law rfl rfl (fun c2 => ?_) (fun c2 => ?_)
  · have c2 : x ≠ nI 112 := c2
    exact k34 (by rw [decide_eq_false c, decide_eq_false c2]; rfl) _ ⟨rfl, trivial⟩
  · have c2 : x = nI 112 := Decidable.not_not.mp c2
    exact k13 (by rw [decide_eq_true c2, Bool.or_true]) _ ⟨rfl, rfl, rfl, rfl, rfl, trivial⟩
theorem RW_add {S D E : fw_DB} {p a k : Nat} (R : RW S D) (hE : ∀ k, 51 ≤ k → k ≤ 58 → E k = D k) {D3 : fw_DB} (h3 : ∀ f, 46 ≤ f → f ≠ 99 → D3 f = dn E (51 + 3) (S 99 0 16) (adR (adG p a k)) f) : RW (adS S p a k) D3 := by
  obtain ⟨a1, a2, a3, a4, a5⟩ := R
  have NN : ∀ f, adS S p a k 99 0 f = if f = 16 then S 99 0 16 + 1 else S 99 0 f := fun f => dn_N f
  have c : ∀ f, f ≠ 99 → f ≠ 16 → adS S p a k f = S f := fun f k1 k2 => dw_k k1 k2
  have d : ∀ k, 51 ≤ k → k ≤ 58 → k ≠ 54 → D3 k = D k := fun k k1 k2 k3 => by rw [h3 k (by omega) (by omega), dw_k (by omega) (by omega), hE k (by omega) k2]
  unfold RW
  rw [NN, NN, NN, NN, NN, if_pos rfl, if_neg (by decide), if_neg (by decide), if_neg (by decide), if_neg (by decide), c 7 (by decide) (by decide), c 13 (by decide) (by decide), c 15 (by decide) (by decide), c 17 (by decide) (by decide), c 10 (by decide) (by decide), c 12 (by decide) (by decide), d 51 (by decide) (by decide) (by decide), d 53 (by decide) (by decide) (by decide), d 55 (by decide) (by decide) (by decide), d 56 (by decide) (by decide) (by decide), d 57 (by decide) (by decide) (by decide), d 58 (by decide) (by decide) (by decide)]
  refine ⟨a1, a2, fun l hl => ?_, a4, a5⟩
  rw [h3 54 (by decide) (by decide)]
  by_cases z : l = S 99 0 16
  · rw [z, dw_s (by decide)]
    unfold adS
    rw [dw_s (by decide)]
  · rw [dw_i (by decide) z, hE 54 (by decide) (by decide)]
    unfold adS
    rw [dw_i (by decide) z]
    exact a3 l (by omega)
set_option maxRecDepth 20000 in
theorem m_add {x y z : Int32} (R : RD G n S D A M h) : PM G 6 2 51 mm_X17_add [.ref (A 30 0), .int x, .int y, .int z] h (fw_qI (fun r h' => wdn S (adS S x.toNatClampNeg y.toNatClampNeg z.toNatClampNeg) D A (adK S x y z) (nI (S 99 0 16)) r h') fw_noX) := by
  refine pm_of (by decide +kernel) rfl rfl rfl ?_
  have hN := R.n7
  obtain ⟨Q, hQ⟩ : ∃ Q, Q = (fw_qI (fun r h' => wdn S (adS S x.toNatClampNeg y.toNatClampNeg z.toNatClampNeg) D A (adK S x y z) (nI (S 99 0 16)) r h') fw_noX) := ⟨_, rfl⟩
  rw [← hQ]
  have k29 : ∀ g, g = (inI y 0 (nI 19999) && inI z 1 (nI 200)) → ∀ L, fw_sL L [(0, .ref (A 30 0)), (1, .int x), (2, .int y), (3, .int z)] → PW G mm_X17_add Q 6 2 51 h 29 L [.int (bI g), .int x, .ref (A 30 0)] := by
    intro gg hg L hL
    refine pw_M _ hL ?_
    refine pw_cv tk_X17_add rfl ca_X17_noPerson lk_X17_181 iv_X17_noPerson sv_X17_noPerson R.m rfl rfl (As := [.int x, .int (bI gg)]) (rest := []) (kc' := 2) (ks' := 51) (n_noPerson R) rfl rfl rfl (Nat.le_of_ble_eq_true rfl) (show 0 + 2 ≤ 2 by omega) (show 0 + 51 ≤ 51 by omega) ?_ ?_
    · rintro _ H ⟨_, rfl, rfl, e9⟩
      rw [e9, hg]
      have R1 := R.t (pdK (S 99 0 8) x (inI y 0 (nI 19999) && inI z 1 (nI 200)))
      by_cases hk : 0 < pdK (S 99 0 8) x (inI y 0 (nI 19999) && inI z 1 (nI 200))
      · have eK : adK S x y z = pdK (S 99 0 8) x (inI y 0 (nI 19999) && inI z 1 (nI 200)) := if_neg (by omega)
        rw [decide_eq_true hk]
        refine pw_ifeqB tk_X17_add rfl (fun c => absurd c (by decide)) (fun _ => ?_)
        refine pw_go tk_X17_add rfl rfl ?_
        rw [hQ]
        exact pw_iret tk_X17_add rfl rfl rfl ⟨_, rfl, wdn_1 eK (by omega) (rdn_of R1)⟩
      · have hk0 : pdK (S 99 0 8) x (inI y 0 (nI 19999) && inI z 1 (nI 200)) = 0 := by omega
        have eK : adK S x y z = if S 99 0 16 = 30 then 3 else 0 := if_pos hk0
        obtain ⟨h1, h2⟩ := pd0 hk0
        rw [Bool.and_eq_true] at h2
        obtain ⟨p, hp, rfl⟩ := knI_to h1 (by omega)
        obtain ⟨dd, rfl, -, hdd⟩ := inI_N (a := 0) h2.1 (by omega) (by omega)
        obtain ⟨kk, rfl, hk1, hk2⟩ := inI_N (a := 1) h2.2 (by omega) (by omega)
        rw [decide_eq_false hk, hk0]
        rw [hk0] at R1
        rw [nI_tn (by omega), nI_tn (by omega), nI_tn (by omega)] at hQ
        have rw1 := R1.2.1.rw
        generalize tU A D h 0 = h1 at *
        refine pw_ifeqB tk_X17_add rfl (fun _ => ?_) (fun c => absurd c (by decide))
        refine pw_go tk_X17_add rfl rfl ?_
        refine pw_get tk_X17_add rfl fl_X17_22 R1.m rfl ?_
        refine pw_lsz tk_X17_add rfl (R1.l4) rfl rfl rfl ?_
        refine pw_go tk_X17_add rfl rfl ?_
        refine pw_icN (S 99 0 16) (30) tk_X17_add rfl rfl rfl (by omega) (by omega) (fun c3 => ?_) (fun c3 => ?_)
        · have c3 : S 99 0 16 ≠ 30 := c3
          rw [if_neg c3] at eK
          refine pw_go tk_X17_add rfl rfl ?_
          refine pw_get tk_X17_add rfl fl_X17_22 R1.m rfl ?_
          refine pw_mono (Q' := Q) (kc' := 1 + 1) (ks' := 48 + 3) (Nat.le_refl _) (Nat.le_refl _) (Nat.le_refl _) ?_
          refine pw_new tk_X17_add rfl nw_X17_185 (fun q qf qg => ?_)
          iterate 4 refine pw_go tk_X17_add rfl rfl ?_
          refine pw_ci tk_X17_add rfl ca_X11_init (Or.inl lk_X17_187) iv_X11_init rfl rfl (As := [.int (nI p), .int (nI dd), .int (nI kk)]) (rest := [.ref q, .ref (A 34 0)]) (kc' := 1) (ks' := 48) (n_rAdd fw_up_s) (fun _ _ z => z) rfl rfl rfl (Nat.le_of_ble_eq_true rfl) (show 0 + 1 ≤ 1 by omega) (show 0 + 48 ≤ 48 by omega) ?_
          rintro _ _ ⟨rfl, rfl⟩
          rw [fw_up_2]
          have NN : ∀ f, adS S p dd kk 99 0 f = if f = 16 then S 99 0 16 + 1 else S 99 0 f := fun f => dn_N f
          refine pw_grow (t := 3) (N := S 99 0 16) (ci := 14) (g := adR (adG p dd kk)) (S' := adS S p dd kk) (by decide) tk_X17_add rfl rfl R1.2.1 R1.2.2.1 R1.2.2.2.1 (fun _ _ => rfl) (fun _ _ => rfl) (fun f hf => ?_) R1.2.2.2.2 R1.z (lo_dp (by decide)) adk.rf qf rfl (by omega) (fun A' _ => rfl) trivial rfl (by decide) (fw_nw 2116 (by decide +kernel) (by decide +kernel)) (fun A i g => ⟨_, rfl⟩) (fun f hf _ => ?_) ?_ (fun D3 h3 => RW_add rw1 (fun k k1 k2 => rfl) h3) rfl rfl (kc' := 0) (ks' := 0) (Nat.le_refl _) (Nat.le_refl _) (fun h' A' M' D' R4 rd e30 => ?_)
          · have I := R1.2.1.2.2.1
            rw [NN, if_neg (by decide)]
            rcases (show f = 56 ∨ f = 57 ∨ f = 58 by omega) with rfl | rfl | rfl
            · exact I.1
            · exact I.2.1
            · exact I.2.2
          · rw [NN]
            exact if_neg hf
          · exact (NN 16).trans (if_pos rfl)
          · have m4 := R4.m
            rw [e30] at m4
            have l1 := R4.l4
            rw [NN, if_pos rfl] at l1
            iterate 2 refine pw_go tk_X17_add rfl rfl ?_
            refine pw_get tk_X17_add rfl fl_X17_22 m4 rfl ?_
            refine pw_lsz tk_X17_add rfl (l1) rfl rfl rfl ?_
            refine pw_go tk_X17_add rfl rfl ?_
            refine pw_subN (S 99 0 16 + 1) (1) tk_X17_add rfl rfl rfl (by omega) ?_
            rw [Nat.add_sub_cancel, hQ]
            exact pw_iret tk_X17_add rfl rfl rfl ⟨_, rfl, wdn_0 eK rd⟩
        · have c3 : S 99 0 16 = 30 := Decidable.not_not.mp c3
          rw [if_pos c3] at eK
          iterate 2 refine pw_go tk_X17_add rfl rfl ?_
          refine pw_cv tk_X17_add rfl ca_X17_raises lk_X17_118 iv_X17_raises sv_X17_raises R1.m rfl rfl (As := [.int (nI 3)]) (rest := []) (kc' := 2) (ks' := 51) (n_raises (t := 3) R1) rfl rfl rfl (Nat.le_of_ble_eq_true rfl) (show 0 + 2 ≤ 2 by omega) (show 0 + 51 ≤ 51 by omega) ?_ ?_
          · rintro _ H ⟨_, rfl, rfl, e9⟩
            rw [e9, hQ]
            exact pw_iret tk_X17_add rfl rfl rfl ⟨_, rfl, wdn_1 eK (by decide) (rdn_of (R1.tt rfl 3))⟩
          · exact fun _ _ z => z.elim
    · exact fun _ _ z => z.elim
  iterate 5 refine pw_go tk_X17_add rfl rfl ?_
  refine pw_csp tk_X17_add rfl ca_X17_in lk_X17_52 sx_X17_in (As := [.int y, .int 0, .int (nI 19999)]) (rest := [.int x, .ref (A 30 0)]) (n_in) rfl rfl rfl rfl ?_
  refine pw_ifeqB tk_X17_add rfl (fun c => ?_) (fun c => ?_)
  · skip
    refine pw_go tk_X17_add rfl rfl ?_
    exact k29 false (by rw [c]; rfl) _ ⟨rfl, rfl, rfl, rfl, trivial⟩
  iterate 3 refine pw_go tk_X17_add rfl rfl ?_
  refine pw_csp tk_X17_add rfl ca_X17_in lk_X17_52 sx_X17_in (As := [.int z, .int 1, .int (nI 200)]) (rest := [.int x, .ref (A 30 0)]) (n_in) rfl rfl rfl rfl ?_
  refine pw_ifeqB tk_X17_add rfl (fun c2 => ?_) (fun c2 => ?_)
  · skip
    refine pw_go tk_X17_add rfl rfl ?_
    exact k29 false (by rw [c2, Bool.and_false]) _ ⟨rfl, rfl, rfl, rfl, trivial⟩
  · skip
    iterate 2 refine pw_go tk_X17_add rfl rfl ?_
    exact k29 true (by rw [c, c2]; rfl) _ ⟨rfl, rfl, rfl, rfl, trivial⟩
theorem RW_rec {S D E : fw_DB} {p d o : Nat} (R : RW S D) (hE : ∀ k, 51 ≤ k → k ≤ 58 → E k = D k) {D3 : fw_DB} (h3 : ∀ f, 46 ≤ f → f ≠ 99 → D3 f = dn E (51 + 4) (S 99 0 17) (rcR (rcG p d o (S 99 0 13))) f) : RW (reS S p d o) D3 := by
  obtain ⟨a1, a2, a3, a4, a5⟩ := R
  have NN : ∀ f, reS S p d o 99 0 f = if f = 17 then S 99 0 17 + 1 else S 99 0 f := fun f => dn_N f
  have c : ∀ f, f ≠ 99 → f ≠ 17 → reS S p d o f = S f := fun f k1 k2 => dw_k k1 k2
  have d : ∀ k, 51 ≤ k → k ≤ 58 → k ≠ 55 → D3 k = D k := fun k k1 k2 k3 => by rw [h3 k (by omega) (by omega), dw_k (by omega) (by omega), hE k (by omega) k2]
  unfold RW
  rw [NN, NN, NN, NN, NN, if_pos rfl, if_neg (by decide), if_neg (by decide), if_neg (by decide), if_neg (by decide), c 7 (by decide) (by decide), c 13 (by decide) (by decide), c 15 (by decide) (by decide), c 16 (by decide) (by decide), c 10 (by decide) (by decide), c 12 (by decide) (by decide), d 51 (by decide) (by decide) (by decide), d 53 (by decide) (by decide) (by decide), d 54 (by decide) (by decide) (by decide), d 56 (by decide) (by decide) (by decide), d 57 (by decide) (by decide) (by decide), d 58 (by decide) (by decide) (by decide)]
  refine ⟨a1, a2, a3, fun l hl => ?_, a5⟩
  rw [h3 55 (by decide) (by decide)]
  by_cases z : l = S 99 0 17
  · rw [z, dw_s (by decide)]
    unfold reS
    rw [dw_s (by decide)]
  · rw [dw_i (by decide) z, hE 55 (by decide) (by decide)]
    unfold reS
    rw [dw_i (by decide) z]
    exact a4 l (by omega)
end WRD

