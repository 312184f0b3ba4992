/-! REFERENCE: warrants told -/
theorem fl_is {k : Int32} : decide (0 ≤ idxF (sBy.getD 0 []) k 0) = kdI k := by
  have e : idxF (sBy.getD 0 []) k 0 = if nI 102 = k then nI 0 else if nI 108 = k then nI 1 else if nI 100 = k then nI 2 else if nI 115 = k then nI 3 else -1 := rfl
  rw [e]
  unfold kdI
  by_cases c1 : nI 102 = k
  · subst c1
    rfl
  rw [if_neg c1, decide_eq_false (p := k = nI 102) (fun z => c1 z.symm)]
  by_cases c2 : nI 108 = k
  · subst c2
    rfl
  rw [if_neg c2, decide_eq_false (p := k = nI 108) (fun z => c2 z.symm)]
  by_cases c3 : nI 100 = k
  · subst c3
    rfl
  rw [if_neg c3, decide_eq_false (p := k = nI 100) (fun z => c3 z.symm)]
  by_cases c4 : nI 115 = k
  · subst c4
    rfl
  rw [if_neg c4, decide_eq_false (p := k = nI 115) (fun z => c4 z.symm)]
  rfl
theorem RW_war {S D E : fw_DB} {t g : Nat → Nat} (R : RW S D) (hE : ∀ k, 51 ≤ k → k ≤ 58 → E k = D k) {D3 : fw_DB} (h3 : ∀ f, 46 ≤ f → f ≠ 99 → D3 f = dn E (51 + 2) (S 99 0 13) (waR g t) f) : RW (wrS S t g) D3 := by
  obtain ⟨a1, a2, a3, a4, a5⟩ := R
  have NN : ∀ f, f ≠ 15 → wrS S t g 99 0 f = if f = 13 then S 99 0 13 + 1 else S 99 0 f := fun f hf => by
    unfold wrS
    rw [dn_N, dn_N, if_neg hf]
  have c : ∀ f, f ≠ 99 → f ≠ 13 → f ≠ 15 → wrS S t g f = S f := fun f k1 k2 k3 => by
    unfold wrS
    rw [dw_k k1 k2, dw_k k1 k3]
  have d : ∀ k, 51 ≤ k → k ≤ 58 → k ≠ 53 → D3 k = D k := fun k k1 k2 k3 => by rw [h3 k (by omega) (by omega), dw_k (by omega) (by omega), hE k (by omega) k2]
  unfold RW
  rw [NN 7 (by decide), NN 8 (by decide), NN 13 (by decide), NN 16 (by decide), NN 17 (by decide), if_pos rfl, if_neg (by decide), if_neg (by decide), if_neg (by decide), if_neg (by decide), c 7 (by decide) (by decide) (by decide), c 16 (by decide) (by decide) (by decide), c 17 (by decide) (by decide) (by decide), c 10 (by decide) (by decide) (by decide), c 12 (by decide) (by decide) (by decide), d 51 (by decide) (by decide) (by decide), d 54 (by decide) (by decide) (by decide), d 55 (by decide) (by decide) (by decide), d 56 (by decide) (by decide) (by decide), d 57 (by decide) (by decide) (by decide), d 58 (by decide) (by decide) (by decide)]
  refine ⟨a1, fun l hl => ?_, a3, a4, a5⟩
  rw [h3 53 (by decide) (by decide)]
  by_cases z : l = S 99 0 13
  · rw [z, dw_s (by decide)]
    unfold wrS
    rw [dw_s (by decide), dw_k (by decide) (by decide), dw_s (by decide)]
  · rw [dw_i (by decide) z, hE 53 (by decide) (by decide)]
    unfold wrS
    rw [dw_i (by decide) z, dw_k (k' := 13) (by decide) (by decide), dw_k (k' := 15) (by decide) (by decide), dw_i (by decide) z]
    exact a2 l (by omega)
section WRG
variable {G : fw_G} {n : Nat} {S D : fw_DB} {A : fw_AD} {M : fw_MP} {h : fw_H}
theorem n_rWar {b c : Nat} {x o p bh : Int32} (hc : c = 102 ∨ c = 108 ∨ c = 100 ∨ c = 115) (ho : h b = some (.inr (19, [.int 0, .int 0, .int 0, .int 0, .int 0, .int 0, .int 0, .int 0, .int 0, .int 0, .int 0, .int 0, .int 0]))) : PM G 0 0 0 mm_X16_init [.ref b, .int x, .int (nI c), .int o, .int p, .int bh] h (fw_qV (fun h' => h' = fw_up h b (.inr (19, [.int x, .int (nI c), .int o, .int p, .int bh, .int 0, .int 0, .int 0, .int 0, .int 0, .int (-1), .int 0, .int (-1)]))) fw_noX) := by
  refine pm_of (by decide +kernel) rfl rfl rfl ?_
  refine pw_go tk_X16_init rfl rfl ?_
  refine pw_oinit tk_X16_init rfl lk_X16_3 oi_1 oi_2 rfl ?_
  iterate 2 refine pw_go tk_X16_init rfl rfl ?_
  refine pw_put tk_X16_init rfl fp_X16_9 ho rfl rfl (Nat.le_of_ble_eq_true rfl) ?_
  iterate 2 refine pw_go tk_X16_init rfl rfl ?_
  refine pw_put tk_X16_init rfl fp_X16_15 fw_up_s rfl rfl (Nat.le_of_ble_eq_true rfl) ?_
  refine pw_h fw_up_2 ?_
  iterate 2 refine pw_go tk_X16_init rfl rfl ?_
  refine pw_putF tk_X16_init rfl fq_X16_18 rfl fw_up_s rfl rfl (Nat.le_of_ble_eq_true rfl) ?_
  refine pw_h fw_up_2 ?_
  iterate 2 refine pw_go tk_X16_init rfl rfl ?_
  refine pw_putF tk_X16_init rfl fq_X16_21 rfl fw_up_s (nar_c (by omega)) (by rcases hc with z | z | z | z <;> rw [z] <;> rfl) (Nat.le_of_ble_eq_true rfl) ?_
  refine pw_h fw_up_2 ?_
  iterate 2 refine pw_go tk_X16_init rfl rfl ?_
  refine pw_putF tk_X16_init rfl fq_X16_25 rfl fw_up_s rfl rfl (Nat.le_of_ble_eq_true rfl) ?_
  refine pw_h fw_up_2 ?_
  iterate 2 refine pw_go tk_X16_init rfl rfl ?_
  refine pw_putF tk_X16_init rfl fq_X16_28 rfl fw_up_s rfl rfl (Nat.le_of_ble_eq_true rfl) ?_
  refine pw_h fw_up_2 ?_
  iterate 2 refine pw_go tk_X16_init rfl rfl ?_
  refine pw_putF tk_X16_init rfl fq_X16_31 rfl fw_up_s rfl rfl (Nat.le_of_ble_eq_true rfl) ?_
  refine pw_h fw_up_2 ?_
  exact pw_vret tk_X16_init rfl rfl ⟨rfl, rfl⟩
set_option maxRecDepth 20000 in
set_option maxHeartbeats 1000000 in
theorem m_warrant {x k o pa y u d b : Int32} (R : RD G n S D A M h) : PM G 6 2 61 mm_X17_warrant [.ref (A 30 0), .int x, .int k, .int o, .int pa, .int y, .int u, .int d, .int b] h (fw_qI (fun r h' => wdn S (wrS S (trG y.toNatClampNeg u.toNatClampNeg d.toNatClampNeg) (wrG x.toNatClampNeg k.toNatClampNeg o.toNatClampNeg pa.toNatClampNeg (bhC b))) D A (wrK S x k o pa y u d b) (nI (S 99 0 13)) r h') fw_noX) := by
  refine pm_of (by decide +kernel) rfl rfl rfl ?_
  have hN := R.n7
  obtain ⟨Q, hQ⟩ : ∃ Q, Q = (fw_qI (fun r h' => wdn S (wrS S (trG y.toNatClampNeg u.toNatClampNeg d.toNatClampNeg) (wrG x.toNatClampNeg k.toNatClampNeg o.toNatClampNeg pa.toNatClampNeg (bhC b))) D A (wrK S x k o pa y u d b) (nI (S 99 0 13)) r h') fw_noX) := ⟨_, rfl⟩
  rw [← hQ]
  have k23 : (knI x (S 99 0 8) && (decide (b = -1) || knI b (S 99 0 13))) = false → ∀ L, fw_sL L [(0, .ref (A 30 0))] → PW G mm_X17_warrant Q 6 2 61 h 23 L [] := by
    intro e L hL
    refine pw_M _ hL ?_
    iterate 2 refine pw_go tk_X17_warrant rfl rfl ?_
    refine pw_cv tk_X17_warrant rfl ca_X17_raises lk_X17_118 iv_X17_raises sv_X17_raises R.m rfl rfl (As := [.int (nI 1)]) (rest := []) (kc' := 2) (ks' := 61) (n_raises (t := 1) R) rfl rfl rfl (Nat.le_of_ble_eq_true rfl) (show 0 + 2 ≤ 2 by omega) (show 0 + 61 ≤ 61 by omega) ?_ ?_
    · rintro _ H ⟨_, rfl, rfl, e9⟩
      rw [e9, hQ]
      exact pw_iret tk_X17_warrant rfl rfl rfl ⟨_, rfl, wdn_1 (show wrK S x k o pa y u d b = 1 from if_pos e) (by decide) (rdn_of (R.t 1))⟩
    · exact fun _ _ z => z.elim
  have k29 : ∀ p, p < S 99 0 8 → x = nI p → (decide (b = -1) || knI b (S 99 0 13)) = true → ∀ L, fw_sL L [(0, .ref (A 30 0)), (1, .int x), (2, .int k), (3, .int o), (4, .int pa), (5, .int y), (6, .int u), (7, .int d), (8, .int b)] → PW G mm_X17_warrant Q 6 2 61 h 29 L [] := by
    intro p hp hx hbk L hL
    refine pw_M _ hL ?_
    subst hx
    have eK : wrK S (nI p) k o pa y u d b = if wrGd k o pa y u d = false then 2 else if 0 < bhC b ∧ S 13 (bhC b - 1) 1 ≠ p then 3 else if S 99 0 13 = 24 then 4 else 0 := by
      unfold wrK
      rw [knI_of hp (by omega), hbk, if_neg (by decide), nI_tn (by omega)]
    rw [nI_tn (by omega)] at hQ
    obtain ⟨cb, hcb, hcbN, hb⟩ : ∃ cb, bhC b = cb ∧ cb ≤ S 99 0 13 ∧ b = nP cb := by
      by_cases z : b = -1
      · exact ⟨0, if_pos z, by omega, z⟩
      · rw [decide_eq_false z, Bool.false_or] at hbk
        obtain ⟨w, hw, rfl⟩ := knI_to hbk (by omega)
        refine ⟨w + 1, ?_, by omega, (nP_p (Nat.succ_pos w)).symm⟩
        unfold bhC
        rw [if_neg z, nI_tn (by omega)]
    rw [hcb] at eK hQ
    have k159 : ∀ t, t ≠ 0 → t < 10 → wrK S (nI p) k o pa y u d b = t → ∀ L, fw_sL L [(0, .ref (A 30 0))] → PW G mm_X17_warrant Q 6 2 61 h 159 L [.int (nI t), .ref (A 30 0)] := by
      intro t t0 t10 e L hL
      refine pw_M _ hL ?_
      refine pw_put tk_X17_warrant rfl fp_X17_28 R.m rfl rfl (Nat.le_of_ble_eq_true rfl) ?_
      refine pw_h (h' := tU A D h t) rfl ?_
      have R3 := R.t t
      refine pw_go tk_X17_warrant rfl rfl ?_
      refine pw_get tk_X17_warrant rfl fl_X17_28 R3.m rfl ?_
      refine pw_ifN (t) tk_X17_warrant rfl rfl (by omega) (fun c => absurd (show t ≤ 0 from c) (by omega)) (fun _ => ?_)
      refine pw_go tk_X17_warrant rfl rfl ?_
      rw [hQ]
      exact pw_iret tk_X17_warrant rfl rfl rfl ⟨_, rfl, wdn_1 e t0 (rdn_of R3)⟩
    have k142 : wrGd k o pa y u d = true → ¬ (0 < cb ∧ S 13 (cb - 1) 1 ≠ p) → ∀ L, fw_sL L [(0, .ref (A 30 0)), (1, .int (nI p)), (2, .int k), (3, .int o), (4, .int pa), (5, .int y), (6, .int u), (7, .int d), (8, .int b)] → PW G mm_X17_warrant Q 6 2 61 h 142 L [.ref (A 30 0)] := by
      intro e1 e2 L hL
      refine pw_M _ hL ?_
      rw [e1, if_neg (show ¬ (true = false) by decide), if_neg e2] at eK
      refine pw_go tk_X17_warrant rfl rfl ?_
      refine pw_get tk_X17_warrant rfl fl_X17_19 R.m rfl ?_
      refine pw_lsz tk_X17_warrant rfl (R.l3) rfl rfl rfl ?_
      refine pw_go tk_X17_warrant rfl rfl ?_
      refine pw_icN (S 99 0 13) (24) tk_X17_warrant rfl rfl rfl (by omega) (by omega) (fun c3 => ?_) (fun c3 => ?_)
      · have c3 : S 99 0 13 ≠ 24 := c3
        rw [if_neg c3] at eK
        unfold wrGd at e1
        rw [Bool.and_eq_true, Bool.and_eq_true, Bool.and_eq_true] at e1
        obtain ⟨g1, g2, g3, g4⟩ := e1
        obtain ⟨kk, rfl, hkk⟩ := kdI_to g1
        obtain ⟨od, rfl, -, ho⟩ := inI_N (a := 0) g2 (by omega) (by omega)
        obtain ⟨pd, rfl, hop, hpd⟩ := inI_N g3 (by omega) (by omega)
        obtain ⟨y1, u1, d1, rfl, rfl, rfl, hy, hu, hd⟩ := smI_to g4
        rw [nI_tn (by omega), nI_tn (by omega), nI_tn (by omega), nI_tn (by omega), nI_tn (by omega), nI_tn (by omega)] at hQ
        have R1 := R.t 0
        have rw1 := R1.2.1.rw
        refine pw_go tk_X17_warrant rfl rfl ?_
        refine pw_put tk_X17_warrant rfl fp_X17_28 R.m rfl rfl (Nat.le_of_ble_eq_true rfl) ?_
        refine pw_h (h' := tU A D h 0) rfl ?_
        generalize tU A D h 0 = h1 at *
        refine pw_go tk_X17_warrant rfl rfl ?_
        refine pw_get tk_X17_warrant rfl fl_X17_28 R1.m rfl ?_
        refine pw_ifN (0) tk_X17_warrant rfl rfl (by omega) (fun _ => ?_) (fun c => absurd (show 0 ≤ 0 by omega) c)
        refine pw_mono (Q' := Q) (kc' := 1 + 1) (ks' := 48 + 13) (Nat.le_refl _) (Nat.le_refl _) (Nat.le_refl _) ?_
        refine pw_new tk_X17_warrant rfl nw_X17_88 (fun q qf qg => ?_)
        iterate 6 refine pw_go tk_X17_warrant rfl rfl ?_
        refine pw_ci tk_X17_warrant rfl ca_X16_init (Or.inl lk_X17_131) iv_X16_init rfl rfl (As := [.int (nI p), .int (nI kk), .int (nI od), .int (nI pd), .int b]) (rest := [.ref q]) (kc' := 1) (ks' := 48) (n_rWar hkk fw_up_s) (fun _ _ z => z) rfl rfl rfl (Nat.le_of_ble_eq_true rfl) (show 0 + 1 ≤ 1 by omega) (show 0 + 48 ≤ 48 by omega) ?_
        rintro _ _ ⟨rfl, rfl⟩
        rw [fw_up_2]
        iterate 3 refine pw_go tk_X17_warrant rfl rfl ?_
        refine pw_put tk_X17_warrant rfl fp_X17_134 fw_up_s rfl rfl (Nat.le_of_ble_eq_true rfl) ?_
        refine pw_h fw_up_2 ?_
        iterate 2 refine pw_go tk_X17_warrant rfl rfl ?_
        refine pw_put tk_X17_warrant rfl fp_X17_137 fw_up_s rfl rfl (Nat.le_of_ble_eq_true rfl) ?_
        refine pw_h fw_up_2 ?_
        iterate 2 refine pw_go tk_X17_warrant rfl rfl ?_
        refine pw_put tk_X17_warrant rfl fp_X17_140 fw_up_s rfl rfl (Nat.le_of_ble_eq_true rfl) ?_
        refine pw_h fw_up_2 ?_
        refine pw_h (h' := fw_up h1 q (.inr (19, [.int (nI p), .int (nI kk), .int (nI od), .int (nI pd), .int b, .int (nI y1), .int (nI u1), .int (nI d1), .int 0, .int 0, .int (-1), .int 0, .int (-1)]))) rfl ?_
        have R1u := R1.up (o := .inr (19, [.int (nI p), .int (nI kk), .int (nI od), .int (nI pd), .int b, .int (nI y1), .int (nI u1), .int (nI d1), .int 0, .int 0, .int (-1), .int 0, .int (-1)])) qf
        refine pw_go tk_X17_warrant rfl rfl ?_
        refine pw_get tk_X17_warrant rfl fl_X17_19 R1u.m rfl ?_
        refine pw_go tk_X17_warrant rfl rfl ?_
        obtain ⟨t, ht⟩ : ∃ t, t = trG y1 u1 d1 := ⟨_, rfl⟩
        obtain ⟨g, hg⟩ : ∃ g, g = wrG p kk od pd cb := ⟨_, rfl⟩
        rw [← ht, ← hg] at hQ
        have NN : ∀ f, f ≠ 15 → wrS S t g 99 0 f = if f = 13 then S 99 0 13 + 1 else S 99 0 f := fun f hf => by
          unfold wrS
          rw [dn_N, dn_N, if_neg hf]
        refine pw_grow (t := 2) (N := S 99 0 13) (ci := 19) (g := waR g t) (S' := wrS S t g) (by decide) tk_X17_warrant rfl rfl R1.2.1 R1.2.2.1 R1.2.2.2.1 (fun _ _ => rfl) (fun _ _ => rfl) (fun f hf => ?_) R1.2.2.2.2 R1.z (lo_dp (by decide)) adk.rf qf rfl (by omega) (fun A' _ => ?_) trivial rfl (by decide) (fw_nw 2114 (by decide +kernel) (by decide +kernel)) (fun A i g => ⟨_, rfl⟩) (fun f hf hm => ?_) ?_ (fun D3 h3 => RW_war rw1 (fun k k1 k2 => rfl) h3) rfl rfl (kc' := 0) (ks' := 0) (Nat.le_refl _) (Nat.le_refl _) (fun h' A' M' D' R4 rd e30 => ?_)
        · have I := R1.2.1.2.2.1
          rw [NN 8 (by decide), if_neg (by decide)]
          rcases (show f = 56 ∨ f = 57 ∨ f = 58 by omega) with rfl | rfl | rfl
          · exact I.1
          · exact I.2.1
          · exact I.2.2
        · rw [hb, ht, hg]
          rfl
        · rw [NN f (by omega)]
          exact if_neg hf
        · exact (NN 13 (by decide)).trans (if_pos rfl)
        · have m4 := R4.m
          rw [e30] at m4
          have l1 := R4.l3
          rw [NN 13 (by decide), if_pos rfl] at l1
          iterate 2 refine pw_go tk_X17_warrant rfl rfl ?_
          refine pw_get tk_X17_warrant rfl fl_X17_19 m4 rfl ?_
          refine pw_lsz tk_X17_warrant rfl (l1) rfl rfl rfl ?_
          refine pw_go tk_X17_warrant rfl rfl ?_
          refine pw_subN (S 99 0 13 + 1) (1) tk_X17_warrant rfl rfl rfl (by omega) ?_
          rw [Nat.add_sub_cancel, hQ]
          exact pw_iret tk_X17_warrant rfl rfl rfl ⟨_, rfl, wdn_0 eK rd⟩
      · have c3 : S 99 0 13 = 24 := Decidable.not_not.mp c3
        rw [if_pos c3] at eK
        iterate 2 refine pw_go tk_X17_warrant rfl rfl ?_
        exact k159 4 (by decide) (by decide) eK _ ⟨rfl, trivial⟩
    have k101 : ∀ g, g = wrGd k o pa y u d → ∀ L, fw_sL L [(0, .ref (A 30 0)), (1, .int (nI p)), (2, .int k), (3, .int o), (4, .int pa), (5, .int y), (6, .int u), (7, .int d), (8, .int b)] → PW G mm_X17_warrant Q 6 2 61 h 101 L [.int (bI g)] := by
      intro gg hg L hL
      refine pw_M _ hL ?_
      iterate 3 refine pw_go tk_X17_warrant rfl rfl ?_
      refine pw_ifneB tk_X17_warrant rfl (fun c => ?_) (fun c => ?_)
      · rw [c] at hg
        rw [← hg, if_neg (show ¬ (true = false) by decide)] at eK
        iterate 2 refine pw_go tk_X17_warrant rfl rfl ?_
        refine pw_br tk_X17_warrant rfl rfl (fun c2 => ?_) (fun c2 => ?_)
        · have c2 : b = -1 := c2
          rw [hb] at c2
          have := (nP_0 (by omega)).mp c2
          exact k142 hg.symm (by omega) _ ⟨rfl, rfl, rfl, rfl, rfl, rfl, rfl, rfl, rfl, trivial⟩
        · have c2 : ¬ b = -1 := c2
          have hcb0 : 0 < cb := by
            have : cb ≠ 0 := fun z => c2 (by rw [hb, z]; rfl)
            omega
          have eb : b = nI (cb - 1) := hb.trans (nP_p hcb0)
          have hwb : cb - 1 < S 99 0 13 := by omega
          obtain ⟨-, -, -, -, hpr⟩ := icw R.1 hwb
          refine pw_go tk_X17_warrant rfl rfl ?_
          refine pw_get tk_X17_warrant rfl fl_X17_19 R.m rfl ?_
          refine pw_go tk_X17_warrant rfl rfl ?_
          refine pw_lget (k := cb - 1) tk_X17_warrant rfl (R.l3) hwb eb rfl rfl rfl ?_
          refine pw_cast tk_X17_warrant rfl (R.war hwb) rfl cw_X17_88 ?_
          refine pw_get tk_X17_warrant rfl fl_X17_128 (R.war hwb) rfl ?_
          refine pw_go tk_X17_warrant rfl rfl ?_
          refine pw_icN (S 13 (cb - 1) 1) (p) tk_X17_warrant rfl rfl rfl (by omega) (by omega) (fun c3 => ?_) (fun c3 => ?_)
          · have c3 : S 13 (cb - 1) 1 = p := c3
            exact k142 hg.symm (fun z => z.2 c3) _ ⟨rfl, rfl, rfl, rfl, rfl, rfl, rfl, rfl, rfl, trivial⟩
          · have c3 : S 13 (cb - 1) 1 ≠ p := c3
            rw [if_pos ⟨hcb0, c3⟩] at eK
            iterate 2 refine pw_go tk_X17_warrant rfl rfl ?_
            exact k159 3 (by decide) (by decide) eK _ ⟨rfl, trivial⟩
      · rw [c] at hg
        rw [← hg, if_pos rfl] at eK
        iterate 2 refine pw_go tk_X17_warrant rfl rfl ?_
        exact k159 2 (by decide) (by decide) eK _ ⟨rfl, trivial⟩
    have k100 : wrGd k o pa y u d = false → ∀ L, fw_sL L [(0, .ref (A 30 0)), (1, .int (nI p)), (2, .int k), (3, .int o), (4, .int pa), (5, .int y), (6, .int u), (7, .int d), (8, .int b)] → PW G mm_X17_warrant Q 6 2 61 h 100 L [] := by
      intro e L hL
      refine pw_M _ hL ?_
      refine pw_go tk_X17_warrant rfl rfl ?_
      exact k101 false e.symm _ ⟨rfl, rfl, rfl, rfl, rfl, rfl, rfl, rfl, rfl, trivial⟩
    have k57 : ∀ g, g = (inI o 0 (nI 19999) && inI pa o (nI 19999)) → ∀ L, fw_sL L [(0, .ref (A 30 0)), (1, .int (nI p)), (2, .int k), (3, .int o), (4, .int pa), (5, .int y), (6, .int u), (7, .int d), (8, .int b)] → PW G mm_X17_warrant Q 6 2 61 h 57 L [.int (bI g)] := by
      intro gg hg L hL
      refine pw_M _ hL ?_
      have eg : wrGd k o pa y u d = (kdI k && (gg && smI y u d)) := by
        unfold wrGd
        rw [hg, Bool.and_assoc]
      refine pw_go tk_X17_warrant rfl rfl ?_
      refine pw_ldcS tk_X17_warrant rfl rfl ?_
      refine pw_go tk_X17_warrant rfl rfl ?_
      refine pw_cvsp ((by decide)) tk_X17_warrant rfl ca_J0_indexOf_0f7a4 lk_X17_123 iv_J0_indexOf_0f7a4 sv_J0_indexOf_0f7a4 rfl (As := [.int k]) (rest := []) (s_indexOf (i := 0) (by decide)) rfl rfl rfl rfl ?_
      refine pw_br tk_X17_warrant rfl rfl (fun c => ?_) (fun c => ?_)
      · have c : idxF (sBy.getD 0 []) k 0 < 0 := c
        refine k100 ?_ _ ⟨rfl, rfl, rfl, rfl, rfl, rfl, rfl, rfl, rfl, trivial⟩
        rw [eg, ← fl_is, decide_eq_false (fun z => i_nlt.mpr z c)]
        rfl
      have c : ¬ idxF (sBy.getD 0 []) k 0 < 0 := c
      have ek : kdI k = true := by rw [← fl_is, decide_eq_true (i_nlt.mp c)]
      rw [ek, Bool.true_and] at eg
      refine pw_go tk_X17_warrant rfl rfl ?_
      refine pw_ifeqB tk_X17_warrant rfl (fun c2 => ?_) (fun c2 => ?_)
      · skip
        exact k100 (by rw [eg, c2]; rfl) _ ⟨rfl, rfl, rfl, rfl, rfl, rfl, rfl, rfl, rfl, trivial⟩
      rw [c2, Bool.true_and] at eg
      iterate 3 refine pw_go tk_X17_warrant rfl rfl ?_
      refine pw_csp tk_X17_warrant rfl ca_X17_areTerm lk_X17_59 sx_X17_areTerm (As := [.int y, .int u, .int d]) (rest := []) (n_areTerm) rfl rfl rfl rfl ?_
      cases ht : tmI y u d with
      | false =>
        refine pw_ifeqB tk_X17_warrant rfl (fun _ => ?_) (fun c => absurd c (by decide))
        exact k100 (by rw [eg]; unfold smI; rw [ht]; rfl) _ ⟨rfl, rfl, rfl, rfl, rfl, rfl, rfl, rfl, rfl, trivial⟩
      | true =>
        have c2 := ht
        unfold tmI at c2
        rw [Bool.and_eq_true, Bool.and_eq_true] at c2
        obtain ⟨y1, rfl, -, hy⟩ := inI_N (a := 0) c2.1.1 (by omega) (by omega)
        obtain ⟨z1, rfl, -, hz⟩ := inI_N (a := 0) c2.1.2 (by omega) (by omega)
        obtain ⟨u1, rfl, -, hu⟩ := inI_N (a := 0) c2.2 (by omega) (by omega)
        have n0 : ∀ k : Nat, k < 2147483648 → (nI k = 0 ↔ k = 0) := fun k hk => ⟨fun z => nI_inj (b := 0) hk (by omega) z, fun z => by rw [z]; rfl⟩
        refine pw_ifeqB tk_X17_warrant rfl (fun c => absurd c (by decide)) (fun _ => ?_)
        iterate 2 refine pw_go tk_X17_warrant rfl rfl ?_
        refine pw_addN (y1) (z1) tk_X17_warrant rfl rfl rfl ?_
        refine pw_go tk_X17_warrant rfl rfl ?_
        refine pw_addN (y1 + z1) (u1) tk_X17_warrant rfl rfl rfl ?_
        refine pw_ifN (y1 + z1 + u1) tk_X17_warrant rfl rfl (by omega) (fun c => ?_) (fun c => ?_)
        · have c : y1 + z1 + u1 ≤ 0 := c
          have e : smI (nI y1) (nI z1) (nI u1) = false := by
            have e1 : y1 = 0 := by omega
            have e2 : z1 = 0 := by omega
            have e3 : u1 = 0 := by omega
            subst e1
            subst e2
            subst e3
            rfl
          exact k100 (by rw [eg, e]) _ ⟨rfl, rfl, rfl, rfl, rfl, rfl, rfl, rfl, rfl, trivial⟩
        · have c : ¬ y1 + z1 + u1 ≤ 0 := c
          have e : smI (nI y1) (nI z1) (nI u1) = true := by
            unfold smI
            rw [ht]
            have : (decide (nI y1 = 0) && decide (nI z1 = 0) && decide (nI u1 = 0)) = false := by
              rw [Bool.and_eq_false_iff, Bool.and_eq_false_iff, decide_eq_false_iff_not, decide_eq_false_iff_not, decide_eq_false_iff_not, n0 _ (by omega), n0 _ (by omega), n0 _ (by omega)]
              omega
            rw [this]
            rfl
          iterate 2 refine pw_go tk_X17_warrant rfl rfl ?_
          exact k101 true (by rw [eg, e]) _ ⟨rfl, rfl, rfl, rfl, rfl, rfl, rfl, rfl, rfl, trivial⟩
    have k56 : (inI o 0 (nI 19999) && inI pa o (nI 19999)) = false → ∀ L, fw_sL L [(0, .ref (A 30 0)), (1, .int (nI p)), (2, .int k), (3, .int o), (4, .int pa), (5, .int y), (6, .int u), (7, .int d), (8, .int b)] → PW G mm_X17_warrant Q 6 2 61 h 56 L [] := by
      intro e L hL
      refine pw_M _ hL ?_
      refine pw_go tk_X17_warrant rfl rfl ?_
      exact k57 false e.symm _ ⟨rfl, rfl, rfl, rfl, rfl, rfl, rfl, rfl, rfl, trivial⟩
    iterate 3 refine pw_go tk_X17_warrant rfl rfl ?_
    refine pw_csp tk_X17_warrant rfl ca_X17_in lk_X17_52 sx_X17_in (As := [.int o, .int 0, .int (nI 19999)]) (rest := []) (n_in) rfl rfl rfl rfl ?_
    refine pw_ifeqB tk_X17_warrant rfl (fun c => ?_) (fun c => ?_)
    · skip
      exact k56 (by rw [c]; rfl) _ ⟨rfl, rfl, rfl, rfl, rfl, rfl, rfl, rfl, rfl, trivial⟩
    iterate 3 refine pw_go tk_X17_warrant rfl rfl ?_
    refine pw_csp tk_X17_warrant rfl ca_X17_in lk_X17_52 sx_X17_in (As := [.int pa, .int o, .int (nI 19999)]) (rest := []) (n_in) rfl rfl rfl rfl ?_
    refine pw_ifeqB tk_X17_warrant rfl (fun c2 => ?_) (fun c2 => ?_)
    · skip
      exact k56 (by rw [c2, Bool.and_false]) _ ⟨rfl, rfl, rfl, rfl, rfl, rfl, rfl, rfl, rfl, trivial⟩
    · skip
      iterate 2 refine pw_go tk_X17_warrant rfl rfl ?_
      exact k57 true (by rw [c, c2]; rfl) _ ⟨rfl, rfl, rfl, rfl, rfl, rfl, rfl, rfl, rfl, trivial⟩
  iterate 2 refine pw_go tk_X17_warrant rfl rfl ?_
  refine pw_cvp tk_X17_warrant rfl ca_X17_isPerson lk_X17_115 iv_X17_isPerson sv_X17_isPerson R.m rfl rfl (As := [.int x]) (rest := []) (n_isPerson R) rfl rfl rfl rfl ?_
  cases hx : knI x (S 99 0 8) with
  | false =>
    refine pw_ifeqB tk_X17_warrant rfl (fun _ => ?_) (fun c => absurd c (by decide))
    exact k23 (by rw [hx]; rfl) _ ⟨rfl, trivial⟩
  | true =>
    obtain ⟨p, hp, hxp⟩ := knI_to hx (by omega)
    refine pw_ifeqB tk_X17_warrant rfl (fun c => absurd c (by decide)) (fun _ => ?_)
    iterate 2 refine pw_go tk_X17_warrant rfl rfl ?_
    refine pw_br tk_X17_warrant rfl rfl (fun c2 => ?_) (fun c2 => ?_)
    · have c2 : b = -1 := c2
      exact k29 p hp hxp (by rw [decide_eq_true c2]; rfl) _ ⟨rfl, rfl, rfl, rfl, rfl, rfl, rfl, rfl, rfl, trivial⟩
    · have c2 : ¬ b = -1 := c2
      iterate 2 refine pw_go tk_X17_warrant rfl rfl ?_
      refine pw_cvp tk_X17_warrant rfl ca_X17_isWarrant lk_X17_98 iv_X17_isWarrant sv_X17_isWarrant R.m rfl rfl (As := [.int b]) (rest := []) (n_isWarrant R) rfl rfl rfl rfl ?_
      refine pw_ifneB tk_X17_warrant rfl (fun c3 => ?_) (fun c3 => ?_)
      · skip
        exact k29 p hp hxp (by rw [c3, Bool.or_true]) _ ⟨rfl, rfl, rfl, rfl, rfl, rfl, rfl, rfl, rfl, trivial⟩
      · skip
        exact k23 (by rw [hx, c3, decide_eq_false c2]; rfl) _ ⟨rfl, trivial⟩
end WRG

