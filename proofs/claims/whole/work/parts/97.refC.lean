/-! REFERENCE: what is asked of warrants, of days, of persons -/
section REFC
variable {G : fw_G} {n : Nat} {S D : fw_DB} {A : fw_AD} {M : fw_MP} {h : fw_H}
theorem RD.tt (R : RD G n S D A M h) {D0 : fw_DB} {a : Nat} (e : D = sT D0 a) (t : Nat) : RD G n S (sT D0 t) A M (tU A D h t) := by
  have := R.t t
  rw [e, sT_2] at this
  rw [e]
  exact this
theorem m_release {x : Int32} (R : RD G n S D A M h) : PM G 10 193 2352 mm_X17_release [.ref (A 30 0), .int x] h (fw_qI (fun r h' => rdn S D A (reK S x) h' ∧ (reK S x = 0 → r = nI (FD S 13 x.toNatClampNeg 16))) fw_noX) := by
  refine pm_of (by decide +kernel) rfl rfl rfl ?_
  have hN := R.n7
  iterate 2 refine pw_go tk_X17_release rfl rfl ?_
  refine pw_cv tk_X17_release rfl ca_X17_begun lk_X17_305 iv_X17_begun sv_X17_begun R.m rfl rfl (As := [.int x]) (rest := []) (kc' := 0) (ks' := 0) (n_begun R) rfl rfl rfl (Nat.le_of_ble_eq_true rfl) (Nat.le_refl _) (Nat.le_refl _) ?_ ?_
  · rintro _ H ⟨_, rfl, R2, c⟩
    rcases c with ⟨hk, rfl⟩ | ⟨hk, b, w, rfl, hw, rfl, hb⟩
    · have er : reK S x = bgK S x := if_neg hk
      have hk3 : bgK S x < 3 := by unfold bgK; split; omega; split <;> omega
      rw [er]
      iterate 3 refine pw_go tk_X17_release rfl rfl ?_
      refine pw_get tk_X17_release rfl fl_X17_28 R2.m rfl ?_
      refine pw_ifN (bgK S x) tk_X17_release rfl rfl (by omega) (fun _ => ?_) (fun c => absurd (show bgK S x ≠ 0 from hk) c)
      refine pw_go tk_X17_release rfl rfl ?_
      refine pw_get tk_X17_release rfl fl_X17_28 R2.m rfl ?_
      refine pw_put tk_X17_release rfl fp_X17_28 R2.m rfl rfl (Nat.le_of_ble_eq_true rfl) ?_
      refine pw_h (h' := tU A (sT D (bgK S x)) H (bgK S x)) rfl ?_
      have R3 := R2.tt rfl (bgK S x)
      refine pw_go tk_X17_release rfl rfl ?_
      refine pw_get tk_X17_release rfl fl_X17_28 R3.m rfl ?_
      refine pw_ifN (bgK S x) tk_X17_release rfl rfl (by omega) (fun c => absurd (show bgK S x ≤ 0 from c) (by omega)) (fun _ => ?_)
      iterate 2 refine pw_go tk_X17_release rfl rfl ?_
      exact pw_iret tk_X17_release rfl rfl rfl ⟨_, rfl, rdn_of R3, fun z => absurd z hk⟩
    · have hb14 := bgK_w R.1 hw hk
      rw [fcO_1 hb14] at hb
      rw [hk] at R2
      have er : reK S (nI w) = if FD S 13 w 16 = 1000000 then 2 else 0 := by
        unfold reK
        rw [if_pos hk, nI_tn (by omega)]
      obtain ⟨-, h16, -⟩ := fdw R.1 hw
      obtain ⟨r1, r2, r3⟩ := fr_is R.1 hw
      have er0 : FD S 13 w 16 = min (FD S 13 w 16) 20000 ∨ FD S 13 w 16 = 1000000 := by
        rcases h16 with z | z
        · exact Or.inl (r2 z).symm
        · exact Or.inr z
      rw [er, nI_tn (by omega)]
      generalize min (FD S 13 w 16) 20000 = r at *
      iterate 3 refine pw_go tk_X17_release rfl rfl ?_
      refine pw_get tk_X17_release rfl fl_X17_28 R2.m rfl ?_
      refine pw_ifN (0) tk_X17_release rfl rfl (by omega) (fun c => absurd rfl c) (fun _ => ?_)
      refine pw_go tk_X17_release rfl rfl ?_
      refine pw_get tk_X17_release rfl fl_X17_235 hb rfl ?_
      refine pw_go tk_X17_release rfl rfl ?_
      have hb3 : ∀ t, tU A (sT D 0) H t b = some (fo (FD S 13 w 14) (spn (FD S) w) (FD S 13 w 15) (nI r) (fE S w)) := fun t => by
        unfold tU
        rw [fw_up_n (fun z => by rw [z, R2.m] at hb; cases hb)]
        exact hb
      refine pw_icN (r) (19999) tk_X17_release rfl rfl rfl (by omega) (by omega) (fun c => ?_) (fun c => ?_)
      · have c : r ≤ 19999 := c
        rw [if_neg (by rcases h16 with z | z <;> omega)]
        refine pw_go tk_X17_release rfl rfl ?_
        refine pw_get tk_X17_release rfl fl_X17_28 R2.m rfl ?_
        refine pw_put tk_X17_release rfl fp_X17_28 R2.m rfl rfl (Nat.le_of_ble_eq_true rfl) ?_
        refine pw_h (h' := tU A (sT D 0) H 0) rfl ?_
        have R3 := R2.tt rfl 0
        refine pw_go tk_X17_release rfl rfl ?_
        refine pw_get tk_X17_release rfl fl_X17_28 R3.m rfl ?_
        refine pw_ifN (0) tk_X17_release rfl rfl (by omega) (fun _ => ?_) (fun c => absurd (show 0 ≤ 0 by omega) c)
        refine pw_go tk_X17_release rfl rfl ?_
        refine pw_get tk_X17_release rfl fl_X17_235 (hb3 0) rfl ?_
        exact pw_iret tk_X17_release rfl rfl rfl ⟨_, rfl, rdn_of R3, fun _ => by congr 1; rcases h16 with z | z <;> omega⟩
      · have c : ¬ r ≤ 19999 := c
        rw [if_pos (by rcases h16 with z | z; (have := r2 z; omega); exact z)]
        iterate 2 refine pw_go tk_X17_release rfl rfl ?_
        refine pw_put tk_X17_release rfl fp_X17_28 R2.m rfl rfl (Nat.le_of_ble_eq_true rfl) ?_
        refine pw_h (h' := tU A (sT D 0) H 2) rfl ?_
        have R3 := R2.tt rfl 2
        refine pw_go tk_X17_release rfl rfl ?_
        refine pw_get tk_X17_release rfl fl_X17_28 R3.m rfl ?_
        refine pw_ifN (2) tk_X17_release rfl rfl (by omega) (fun c => absurd (show 2 ≤ 0 from c) (by omega)) (fun _ => ?_)
        iterate 2 refine pw_go tk_X17_release rfl rfl ?_
        exact pw_iret tk_X17_release rfl rfl rfl ⟨_, rfl, rdn_of R3, fun z => absurd z (by decide)⟩
  · exact fun _ _ z => z.elim
theorem m_end {x : Int32} (R : RD G n S D A M h) : PM G 10 193 2352 mm_X17_end [.ref (A 30 0), .int x] h (fw_qI (fun r h' => rdn S D A (enK S x) h' ∧ (enK S x = 0 → r = nO (FD S 13 x.toNatClampNeg 17))) fw_noX) := by
  refine pm_of (by decide +kernel) rfl rfl rfl ?_
  have hN := R.n7
  iterate 2 refine pw_go tk_X17_end rfl rfl ?_
  refine pw_cv tk_X17_end rfl ca_X17_begun lk_X17_305 iv_X17_begun sv_X17_begun R.m rfl rfl (As := [.int x]) (rest := []) (kc' := 0) (ks' := 0) (n_begun R) rfl rfl rfl (Nat.le_of_ble_eq_true rfl) (Nat.le_refl _) (Nat.le_refl _) ?_ ?_
  · rintro _ H ⟨_, rfl, R2, c⟩
    rcases c with ⟨hk, rfl⟩ | ⟨hk, b, w, rfl, hw, rfl, hb⟩
    · have er : enK S x = bgK S x := if_neg hk
      have hk3 : bgK S x < 3 := by unfold bgK; split; omega; split <;> omega
      rw [er]
      iterate 3 refine pw_go tk_X17_end rfl rfl ?_
      refine pw_get tk_X17_end rfl fl_X17_28 R2.m rfl ?_
      refine pw_ifN (bgK S x) tk_X17_end rfl rfl (by omega) (fun _ => ?_) (fun c => absurd (show bgK S x ≠ 0 from hk) c)
      refine pw_go tk_X17_end rfl rfl ?_
      refine pw_get tk_X17_end rfl fl_X17_28 R2.m rfl ?_
      refine pw_put tk_X17_end rfl fp_X17_28 R2.m rfl rfl (Nat.le_of_ble_eq_true rfl) ?_
      refine pw_h (h' := tU A (sT D (bgK S x)) H (bgK S x)) rfl ?_
      have R3 := R2.tt rfl (bgK S x)
      refine pw_go tk_X17_end rfl rfl ?_
      refine pw_get tk_X17_end rfl fl_X17_28 R3.m rfl ?_
      refine pw_ifN (bgK S x) tk_X17_end rfl rfl (by omega) (fun c => absurd (show bgK S x ≤ 0 from c) (by omega)) (fun _ => ?_)
      iterate 2 refine pw_go tk_X17_end rfl rfl ?_
      exact pw_iret tk_X17_end rfl rfl rfl ⟨_, rfl, rdn_of R3, fun z => absurd z hk⟩
    · have hb14 := bgK_w R.1 hw hk
      rw [fcO_1 hb14] at hb
      rw [hk] at R2
      have er : enK S (nI w) = if FD S 13 w 17 = 2000000 ∨ FD S 13 w 17 ≤ FD S 13 w 16 + 1000000 then 2 else 0 := by
        unfold enK
        rw [if_pos hk, nI_tn (by omega)]
      obtain ⟨B, hkd, -, -, h1⟩ := icw R.1 hw
      obtain ⟨h14, h16, hle, -, -, h17⟩ := fdw R.1 hw
      obtain ⟨r1, r2, r3⟩ := fr_is R.1 hw
      have e17 := fd17 R.1 hw hb14
      have hsp := sp_len_up (h14.resolve_right hb14) B.2.2.2.2.2.2.1.1 B.2.2.2.2.2.2.1.2.1 B.2.2.2.2.2.2.1.2.2
      rw [← fdsp (S := S) (w := w)] at hsp
      have hcu : cu (fun d => sB (S 10 (S 13 w 1)) d && iv (FD S 13 w 14) (FD S 13 w 16) d) 20032 ≤ 20032 := cu_le _ _
      have eE : fE S w = if FD S 13 w 14 ≠ 1000000 ∧ FD S 13 w 16 < 20000 ∧ wfx (S 13 w) = true then nO (FD S 13 w 17) else -1 := rfl
      rw [er, nI_tn (by omega)]
      generalize min (FD S 13 w 16) 20000 = r at *
      have hb3 : ∀ t, tU A (sT D 0) H t b = some (fo (FD S 13 w 14) (spn (FD S) w) (FD S 13 w 15) (nI r) (fE S w)) := fun t => by
        unfold tU
        rw [fw_up_n (fun z => by rw [z, R2.m] at hb; cases hb)]
        exact hb
      have bad : (FD S 13 w 17 = 2000000 ∨ FD S 13 w 17 ≤ FD S 13 w 16 + 1000000) → PW G mm_X17_end (fw_qI (fun r h' => rdn S D A (if FD S 13 w 17 = 2000000 ∨ FD S 13 w 17 ≤ FD S 13 w 16 + 1000000 then 2 else 0) h' ∧ ((if FD S 13 w 17 = 2000000 ∨ FD S 13 w 17 ≤ FD S 13 w 16 + 1000000 then 2 else 0) = 0 → r = nO (FD S 13 w 17))) fw_noX) 10 0 0 H 35 [(2, .ref b), (0, .ref (A 30 0)), (1, .int (nI w))] [.ref (A 30 0)] := by
        intro hbad
        rw [if_pos hbad]
        iterate 2 refine pw_go tk_X17_end rfl rfl ?_
        refine pw_put tk_X17_end rfl fp_X17_28 R2.m rfl rfl (Nat.le_of_ble_eq_true rfl) ?_
        refine pw_h (h' := tU A (sT D 0) H 2) rfl ?_
        have R3 := R2.tt rfl 2
        refine pw_go tk_X17_end rfl rfl ?_
        refine pw_get tk_X17_end rfl fl_X17_28 R3.m rfl ?_
        refine pw_ifN (2) tk_X17_end rfl rfl (by omega) (fun c => absurd (show 2 ≤ 0 from c) (by omega)) (fun _ => ?_)
        iterate 2 refine pw_go tk_X17_end rfl rfl ?_
        exact pw_iret tk_X17_end rfl rfl rfl ⟨_, rfl, rdn_of R3, fun z => absurd z (by decide)⟩
      iterate 3 refine pw_go tk_X17_end rfl rfl ?_
      refine pw_get tk_X17_end rfl fl_X17_28 R2.m rfl ?_
      refine pw_ifN (0) tk_X17_end rfl rfl (by omega) (fun c => absurd rfl c) (fun _ => ?_)
      refine pw_go tk_X17_end rfl rfl ?_
      refine pw_get tk_X17_end rfl fl_X17_235 hb rfl ?_
      refine pw_go tk_X17_end rfl rfl ?_
      refine pw_icN (r) (19999) tk_X17_end rfl rfl rfl (by omega) (by omega) (fun c => ?_) (fun c => ?_)
      · have c : 19999 < r := c
        refine bad (Or.inr ?_)
        have h16 : FD S 13 w 16 = 1000000 := by rcases h16 with z | z; (have := r2 z; omega); exact z
        rw [if_pos (Or.inl h16)] at e17
        omega
      have c : ¬ 19999 < r := c
      have h16 : FD S 13 w 16 < 20000 := by rcases h16 with z | z; exact z; (have := r3 z; omega)
      have hr := r2 h16
      refine pw_go tk_X17_end rfl rfl ?_
      refine pw_get tk_X17_end rfl fl_X17_261 hb rfl ?_
      refine pw_go tk_X17_end rfl rfl ?_
      refine pw_get tk_X17_end rfl fl_X17_235 hb rfl ?_
      by_cases fx : wfx (S 13 w) = true
      · rw [if_pos ⟨hb14, h16, fx⟩] at eE
        have k2 : ¬ (FD S 13 w 16 = 1000000 ∨ S 13 w 2 = 100) ∧ S 13 w 2 ≠ 108 := by
          unfold wfx at fx
          simp only [Bool.or_eq_true, decide_eq_true_eq] at fx
          omega
        rw [if_neg k2.1, if_neg k2.2] at e17
        refine pw_br tk_X17_end rfl rfl (fun c2 => ?_) (fun c2 => ?_)
        · have c2 : nI r < fE S w := c2
          rw [eE] at c2
          have c2 := (nO_lt (by omega) (by omega)).mp c2
          rw [if_neg (by omega)]
          refine pw_go tk_X17_end rfl rfl ?_
          refine pw_get tk_X17_end rfl fl_X17_28 R2.m rfl ?_
          refine pw_put tk_X17_end rfl fp_X17_28 R2.m rfl rfl (Nat.le_of_ble_eq_true rfl) ?_
          refine pw_h (h' := tU A (sT D 0) H 0) rfl ?_
          have R3 := R2.tt rfl 0
          refine pw_go tk_X17_end rfl rfl ?_
          refine pw_get tk_X17_end rfl fl_X17_28 R3.m rfl ?_
          refine pw_ifN (0) tk_X17_end rfl rfl (by omega) (fun _ => ?_) (fun c => absurd (show 0 ≤ 0 by omega) c)
          refine pw_go tk_X17_end rfl rfl ?_
          refine pw_get tk_X17_end rfl fl_X17_261 (hb3 0) rfl ?_
          exact pw_iret tk_X17_end rfl rfl rfl ⟨_, rfl, rdn_of R3, fun _ => eE⟩
        · have c2 : ¬ nI r < fE S w := c2
          rw [eE] at c2
          have c2 : ¬ r + 1000000 < FD S 13 w 17 := fun z => c2 ((nO_lt (by omega) (by omega)).mpr z)
          exact bad (Or.inr (by omega))
      · rw [if_neg (fun z => fx z.2.2)] at eE
        have hbad : FD S 13 w 17 = 2000000 ∨ FD S 13 w 17 ≤ FD S 13 w 16 + 1000000 := by
          by_cases z : S 13 w 2 = 100
          · rw [if_pos (Or.inr z)] at e17
            exact Or.inr (by omega)
          · unfold wfx at fx
            simp only [Bool.or_eq_true, decide_eq_true_eq] at fx
            rw [if_neg (by omega), if_pos (by omega)] at e17
            exact Or.inl e17
        refine pw_br tk_X17_end rfl rfl (fun c2 => ?_) (fun _ => bad hbad)
        have c2 : nI r < fE S w := c2
        rw [eE] at c2
        have := Int32.lt_iff_toInt_lt.mp c2
        rw [nI_toInt (by omega)] at this
        have e1 : (-1 : Int32).toInt = -1 := rfl
        omega
  · exact fun _ _ z => z.elim
theorem m_lawOf {x : Int32} (R : RD G n S D A M h) : PM G 4 0 0 mm_X17_lawOf [.ref (A 30 0), .int x] h (fw_qI (fun r h' => rdn S D A (lkK S x) h' ∧ (lkK S x = 0 → r = nI (S 13 x.toNatClampNeg 7 - 1))) fw_noX) := by
  refine pm_of (by decide +kernel) rfl rfl rfl ?_
  have hN := R.n7
  iterate 2 refine pw_go tk_X17_lawOf rfl rfl ?_
  refine pw_cv tk_X17_lawOf rfl ca_X17_noWarrant lk_X17_101 iv_X17_noWarrant sv_X17_noWarrant R.m rfl rfl (As := [.int x]) (rest := [])  (n_noWarrant R) rfl rfl rfl (Nat.le_of_ble_eq_true rfl) (Nat.le_of_eq (Nat.zero_add _)) (Nat.le_of_eq (Nat.zero_add _)) ?_ ?_
  · rintro _ H ⟨_, rfl, rfl, e9⟩
    rw [e9]
    cases hk : knI x (S 99 0 13) with
    | false =>
      have e2 : nwK S x = 1 := by unfold nwK; rw [hk]; rfl
      have e : lkK S x = 1 := by unfold lkK; rw [hk]; rfl
      rw [e, e2]
      refine pw_ifeqB tk_X17_lawOf rfl (fun c => absurd c (by decide)) (fun _ => ?_)
      refine pw_go tk_X17_lawOf rfl rfl ?_
      exact pw_iret tk_X17_lawOf rfl rfl rfl ⟨_, rfl, rdn_of (R.t 1), fun z => absurd z (by decide)⟩
    | true =>
      obtain ⟨w, hw, rfl⟩ := knI_to hk (by omega)
      have e2 : nwK S (nI w) = 0 := by unfold nwK; rw [hk]; rfl
      obtain ⟨B, hkd, -, h7, h1⟩ := icw R.1 hw
      have hl := lwL_le (S := S) (w := w) (S 99 0 7)
      have e : lkK S (nI w) = if wfx (S 13 w) = false then 2 else if S 13 w 7 = 0 then 3 else 0 := by
        unfold lkK
        rw [hk, if_neg (by decide), nI_tn (by omega)]
      rw [e2, e, nI_tn (by omega)]
      have R1 := R.t 0
      refine pw_ifeqB tk_X17_lawOf rfl (fun _ => ?_) (fun c => absurd c (by decide))
      refine pw_go tk_X17_lawOf rfl rfl ?_
      refine pw_get tk_X17_lawOf rfl fl_X17_19 R1.m rfl ?_
      refine pw_go tk_X17_lawOf rfl rfl ?_
      refine pw_lget (k := w) tk_X17_lawOf rfl (R1.l3) hw rfl rfl rfl rfl ?_
      refine pw_cast tk_X17_lawOf rfl (R1.war hw) rfl cw_X17_88 ?_
      iterate 3 refine pw_go tk_X17_lawOf rfl rfl ?_
      refine pw_cvp tk_X17_lawOf rfl ca_X17_lawFor lk_X17_104 iv_X17_lawFor sv_X17_lawFor R1.m rfl rfl (As := [.ref (A 53 w)]) (rest := []) (n_lawFor R1 hw) rfl rfl rfl rfl ?_
      iterate 3 refine pw_go tk_X17_lawOf rfl rfl ?_
      refine pw_cvp tk_X17_lawOf rfl ca_X16_isFixed lk_X17_108 iv_X16_isFixed sv_X16_isFixed (R1.war hw) rfl rfl (As := []) (rest := [.ref (A 30 0)]) (n_isFixed R1 hw B.1) rfl rfl rfl rfl ?_
      refine pw_ifneB tk_X17_lawOf rfl (fun c => ?_) (fun c => ?_)
      · rw [if_neg (by rw [c]; decide)]
        rw [lwL_f c, ← h7] at hl ⊢
        iterate 2 refine pw_go tk_X17_lawOf rfl rfl ?_
        refine pw_br tk_X17_lawOf rfl rfl (fun c2 => ?_) (fun c2 => ?_)
        · have c2 : S 13 w 7 ≠ 0 := fun z => c2 ((nP_0 (by omega)).mpr z)
          rw [if_neg c2]
          refine pw_go tk_X17_lawOf rfl rfl ?_
          refine pw_put tk_X17_lawOf rfl fp_X17_28 R1.m rfl rfl (Nat.le_of_ble_eq_true rfl) ?_
          refine pw_h (h' := tU A (sT D 0) (tU A D h 0) 0) rfl ?_
          have R3 := R1.tt rfl 0
          refine pw_go tk_X17_lawOf rfl rfl ?_
          refine pw_get tk_X17_lawOf rfl fl_X17_28 R3.m rfl ?_
          refine pw_ifN (0) tk_X17_lawOf rfl rfl (by omega) (fun _ => ?_) (fun c => absurd (show 0 ≤ 0 by omega) c)
          refine pw_go tk_X17_lawOf rfl rfl ?_
          exact pw_iret tk_X17_lawOf rfl rfl rfl ⟨_, rfl, rdn_of R3, fun _ => nP_p (by omega)⟩
        · have c2 : S 13 w 7 = 0 := (nP_0 (by omega)).mp (Decidable.not_not.mp c2)
          rw [if_pos c2]
          iterate 2 refine pw_go tk_X17_lawOf rfl rfl ?_
          refine pw_put tk_X17_lawOf rfl fp_X17_28 R1.m rfl rfl (Nat.le_of_ble_eq_true rfl) ?_
          refine pw_h (h' := tU A (sT D 0) (tU A D h 0) 3) rfl ?_
          have R3 := R1.tt rfl 3
          refine pw_go tk_X17_lawOf rfl rfl ?_
          refine pw_get tk_X17_lawOf rfl fl_X17_28 R3.m rfl ?_
          refine pw_ifN (3) tk_X17_lawOf rfl rfl (by omega) (fun c => absurd (show 3 ≤ 0 from c) (by omega)) (fun _ => ?_)
          iterate 2 refine pw_go tk_X17_lawOf rfl rfl ?_
          exact pw_iret tk_X17_lawOf rfl rfl rfl ⟨_, rfl, rdn_of R3, fun z => absurd z (by decide)⟩
      · rw [if_pos c]
        iterate 2 refine pw_go tk_X17_lawOf rfl rfl ?_
        refine pw_put tk_X17_lawOf rfl fp_X17_28 R1.m rfl rfl (Nat.le_of_ble_eq_true rfl) ?_
        refine pw_h (h' := tU A (sT D 0) (tU A D h 0) 2) rfl ?_
        have R3 := R1.tt rfl 2
        refine pw_go tk_X17_lawOf rfl rfl ?_
        refine pw_get tk_X17_lawOf rfl fl_X17_28 R3.m rfl ?_
        refine pw_ifN (2) tk_X17_lawOf rfl rfl (by omega) (fun c => absurd (show 2 ≤ 0 from c) (by omega)) (fun _ => ?_)
        iterate 2 refine pw_go tk_X17_lawOf rfl rfl ?_
        exact pw_iret tk_X17_lawOf rfl rfl rfl ⟨_, rfl, rdn_of R3, fun z => absurd z (by decide)⟩
  · exact fun _ _ z => z.elim
end REFC

