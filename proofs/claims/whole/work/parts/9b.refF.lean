/-! REFERENCE: sums, shares, means -/
section REFF
variable {G : fw_G} {n : Nat} {S D : fw_DB} {A : fw_AD} {M : fw_MP} {h : fw_H}
theorem fB_f {w : Nat} : fB S w = false ↔ FD S 13 w 14 = 1000000 := by
  unfold fB
  rw [decide_eq_false_iff_not]
  exact Decidable.not_not
theorem fB_t {w : Nat} : fB S w = true ↔ FD S 13 w 14 ≠ 1000000 := by
  unfold fB
  rw [decide_eq_true_eq]
set_option maxRecDepth 20000 in
theorem m_owed (R : RD G n S D A M h) : PM G 9 193 2352 mm_X17_owed [.ref (A 30 0)] h (fw_qL (fun r h' => rdn S D A 0 h' ∧ r = lN (nsum (FD S) (S 99 0 13))) fw_noX) := by
  refine pm_of (by decide +kernel) rfl rfl rfl ?_
  have hN := R.n7
  have R1 := R.t 0
  iterate 2 refine pw_go tk_X17_owed rfl rfl ?_
  refine pw_put tk_X17_owed rfl fp_X17_28 R.m rfl rfl (Nat.le_of_ble_eq_true rfl) ?_
  refine pw_h (h' := tU A D h 0) rfl ?_
  iterate 3 refine pw_go tk_X17_owed rfl rfl ?_
  refine pw_cv tk_X17_owed rfl ca_X17_facts lk_X17_294 iv_X17_facts sv_X17_facts R1.m rfl rfl (As := []) (rest := []) (kc' := 0) (ks' := 0) (n_facts R1) rfl rfl rfl (Nat.le_of_ble_eq_true rfl) (Nat.le_refl _) (Nat.le_refl _) ?_ ?_
  · rintro _ H2 ⟨_, rfl, q, ad, rfl, s1, F⟩
    have R2 := R1.mono s1
    obtain ⟨Q, hQ⟩ : ∃ Q, Q = (fw_qL (fun r h' => rdn S D A 0 h' ∧ r = lN (nsum (FD S) (S 99 0 13))) fw_noX) := ⟨_, rfl⟩
    rw [← hQ]
    have loop : ∀ j k, j + k = S 99 0 13 → ∀ L, fw_sL L [(0, .ref (A 30 0)), (1, .long (lN (nsum (FD S) k))), (3, .ref q), (4, .int (nI (S 99 0 13))), (5, .int (nI k))] → PW G mm_X17_owed Q 9 0 0 H2 19 L [] := by
      intro j
      induction j with
      | zero =>
        intro k hk L hL
        refine pw_M _ hL ?_
        have hk : k = S 99 0 13 := by omega
        subst hk
        iterate 2 refine pw_go tk_X17_owed rfl rfl ?_
        refine pw_icN (S 99 0 13) (S 99 0 13) tk_X17_owed rfl rfl rfl (by omega) (by omega) (fun _ => ?_) (fun c => absurd (show S 99 0 13 ≤ S 99 0 13 by omega) c)
        refine pw_go tk_X17_owed rfl rfl ?_
        rw [hQ]
        exact pw_lret tk_X17_owed rfl rfl ⟨_, rfl, rdn_of R2, rfl⟩
      | succ j ih =>
        intro k hk L hL
        refine pw_M _ hL ?_
        have hw : k < S 99 0 13 := by omega
        obtain ⟨-, -, -, -, f15, -⟩ := fdw R.1 hw
        have es : nsum (FD S) (k + 1) = nsum (FD S) k + (if FD S 13 k 14 = 1000000 then 0 else FD S 13 k 15) := rfl
        have hb := F.2 k hw
        unfold fcO at hb
        have k52 : ∀ v L, fw_sL L [(0, .ref (A 30 0)), (1, .long (lN (nsum (FD S) k))), (3, .ref q), (4, .int (nI (S 99 0 13))), (5, .int (nI k))] → v = lN (nsum (FD S) (k + 1)) → PW G mm_X17_owed Q 9 0 0 H2 52 L [.long v] := by
          intro v L hL hv
          subst hv
          refine pw_M _ hL ?_
          iterate 2 refine pw_go tk_X17_owed rfl rfl ?_
          refine pw_go tk_X17_owed rfl rfl ?_
          exact ih (k + 1) (by omega) _ ⟨rfl, rfl, rfl, rfl, congrArg (fun z => some (Value.int z)) (nI_1 k), trivial⟩
        iterate 2 refine pw_go tk_X17_owed rfl rfl ?_
        refine pw_icN (k) (S 99 0 13) tk_X17_owed rfl rfl rfl (by omega) (by omega) (fun c => absurd (show S 99 0 13 ≤ k from c) (by omega)) (fun _ => ?_)
        iterate 2 refine pw_go tk_X17_owed rfl rfl ?_
        refine pw_aaldN (k := k) tk_X17_owed rfl F.1 (by decide) rfl rfl hw (by omega) ?_
        refine pw_q (x' := some (ad k)) (if_pos hw) ?_
        iterate 3 refine pw_go tk_X17_owed rfl rfl ?_
        refine pw_get tk_X17_owed rfl fl_X17_232 hb rfl ?_
        refine pw_ifeqB (b := fB S k) tk_X17_owed rfl (fun c => ?_) (fun c => ?_)
        · rw [if_pos (fB_f.mp c)] at es
          iterate 2 refine pw_go tk_X17_owed rfl rfl ?_
          exact k52 _ _ ⟨rfl, rfl, rfl, rfl, rfl, trivial⟩ (by rw [es]; exact lN_a (b := 0))
        · rw [if_neg (fB_t.mp c)] at es
          refine pw_go tk_X17_owed rfl rfl ?_
          refine pw_get tk_X17_owed rfl fl_X17_246 hb rfl ?_
          iterate 3 refine pw_go tk_X17_owed rfl rfl ?_
          exact k52 _ _ ⟨rfl, rfl, rfl, rfl, rfl, trivial⟩ (by rw [es, lN_s (by omega), lN_a])
    iterate 2 refine pw_go tk_X17_owed rfl rfl ?_
    refine pw_alen tk_X17_owed rfl F.1 (by decide) ?_
    iterate 3 refine pw_go tk_X17_owed rfl rfl ?_
    exact loop (S 99 0 13) 0 (by omega) _ ⟨rfl, rfl, rfl, rfl, rfl, trivial⟩
  · exact fun _ _ z => z.elim
set_option maxRecDepth 20000 in
theorem m_meanNeeded (R : RD G n S D A M h) : PM G 9 193 2352 mm_X17_meanNeeded [.ref (A 30 0)] h (fw_qD (fun r h' => rdn S D A (mnK S) h' ∧ (mnK S = 0 → r = mnV S)) fw_noX) := by
  refine pm_of (by decide +kernel) rfl rfl rfl ?_
  have hN := R.n7
  iterate 5 refine pw_go tk_X17_meanNeeded rfl rfl ?_
  refine pw_cv tk_X17_meanNeeded rfl ca_X17_facts lk_X17_294 iv_X17_facts sv_X17_facts R.m rfl rfl (As := []) (rest := []) (kc' := 0) (ks' := 0) (n_facts R) rfl rfl rfl (Nat.le_of_ble_eq_true rfl) (Nat.le_refl _) (Nat.le_refl _) ?_ ?_
  · rintro _ H2 ⟨_, rfl, q, ad, rfl, s1, F⟩
    have R2 := R.mono s1
    obtain ⟨Q, hQ⟩ : ∃ Q, Q = (fw_qD (fun r h' => rdn S D A (mnK S) h' ∧ (mnK S = 0 → r = mnV S)) fw_noX) := ⟨_, rfl⟩
    rw [← hQ]
    have loop : ∀ j k, j + k = S 99 0 13 → ∀ L, fw_sL L [(0, .ref (A 30 0)), (1, .long (lN (nsum (FD S) k))), (3, .int (nI (bgn (FD S) k))), (4, .ref q), (5, .int (nI (S 99 0 13))), (6, .int (nI k))] → PW G mm_X17_meanNeeded Q 9 0 0 H2 18 L [] := by
      intro j
      induction j with
      | zero =>
        intro k hk L hL
        refine pw_M _ hL ?_
        have hk : k = S 99 0 13 := by omega
        subst hk
        have hbl := bgn_le (F := FD S) (S 99 0 13)
        iterate 2 refine pw_go tk_X17_meanNeeded rfl rfl ?_
        refine pw_icN (S 99 0 13) (S 99 0 13) tk_X17_meanNeeded rfl rfl rfl (by omega) (by omega) (fun _ => ?_) (fun c => absurd (show S 99 0 13 ≤ S 99 0 13 by omega) c)
        iterate 2 refine pw_go tk_X17_meanNeeded rfl rfl ?_
        refine pw_ifN (bgn (FD S) (S 99 0 13)) tk_X17_meanNeeded rfl rfl (by omega) (fun c => ?_) (fun c => ?_)
        · have c : bgn (FD S) (S 99 0 13) ≠ 0 := c
          have e : mnK S = 0 := if_neg c
          rw [e] at hQ
          refine pw_go tk_X17_meanNeeded rfl rfl ?_
          refine pw_put tk_X17_meanNeeded rfl fp_X17_28 R2.m rfl rfl (Nat.le_of_ble_eq_true rfl) ?_
          refine pw_h (h' := tU A D H2 0) rfl ?_
          have R3 := R2.t 0
          refine pw_go tk_X17_meanNeeded rfl rfl ?_
          refine pw_get tk_X17_meanNeeded rfl fl_X17_28 R3.m rfl ?_
          refine pw_ifN (0) tk_X17_meanNeeded rfl rfl (by omega) (fun _ => ?_) (fun c => absurd (show 0 ≤ 0 by omega) c)
          iterate 4 refine pw_go tk_X17_meanNeeded rfl rfl ?_
          refine pw_ddiv tk_X17_meanNeeded rfl (dl_n ?_) ?_
          · intro z
            have z : nI (bgn (FD S) (S 99 0 13)) = nI 0 := z
            exact c (nI_inj (by omega) (by omega) z)
          rw [hQ]
          exact pw_dret tk_X17_meanNeeded rfl rfl ⟨_, rfl, rdn_of R3, fun _ => rfl⟩
        · have c : bgn (FD S) (S 99 0 13) = 0 := Decidable.not_not.mp c
          have e : mnK S = 1 := if_pos c
          rw [e] at hQ
          iterate 2 refine pw_go tk_X17_meanNeeded rfl rfl ?_
          refine pw_put tk_X17_meanNeeded rfl fp_X17_28 R2.m rfl rfl (Nat.le_of_ble_eq_true rfl) ?_
          refine pw_h (h' := tU A D H2 1) rfl ?_
          have R3 := R2.t 1
          refine pw_go tk_X17_meanNeeded rfl rfl ?_
          refine pw_get tk_X17_meanNeeded rfl fl_X17_28 R3.m rfl ?_
          refine pw_ifN (1) tk_X17_meanNeeded rfl rfl (by omega) (fun c => absurd (show 1 ≤ 0 from c) (by omega)) (fun _ => ?_)
          refine pw_dc0 tk_X17_meanNeeded rfl ?_
          refine pw_go tk_X17_meanNeeded rfl rfl ?_
          rw [hQ]
          exact pw_dret tk_X17_meanNeeded rfl rfl ⟨_, rfl, rdn_of R3, fun z => absurd z (by decide)⟩
      | succ j ih =>
        intro k hk L hL
        refine pw_M _ hL ?_
        have hw : k < S 99 0 13 := by omega
        obtain ⟨-, -, -, -, f15, -⟩ := fdw R.1 hw
        have es : nsum (FD S) (k + 1) = nsum (FD S) k + (if FD S 13 k 14 = 1000000 then 0 else FD S 13 k 15) := rfl
        have eb : bgn (FD S) (k + 1) = bgn (FD S) k + (if FD S 13 k 14 = 1000000 then 0 else 1) := rfl
        have hb := F.2 k hw
        unfold fcO at hb
        have k67 : ∀ v L, fw_sL L [(0, .ref (A 30 0)), (1, .long (lN (nsum (FD S) (k + 1)))), (3, .int (nI (bgn (FD S) k))), (4, .ref q), (5, .int (nI (S 99 0 13))), (6, .int (nI k))] → bgn (FD S) (k + 1) = bgn (FD S) k + v → PW G mm_X17_meanNeeded Q 9 0 0 H2 67 L [.int (nI v), .int (nI (bgn (FD S) k))] := by
          intro v L hL hv
          refine pw_M _ hL ?_
          refine pw_addN (bgn (FD S) k) (v) tk_X17_meanNeeded rfl rfl rfl ?_
          rw [← hv]
          iterate 2 refine pw_go tk_X17_meanNeeded rfl rfl ?_
          refine pw_go tk_X17_meanNeeded rfl rfl ?_
          exact ih (k + 1) (by omega) _ ⟨rfl, rfl, rfl, rfl, rfl, congrArg (fun z => some (Value.int z)) (nI_1 k), trivial⟩
        have k52 : ∀ v L, fw_sL L [(0, .ref (A 30 0)), (1, .long (lN (nsum (FD S) k))), (3, .int (nI (bgn (FD S) k))), (4, .ref q), (5, .int (nI (S 99 0 13))), (6, .int (nI k)), (7, .ref (ad k))] → v = lN (nsum (FD S) (k + 1)) → PW G mm_X17_meanNeeded Q 9 0 0 H2 52 L [.long v] := by
          intro v L hL hv
          subst hv
          refine pw_M _ hL ?_
          iterate 3 refine pw_go tk_X17_meanNeeded rfl rfl ?_
          refine pw_get tk_X17_meanNeeded rfl fl_X17_232 hb rfl ?_
          refine pw_ifeqB (b := fB S k) tk_X17_meanNeeded rfl (fun c => ?_) (fun c => ?_)
          · rw [if_pos (fB_f.mp c)] at eb
            refine pw_go tk_X17_meanNeeded rfl rfl ?_
            exact k67 0 _ ⟨rfl, rfl, rfl, rfl, rfl, rfl, trivial⟩ eb
          · rw [if_neg (fB_t.mp c)] at eb
            iterate 2 refine pw_go tk_X17_meanNeeded rfl rfl ?_
            exact k67 1 _ ⟨rfl, rfl, rfl, rfl, rfl, rfl, trivial⟩ eb
        iterate 2 refine pw_go tk_X17_meanNeeded rfl rfl ?_
        refine pw_icN (k) (S 99 0 13) tk_X17_meanNeeded rfl rfl rfl (by omega) (by omega) (fun c => absurd (show S 99 0 13 ≤ k from c) (by omega)) (fun _ => ?_)
        iterate 2 refine pw_go tk_X17_meanNeeded rfl rfl ?_
        refine pw_aaldN (k := k) tk_X17_meanNeeded rfl F.1 (by decide) rfl rfl hw (by omega) ?_
        refine pw_q (x' := some (ad k)) (if_pos hw) ?_
        iterate 3 refine pw_go tk_X17_meanNeeded rfl rfl ?_
        refine pw_get tk_X17_meanNeeded rfl fl_X17_232 hb rfl ?_
        refine pw_ifeqB (b := fB S k) tk_X17_meanNeeded rfl (fun c => ?_) (fun c => ?_)
        · rw [if_pos (fB_f.mp c)] at es
          iterate 2 refine pw_go tk_X17_meanNeeded rfl rfl ?_
          exact k52 _ _ ⟨rfl, rfl, rfl, rfl, rfl, rfl, rfl, trivial⟩ (by rw [es]; exact lN_a (b := 0))
        · rw [if_neg (fB_t.mp c)] at es
          refine pw_go tk_X17_meanNeeded rfl rfl ?_
          refine pw_get tk_X17_meanNeeded rfl fl_X17_246 hb rfl ?_
          iterate 3 refine pw_go tk_X17_meanNeeded rfl rfl ?_
          exact k52 _ _ ⟨rfl, rfl, rfl, rfl, rfl, rfl, rfl, trivial⟩ (by rw [es, lN_s (by omega), lN_a])
    iterate 2 refine pw_go tk_X17_meanNeeded rfl rfl ?_
    refine pw_alen tk_X17_meanNeeded rfl F.1 (by decide) ?_
    iterate 3 refine pw_go tk_X17_meanNeeded rfl rfl ?_
    exact loop (S 99 0 13) 0 (by omega) _ ⟨rfl, rfl, rfl, rfl, rfl, rfl, trivial⟩
  · exact fun _ _ z => z.elim
set_option maxRecDepth 20000 in
theorem m_prisonShare {x : Int32} (R : RD G n S D A M h) : PM G 9 199 2376 mm_X17_prisonShare [.ref (A 30 0), .int x] h (fw_qF (fun r h' => rdn S D A (shK S x) h' ∧ (shK S x = 0 → r = shV S x.toNatClampNeg)) fw_noX) := by
  refine pm_of (by decide +kernel) rfl rfl rfl ?_
  have hN := R.n7
  have k31 : ∀ t, t = shK S x → t < 3 → ∀ L, fw_sL L [(0, .ref (A 30 0)), (1, .int x)] → PW G mm_X17_prisonShare (fw_qF (fun r h' => rdn S D A (shK S x) h' ∧ (shK S x = 0 → r = shV S x.toNatClampNeg)) fw_noX) 9 199 2376 h 31 L [.int (nI t), .ref (A 30 0)] := by
    intro t ht ht3 L hL
    refine pw_M _ hL ?_
    have R1 := R.t t
    refine pw_put tk_X17_prisonShare rfl fp_X17_28 R.m rfl rfl (Nat.le_of_ble_eq_true rfl) ?_
    refine pw_h (h' := tU A D h t) rfl ?_
    refine pw_go tk_X17_prisonShare rfl rfl ?_
    refine pw_cv tk_X17_prisonShare rfl ca_X17_facts lk_X17_294 iv_X17_facts sv_X17_facts R1.m rfl rfl (As := []) (rest := []) (kc' := 6) (ks' := 24) (n_facts R1) rfl rfl rfl (Nat.le_of_ble_eq_true rfl) (show 193 + 6 ≤ 199 by omega) (show 2352 + 24 ≤ 2376 by omega) ?_ ?_
    · rintro _ H2 ⟨_, rfl, q, ad, rfl, s1, F⟩
      have R2 := R1.mono s1
      rw [← ht]
      by_cases t0 : t = 0
      · subst t0
        have hx : inI x 0 (nI 19999) = true ∧ S 99 0 8 ≠ 0 := by
          unfold shK at ht
          split at ht
          · cases ht
          · split at ht
            · cases ht
            · exact ⟨by simpa using ‹¬ inI x 0 (nI 19999) = false›, ‹_›⟩
        obtain ⟨d, rfl, -, hd⟩ := inI_N (a := 0) hx.1 (by omega) (by omega)
        rw [nI_tn (by omega)]
        obtain ⟨Q, hQ⟩ : ∃ Q, Q = (fw_qF (fun r h' => rdn S D A 0 h' ∧ (0 = 0 → r = shV S d)) fw_noX) := ⟨_, rfl⟩
        rw [← hQ]
        have loop : ∀ j k, j + k = S 99 0 8 → ∀ L, fw_sL L [(0, .ref (A 30 0)), (1, .int (nI d)), (2, .ref q), (3, .int (nI (psN S d k))), (4, .int (nI k))] → PW G mm_X17_prisonShare Q 9 j (4 * j) H2 44 L [] := by
          intro j
          induction j with
          | zero =>
            intro k hk L hL
            refine pw_M _ hL ?_
            have hk : k = S 99 0 8 := by omega
            subst hk
            iterate 2 refine pw_go tk_X17_prisonShare rfl rfl ?_
            refine pw_get tk_X17_prisonShare rfl fl_X17_16 R2.m rfl ?_
            refine pw_lsz tk_X17_prisonShare rfl (R2.l2) rfl rfl rfl ?_
            refine pw_icN (S 99 0 8) (S 99 0 8) tk_X17_prisonShare rfl rfl rfl (by omega) (by omega) (fun _ => ?_) (fun c => absurd (show S 99 0 8 ≤ S 99 0 8 by omega) c)
            refine pw_go tk_X17_prisonShare rfl rfl ?_
            refine pw_get tk_X17_prisonShare rfl fl_X17_28 R2.m rfl ?_
            refine pw_ifN (0) tk_X17_prisonShare rfl rfl (by omega) (fun _ => ?_) (fun c => absurd (show 0 ≤ 0 by omega) c)
            iterate 3 refine pw_go tk_X17_prisonShare rfl rfl ?_
            refine pw_get tk_X17_prisonShare rfl fl_X17_16 R2.m rfl ?_
            refine pw_lsz tk_X17_prisonShare rfl (R2.l2) rfl rfl rfl ?_
            refine pw_go tk_X17_prisonShare rfl rfl ?_
            refine pw_fdiv tk_X17_prisonShare rfl (fl_n ?_) ?_
            · intro z
              have z : nI (S 99 0 8) = nI 0 := z
              exact hx.2 (nI_inj (by omega) (by omega) z)
            rw [hQ]
            exact pw_fret tk_X17_prisonShare rfl rfl ⟨_, rfl, rdn_of R2, fun _ => rfl⟩
          | succ j ih =>
            intro k hk L hL
            refine pw_M _ hL ?_
            have hw : k < S 99 0 8 := by omega
            have es : psN S d (k + 1) = psN S d k + (if stS S k d = 112 then 1 else 0) := rfl
            have hlt := stS_lt (S := S) (p := k) (d := d)
            iterate 2 refine pw_go tk_X17_prisonShare rfl rfl ?_
            refine pw_get tk_X17_prisonShare rfl fl_X17_16 R2.m rfl ?_
            refine pw_lsz tk_X17_prisonShare rfl (R2.l2) rfl rfl rfl ?_
            refine pw_icN (k) (S 99 0 8) tk_X17_prisonShare rfl rfl rfl (by omega) (by omega) (fun c => absurd (show S 99 0 8 ≤ k from c) (by omega)) (fun _ => ?_)
            refine pw_go tk_X17_prisonShare rfl rfl ?_
            refine pw_get tk_X17_prisonShare rfl fl_X17_28 R2.m rfl ?_
            refine pw_ifN (0) tk_X17_prisonShare rfl rfl (by omega) (fun c => absurd rfl c) (fun _ => ?_)
            iterate 5 refine pw_go tk_X17_prisonShare rfl rfl ?_
            refine pw_cv tk_X17_prisonShare rfl ca_X17_stateOf lk_X17_298 iv_X17_stateOf sv_X17_stateOf R2.m rfl rfl (As := [.int (nI k), .int (nI d), .ref q]) (rest := [.int (nI (psN S d k))]) (kc' := j) (ks' := 4 * j) (n_stateOf R2 F hw (by omega)) rfl rfl rfl (Nat.le_of_ble_eq_true rfl) (show 1 + j ≤ j + 1 by omega) (show 4 + 4 * j ≤ 4 * (j + 1) by omega) ?_ ?_
            skip
            · rintro _ h8 ⟨_, rfl, rfl, e8⟩
              rw [e8]
              have k82 : ∀ v L, fw_sL L [(0, .ref (A 30 0)), (1, .int (nI d)), (2, .ref q), (3, .int (nI (psN S d k))), (4, .int (nI k))] → psN S d (k + 1) = psN S d k + v → PW G mm_X17_prisonShare Q 9 j (4 * j) H2 82 L [.int (nI v), .int (nI (psN S d k))] := by
                intro v L hL hv
                refine pw_M _ hL ?_
                refine pw_addN (psN S d k) (v) tk_X17_prisonShare rfl rfl rfl ?_
                rw [← hv]
                iterate 2 refine pw_go tk_X17_prisonShare rfl rfl ?_
                refine pw_go tk_X17_prisonShare rfl rfl ?_
                exact ih (k + 1) (by omega) _ ⟨rfl, rfl, rfl, rfl, congrArg (fun z => some (Value.int z)) (nI_1 k), trivial⟩
              refine pw_go tk_X17_prisonShare rfl rfl ?_
              refine pw_icN (stS S k d) (112) tk_X17_prisonShare rfl rfl rfl (by omega) (by omega) (fun c => ?_) (fun c => ?_)
              · have c2 : ¬ stS S k d = 112 := c
                rw [if_neg c2] at es
                refine pw_go tk_X17_prisonShare rfl rfl ?_
                exact k82 0 _ ⟨rfl, rfl, rfl, rfl, rfl, trivial⟩ es
              · have c2 : stS S k d = 112 := Decidable.not_not.mp c
                rw [if_pos c2] at es
                iterate 2 refine pw_go tk_X17_prisonShare rfl rfl ?_
                exact k82 1 _ ⟨rfl, rfl, rfl, rfl, rfl, trivial⟩ es
            · exact fun _ _ z => z.elim
        iterate 5 refine pw_go tk_X17_prisonShare rfl rfl ?_
        refine pw_mono (Q' := Q) (kc' := S 99 0 8) (ks' := 4 * S 99 0 8) (Nat.le_refl _) (by omega) (by omega) ?_
        exact loop (S 99 0 8) 0 (by omega) _ ⟨rfl, rfl, rfl, rfl, rfl, trivial⟩
      · have k90 : ∀ L, fw_sL L [(0, .ref (A 30 0)), (1, .int x)] → PW G mm_X17_prisonShare (fw_qF (fun r h' => rdn S D A t h' ∧ (t = 0 → r = shV S x.toNatClampNeg)) fw_noX) 9 6 24 H2 90 L [] := by
          intro L hL
          refine pw_M _ hL ?_
          refine pw_go tk_X17_prisonShare rfl rfl ?_
          refine pw_get tk_X17_prisonShare rfl fl_X17_28 R2.m rfl ?_
          refine pw_ifN (t) tk_X17_prisonShare rfl rfl (by omega) (fun c => absurd (show t ≤ 0 from c) (by omega)) (fun _ => ?_)
          refine pw_fc0 tk_X17_prisonShare rfl ?_
          refine pw_go tk_X17_prisonShare rfl rfl ?_
          exact pw_fret tk_X17_prisonShare rfl rfl ⟨_, rfl, rdn_of R2, fun z => absurd z t0⟩
        iterate 7 refine pw_go tk_X17_prisonShare rfl rfl ?_
        refine pw_get tk_X17_prisonShare rfl fl_X17_16 R2.m rfl ?_
        refine pw_lsz tk_X17_prisonShare rfl (R2.l2) rfl rfl rfl ?_
        refine pw_icN (0) (S 99 0 8) tk_X17_prisonShare rfl rfl rfl (by omega) (by omega) (fun _ => ?_) (fun _ => ?_)
        · exact k90 _ ⟨rfl, rfl, trivial⟩
        · skip
          refine pw_go tk_X17_prisonShare rfl rfl ?_
          refine pw_get tk_X17_prisonShare rfl fl_X17_28 R2.m rfl ?_
          refine pw_ifN (t) tk_X17_prisonShare rfl rfl (by omega) (fun _ => ?_) (fun c => absurd (show t ≠ 0 from t0) c)
          exact k90 _ ⟨rfl, rfl, trivial⟩
    · exact fun _ _ z => z.elim
  iterate 4 refine pw_go tk_X17_prisonShare rfl rfl ?_
  refine pw_csp tk_X17_prisonShare rfl ca_X17_in lk_X17_52 sx_X17_in (As := [.int x, .int 0, .int (nI 19999)]) (rest := [.ref (A 30 0)]) (n_in) rfl rfl rfl rfl ?_
  refine pw_ifneB tk_X17_prisonShare rfl (fun c => ?_) (fun c => ?_)
  · skip
    refine pw_go tk_X17_prisonShare rfl rfl ?_
    refine pw_get tk_X17_prisonShare rfl fl_X17_16 R.m rfl ?_
    obtain ⟨e2, cap2, o2, -⟩ := R.l2
    refine pw_cvp tk_X17_prisonShare rfl ca_Jx4a65c_isEmpty_aae02 lk_X17_331 iv_Jx4a65c_isEmpty_aae02 sv_Jx4a65c_isEmpty_aae02 o2 rfl rfl (As := []) (rest := [.ref (A 30 0)]) (j_isEmpty R.l2) rfl rfl rfl rfl ?_
    refine pw_ifeqB (b := decide (S 99 0 8 = 0)) tk_X17_prisonShare rfl (fun c2 => ?_) (fun c2 => ?_)
    · have c2 : S 99 0 8 ≠ 0 := by simpa using c2
      refine pw_go tk_X17_prisonShare rfl rfl ?_
      exact k31 0 (by unfold shK; rw [c, if_neg (by decide), if_neg c2]) (by omega) _ ⟨rfl, rfl, trivial⟩
    · have c2 : S 99 0 8 = 0 := by simpa using c2
      iterate 2 refine pw_go tk_X17_prisonShare rfl rfl ?_
      exact k31 2 (by unfold shK; rw [c, if_neg (by decide), if_pos c2]) (by omega) _ ⟨rfl, rfl, trivial⟩
  · skip
    iterate 2 refine pw_go tk_X17_prisonShare rfl rfl ?_
    exact k31 1 (by unfold shK; rw [c, if_pos rfl]) (by omega) _ ⟨rfl, rfl, trivial⟩
end REFF

