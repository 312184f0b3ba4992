/-! REFERENCE: keepers, days counted -/
theorem kp_app {F : fw_DB} {d w : Nat} : ∀ {l : List Nat} {k : Nat}, kp F d k (l ++ [w]) = if (wkeep (F 13 w) d && (decide (kp F d k l = 0) || decide (F 13 (kp F d k l - 1) 16 < F 13 w 16))) = true then w + 1 else kp F d k l
  | [], _ => rfl
  | _ :: l, _ => kp_app (l := l)
/-- the keeper among the first warrants -/
def kpN (S : fw_DB) (p d k : Nat) : Nat := kp (FD S) d 0 ((List.range k).filter (fun w => decide (S 13 w 1 = p)))
theorem kpN_s {S : fw_DB} {p d k : Nat} : kpN S p d (k + 1) = if (kip S p d k && (decide (kpN S p d k = 0) || decide (FD S 13 (kpN S p d k - 1) 16 < FD S 13 k 16))) = true then k + 1 else kpN S p d k := by
  unfold kpN kip
  rw [List.range_succ, List.filter_append]
  by_cases c : S 13 k 1 = p
  · rw [List.filter_cons, if_pos (by simpa using c), List.filter_nil, kp_app, decide_eq_true c, Bool.true_and]
  · rw [List.filter_cons, if_neg (by simpa using c), List.filter_nil, List.append_nil, decide_eq_false c, Bool.false_and, Bool.false_and, if_neg (by decide)]
theorem kpN_le {S : fw_DB} {p d : Nat} : ∀ {k}, kpN S p d k ≤ k
  | 0 => Nat.le_refl 0
  | k + 1 => by
    rw [kpN_s]
    have := kpN_le (S := S) (p := p) (d := d) (k := k)
    split <;> omega
/-- days held or not, the state being one of a text's -/
def cnP (S : fw_DB) (p i : Nat) (b : Bool) : Nat → Bool := fun d => decide (sB (S 12 p) d = b) && decide (0 ≤ idxF (sBy.getD i []) (nI (stS S p d)) 0)
theorem cn_l {i r l a : Bool} : decide (0 ≤ idxF (sBy.getD 1 []) (nI (stB i r l a)) 0) = !(i || r) := by cases i <;> cases r <;> cases l <;> cases a <;> decide
theorem cn_s {i r l a : Bool} : decide (0 ≤ idxF (sBy.getD 2 []) (nI (stB i r l a)) 0) = ((i || r) && !a) := by cases i <;> cases r <;> cases l <;> cases a <;> decide
theorem du_at {S : fw_DB} {p d : Nat} (h : d < 20000) : dueS S p d = (anyK (kip S p d) (S 99 0 13) || anyK (gop S p d) (S 99 0 17)) := by
  rw [dueS_at h, ← kip_is, ← gop_is]
  congr 1
  · apply Bool.eq_iff_iff.mpr
    rw [decide_eq_true_eq]
    unfold kpS
    rw [kp_pos]
    simp
  · apply Bool.eq_iff_iff.mpr
    rw [decide_eq_true_eq]
    unfold rcS
    rw [rc_pos]
theorem tl_is {S : fw_DB} {p b : Nat} (hb : b ≤ 20000) : tlV S p b = cu (cnP S p 1 true) b := by
  unfold tlV
  rw [cu_iv (f := fun d => sB (S 12 p) d && !dueS S p d) (by omega)]
  show cu (fun d => sB (S 12 p) d && !dueS S p d) b - 0 = _
  rw [Nat.sub_zero]
  refine cu_congr (fun d hd => ?_)
  unfold cnP
  rw [st_is, cn_l, du_at (by omega)]
  cases sB (S 12 p) d <;> rfl
theorem ts_is {S : fw_DB} {p b : Nat} (hb : b ≤ 20000) : tsV S p b = cu (cnP S p 2 false) b := by
  unfold tsV
  rw [cu_iv (f := fun d => (dueS S p d && !sB (S 10 p) d) && !sB (S 12 p) d) (by omega)]
  show cu (fun d => (dueS S p d && !sB (S 10 p) d) && !sB (S 12 p) d) b - 0 = _
  rw [Nat.sub_zero]
  refine cu_congr (fun d hd => ?_)
  unfold cnP
  rw [st_is, cn_s, du_at (by omega)]
  cases sB (S 12 p) d <;> simp
section REFE
variable {G : fw_G} {n : Nat} {S D : fw_DB} {A : fw_AD} {M : fw_MP} {h : fw_H}
set_option maxRecDepth 20000 in
theorem m_keeper {x y : Int32} (R : RD G n S D A M h) : PM G 9 193 2352 mm_X17_keeper [.ref (A 30 0), .int x, .int y] h (fw_qI (fun r h' => rdn S D A (keK S x y) h' ∧ (keK S x y = 0 → r = nI (kpS S x.toNatClampNeg y.toNatClampNeg - 1))) fw_noX) := by
  refine pm_of (by decide +kernel) rfl rfl rfl ?_
  have hN := R.n7
  iterate 5 refine pw_go tk_X17_keeper rfl rfl ?_
  refine pw_csp tk_X17_keeper rfl ca_X17_in lk_X17_52 sx_X17_in (As := [.int y, .int 0, .int (nI 19999)]) (rest := [.int x, .ref (A 30 0)]) (n_in) rfl rfl rfl rfl ?_
  refine pw_cv tk_X17_keeper rfl ca_X17_noPerson lk_X17_181 iv_X17_noPerson sv_X17_noPerson R.m rfl rfl (As := [.int x, .int (bI (inI y 0 (nI 19999)))]) (rest := [])  (n_noPerson R) rfl rfl rfl (Nat.le_of_ble_eq_true rfl) (Nat.le_of_eq (Nat.zero_add _)) (Nat.le_of_eq (Nat.zero_add _)) ?_ ?_
  · rintro _ H ⟨_, rfl, rfl, e9⟩
    rw [e9]
    have R1 := R.t (pdK (S 99 0 8) x (inI y 0 (nI 19999)))
    by_cases hk : 0 < pdK (S 99 0 8) x (inI y 0 (nI 19999))
    · have e : keK S x y = pdK (S 99 0 8) x (inI y 0 (nI 19999)) := if_neg (by omega)
      rw [decide_eq_true hk, e]
      refine pw_ifeqB tk_X17_keeper rfl (fun c => absurd c (by decide)) (fun _ => ?_)
      refine pw_go tk_X17_keeper rfl rfl ?_
      exact pw_iret tk_X17_keeper rfl rfl rfl ⟨_, rfl, rdn_of R1, fun z => absurd z (by omega)⟩
    · have hk0 : pdK (S 99 0 8) x (inI y 0 (nI 19999)) = 0 := by omega
      have e : keK S x y = if kpS S x.toNatClampNeg y.toNatClampNeg = 0 then 3 else 0 := if_pos hk0
      obtain ⟨h1, h2⟩ := pd0 hk0
      obtain ⟨p, hp, rfl⟩ := knI_to h1 (by omega)
      obtain ⟨d, rfl, -, hd⟩ := inI_N (a := 0) h2 (by omega) (by omega)
      rw [decide_eq_false hk, e]
      rw [nI_tn (by omega), nI_tn (by omega)]
      rw [hk0] at R1
      rw [hk0]
      have ekp : kpS S p d = kpN S p d (S 99 0 13) := rfl
      rw [ekp]
      obtain ⟨Q, hQ⟩ : ∃ Q, Q = (fw_qI (fun r h' => rdn S D A (if kpN S p d (S 99 0 13) = 0 then 3 else 0) h' ∧ ((if kpN S p d (S 99 0 13) = 0 then 3 else 0) = 0 → r = nI (kpN S p d (S 99 0 13) - 1))) fw_noX) := ⟨_, rfl⟩
      rw [← hQ]
      refine pw_ifeqB tk_X17_keeper rfl (fun _ => ?_) (fun c => absurd c (by decide))
      refine pw_go tk_X17_keeper rfl rfl ?_
      refine pw_cv tk_X17_keeper rfl ca_X17_facts lk_X17_294 iv_X17_facts sv_X17_facts R1.m rfl rfl (As := []) (rest := []) (kc' := 0) (ks' := 0) (n_facts R1) rfl rfl rfl (Nat.le_of_ble_eq_true rfl) (Nat.le_refl _) (Nat.le_refl _) ?_ ?_
      · rintro _ H2 ⟨_, rfl, q, ad, rfl, s1, F⟩
        have R2 := R1.mono s1
        have loop : ∀ j k, j + k = S 99 0 13 → ∀ L, fw_sL L [(0, .ref (A 30 0)), (1, .int (nI p)), (2, .int (nI d)), (3, .ref q), (4, .int (nP (kpN S p d k))), (5, .int (nI k))] → PW G mm_X17_keeper Q 9 0 0 H2 29 L [] := by
          intro j
          induction j with
          | zero =>
            intro k hk L hL
            refine pw_M _ hL ?_
            have hk : k = S 99 0 13 := by omega
            subst hk
            have hle := kpN_le (S := S) (p := p) (d := d) (k := S 99 0 13)
            iterate 2 refine pw_go tk_X17_keeper rfl rfl ?_
            refine pw_alen tk_X17_keeper rfl F.1 (by decide) ?_
            refine pw_icN (S 99 0 13) (S 99 0 13) tk_X17_keeper rfl rfl rfl (by omega) (by omega) (fun _ => ?_) (fun c => absurd (show S 99 0 13 ≤ S 99 0 13 by omega) c)
            iterate 3 refine pw_go tk_X17_keeper rfl rfl ?_
            refine pw_br tk_X17_keeper rfl rfl (fun c => ?_) (fun c => ?_)
            · have c : kpN S p d (S 99 0 13) ≠ 0 := fun z => c ((nP_0 (by omega)).mpr z)
              rw [if_neg c] at hQ
              refine pw_go tk_X17_keeper rfl rfl ?_
              refine pw_put tk_X17_keeper rfl fp_X17_28 R2.m rfl rfl (Nat.le_of_ble_eq_true rfl) ?_
              refine pw_h (h' := tU A (sT D 0) H2 0) rfl ?_
              have R3 := R2.tt rfl 0
              iterate 2 refine pw_go tk_X17_keeper rfl rfl ?_
              refine pw_maxN (0) (kpN S p d (S 99 0 13) - 1) tk_X17_keeper rfl lk_X17_214 rfl (nP_p (by omega)) (by omega) (by omega) rfl ?_
              rw [Nat.max_eq_right (by omega)]
              rw [hQ]
              exact pw_iret tk_X17_keeper rfl rfl rfl ⟨_, rfl, rdn_of R3, fun _ => rfl⟩
            · have c : kpN S p d (S 99 0 13) = 0 := (nP_0 (by omega)).mp (Decidable.not_not.mp c)
              rw [if_pos c] at hQ
              iterate 2 refine pw_go tk_X17_keeper rfl rfl ?_
              refine pw_put tk_X17_keeper rfl fp_X17_28 R2.m rfl rfl (Nat.le_of_ble_eq_true rfl) ?_
              refine pw_h (h' := tU A (sT D 0) H2 3) rfl ?_
              have R3 := R2.tt rfl 3
              iterate 2 refine pw_go tk_X17_keeper rfl rfl ?_
              refine pw_max tk_X17_keeper rfl lk_X17_214 rfl ?_
              rw [hQ]
              exact pw_iret tk_X17_keeper rfl rfl rfl ⟨_, rfl, rdn_of R3, fun z => absurd z (by decide)⟩
          | succ j ih =>
            intro k hk L hL
            refine pw_M _ hL ?_
            have hw : k < S 99 0 13 := by omega
            have hle := kpN_le (S := S) (p := p) (d := d) (k := k)
            obtain ⟨B, -, -, -, hpr⟩ := icw R.1 hw
            have es := kpN_s (S := S) (p := p) (d := d) (k := k)
            have k108 : ∀ v L, fw_sL L [(0, .ref (A 30 0)), (1, .int (nI p)), (2, .int (nI d)), (3, .ref q), (4, .int (nP (kpN S p d k))), (5, .int (nI k))] → v = nP (kpN S p d (k + 1)) → PW G mm_X17_keeper Q 9 0 0 H2 108 L [.int v] := by
              intro v L hL hv
              subst hv
              refine pw_M _ hL ?_
              iterate 2 refine pw_go tk_X17_keeper rfl rfl ?_
              refine pw_go tk_X17_keeper rfl rfl ?_
              exact ih (k + 1) (by omega) _ ⟨rfl, rfl, rfl, rfl, rfl, congrArg (fun z => some (Value.int z)) (nI_1 k), trivial⟩
            have k71 : ∀ z L, fw_sL L [(0, .ref (A 30 0)), (1, .int (nI p)), (2, .int (nI d)), (3, .ref q), (4, .int (nP (kpN S p d k))), (5, .int (nI k))] → z = kip S p d k → PW G mm_X17_keeper Q 9 0 0 H2 71 L [.int (bI z)] := by
              intro z L hL hz
              rw [← hz] at es
              refine pw_M _ hL ?_
              iterate 2 refine pw_go tk_X17_keeper rfl rfl ?_
              refine pw_ifeqB tk_X17_keeper rfl (fun c => ?_) (fun c => ?_)
              · rw [c, Bool.false_and, if_neg (by decide)] at es
                refine pw_go tk_X17_keeper rfl rfl ?_
                exact k108 _ _ ⟨rfl, rfl, rfl, rfl, rfl, rfl, trivial⟩ (by rw [es])
              rw [c, Bool.true_and] at es
              iterate 2 refine pw_go tk_X17_keeper rfl rfl ?_
              refine pw_br tk_X17_keeper rfl rfl (fun c2 => ?_) (fun c2 => ?_)
              · have c2 : kpN S p d k = 0 := (nP_0 (by omega)).mp c2
                rw [if_pos (by rw [decide_eq_true c2]; rfl)] at es
                iterate 2 refine pw_go tk_X17_keeper rfl rfl ?_
                exact k108 _ _ ⟨rfl, rfl, rfl, rfl, rfl, rfl, trivial⟩ (by rw [es]; rfl)
              · have c2 : kpN S p d k ≠ 0 := fun z => c2 ((nP_0 (by omega)).mpr z)
                rw [decide_eq_false c2, Bool.false_or] at es
                have hb0 := F.2 k hw
                have hb1 := F.2 (kpN S p d k - 1) (by omega)
                unfold fcO at hb0 hb1
                obtain ⟨r1, r2, r3⟩ := fr_is R.1 hw
                obtain ⟨q1, q2, q3⟩ := fr_is R.1 (w := kpN S p d k - 1) (by omega)
                obtain ⟨-, f16, -⟩ := fdw R.1 hw
                obtain ⟨-, g16, -⟩ := fdw R.1 (w := kpN S p d k - 1) (by omega)
                generalize min (FD S 13 k 16) 20000 = r at *
                generalize min (FD S 13 (kpN S p d k - 1) 16) 20000 = rr at *
                iterate 2 refine pw_go tk_X17_keeper rfl rfl ?_
                refine pw_aaldN (k := k) tk_X17_keeper rfl F.1 (by decide) rfl rfl hw (by omega) ?_
                refine pw_q (x' := some (ad k)) (if_pos hw) ?_
                refine pw_get tk_X17_keeper rfl fl_X17_235 hb0 rfl ?_
                iterate 2 refine pw_go tk_X17_keeper rfl rfl ?_
                refine pw_aaldN (k := kpN S p d k - 1) tk_X17_keeper rfl F.1 (by decide) rfl (nP_p (by omega)) (by omega) (by omega) ?_
                refine pw_q (x' := some (ad (kpN S p d k - 1))) (if_pos (by omega)) ?_
                refine pw_get tk_X17_keeper rfl fl_X17_235 hb1 rfl ?_
                refine pw_icN (r) (rr) tk_X17_keeper rfl rfl rfl (by omega) (by omega) (fun c3 => ?_) (fun c3 => ?_)
                · have c3 : r ≤ rr := c3
                  rw [if_neg (by rw [decide_eq_true_eq]; omega)] at es
                  refine pw_go tk_X17_keeper rfl rfl ?_
                  exact k108 _ _ ⟨rfl, rfl, rfl, rfl, rfl, rfl, trivial⟩ (by rw [es])
                · have c3 : ¬ r ≤ rr := c3
                  rw [if_pos (by rw [decide_eq_true_eq]; omega)] at es
                  iterate 2 refine pw_go tk_X17_keeper rfl rfl ?_
                  exact k108 _ _ ⟨rfl, rfl, rfl, rfl, rfl, rfl, trivial⟩ (by rw [es]; rfl)
            iterate 2 refine pw_go tk_X17_keeper rfl rfl ?_
            refine pw_alen tk_X17_keeper rfl F.1 (by decide) ?_
            refine pw_icN (k) (S 99 0 13) tk_X17_keeper rfl rfl rfl (by omega) (by omega) (fun c => absurd (show S 99 0 13 ≤ k from c) (by omega)) (fun _ => ?_)
            refine pw_go tk_X17_keeper rfl rfl ?_
            refine pw_get tk_X17_keeper rfl fl_X17_19 R2.m rfl ?_
            refine pw_go tk_X17_keeper rfl rfl ?_
            refine pw_lget (k := k) tk_X17_keeper rfl (R2.l3) hw rfl rfl rfl rfl ?_
            refine pw_cast tk_X17_keeper rfl (R2.war hw) rfl cw_X17_88 ?_
            refine pw_get tk_X17_keeper rfl fl_X17_128 (R2.war hw) rfl ?_
            refine pw_go tk_X17_keeper rfl rfl ?_
            refine pw_icN (S 13 k 1) (p) tk_X17_keeper rfl rfl rfl (by omega) (by omega) (fun c2 => ?_) (fun c2 => ?_)
            · have c2 : S 13 k 1 ≠ p := c2
              refine pw_go tk_X17_keeper rfl rfl ?_
              exact k71 false _ ⟨rfl, rfl, rfl, rfl, rfl, rfl, trivial⟩ (by unfold kip; rw [decide_eq_false c2]; rfl)
            have c2 : S 13 k 1 = p := Decidable.not_not.mp c2
            iterate 4 refine pw_go tk_X17_keeper rfl rfl ?_
            refine pw_cvp tk_X17_keeper rfl ca_X17_isIn lk_X17_290 iv_X17_isIn sv_X17_isIn R2.m rfl rfl (As := [.int (nI k), .int (nI d), .ref q]) (rest := []) (n_isIn R2 F hw (by omega)) rfl rfl rfl rfl ?_
            refine pw_ifeqB tk_X17_keeper rfl (fun c3 => ?_) (fun c3 => ?_)
            · skip
              refine pw_go tk_X17_keeper rfl rfl ?_
              exact k71 false _ ⟨rfl, rfl, rfl, rfl, rfl, rfl, trivial⟩ (by unfold kip; rw [c3, Bool.and_false])
            · skip
              iterate 2 refine pw_go tk_X17_keeper rfl rfl ?_
              exact k71 true _ ⟨rfl, rfl, rfl, rfl, rfl, rfl, trivial⟩ (by unfold kip; rw [c3, decide_eq_true c2]; rfl)
        iterate 5 refine pw_go tk_X17_keeper rfl rfl ?_
        exact loop (S 99 0 13) 0 (by omega) _ ⟨rfl, rfl, rfl, rfl, rfl, rfl, trivial⟩
      · exact fun _ _ z => z.elim
  · exact fun _ _ z => z.elim
set_option maxRecDepth 20000 in
theorem n_countD {x y : Int32} {b : Bool} {i : Nat} (hi : i < 3) (R : RD G n S D A M h) : PM G 9 194 2372 mm_X17_counted [.ref (A 30 0), .int x, .int y, .int (bI b), .ref (sK G i)] h (fw_qI (fun r h' => rdn S D A (pdK (S 99 0 8) x (inI y 0 (nI 20000))) h' ∧ (pdK (S 99 0 8) x (inI y 0 (nI 20000)) = 0 → r = nI (cu (cnP S x.toNatClampNeg i b) y.toNatClampNeg))) fw_noX) := by
  refine pm_of (by decide +kernel) rfl rfl rfl ?_
  have hN := R.n7
  iterate 5 refine pw_go tk_X17_counted rfl rfl ?_
  refine pw_csp tk_X17_counted rfl ca_X17_in lk_X17_52 sx_X17_in (As := [.int y, .int 0, .int (nI 20000)]) (rest := [.int x, .ref (A 30 0)]) (n_in) rfl rfl rfl rfl ?_
  refine pw_cv tk_X17_counted rfl ca_X17_noPerson lk_X17_181 iv_X17_noPerson sv_X17_noPerson R.m rfl rfl (As := [.int x, .int (bI (inI y 0 (nI 20000)))]) (rest := [])  (n_noPerson R) rfl rfl rfl (Nat.le_of_ble_eq_true rfl) (Nat.le_of_eq (Nat.zero_add _)) (Nat.le_of_eq (Nat.zero_add _)) ?_ ?_
  · rintro _ H ⟨_, rfl, rfl, e9⟩
    rw [e9]
    have R1 := R.t (pdK (S 99 0 8) x (inI y 0 (nI 20000)))
    by_cases hk : 0 < pdK (S 99 0 8) x (inI y 0 (nI 20000))
    · rw [decide_eq_true hk]
      refine pw_ifeqB tk_X17_counted rfl (fun c => absurd c (by decide)) (fun _ => ?_)
      refine pw_go tk_X17_counted rfl rfl ?_
      exact pw_iret tk_X17_counted rfl rfl rfl ⟨_, rfl, rdn_of R1, fun z => absurd z (by omega)⟩
    · have hk0 : pdK (S 99 0 8) x (inI y 0 (nI 20000)) = 0 := by omega
      obtain ⟨h1, h2⟩ := pd0 hk0
      obtain ⟨p, hp, rfl⟩ := knI_to h1 (by omega)
      obtain ⟨d, rfl, -, hd⟩ := inI_N (a := 0) h2 (by omega) (by omega)
      rw [decide_eq_false hk]
      rw [nI_tn (by omega), nI_tn (by omega)]
      rw [hk0] at R1
      rw [hk0]
      obtain ⟨Q, hQ⟩ : ∃ Q, Q = (fw_qI (fun r h' => rdn S D A 0 h' ∧ (0 = 0 → r = nI (cu (cnP S p i b) d))) fw_noX) := ⟨_, rfl⟩
      rw [← hQ]
      refine pw_ifeqB tk_X17_counted rfl (fun _ => ?_) (fun c => absurd c (by decide))
      refine pw_go tk_X17_counted rfl rfl ?_
      refine pw_cv tk_X17_counted rfl ca_X17_facts lk_X17_294 iv_X17_facts sv_X17_facts R1.m rfl rfl (As := []) (rest := []) (kc' := 1) (ks' := 20) (n_facts R1) rfl rfl rfl (Nat.le_of_ble_eq_true rfl) (show 193 + 1 ≤ 194 by omega) (show 2352 + 20 ≤ 2372 by omega) ?_ ?_
      · rintro _ H2 ⟨_, rfl, q, ad, rfl, s1, F⟩
        have R2 := R1.mono s1
        iterate 2 refine pw_go tk_X17_counted rfl rfl ?_
        refine pw_get tk_X17_counted rfl fl_X17_25 R2.m rfl ?_
        refine pw_lsz tk_X17_counted rfl (R2.l5) rfl rfl rfl ?_
        refine pw_mono (Q' := Q) (kc' := 0 + 1) (ks' := 0 + S 99 0 17) (Nat.le_refl _) (by omega) (by omega) ?_
        refine pw_newa (t := 0) (N' := S 99 0 17) (a0 := (S 99 0 17, .inl (fun _ => 0))) tk_X17_counted rfl (by decide) rfl rfl ar_int (fun _ => rfl) (fun z => by have := (nI_ltI (a := S 99 0 17) (b := 0) (by omega) (by omega)).mp z; omega) (nI_clamp (show S 99 0 17 < 2 ^ 31 by omega)) (by show S 99 0 17 * 4 ≤ _; omega) (fun q2 hq2 hg2 => ?_)
        have loop2 : ∀ (H3 : fw_H) (R3 : RD G n S (sT D 0) A M H3) (F3 : FA S H3 q ad (S 99 0 13)) (N3 : EN S H3 q2), ∀ j k, j + k = d → ∀ L, fw_sL L [(0, .ref (A 30 0)), (1, .int (nI p)), (2, .int (nI d)), (3, .int (bI b)), (4, .ref (sK G i)), (5, .ref q), (6, .ref q2), (7, .int (nI (cu (cnP S p i b) k))), (8, .int (nI k))] → PW G mm_X17_counted Q 9 0 0 H3 81 L [] := by
          intro H3 R3 F3 N3 j
          induction j with
          | zero =>
            intro k hk L hL
            refine pw_M _ hL ?_
            have hk : k = d := by omega
            subst hk
            iterate 2 refine pw_go tk_X17_counted rfl rfl ?_
            refine pw_icN (k) (k) tk_X17_counted rfl rfl rfl (by omega) (by omega) (fun _ => ?_) (fun c => absurd (show k ≤ k by omega) c)
            refine pw_go tk_X17_counted rfl rfl ?_
            rw [hQ]
            exact pw_iret tk_X17_counted rfl rfl rfl ⟨_, rfl, rdn_of R3, fun _ => rfl⟩
          | succ j ih =>
            intro k hk L hL
            refine pw_M _ hL ?_
            have es : cu (cnP S p i b) (k + 1) = cu (cnP S p i b) k + (if cnP S p i b k = true then 1 else 0) := rfl
            have k134 : ∀ v L, fw_sL L [(0, .ref (A 30 0)), (1, .int (nI p)), (2, .int (nI d)), (3, .int (bI b)), (4, .ref (sK G i)), (5, .ref q), (6, .ref q2), (7, .int (nI (cu (cnP S p i b) k))), (8, .int (nI k))] → v = (if cnP S p i b k = true then 1 else 0) → PW G mm_X17_counted Q 9 0 0 H3 134 L [.int (nI v), .int (nI (cu (cnP S p i b) k))] := by
              intro v L hL hv
              rw [← hv] at es
              refine pw_M _ hL ?_
              refine pw_addN (cu (cnP S p i b) k) (v) tk_X17_counted rfl rfl rfl ?_
              rw [← es]
              iterate 2 refine pw_go tk_X17_counted rfl rfl ?_
              refine pw_go tk_X17_counted rfl rfl ?_
              exact ih (k + 1) (by omega) _ ⟨rfl, rfl, rfl, rfl, rfl, rfl, rfl, rfl, congrArg (fun z => some (Value.int z)) (nI_1 k), trivial⟩
            iterate 2 refine pw_go tk_X17_counted rfl rfl ?_
            refine pw_icN (k) (d) tk_X17_counted rfl rfl rfl (by omega) (by omega) (fun c => absurd (show d ≤ k from c) (by omega)) (fun _ => ?_)
            iterate 2 refine pw_go tk_X17_counted rfl rfl ?_
            refine pw_get tk_X17_counted rfl fl_X17_16 R3.m rfl ?_
            refine pw_go tk_X17_counted rfl rfl ?_
            refine pw_lget (k := p) tk_X17_counted rfl (R3.l2) hp rfl rfl rfl rfl ?_
            refine pw_cast tk_X17_counted rfl (R3.per hp) rfl cw_X17_112 ?_
            refine pw_get tk_X17_counted rfl fl_X17_313 (R3.per hp) rfl ?_
            refine pw_go tk_X17_counted rfl rfl ?_
            refine pw_zaldN tk_X17_counted rfl ((R3.held hp)) rfl (by omega) (by omega) ?_
            rw [mkR_b]
            refine pw_go tk_X17_counted rfl rfl ?_
            refine pw_br tk_X17_counted rfl rfl (fun c => ?_) (fun c => ?_)
            · have c : sB (S 12 p) k ≠ b := fun z => c (by rw [z])
              refine pw_go tk_X17_counted rfl rfl ?_
              exact k134 0 _ ⟨rfl, rfl, rfl, rfl, rfl, rfl, rfl, rfl, rfl, trivial⟩ (by unfold cnP; rw [decide_eq_false c]; rfl)
            have c : sB (S 12 p) k = b := by
              have c := Decidable.not_not.mp c
              revert c
              cases sB (S 12 p) k <;> cases b <;> decide
            iterate 6 refine pw_go tk_X17_counted rfl rfl ?_
            refine pw_cvp tk_X17_counted rfl ca_X17_fast lk_X17_320 iv_X17_fast sv_X17_fast R3.m rfl rfl (As := [.int (nI p), .int (nI k), .ref q, .ref q2]) (rest := [.ref (sK G i), .int (nI (cu (cnP S p i b) k))]) (n_fast R3 F3 N3 hp (by omega)) rfl rfl rfl rfl ?_
            refine pw_cvsp (hi) tk_X17_counted rfl ca_J0_indexOf_0f7a4 lk_X17_123 iv_J0_indexOf_0f7a4 sv_J0_indexOf_0f7a4 rfl (As := [.int (nI (stS S p k))]) (rest := [.int (nI (cu (cnP S p i b) k))]) (s_indexOf hi) rfl rfl rfl rfl ?_
            refine pw_br tk_X17_counted rfl rfl (fun c2 => ?_) (fun c2 => ?_)
            · have c2 : idxF (sBy.getD i []) (nI (stS S p k)) 0 < 0 := c2
              refine pw_go tk_X17_counted rfl rfl ?_
              exact k134 0 _ ⟨rfl, rfl, rfl, rfl, rfl, rfl, rfl, rfl, rfl, trivial⟩ (by unfold cnP; rw [decide_eq_false (p := 0 ≤ idxF (sBy.getD i []) (nI (stS S p k)) 0) (fun z => i_nlt.mpr z c2), Bool.and_false]; rfl)
            · have c2 : ¬ idxF (sBy.getD i []) (nI (stS S p k)) 0 < 0 := c2
              iterate 2 refine pw_go tk_X17_counted rfl rfl ?_
              exact k134 1 _ ⟨rfl, rfl, rfl, rfl, rfl, rfl, rfl, rfl, rfl, trivial⟩ (by unfold cnP; rw [decide_eq_true c, decide_eq_true (i_nlt.mp c2)]; rfl)
        have loop1 : ∀ j k, j + k = S 99 0 17 → ∀ e : Nat → Int32, (∀ t, t < k → e t = nI (min (FD S 17 t 5) 20000)) → ∀ L, fw_sL L [(0, .ref (A 30 0)), (1, .int (nI p)), (2, .int (nI d)), (3, .int (bI b)), (4, .ref (sK G i)), (5, .ref q), (6, .ref q2), (7, .int (nI k))] → PW G mm_X17_counted Q 9 0 0 (fw_up H2 q2 (.inl (0, S 99 0 17, .inl e))) 38 L [] := by
          intro j
          induction j with
          | zero =>
            intro k hk e he L hL
            refine pw_M _ hL ?_
            have hk : k = S 99 0 17 := by omega
            subst hk
            have R3 := R2.up (q := q2) (o := .inl (0, S 99 0 17, .inl e)) hq2
            iterate 2 refine pw_go tk_X17_counted rfl rfl ?_
            refine pw_alen tk_X17_counted rfl fw_up_s (by decide) ?_
            refine pw_icN (S 99 0 17) (S 99 0 17) tk_X17_counted rfl rfl rfl (by omega) (by omega) (fun _ => ?_) (fun c => absurd (show S 99 0 17 ≤ S 99 0 17 by omega) c)
            iterate 4 refine pw_go tk_X17_counted rfl rfl ?_
            exact loop2 _ R3 (F.up hq2) ⟨e, fw_up_s, he⟩ d 0 (by omega) _ ⟨rfl, rfl, rfl, rfl, rfl, rfl, rfl, rfl, rfl, trivial⟩
          | succ j ih =>
            intro k hk e he L hL
            refine pw_M _ hL ?_
            have hr : k < S 99 0 17 := by omega
            have R3 := R2.up (q := q2) (o := .inl (0, S 99 0 17, .inl e)) hq2
            iterate 2 refine pw_go tk_X17_counted rfl rfl ?_
            refine pw_alen tk_X17_counted rfl fw_up_s (by decide) ?_
            refine pw_icN (k) (S 99 0 17) tk_X17_counted rfl rfl rfl (by omega) (by omega) (fun c => absurd (show S 99 0 17 ≤ k from c) (by omega)) (fun _ => ?_)
            iterate 4 refine pw_go tk_X17_counted rfl rfl ?_
            refine pw_get tk_X17_counted rfl fl_X17_25 R3.m rfl ?_
            refine pw_go tk_X17_counted rfl rfl ?_
            refine pw_lget (k := k) tk_X17_counted rfl (R3.l5) hr rfl rfl rfl rfl ?_
            refine pw_cast tk_X17_counted rfl (R3.rec hr) rfl cw_X17_273 ?_
            refine pw_go tk_X17_counted rfl rfl ?_
            refine pw_cvp tk_X17_counted rfl ca_X17_endOf lk_X17_316 iv_X17_endOf sv_X17_endOf R3.m rfl rfl (As := [.ref (A 55 k), .ref q]) (rest := [.int (nI k), .ref q2]) (n_endOf R3 (F.up hq2) hr) rfl rfl rfl rfl ?_
            refine pw_iastN (k := k) tk_X17_counted rfl fw_up_s rfl hr (by omega) ?_
            rw [fw_up_2]
            refine pw_go tk_X17_counted rfl rfl ?_
            refine pw_go tk_X17_counted rfl rfl ?_
            refine ih (k + 1) (by omega) _ (fun t ht => ?_) _ ⟨rfl, rfl, rfl, rfl, rfl, rfl, rfl, congrArg (fun z => some (Value.int z)) (nI_1 k), trivial⟩
            unfold upd
            by_cases z : t = k
            · rw [if_pos z, z]
            · rw [if_neg z]
              exact he t (by omega)
        iterate 3 refine pw_go tk_X17_counted rfl rfl ?_
        exact loop1 (S 99 0 17) 0 (by omega) _ (fun t ht => absurd ht (by omega)) _ ⟨rfl, rfl, rfl, rfl, rfl, rfl, rfl, rfl, trivial⟩
      · exact fun _ _ z => z.elim
  · exact fun _ _ z => z.elim
theorem m_tooLong {x y : Int32} (R : RD G n S D A M h) : PM G 10 194 2372 mm_X17_tooLong [.ref (A 30 0), .int x, .int y] h (fw_qI (fun r h' => rdn S D A (pdK (S 99 0 8) x (inI y 0 (nI 20000))) h' ∧ (pdK (S 99 0 8) x (inI y 0 (nI 20000)) = 0 → r = nI (tlV S x.toNatClampNeg y.toNatClampNeg))) fw_noX) := by
  refine pm_of (by decide +kernel) rfl rfl rfl ?_
  iterate 4 refine pw_go tk_X17_tooLong rfl rfl ?_
  refine pw_ldcSW (i := 1) (Or.inl ⟨rfl, rfl⟩) tk_X17_tooLong rfl rfl ?_
  refine pw_cv tk_X17_tooLong rfl ca_X17_counted lk_X17_326 iv_X17_counted sv_X17_counted R.m rfl rfl (As := [.int x, .int y, .int (bI true), .ref (sK G 1)]) (rest := []) (kc' := 0) (ks' := 0) (n_countD (b := true) (i := 1) (by decide) R) rfl rfl rfl (Nat.le_of_ble_eq_true rfl) (Nat.le_refl _) (Nat.le_refl _) ?_ ?_
  · rintro _ H ⟨r, rfl, h1, h2⟩
    refine pw_iret tk_X17_tooLong rfl rfl rfl ⟨_, rfl, h1, fun z => ?_⟩
    have hy := (pd0 z).2
    obtain ⟨d, rfl, -, hd⟩ := inI_N (a := 0) hy (by omega) (by omega)
    rw [h2 z, nI_tn (k := d) (by omega), tl_is hd]
  · exact fun _ _ z => z.elim
theorem m_tooShort {x y : Int32} (R : RD G n S D A M h) : PM G 10 194 2372 mm_X17_tooShort [.ref (A 30 0), .int x, .int y] h (fw_qI (fun r h' => rdn S D A (pdK (S 99 0 8) x (inI y 0 (nI 20000))) h' ∧ (pdK (S 99 0 8) x (inI y 0 (nI 20000)) = 0 → r = nI (tsV S x.toNatClampNeg y.toNatClampNeg))) fw_noX) := by
  refine pm_of (by decide +kernel) rfl rfl rfl ?_
  iterate 4 refine pw_go tk_X17_tooShort rfl rfl ?_
  refine pw_ldcSW (i := 2) (Or.inr ⟨rfl, rfl⟩) tk_X17_tooShort rfl rfl ?_
  refine pw_cv tk_X17_tooShort rfl ca_X17_counted lk_X17_326 iv_X17_counted sv_X17_counted R.m rfl rfl (As := [.int x, .int y, .int (bI false), .ref (sK G 2)]) (rest := []) (kc' := 0) (ks' := 0) (n_countD (b := false) (i := 2) (by decide) R) rfl rfl rfl (Nat.le_of_ble_eq_true rfl) (Nat.le_refl _) (Nat.le_refl _) ?_ ?_
  · rintro _ H ⟨r, rfl, h1, h2⟩
    refine pw_iret tk_X17_tooShort rfl rfl rfl ⟨_, rfl, h1, fun z => ?_⟩
    have hy := (pd0 z).2
    obtain ⟨d, rfl, -, hd⟩ := inI_N (a := 0) hy (by omega) (by omega)
    rw [h2 z, nI_tn (k := d) (by omega), ts_is hd]
  · exact fun _ _ z => z.elim
end REFE

