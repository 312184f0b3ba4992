/-! TALLY: a day passed, days added -/
section CTAL2
variable {G : fw_G} {D : fw_DB} {A : fw_AD} {M : fw_MP} {w : Nat}
theorem tp1_B {d : Nat} {t : Nat → Nat} (C : cB D) (hw : w < D 99 0 13) (h7 : 0 < D 13 w 7 → lB D (D 13 w 7 - 1)) (hd : d < 20000) (B : tB t) : tB (tp1 D w d t) := by
  obtain ⟨h2, h3, h4, h9, h10, h11, ⟨hy, hm, hdd⟩, h14, h15, h16, h17⟩ := C.1 w hw
  have B2 := C.1 w hw
  have hs := sp_len_up hd hy hm hdd
  have hn := wneed_le (s := sp_len d (D 15 w 0) (D 15 w 1) (D 15 w 2)) B2 h7
  have hmm : wmost (D 13 w) (sp_len d (D 15 w 0) (D 15 w 1) (D 15 w 2)) < 50000 := by unfold wmost; omega
  unfold tp1
  split
  · obtain ⟨b0, b1, b2, b3, b4, b5, b6⟩ := B
    exact ⟨Or.inl hd, by show sp_len d _ _ _ < _; omega, by show wneed _ _ _ < _; omega, b3, b4, b5, b6⟩
  · exact B
theorem teol_lt {g t : Nat → Nat} (B : tB t) (h : t 0 < 1000000 → t 0 < 20000) : teol g t < 4000000 := by
  obtain ⟨b0, b1, b2, b3, b4, b5, b6⟩ := B
  unfold teol
  split
  · omega
  · split <;> omega
theorem tp2_B {lw : Nat → Nat → Nat} {g : Nat → Nat} {d : Nat} {t : Nat → Nat} (hd : d < 20000) (B : tB t) : tB (tp2 lw g d t) := by
  unfold tp2
  split
  · have hb : tB (va_up t 5 d) := by
      obtain ⟨b0, b1, b2, b3, b4, b5, b6⟩ := B
      exact ⟨b0, b1, b2, b3, b4, by show d ≤ _; omega, b6⟩
    have := teol_lt (g := g) hb (fun z => by have := hb.1; omega)
    obtain ⟨b0, b1, b2, b3, b4, b5, b6⟩ := hb
    exact ⟨b0, b1, b2, b3, b4, b5, this⟩
  · exact B
set_option maxRecDepth 20000 in
theorem t_pass {d : Nat} {a : Bool} (W : Wf D A M) (C : cB D) (hw : w < D 99 0 13) (hT : ∀ j, j < D 99 0 13 → tB (D 14 j)) (hd : d < 20000) : PM G 3 0 0 mm_X7_passDay [.ref (A 14 w), .ref (A 13 w), .int (nI d), .int (bI a)] (hp M A D) (fw_qV (fun h' => h' = hp M A (dp D 14 w (tpd D w d a))) fw_noX) := by
  refine pm_of (by decide +kernel) rfl rfl rfl ?_
  have L := W.lv hw
  have hk := W.ok hw
  have Lt := W.lv hk.2.2.1
  have h7 : 0 < D 13 w 7 → lB D (D 13 w 7 - 1) := fun z => C.2.1 _ (by have := hk.2.2.2.1; omega)
  have h5 : 0 < D 13 w 5 → D 13 w 5 - 1 < D 99 0 13 := fun z => by have := hk.2.1; omega
  obtain ⟨h2, h3, h4, h9, h10, h11, ⟨hy, hm, hdd⟩, h14, h15, h16, h17⟩ := C.1 w hw
  have B0 := hT w hw
  obtain ⟨Q, hQ⟩ : ∃ Q, Q = fw_qV (fun h' => h' = hp M A (dp D 14 w (tpd D w d a))) fw_noX := ⟨_, rfl⟩
  rw [← hQ]
  obtain ⟨T1, hT1⟩ : ∃ T1, T1 = tp1 D w d (D 14 w) := ⟨_, rfl⟩
  obtain ⟨T2, hT2⟩ : ∃ T2, T2 = tp2 (D 7) (D 13 w) d T1 := ⟨_, rfl⟩
  have hT3 : tpd D w d a = tp3 a T2 := by rw [hT2, hT1]; rfl
  have BT1 : tB T1 := by rw [hT1]; exact tp1_B C hw h7 hd B0
  have BT2 : tB T2 := by rw [hT2]; exact tp2_B hd BT1
  have WT : ∀ g, Wf (dp D 14 w g) A M := fun g => W.put (by decide) trivial
  have runC : ∀ {g : Nat → Nat}, tB g → PM G 0 0 0 mm_X7_runs [.ref (A 14 w)] (hp M A (dp D 14 w g)) (fw_qp (bI (trun g)) (hp M A (dp D 14 w g))) := by
    intro g hg
    have h := t_runs (G := G) (D := dp D 14 w g) (M := M) (A := A) (w := w) Lt (by rw [dp_s]; exact hg)
    rw [dp_s] at h
    exact h
  have CT : ∀ g, cB (dp D 14 w g) := fun g => C
  have k86 : PW G mm_X7_passDay Q 3 0 0 (hp M A (dp D 14 w T2)) 86 [(0, .ref (A 14 w)), (1, .ref (A 13 w)), (2, .int (nI d)), (3, .int (bI a))] [] := by
    refine pw_go tk_X7_passDay rfl rfl ?_
    refine pw_cvp tk_X7_passDay rfl ca_X7_runs lk_X7_53 iv_X7_runs sv_X7_runs (hgp Lt) rfl rfl (As := []) (rest := []) (runC BT2) rfl rfl rfl rfl ?_
    refine pw_ifeqB tk_X7_passDay rfl (fun c => ?_) (fun c => ?_)
    · skip
      subst hQ
      exact pw_vret tk_X7_passDay rfl rfl ⟨rfl, by rw [hT3]; unfold tp3; rw [if_neg (by rw [c]; decide)]⟩
    · skip
      have e3 : tp3 a T2 = va_up (va_up T2 4 (T2 4 + (if a = true then 1 else 0))) 3 (T2 3 + (if a = true then 0 else 1)) := if_pos c
      cases a with
      | true =>
        iterate 2 refine pw_go tk_X7_passDay rfl rfl ?_
        refine pw_get tk_X7_passDay rfl fl_X7_25 (hgp Lt) rfl ?_
        refine pw_go tk_X7_passDay rfl rfl ?_
        refine pw_br tk_X7_passDay rfl rfl (fun c => absurd c (by decide)) (fun c => ?_)
        iterate 2 refine pw_go tk_X7_passDay rfl rfl ?_
        refine pw_addN (T2 4) (1) tk_X7_passDay rfl rfl rfl ?_
        refine pw_put tk_X7_passDay rfl fp_X7_25 (hgp Lt) rfl rfl (Nat.le_of_ble_eq_true rfl) ?_
        refine pw_h (hset2 (va_up T2 4 (T2 4 + 1)) W Lt) ?_
        iterate 2 refine pw_go tk_X7_passDay rfl rfl ?_
        refine pw_get tk_X7_passDay rfl fl_X7_22 (hgp Lt) rfl ?_
        refine pw_go tk_X7_passDay rfl rfl ?_
        refine pw_br tk_X7_passDay rfl rfl (fun c => absurd c (by decide)) (fun c => ?_)
        iterate 2 refine pw_go tk_X7_passDay rfl rfl ?_
        refine pw_addN (T2 3) (0) tk_X7_passDay rfl rfl rfl ?_
        refine pw_put tk_X7_passDay rfl fp_X7_22 (hgp Lt) rfl rfl (Nat.le_of_ble_eq_true rfl) ?_
        refine pw_h (hset2 (va_up (va_up T2 4 (T2 4 + 1)) 3 (T2 3 + 0)) W Lt) ?_
        subst hQ
        exact pw_vret tk_X7_passDay rfl rfl ⟨rfl, by rw [hT3, e3]; rfl⟩
      | false =>
        iterate 2 refine pw_go tk_X7_passDay rfl rfl ?_
        refine pw_get tk_X7_passDay rfl fl_X7_25 (hgp Lt) rfl ?_
        refine pw_go tk_X7_passDay rfl rfl ?_
        refine pw_br tk_X7_passDay rfl rfl (fun c => ?_) (fun c => absurd rfl c)
        refine pw_go tk_X7_passDay rfl rfl ?_
        refine pw_addN (T2 4) (0) tk_X7_passDay rfl rfl rfl ?_
        refine pw_put tk_X7_passDay rfl fp_X7_25 (hgp Lt) rfl rfl (Nat.le_of_ble_eq_true rfl) ?_
        refine pw_h (hset2 (va_up T2 4 (T2 4 + 0)) W Lt) ?_
        iterate 2 refine pw_go tk_X7_passDay rfl rfl ?_
        refine pw_get tk_X7_passDay rfl fl_X7_22 (hgp Lt) rfl ?_
        refine pw_go tk_X7_passDay rfl rfl ?_
        refine pw_br tk_X7_passDay rfl rfl (fun c => ?_) (fun c => absurd rfl c)
        refine pw_go tk_X7_passDay rfl rfl ?_
        refine pw_addN (T2 3) (1) tk_X7_passDay rfl rfl rfl ?_
        refine pw_put tk_X7_passDay rfl fp_X7_22 (hgp Lt) rfl rfl (Nat.le_of_ble_eq_true rfl) ?_
        refine pw_h (hset2 (va_up (va_up T2 4 (T2 4 + 0)) 3 (T2 3 + 1)) W Lt) ?_
        subst hQ
        exact pw_vret tk_X7_passDay rfl rfl ⟨rfl, by rw [hT3, e3]; rfl⟩
  have k46 : PW G mm_X7_passDay Q 3 0 0 (hp M A (dp D 14 w T1)) 46 [(0, .ref (A 14 w)), (1, .ref (A 13 w)), (2, .int (nI d)), (3, .int (bI a))] [] := by
    have n86 : (trun T1 && (decide (T1 2 ≤ T1 3) && tml (D 7) (D 13 w) d)) = false → T2 = T1 := fun e => by
      rw [hT2]
      unfold tp2
      rw [if_neg (by rw [e]; decide)]
    obtain ⟨b0, b1, b2, b3, b4, b5, b6⟩ := BT1
    have BT1 : tB T1 := ⟨b0, b1, b2, b3, b4, b5, b6⟩
    refine pw_go tk_X7_passDay rfl rfl ?_
    refine pw_cvp tk_X7_passDay rfl ca_X7_runs lk_X7_53 iv_X7_runs sv_X7_runs (hgp Lt) rfl rfl (As := []) (rest := []) (runC BT1) rfl rfl rfl rfl ?_
    refine pw_ifeqB tk_X7_passDay rfl (fun c => ?_) (fun c => ?_)
    · have e := n86 (by rw [c]; rfl)
      rw [e] at k86
      exact k86
    refine pw_go tk_X7_passDay rfl rfl ?_
    refine pw_get tk_X7_passDay rfl fl_X7_22 (hgp Lt) rfl ?_
    refine pw_go tk_X7_passDay rfl rfl ?_
    refine pw_get tk_X7_passDay rfl fl_X7_19 (hgp Lt) rfl ?_
    refine pw_icN (T1 3) (T1 2) tk_X7_passDay rfl rfl rfl (by omega) (by omega) (fun c2 => ?_) (fun c2 => ?_)
    · have c2 : T1 3 < T1 2 := c2
      have e := n86 (by rw [decide_eq_false (show ¬ T1 2 ≤ T1 3 by omega), Bool.false_and, Bool.and_false])
      rw [e] at k86
      exact k86
    have c2 : ¬ T1 3 < T1 2 := c2
    iterate 2 refine pw_go tk_X7_passDay rfl rfl ?_
    refine pw_csp tk_X7_passDay rfl ca_X7_mayLeave lk_X7_57 sx_X7_mayLeave (As := [.ref (A 13 w), .int (nI d)]) (rest := []) (t_mayLeave (D := dp D 14 w T1) (WT T1) (CT T1) hw hd) rfl rfl rfl rfl ?_
    refine pw_ifeqB tk_X7_passDay rfl (fun c3 => ?_) (fun c3 => ?_)
    · have c3 : tml (D 7) (D 13 w) d = false := c3
      have e := n86 (by rw [c3, Bool.and_false, Bool.and_false])
      rw [e] at k86
      exact k86
    have c3 : tml (D 7) (D 13 w) d = true := c3
    have e2 : T2 = va_up (va_up T1 5 d) 6 (teol (D 13 w) (va_up T1 5 d)) := by
      rw [hT2]
      unfold tp2
      rw [if_pos (by rw [c, c3, decide_eq_true (show T1 2 ≤ T1 3 by omega)]; rfl)]
    iterate 2 refine pw_go tk_X7_passDay rfl rfl ?_
    refine pw_put tk_X7_passDay rfl fp_X7_28 (hgp Lt) rfl rfl (Nat.le_of_ble_eq_true rfl) ?_
    refine pw_h (hset2 (va_up T1 5 d) W Lt) ?_
    have eolC := t_eol (G := G) (D := dp D 14 w (va_up T1 5 d)) (w := w) (WT _) (CT _) hw
    rw [dp_s] at eolC
    iterate 3 refine pw_go tk_X7_passDay rfl rfl ?_
    refine pw_cvp tk_X7_passDay rfl ca_X7_endOfLicence lk_X7_60 iv_X7_endOfLicence sv_X7_endOfLicence (hgp Lt) rfl rfl (As := [.ref (A 13 w)]) (rest := [.ref (A 14 w)]) (eolC) rfl rfl rfl rfl ?_
    refine pw_put tk_X7_passDay rfl fp_X7_31 (hgp Lt) rfl rfl (Nat.le_of_ble_eq_true rfl) ?_
    refine pw_h (hset2 (va_up (va_up T1 5 d) 6 (teol (D 13 w) (va_up T1 5 d))) W Lt) ?_
    rw [e2] at k86
    exact k86
  have n46 : (decide (D 14 w 0 = 1000000) && tmb D w d) = false → PW G mm_X7_passDay Q 3 0 0 (hp M A D) 46 [(0, .ref (A 14 w)), (1, .ref (A 13 w)), (2, .int (nI d)), (3, .int (bI a))] [] := fun e => by
    have : T1 = D 14 w := by
      rw [hT1]
      unfold tp1
      rw [if_neg (by rw [e]; decide)]
    rw [this, dp_self] at k46
    exact k46
  obtain ⟨b0, b1, b2, b3, b4, b5, b6⟩ := B0
  refine pw_go tk_X7_passDay rfl rfl ?_
  refine pw_get tk_X7_passDay rfl fl_X7_10 (hget Lt) rfl ?_
  refine pw_ldc tk_X7_passDay rfl kc_X7_9 ?_
  refine pw_icN (D 14 w 0) (1000000) tk_X7_passDay rfl rfl rfl (by omega) (by omega) (fun c => n46 ?_) (fun c => ?_)
  · have c : D 14 w 0 ≠ 1000000 := c
    rw [decide_eq_false c]
    rfl
  have c : D 14 w 0 = 1000000 := Classical.not_not.mp c
  iterate 2 refine pw_go tk_X7_passDay rfl rfl ?_
  refine pw_csp tk_X7_passDay rfl ca_X7_mayBegin lk_X7_34 sx_X7_mayBegin (As := [.ref (A 13 w), .int (nI d)]) (rest := []) (t_mayBegin W C hw (fun z => hT _ (h5 z)) hd) rfl rfl rfl rfl ?_
  refine pw_ifeqB tk_X7_passDay rfl (fun c2 => n46 ?_) (fun c2 => ?_)
  · rw [c2, Bool.and_false]
  obtain ⟨s, hs⟩ : ∃ s, s = sp_len d (D 15 w 0) (D 15 w 1) (D 15 w 2) := ⟨_, rfl⟩
  have hsu : s < 50000 := by rw [hs]; exact sp_len_up hd hy hm hdd
  have e1 : T1 = va_up (va_up (va_up (D 14 w) 0 d) 1 s) 2 (wneed (D 7) (D 13 w) s) := by
    rw [hT1, hs]
    unfold tp1
    rw [if_pos (by rw [c2, decide_eq_true c]; rfl)]
  iterate 2 refine pw_go tk_X7_passDay rfl rfl ?_
  refine pw_put tk_X7_passDay rfl fp_X7_10 (hget Lt) rfl rfl (Nat.le_of_ble_eq_true rfl) ?_
  refine pw_h (hset (va_up (D 14 w) 0 d) W Lt) ?_
  iterate 2 refine pw_go tk_X7_passDay rfl rfl ?_
  refine pw_get tk_X7_passDay rfl fl_X7_38 (hget L) rfl ?_
  refine pw_go tk_X7_passDay rfl rfl ?_
  refine pw_cvp tk_X7_passDay rfl ca_X8_spanFrom lk_X7_44 iv_X8_spanFrom sv_X8_spanFrom (hget (W.lv hk.2.2.2.2.1)) rfl rfl (As := [.int (nI d)]) (rest := [.ref (A 14 w)]) (c_spanFrom (hget (W.lv hk.2.2.2.2.1)) hd hy hm hdd) rfl rfl rfl rfl ?_
  refine pw_i (x' := nI s) (by rw [hs]; rfl) ?_
  refine pw_put tk_X7_passDay rfl fp_X7_16 (hgp Lt) rfl rfl (Nat.le_of_ble_eq_true rfl) ?_
  refine pw_h (hset2 (va_up (va_up (D 14 w) 0 d) 1 s) W Lt) ?_
  have needC := w_need (G := G) (D := dp D 14 w (va_up (va_up (D 14 w) 0 d) 1 s)) (s := s) L h2 h11 (by omega) (fun z => ⟨W.lv (by have := hk.2.2.2.1; have z : 0 < D 13 w 7 := z; show D 13 w 7 - 1 < D 99 0 7; omega), (h7 z).2⟩)
  iterate 3 refine pw_go tk_X7_passDay rfl rfl ?_
  refine pw_get tk_X7_passDay rfl fl_X7_16 (hgp Lt) rfl ?_
  refine pw_cvp tk_X7_passDay rfl ca_X9_neededOf lk_X7_50 iv_X9_neededOf sv_X9_neededOf (hget L) rfl rfl (As := [.int (nI s)]) (rest := [.ref (A 14 w)]) (needC) rfl rfl rfl rfl ?_
  refine pw_put tk_X7_passDay rfl fp_X7_19 (hgp Lt) rfl rfl (Nat.le_of_ble_eq_true rfl) ?_
  refine pw_h (hset2 (va_up (va_up (va_up (D 14 w) 0 d) 1 s) 2 (wneed (D 7) (D 13 w) s)) W Lt) ?_
  rw [e1] at k46
  exact k46
set_option maxRecDepth 20000 in
theorem t_putAdded {i : Nat} (W : Wf D A M) (C : cB D) (hw : w < D 99 0 13) (hT : tB (D 14 w)) (hi : i < D 99 0 16) : PM G 3 0 0 mm_X7_putAdded [.ref (A 14 w), .ref (A 13 w), .ref (A 16 i)] (hp M A D) (fw_qV (fun h' => h' = hp M A (dp D 14 w (tpa (D 13 w) (D 16 i) (D 14 w)))) fw_noX) := by
  refine pm_of (by decide +kernel) rfl rfl rfl ?_
  have L := W.lv hw
  have hk := W.ok hw
  have Lt := W.lv hk.2.2.1
  have Li := W.lv hi
  have Bi := C.2.2 i hi
  obtain ⟨h2, h3, h4, h9, h10, h11, ⟨hy, hm, hdd⟩, h14, h15, h16, h17⟩ := C.1 w hw
  obtain ⟨Q, hQ⟩ : ∃ Q, Q = fw_qV (fun h' => h' = hp M A (dp D 14 w (tpa (D 13 w) (D 16 i) (D 14 w)))) fw_noX := ⟨_, rfl⟩
  rw [← hQ]
  have k38 : (wfx (D 13 w) && trun (D 14 w)) = false → PW G mm_X7_putAdded Q 3 0 0 (hp M A D) 38 [(0, .ref (A 14 w)), (1, .ref (A 13 w)), (2, .ref (A 16 i))] [] := by
    intro e
    subst hQ
    exact pw_vret tk_X7_putAdded rfl rfl ⟨rfl, by unfold tpa; rw [if_neg (by rw [e]; decide), dp_self]⟩
  obtain ⟨b0, b1, b2, b3, b4, b5, b6⟩ := hT
  have hmm : wmost (D 13 w) (D 14 w 1) < 1000000 := by unfold wmost; omega
  refine pw_go tk_X7_putAdded rfl rfl ?_
  refine pw_cvp tk_X7_putAdded rfl ca_X9_isLikeFixed lk_X7_64 iv_X9_isLikeFixed sv_X9_isLikeFixed (hget L) rfl rfl (As := []) (rest := []) (w_fixed L h2) rfl rfl rfl rfl ?_
  refine pw_ifeqB tk_X7_putAdded rfl (fun c => k38 (by rw [c]; rfl)) (fun c => ?_)
  refine pw_go tk_X7_putAdded rfl rfl ?_
  refine pw_cvp tk_X7_putAdded rfl ca_X7_runs lk_X7_53 iv_X7_runs sv_X7_runs (hget Lt) rfl rfl (As := []) (rest := []) (t_runs Lt ⟨b0, b1, b2, b3, b4, b5, b6⟩) rfl rfl rfl rfl ?_
  refine pw_ifeqB tk_X7_putAdded rfl (fun c2 => k38 (by rw [c2, Bool.and_false])) (fun c2 => ?_)
  have h200 := Bi.2
  iterate 2 refine pw_go tk_X7_putAdded rfl rfl ?_
  refine pw_get tk_X7_putAdded rfl fl_X7_19 (hget Lt) rfl ?_
  refine pw_go tk_X7_putAdded rfl rfl ?_
  refine pw_get tk_X7_putAdded rfl fl_X7_67 (hget Li) rfl ?_
  refine pw_addN (D 14 w 2) (D 16 i 1) tk_X7_putAdded rfl rfl rfl ?_
  iterate 2 refine pw_go tk_X7_putAdded rfl rfl ?_
  refine pw_get tk_X7_putAdded rfl fl_X7_16 (hget Lt) rfl ?_
  refine pw_cvp tk_X7_putAdded rfl ca_X9_mostNeededOf lk_X7_72 iv_X9_mostNeededOf sv_X9_mostNeededOf (hget L) rfl rfl (As := [.int (nI (D 14 w 1))]) (rest := [.int (nI (D 14 w 2 + D 16 i 1)), .ref (A 14 w)]) (w_most L h11 (by omega)) rfl rfl rfl rfl ?_
  refine pw_minN (D 14 w 2 + D 16 i 1) (wmost (D 13 w) (D 14 w 1)) tk_X7_putAdded rfl lk_X7_75 rfl rfl (by omega) (by omega) rfl ?_
  refine pw_put tk_X7_putAdded rfl fp_X7_19 (hget Lt) rfl rfl (Nat.le_of_ble_eq_true rfl) ?_
  refine pw_h (hset (va_up (D 14 w) 2 (min (D 14 w 2 + D 16 i 1) (wmost (D 13 w) (D 14 w 1)))) W Lt) ?_
  subst hQ
  exact pw_vret tk_X7_putAdded rfl rfl ⟨rfl, by unfold tpa; rw [if_pos (by rw [c, c2]; rfl)]⟩
end CTAL2

