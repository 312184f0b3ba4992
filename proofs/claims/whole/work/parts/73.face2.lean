/-! the face: what follows from the warrants -/
section FACE2
variable {G : fw_G} {D : fw_DB} {A : fw_AD} {M : fw_MP} {n : Nat}
theorem kept_0 (I : IC n D A M) : kept n D A M (hp M A D) := ⟨D, rfl, I, sc.rf⟩
def lkK (D : fw_DB) (x : Int32) : Nat := if knI x (D 99 0 13) = false then 1 else if wfx (D 13 x.toNatClampNeg) = false then 2 else if D 13 x.toNatClampNeg 7 = 0 then 3 else 0
theorem f_lawOf {x : Int32} (hl : G.1.stackTraces = false) (I : IC n D A M) : PM G 1 2 12 mm_X10_lawOf [.ref (A 0 0), .int x] (hp M A D) (fw_qI (fun r h' => h' = hp M A D ∧ lkK D x = 0 ∧ r = nI (D 13 x.toNatClampNeg 7 - 1)) (fun E h' => h' = hp M A D ∧ exI (lkK D x) E [(1, eIO), (2, eUO), (3, eNS)])) := by
  refine pm_of (by decide +kernel) rfl rfl rfl ?_
  obtain ⟨g, m, b, nn, pp, okw, okx⟩ := I
  have L0 := g.1.lv (k := 0) (i := 0) (by have := m.1.1; omega)
  iterate 2 refine pw_go tk_X10_lawOf rfl rfl ?_
  refine pw_cv tk_X10_lawOf rfl ca_X10_knownWarrant lk_X10_106 iv_X10_knownWarrant sv_X10_knownWarrant (hget L0) rfl rfl (As := [.int x]) (rest := []) (kc' := 1) (ks' := 6) (q_warrant hl g m) rfl rfl rfl (Nat.le_of_ble_eq_true rfl) (by decide) (by decide) ?_ ?_
  · rintro _ _ ⟨_, rfl, rfl, w, hw, rfl, rfl⟩
    have Lw := g.1.lv hw
    have B := g.2.1.1 w hw
    have hk := knI_of hw (by have := g.2.2.2; omega)
    have hw9 : w < 2147483648 := by have := g.2.2.2; omega
    have eK : lkK D (nI w) = if wfx (D 13 w) = false then 2 else if D 13 w 7 = 0 then 3 else 0 := by
      unfold lkK
      rw [hk, nI_tn hw9, if_neg (by decide)]
    rw [eK, nI_tn hw9]
    iterate 2 refine pw_go tk_X10_lawOf rfl rfl ?_
    refine pw_cvp tk_X10_lawOf rfl ca_X9_isLikeFixed lk_X10_110 iv_X9_isLikeFixed sv_X9_isLikeFixed (hget Lw) rfl rfl (As := []) (rest := []) (w_fixed Lw B.1) rfl rfl rfl rfl ?_
    refine pw_ifneB tk_X10_lawOf rfl (fun c => ?_) (fun c => ?_)
    · rw [c, if_neg (by decide)]
      refine pw_go tk_X10_lawOf rfl rfl ?_
      refine pw_get tk_X10_lawOf rfl fl_X10_119 (hget Lw) rfl ?_
      refine pw_ifnonnullq tk_X10_lawOf rfl (fun a c2 => ?_) (fun c2 => ?_)
      · have c2 := (rq_s c2).1
        refine pw_go tk_X10_lawOf rfl rfl ?_
        refine pw_get tk_X10_lawOf rfl fl_X10_119 (hget Lw) rfl ?_
        refine pw_q (rq_p c2) ?_
        have hl7 : D 13 w 7 - 1 < D 99 0 7 := by have := (g.1.ok hw).2.2.2.1; omega
        refine pw_get tk_X10_lawOf rfl fl_X10_103 (hget (g.1.lv hl7)) rfl ?_
        rw [if_neg (by omega)]
        exact pw_iret tk_X10_lawOf rfl rfl rfl ⟨_, rfl, rfl, rfl, rfl⟩
      · have c2 := rq_n.mp c2
        rw [if_pos c2]
        exact pw_throwX hl rfl th_127_125 tk_X10_lawOf rfl rfl rfl rfl rfl rfl ⟨rfl, List.mem_cons_of_mem _ (List.mem_cons_of_mem _ List.mem_cons_self)⟩
    · rw [c, if_pos rfl]
      exact pw_throw hl rfl th_118_116 tk_X10_lawOf rfl rfl rfl rfl rfl rfl ⟨rfl, List.mem_cons_of_mem _ List.mem_cons_self⟩
  · rintro E _ ⟨⟨rfl, rfl⟩, e⟩
    refine px_out rfl ⟨rfl, ?_⟩
    unfold lkK
    rw [e, if_pos rfl]
    exact List.mem_cons_self
/-- a warrant's days, reckoned -/
theorem q_begun {x : Int32} (hl : G.1.stackTraces = false) (I : IC n D A M) : PM G 5 2 12 mm_X10_begunWarrant [.ref (A 0 0), .int x] (hp M A D) (fw_qQ (fun r h' => ∃ w D', w < D 99 0 13 ∧ x = nI w ∧ r = some (A 13 w) ∧ h' = hp M A D' ∧ IC n D' A M ∧ sc D D' ∧ D' 13 w = FD D 13 w ∧ FD D 13 w 14 ≠ 1000000) (fun E h' => kept n D A M h' ∧ ((E = eIO ∧ knI x (D 99 0 13) = false) ∨ (E = eNS ∧ ∃ w, w < D 99 0 13 ∧ x = nI w ∧ FD D 13 w 14 = 1000000)))) := by
  refine pm_of (by decide +kernel) rfl rfl rfl ?_
  have I0 := I
  obtain ⟨g, m, b, nn, pp, okw, okx⟩ := I
  have L0 := g.1.lv (k := 0) (i := 0) (by have := m.1.1; omega)
  iterate 2 refine pw_go tk_X10_begunWarrant rfl rfl ?_
  refine pw_cv tk_X10_begunWarrant rfl ca_X10_knownWarrant lk_X10_106 iv_X10_knownWarrant sv_X10_knownWarrant (hget L0) rfl rfl (As := [.int x]) (rest := []) (kc' := 1) (ks' := 6) (q_warrant hl g m) rfl rfl rfl (Nat.le_of_ble_eq_true rfl) (by decide) (by decide) ?_ ?_
  · rintro _ _ ⟨_, rfl, rfl, w, hw, rfl, rfl⟩
    have Lw := g.1.lv hw
    have hp8 : D 13 w 1 < D 99 0 8 := (okx.1 w hw).2.2.2.2.1
    have P := (pp _ hp8).1
    obtain ⟨I2, s2⟩ := ic_prk I0 (sc.rf (D := D)) hp8
    have hrow := (prk_FD (p := D 13 w 1) okw (sc.rf (D := D))).1 w (mem_wlS.mpr ⟨hw, rfl⟩)
    iterate 2 refine pw_go tk_X10_begunWarrant rfl rfl ?_
    refine pw_get tk_X10_begunWarrant rfl fl_X10_145 (hget Lw) rfl ?_
    refine pw_cv tk_X10_begunWarrant rfl ca_X5_reckon lk_X10_233 iv_X5_reckon sv_X5_reckon (hget (g.1.lv hp8)) rfl rfl (As := []) (rest := []) (kc' := 1) (ks' := 6) (p_reckon g P) rfl rfl rfl (Nat.le_of_ble_eq_true rfl) (Nat.le_of_eq (Nat.zero_add _)) (Nat.le_of_eq (Nat.zero_add _)) ?_ ?_
    · rintro _ _ ⟨rfl, rfl⟩
      generalize prk D (wlS D (D 13 w 1)) (alS D (D 13 w 1)) (rlS D (D 13 w 1)) = D2 at *
      have B2 := I2.1.2.1.1 w (by rw [s2.N]; exact hw)
      refine pw_go tk_X10_begunWarrant rfl rfl ?_
      refine pw_get tk_X10_begunWarrant rfl fl_X10_271 (hget Lw) rfl ?_
      refine pw_ldcw tk_X10_begunWarrant rfl kc_X10_280 ?_
      have hb14 : D2 13 w 14 < 2147483648 := by have := B2.2.2.2.2.2.2.2.1; omega
      refine pw_icN (D2 13 w 14) (1000000) tk_X10_begunWarrant rfl rfl rfl (by omega) (by omega) (fun c => ?_) (fun c => ?_)
      · have c : D2 13 w 14 ≠ 1000000 := c
        refine pw_go tk_X10_begunWarrant rfl rfl ?_
        exact pw_aret (r := some (A 13 w)) tk_X10_begunWarrant rfl rfl (Or.inl ⟨_, rfl⟩) ⟨_, rfl, w, D2, hw, rfl, rfl, rfl, I2, s2, hrow, by rw [← hrow]; exact c⟩
      · have c : ¬ D2 13 w 14 ≠ 1000000 := c
        exact pw_throwXW hl rfl th_127_340 tk_X10_begunWarrant rfl rfl rfl rfl rfl rfl ⟨⟨D2, rfl, I2, s2⟩, Or.inr ⟨rfl, w, hw, rfl, by rw [← hrow]; omega⟩⟩
    · rintro E h' hx
      exact hx.elim
  · rintro E _ ⟨⟨rfl, rfl⟩, e⟩
    exact px_out rfl ⟨kept_0 I0, Or.inl ⟨rfl, e⟩⟩
def bgK (D : fw_DB) (x : Int32) : Nat := if knI x (D 99 0 13) = false then 1 else if FD D 13 x.toNatClampNeg 14 = 1000000 then 2 else 0
theorem bgK_1 {x : Int32} (h : knI x (D 99 0 13) = false) : bgK D x = 1 := by
  unfold bgK
  rw [h, if_pos rfl]
theorem bgK_n {w : Nat} (hw : w < D 99 0 13) (hn : D 99 0 13 ≤ 24) : bgK D (nI w) = if FD D 13 w 14 = 1000000 then 2 else 0 := by
  unfold bgK
  rw [knI_of hw (by omega), if_neg (by decide), nI_tn (by omega)]
theorem f_begins {x : Int32} (hl : G.1.stackTraces = false) (I : IC n D A M) : PM G 6 2 12 mm_X10_begins [.ref (A 0 0), .int x] (hp M A D) (fw_qI (fun r h' => kept n D A M h' ∧ bgK D x = 0 ∧ r = nI (FD D 13 x.toNatClampNeg 14)) (fun E h' => kept n D A M h' ∧ exI (bgK D x) E [(1, eIO), (2, eNS)])) := by
  refine pm_of (by decide +kernel) rfl rfl rfl ?_
  have L0 := I.1.1.lv (k := 0) (i := 0) (by have := I.2.1.1.1; omega)
  iterate 2 refine pw_go tk_X10_begins rfl rfl ?_
  refine pw_cv tk_X10_begins rfl ca_X10_begunWarrant lk_X10_268 iv_X10_begunWarrant sv_X10_begunWarrant (hget L0) rfl rfl (As := [.int x]) (rest := []) (kc' := 0) (ks' := 0) (q_begun hl I) rfl rfl rfl (Nat.le_of_ble_eq_true rfl) (by decide) (by decide) ?_ ?_
  · rintro _ _ ⟨_, rfl, w, D2, hw, rfl, rfl, rfl, I2, s2, hrow, c0⟩
    have Lw := I2.1.1.lv (k := 13) (i := w) (by rw [s2.N]; exact hw)
    have h24 := I.1.2.2.2
    rw [bgK_n hw h24, if_neg c0, nI_tn (by omega), ← hrow]
    refine pw_get tk_X10_begins rfl fl_X10_271 (hget Lw) rfl ?_
    exact pw_iret tk_X10_begins rfl rfl rfl ⟨_, rfl, ⟨D2, rfl, I2, s2⟩, rfl, rfl⟩
  · rintro E h' ⟨k, e⟩
    refine px_out rfl ⟨k, ?_⟩
    rcases e with ⟨rfl, e⟩ | ⟨rfl, w, hw, rfl, e⟩
    · rw [bgK_1 e]
      exact List.mem_cons_self
    · rw [bgK_n hw I.1.2.2.2, if_pos e]
      exact List.mem_cons_of_mem _ List.mem_cons_self
theorem f_needed {x : Int32} (hl : G.1.stackTraces = false) (I : IC n D A M) : PM G 6 2 12 mm_X10_needed [.ref (A 0 0), .int x] (hp M A D) (fw_qI (fun r h' => kept n D A M h' ∧ bgK D x = 0 ∧ r = nI (FD D 13 x.toNatClampNeg 15)) (fun E h' => kept n D A M h' ∧ exI (bgK D x) E [(1, eIO), (2, eNS)])) := by
  refine pm_of (by decide +kernel) rfl rfl rfl ?_
  have L0 := I.1.1.lv (k := 0) (i := 0) (by have := I.2.1.1.1; omega)
  iterate 2 refine pw_go tk_X10_needed rfl rfl ?_
  refine pw_cv tk_X10_needed rfl ca_X10_begunWarrant lk_X10_268 iv_X10_begunWarrant sv_X10_begunWarrant (hget L0) rfl rfl (As := [.int x]) (rest := []) (kc' := 0) (ks' := 0) (q_begun hl I) rfl rfl rfl (Nat.le_of_ble_eq_true rfl) (by decide) (by decide) ?_ ?_
  · rintro _ _ ⟨_, rfl, w, D2, hw, rfl, rfl, rfl, I2, s2, hrow, c0⟩
    have Lw := I2.1.1.lv (k := 13) (i := w) (by rw [s2.N]; exact hw)
    have h24 := I.1.2.2.2
    rw [bgK_n hw h24, if_neg c0, nI_tn (by omega), ← hrow]
    refine pw_get tk_X10_needed rfl fl_X10_274 (hget Lw) rfl ?_
    exact pw_iret tk_X10_needed rfl rfl rfl ⟨_, rfl, ⟨D2, rfl, I2, s2⟩, rfl, rfl⟩
  · rintro E h' ⟨k, e⟩
    refine px_out rfl ⟨k, ?_⟩
    rcases e with ⟨rfl, e⟩ | ⟨rfl, w, hw, rfl, e⟩
    · rw [bgK_1 e]
      exact List.mem_cons_self
    · rw [bgK_n hw I.1.2.2.2, if_pos e]
      exact List.mem_cons_of_mem _ List.mem_cons_self
def reK (D : fw_DB) (x : Int32) : Nat := if bgK D x = 0 then (if FD D 13 x.toNatClampNeg 16 = 1000000 then 2 else 0) else bgK D x
theorem f_release {x : Int32} (hl : G.1.stackTraces = false) (I : IC n D A M) : PM G 6 3 18 mm_X10_release [.ref (A 0 0), .int x] (hp M A D) (fw_qI (fun r h' => kept n D A M h' ∧ reK D x = 0 ∧ r = nI (FD D 13 x.toNatClampNeg 16)) (fun E h' => kept n D A M h' ∧ exI (reK D x) E [(1, eIO), (2, eNS)])) := by
  refine pm_of (by decide +kernel) rfl rfl rfl ?_
  have L0 := I.1.1.lv (k := 0) (i := 0) (by have := I.2.1.1.1; omega)
  iterate 2 refine pw_go tk_X10_release rfl rfl ?_
  refine pw_cv tk_X10_release rfl ca_X10_begunWarrant lk_X10_268 iv_X10_begunWarrant sv_X10_begunWarrant (hget L0) rfl rfl (As := [.int x]) (rest := []) (kc' := 1) (ks' := 6) (q_begun hl I) rfl rfl rfl (Nat.le_of_ble_eq_true rfl) (by decide) (by decide) ?_ ?_
  · rintro _ _ ⟨_, rfl, w, D2, hw, rfl, rfl, rfl, I2, s2, hrow, c0⟩
    have Lw := I2.1.1.lv (k := 13) (i := w) (by rw [s2.N]; exact hw)
    have B2 := I2.1.2.1.1 w (by rw [s2.N]; exact hw)
    have h24 := I.1.2.2.2
    have eK : reK D (nI w) = if FD D 13 w 16 = 1000000 then 2 else 0 := by
      unfold reK
      rw [bgK_n hw h24, if_neg c0, if_pos rfl, nI_tn (by omega)]
    rw [eK, nI_tn (by omega), ← hrow]
    iterate 2 refine pw_go tk_X10_release rfl rfl ?_
    refine pw_get tk_X10_release rfl fl_X10_277 (hget Lw) rfl ?_
    refine pw_ldcw tk_X10_release rfl kc_X10_280 ?_
    have hb16 : D2 13 w 16 < 2147483648 := by have := B2.2.2.2.2.2.2.2.2.2.1; omega
    refine pw_icN (D2 13 w 16) (1000000) tk_X10_release rfl rfl rfl (by omega) (by omega) (fun c => ?_) (fun c => ?_)
    · have c : D2 13 w 16 ≠ 1000000 := c
      rw [if_neg c]
      refine pw_go tk_X10_release rfl rfl ?_
      refine pw_get tk_X10_release rfl fl_X10_277 (hget Lw) rfl ?_
      exact pw_iret tk_X10_release rfl rfl rfl ⟨_, rfl, ⟨D2, rfl, I2, s2⟩, rfl, rfl⟩
    · have c : D2 13 w 16 = 1000000 := Decidable.not_not.mp c
      rw [if_pos c]
      exact pw_throwXW hl rfl th_127_281 tk_X10_release rfl rfl rfl rfl rfl rfl ⟨⟨D2, rfl, I2, s2⟩, List.mem_cons_of_mem _ List.mem_cons_self⟩
  · rintro E h' ⟨k, e⟩
    refine px_out rfl ⟨k, ?_⟩
    rcases e with ⟨rfl, e⟩ | ⟨rfl, w, hw, rfl, e⟩
    · unfold reK
      rw [bgK_1 e, if_neg (by decide)]
      exact List.mem_cons_self
    · unfold reK
      rw [bgK_n hw I.1.2.2.2, if_pos e, if_neg (by decide)]
      exact List.mem_cons_of_mem _ List.mem_cons_self
def enK (D : fw_DB) (x : Int32) : Nat := if bgK D x = 0 then (if FD D 13 x.toNatClampNeg 17 = 2000000 ∨ FD D 13 x.toNatClampNeg 17 ≤ FD D 13 x.toNatClampNeg 16 + 1000000 then 2 else 0) else bgK D x
theorem f_end {x : Int32} (hl : G.1.stackTraces = false) (I : IC n D A M) : PM G 6 3 18 mm_X10_end [.ref (A 0 0), .int x] (hp M A D) (fw_qI (fun r h' => kept n D A M h' ∧ enK D x = 0 ∧ r = nO (FD D 13 x.toNatClampNeg 17)) (fun E h' => kept n D A M h' ∧ exI (enK D x) E [(1, eIO), (2, eNS)])) := by
  refine pm_of (by decide +kernel) rfl rfl rfl ?_
  have L0 := I.1.1.lv (k := 0) (i := 0) (by have := I.2.1.1.1; omega)
  iterate 2 refine pw_go tk_X10_end rfl rfl ?_
  refine pw_cv tk_X10_end rfl ca_X10_begunWarrant lk_X10_268 iv_X10_begunWarrant sv_X10_begunWarrant (hget L0) rfl rfl (As := [.int x]) (rest := []) (kc' := 1) (ks' := 6) (q_begun hl I) rfl rfl rfl (Nat.le_of_ble_eq_true rfl) (by decide) (by decide) ?_ ?_
  · rintro _ _ ⟨_, rfl, w, D2, hw, rfl, rfl, rfl, I2, s2, hrow, c0⟩
    have Lw := I2.1.1.lv (k := 13) (i := w) (by rw [s2.N]; exact hw)
    have B2 := I2.1.2.1.1 w (by rw [s2.N]; exact hw)
    have h24 := I.1.2.2.2
    have eK : enK D (nI w) = if FD D 13 w 17 = 2000000 ∨ FD D 13 w 17 ≤ FD D 13 w 16 + 1000000 then 2 else 0 := by
      unfold enK
      rw [bgK_n hw h24, if_neg c0, if_pos rfl, nI_tn (by omega)]
    rw [eK, nI_tn (by omega), ← hrow]
    have hb16 : D2 13 w 16 < 1073741824 := by have := B2.2.2.2.2.2.2.2.2.2.1; omega
    have hb17 : D2 13 w 17 < 1073741824 := by have := B2.2.2.2.2.2.2.2.2.2.2; omega
    have k27 : D2 13 w 17 = 2000000 ∨ D2 13 w 17 ≤ D2 13 w 16 + 1000000 → PW G mm_X10_end (fw_qI (fun r h' => kept n D A M h' ∧ (if D2 13 w 17 = 2000000 ∨ D2 13 w 17 ≤ D2 13 w 16 + 1000000 then 2 else 0) = 0 ∧ r = nO (D2 13 w 17)) (fun E h' => kept n D A M h' ∧ exI (if D2 13 w 17 = 2000000 ∨ D2 13 w 17 ≤ D2 13 w 16 + 1000000 then 2 else 0) E [(1, eIO), (2, eNS)])) 6 1 6 (hp M A D2) 27 [(2, .ref (A 13 w)), (0, .ref (A 0 0)), (1, .int (nI w))] [] := by
      intro c
      rw [if_pos c]
      exact pw_throwXW hl rfl th_127_286 tk_X10_end rfl rfl rfl rfl rfl rfl ⟨⟨D2, rfl, I2, s2⟩, List.mem_cons_of_mem _ List.mem_cons_self⟩
    iterate 2 refine pw_go tk_X10_end rfl rfl ?_
    refine pw_get tk_X10_end rfl fl_X10_283 (hget Lw) rfl ?_
    refine pw_ldcw tk_X10_end rfl kc_X10_280 ?_
    refine pw_br tk_X10_end rfl rfl (fun c => k27 ?_) (fun c => ?_)
    · have c : nO (D2 13 w 17) = 1000000 := c
      have c2 : nO (D2 13 w 17) ≤ nI 1000000 := by rw [c]; exact Int32.le_refl _
      have c3 := (nO_le hb17 (by decide)).mp c2
      by_cases c4 : D2 13 w 17 = 2000000
      · exact Or.inl c4
      · exfalso
        have c5 : nO (D2 13 w 17) ≤ nI 999999 := (nO_le hb17 (by decide)).mpr (by omega)
        rw [c] at c5
        exact absurd c5 (by decide)
    have c : ¬ nO (D2 13 w 17) = 1000000 := c
    refine pw_go tk_X10_end rfl rfl ?_
    refine pw_get tk_X10_end rfl fl_X10_283 (hget Lw) rfl ?_
    refine pw_go tk_X10_end rfl rfl ?_
    refine pw_get tk_X10_end rfl fl_X10_277 (hget Lw) rfl ?_
    refine pw_br tk_X10_end rfl rfl (fun c2 => ?_) (fun c2 => k27 ?_)
    · have c2 : nI (D2 13 w 16) < nO (D2 13 w 17) := c2
      have e2 : ¬ (D2 13 w 17 = 2000000 ∨ D2 13 w 17 ≤ D2 13 w 16 + 1000000) := by
        rintro (z | z)
        · rw [z] at c
          exact c (by decide)
        · exact (i_nlt.mpr ((nO_le hb17 hb16).mpr z)) c2
      rw [if_neg e2]
      refine pw_go tk_X10_end rfl rfl ?_
      refine pw_get tk_X10_end rfl fl_X10_283 (hget Lw) rfl ?_
      exact pw_iret tk_X10_end rfl rfl rfl ⟨_, rfl, ⟨D2, rfl, I2, s2⟩, rfl, rfl⟩
    · have c2 : ¬ nI (D2 13 w 16) < nO (D2 13 w 17) := c2
      exact Or.inr ((nO_le hb17 hb16).mp (i_nlt.mp c2))
  · rintro E h' ⟨k, e⟩
    refine px_out rfl ⟨k, ?_⟩
    rcases e with ⟨rfl, e⟩ | ⟨rfl, w, hw, rfl, e⟩
    · unfold enK
      rw [bgK_1 e, if_neg (by decide)]
      exact List.mem_cons_self
    · unfold enK
      rw [bgK_n hw I.1.2.2.2, if_pos e, if_neg (by decide)]
      exact List.mem_cons_of_mem _ List.mem_cons_self
end FACE2

