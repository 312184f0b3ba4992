/-! the face: told things that change -/
section FACE5
variable {G : fw_G} {D : fw_DB} {A : fw_AD} {M : fw_MP} {n : Nat}
def done (n : Nat) (D : fw_DB) (A : fw_AD) (S' : fw_DB) (h' : fw_H) : Prop := ∃ D' A' M', h' = hp M' A' D' ∧ IC (n + 1) D' A' M' ∧ esq S' D' ∧ hik D D' ∧ adk A A'
theorem kept_done {h' : fw_H} (k : kept n D A M h') : done n D A D h' := by
  obtain ⟨D', e, I, s⟩ := k
  exact ⟨D', A, M, e, ic_up I, sc_es s, sc_hi s, adk.rf⟩
theorem done_0 (I : IC n D A M) : done n D A D (hp M A D) := kept_done (kept_0 I)
theorem va_up_n {g : Nat → Nat} {i v f : Nat} (h : f ≠ i) : va_up g i v f = g f := if_neg h
theorem va_up_s {g : Nat → Nat} {i v : Nat} : va_up g i v i = v := if_pos rfl
def ctS (D : fw_DB) (w d : Nat) (z : Bool) : fw_DB := dp D 13 w (if z = true then va_up (D 13 w) 12 (D 13 w 12 + d) else va_up (D 13 w) 11 (D 13 w 11 + d))
def ctV (D : fw_DB) (w d : Nat) (z : Bool) : Nat := wcn (if z = true then va_up (D 13 w) 12 (D 13 w 12 + d) else va_up (D 13 w) 11 (D 13 w 11 + d))
theorem f_count {x y : Int32} {z : Bool} (hl : G.1.stackTraces = false) (hn : n ≤ 600) (I : IC n D A M) : PM G 1 2 12 mm_X10_count [.ref (A 0 0), .int x, .int y, .int (bI z)] (hp M A D) (fw_qI (fun r h' => done n D A (ctS D x.toNatClampNeg y.toNatClampNeg z) h' ∧ pdK (D 99 0 13) x (inI y 1 (nI 999)) = 0 ∧ r = nI (ctV D x.toNatClampNeg y.toNatClampNeg z)) (fun E h' => done n D A D h' ∧ exI (pdK (D 99 0 13) x (inI y 1 (nI 999))) E [(1, eIO), (2, eIA)])) := by
  refine pm_of (by decide +kernel) rfl rfl rfl ?_
  have g := I.1
  have m := I.2.1
  have n24 := g.2.2.2
  have L0 := g.1.lv (k := 0) (i := 0) (by have := m.1.1; omega)
  iterate 2 refine pw_go tk_X10_count rfl rfl ?_
  refine pw_cv tk_X10_count rfl ca_X10_knownWarrant lk_X10_106 iv_X10_knownWarrant sv_X10_knownWarrant (hget L0) rfl rfl (As := [.int x]) (rest := []) (kc' := 1) (ks' := 6) (q_warrant hl g m) rfl rfl rfl (Nat.le_of_ble_eq_true rfl) (by decide) (by decide) ?_ ?_
  · rintro _ _ ⟨_, rfl, rfl, w, hw, rfl, rfl⟩
    iterate 4 refine pw_go tk_X10_count rfl rfl ?_
    refine pw_cs tk_X10_count rfl ca_X10_requireRange lk_X10_84 sx_X10_requireRange (As := [.int y, .int 1, .int (nI 999)]) (rest := []) (kc' := 0) (ks' := 0) (q_range hl) rfl rfl rfl (Nat.le_of_ble_eq_true rfl) (by decide) (by decide) ?_ ?_
    · rintro _ _ ⟨rfl, rfl, e⟩
      rw [pdK_0 hw (by omega) e, nI_tn (by omega)]
      obtain ⟨d, rfl, d1, d2⟩ := inI_N (a := 1) e (by omega) (by omega)
      rw [nI_tn (by omega)]
      have Lw := g.1.lv hw
      have B := g.2.1.1 w hw
      have x := I.2.2.2.2.2.2.1 w hw
      unfold wB at B
      obtain ⟨b2, b3, b4, b9, b10, b11, -⟩ := B
      obtain ⟨x1, x2, x3, x4, -⟩ := x
      obtain ⟨gz, hgz⟩ : ∃ gz, gz = (if z = true then va_up (D 13 w) 12 (D 13 w 12 + d) else va_up (D 13 w) 11 (D 13 w 11 + d)) := ⟨_, rfl⟩
      have eS : ctS D w d z = dp D 13 w gz := by unfold ctS; rw [hgz]
      have eV : ctV D w d z = wcn gz := by unfold ctV; rw [hgz]
      rw [eS, eV]
      have I2 : IC (n + 1) (dp D 13 w gz) A M := by
        refine ic_w I hn hw (fun f hf => ?_) ?_ ?_
        · rw [hgz]
          split <;> exact va_up_n (by omega)
        · rw [hgz]
          cases z
          · exact ⟨b9, b10, (by omega : (D 13 w 11 + d) + D 13 w 12 ≤ 999 * (n + 1))⟩
          · exact ⟨b9, b10, (by omega : D 13 w 11 + (D 13 w 12 + d) ≤ 999 * (n + 1))⟩
        · rw [hgz]
          cases z <;> exact x3
      have k44 : PW G mm_X10_count (fw_qI (fun r h' => done n D A (dp D 13 w gz) h' ∧ 0 = 0 ∧ r = nI (wcn gz)) (fun E h' => done n D A D h' ∧ exI 0 E [(1, eIO), (2, eIA)])) 1 0 0 (hp M A (dp D 13 w gz)) 44 [(4, .ref (A 13 w)), (0, .ref (A 0 0)), (1, .int (nI w)), (2, .int (nI d)), (3, .int (bI z))] [] := by
        have L2 : M (A 13 w) = some (13, w) := Lw
        have B2 := I2.1.2.1.1 w (by rw [dp_k (by decide)]; exact hw)
        have hw4 := w_counted (G := G) (D := dp D 13 w gz) L2 (by unfold wB at B2; have := B2.2.2.2.2.2.1; omega)
        rw [dp_s] at hw4
        refine pw_go tk_X10_count rfl rfl ?_
        refine pw_cvp tk_X10_count rfl ca_X9_countedDays lk_X10_170 iv_X9_countedDays sv_X9_countedDays (hgp L2) rfl rfl (As := []) (rest := []) (hw4) rfl rfl rfl rfl ?_
        exact pw_iret tk_X10_count rfl rfl rfl ⟨_, rfl, ⟨_, A, M, rfl, I2, esq.rf, hik_dp (by decide), adk.rf⟩, rfl, rfl⟩
      refine pw_go tk_X10_count rfl rfl ?_
      refine pw_ifeqB tk_X10_count rfl (fun c => ?_) (fun c => ?_)
      · subst c
        iterate 2 refine pw_go tk_X10_count rfl rfl ?_
        refine pw_get tk_X10_count rfl fl_X10_167 (hget Lw) rfl ?_
        refine pw_go tk_X10_count rfl rfl ?_
        refine pw_addN (D 13 w 11) (d) tk_X10_count rfl rfl rfl ?_
        refine pw_put tk_X10_count rfl fp_X10_167 (hget Lw) rfl rfl (Nat.le_of_ble_eq_true rfl) ?_
        refine pw_h (hset (va_up (D 13 w) 11 (D 13 w 11 + d)) g.1 Lw) ?_
        have e9 : gz = va_up (D 13 w) 11 (D 13 w 11 + d) := hgz
        rw [← e9]
        exact k44
      · subst c
        iterate 2 refine pw_go tk_X10_count rfl rfl ?_
        refine pw_get tk_X10_count rfl fl_X10_164 (hget Lw) rfl ?_
        refine pw_go tk_X10_count rfl rfl ?_
        refine pw_addN (D 13 w 12) (d) tk_X10_count rfl rfl rfl ?_
        refine pw_put tk_X10_count rfl fp_X10_164 (hget Lw) rfl rfl (Nat.le_of_ble_eq_true rfl) ?_
        refine pw_h (hset (va_up (D 13 w) 12 (D 13 w 12 + d)) g.1 Lw) ?_
        have e9 : gz = va_up (D 13 w) 12 (D 13 w 12 + d) := hgz
        rw [← e9]
        refine pw_go tk_X10_count rfl rfl ?_
        exact k44
    · rintro E _ ⟨⟨rfl, rfl⟩, e⟩
      exact px_out rfl ⟨done_0 I, by rw [pdK_2 hw (by omega) e]; exact List.mem_cons_of_mem _ List.mem_cons_self⟩
  · rintro E _ ⟨⟨rfl, rfl⟩, e⟩
    exact px_out rfl ⟨done_0 I, by rw [pdK_1 e]; exact List.mem_cons_self⟩
def acK (D : fw_DB) (x y : Int32) : Nat := if knI x (D 99 0 13) = false then 1 else if inI y (nI (D 13 x.toNatClampNeg 4)) (nI 19999) = false then 2 else if wwt (D 13 x.toNatClampNeg) = false then 3 else 0
def acS (D : fw_DB) (w d : Nat) : fw_DB := dp D 13 w (va_up (D 13 w) 9 (d + 1))
theorem f_activate {x y : Int32} (hl : G.1.stackTraces = false) (hn : n ≤ 600) (I : IC n D A M) : PM G 2 3 18 mm_X10_activate [.ref (A 0 0), .int x, .int y] (hp M A D) (fw_qI (fun r h' => done n D A (acS D x.toNatClampNeg y.toNatClampNeg) h' ∧ acK D x y = 0 ∧ r = nI (wtn (acS D x.toNatClampNeg y.toNatClampNeg) (wlS D (D 13 x.toNatClampNeg 1)))) (fun E h' => done n D A D h' ∧ exI (acK D x y) E [(1, eIO), (2, eIA), (3, eUO)])) := by
  refine pm_of (by decide +kernel) rfl rfl rfl ?_
  have g := I.1
  have m := I.2.1
  have n24 := g.2.2.2
  have L0 := g.1.lv (k := 0) (i := 0) (by have := m.1.1; omega)
  iterate 2 refine pw_go tk_X10_activate rfl rfl ?_
  refine pw_cv tk_X10_activate rfl ca_X10_knownWarrant lk_X10_106 iv_X10_knownWarrant sv_X10_knownWarrant (hget L0) rfl rfl (As := [.int x]) (rest := []) (kc' := 2) (ks' := 12) (q_warrant hl g m) rfl rfl rfl (Nat.le_of_ble_eq_true rfl) (by decide) (by decide) ?_ ?_
  · rintro _ _ ⟨_, rfl, rfl, w, hw, rfl, rfl⟩
    have Lw := g.1.lv hw
    have B := g.2.1.1 w hw
    have x := I.2.2.2.2.2.2.1 w hw
    unfold wB at B
    obtain ⟨b2, b3, b4, b9, b10, b11, -⟩ := B
    obtain ⟨x1, x2, x3, x4, x5, -⟩ := x
    have eK : acK D (nI w) y = if inI y (nI (D 13 w 4)) (nI 19999) = false then 2 else if wwt (D 13 w) = false then 3 else 0 := by
      unfold acK
      rw [knI_of hw (by omega), if_neg (by decide), nI_tn (by omega)]
    rw [eK, nI_tn (by omega)]
    iterate 3 refine pw_go tk_X10_activate rfl rfl ?_
    refine pw_get tk_X10_activate rfl fl_X10_174 (hget Lw) rfl ?_
    refine pw_go tk_X10_activate rfl rfl ?_
    refine pw_cs tk_X10_activate rfl ca_X10_requireRange lk_X10_84 sx_X10_requireRange (As := [.int y, .int (nI (D 13 w 4)), .int (nI 19999)]) (rest := []) (kc' := 1) (ks' := 6) (q_range hl) rfl rfl rfl (Nat.le_of_ble_eq_true rfl) (by decide) (by decide) ?_ ?_
    · rintro _ _ ⟨rfl, rfl, e⟩
      rw [e, if_neg (by decide)]
      obtain ⟨d, rfl, d1, d2⟩ := inI_N e (by omega) (by omega)
      rw [nI_tn (by omega)]
      refine pw_go tk_X10_activate rfl rfl ?_
      refine pw_cvp tk_X10_activate rfl ca_X9_waits lk_X10_177 iv_X9_waits sv_X9_waits (hget Lw) rfl rfl (As := []) (rest := []) (w_waits Lw b2 (by omega)) rfl rfl rfl rfl ?_
      refine pw_ifneB tk_X10_activate rfl (fun c => ?_) (fun c => ?_)
      · rw [c, if_neg (by decide)]
        have I2 : IC (n + 1) (acS D w d) A M := by
          unfold acS
          refine ic_w I hn hw (fun f hf => va_up_n (by omega)) ⟨(by omega : d + 1 ≤ 20000), b10, (by omega : D 13 w 11 + D 13 w 12 ≤ 999 * (n + 1))⟩ (fun _ => ⟨?_, (by omega : D 13 w 4 < d + 1)⟩)
          unfold wwt at c
          rw [Bool.and_eq_true, decide_eq_true_eq] at c
          exact c.1
        have e99 : acS D w d 99 0 = D 99 0 := dp_k (by decide)
        have hp8 : D 13 w 1 < (acS D w d) 99 0 8 := by rw [e99]; exact x5
        have P := (I2.2.2.2.2.1 _ hp8).1
        have s : st D (acS D w d) := st_dp (fun f hf => va_up_n (fun z => by subst z; cases hf))
        rw [wlS_st s, alS_st s, rlS_st s] at P
        iterate 2 refine pw_go tk_X10_activate rfl rfl ?_
        refine pw_i (x' := nP (d + 1)) (nP_p (Nat.succ_pos d)).symm ?_
        refine pw_put tk_X10_activate rfl fp_X10_182 (hget Lw) rfl rfl (Nat.le_of_ble_eq_true rfl) ?_
        refine pw_h (h' := hp M A (acS D w d)) (hset (va_up (D 13 w) 9 (d + 1)) g.1 Lw) ?_
        have eo : (acS D w d) 13 w 1 = D 13 w 1 := by
          unfold acS
          rw [dp_s]
          rfl
        refine pw_go tk_X10_activate rfl rfl ?_
        refine pw_get tk_X10_activate rfl fl_X10_145 (hget (D := acS D w d) Lw) rfl ?_
        refine pw_e (st2 := [.ref (A 8 (D 13 w 1))]) (by rw [eo]) ?_
        refine pw_cvp tk_X10_activate rfl ca_X5_waitingWarrants lk_X10_185 iv_X5_waitingWarrants sv_X5_waitingWarrants (hget (I2.1.1.lv hp8)) rfl rfl (As := []) (rest := []) (p_waiting I2.1.1 I2.1.2.1 hp8 P.1 (fun i hi => (P.2.1 i hi).1)) rfl rfl rfl rfl ?_
        exact pw_iret tk_X10_activate rfl rfl rfl ⟨_, rfl, ⟨_, A, M, rfl, I2, esq.rf, hik_dp (by decide), adk.rf⟩, rfl, rfl⟩
      · rw [c, if_pos rfl]
        exact pw_throw hl rfl th_118_180 tk_X10_activate rfl rfl rfl rfl rfl rfl ⟨done_0 I, List.mem_cons_of_mem _ (List.mem_cons_of_mem _ List.mem_cons_self)⟩
    · rintro E _ ⟨⟨rfl, rfl⟩, e⟩
      exact px_out rfl ⟨done_0 I, by rw [e, if_pos rfl]; exact List.mem_cons_of_mem _ List.mem_cons_self⟩
  · rintro E _ ⟨⟨rfl, rfl⟩, e⟩
    refine px_out rfl ⟨done_0 I, ?_⟩
    unfold acK
    rw [e, if_pos rfl]
    exact List.mem_cons_self
def quK (D : fw_DB) (x : Int32) : Nat := if knI x (D 99 0 13) = false then 1 else 0
def quS (D : fw_DB) (w : Nat) : fw_DB := dp D 13 w (va_up (D 13 w) 13 1)
theorem f_quash {x : Int32} (hl : G.1.stackTraces = false) (hn : n ≤ 600) (I : IC n D A M) : PM G 1 1 6 mm_X10_quash [.ref (A 0 0), .int x] (hp M A D) (fw_qI (fun r h' => done n D A (quS D x.toNatClampNeg) h' ∧ quK D x = 0 ∧ r = bI (!decide (0 < D 13 x.toNatClampNeg 13))) (fun E h' => done n D A D h' ∧ exI (quK D x) E [(1, eIO)])) := by
  refine pm_of (by decide +kernel) rfl rfl rfl ?_
  have g := I.1
  have m := I.2.1
  have n24 := g.2.2.2
  have L0 := g.1.lv (k := 0) (i := 0) (by have := m.1.1; omega)
  iterate 2 refine pw_go tk_X10_quash rfl rfl ?_
  refine pw_cv tk_X10_quash rfl ca_X10_knownWarrant lk_X10_106 iv_X10_knownWarrant sv_X10_knownWarrant (hget L0) rfl rfl (As := [.int x]) (rest := []) (kc' := 0) (ks' := 0) (q_warrant hl g m) rfl rfl rfl (Nat.le_of_ble_eq_true rfl) (by decide) (by decide) ?_ ?_
  · rintro _ _ ⟨_, rfl, rfl, w, hw, rfl, rfl⟩
    have Lw := g.1.lv hw
    have B := g.2.1.1 w hw
    have x := I.2.2.2.2.2.2.1 w hw
    unfold wB at B
    obtain ⟨b2, b3, b4, b9, b10, b11, -⟩ := B
    obtain ⟨x1, x2, x3, x4, x5, -⟩ := x
    have eK : quK D (nI w) = 0 := by
      unfold quK
      rw [knI_of hw (by omega), if_neg (by decide)]
    rw [eK, nI_tn (by omega)]
    have I2 : IC (n + 1) (quS D w) A M := by
      unfold quS
      exact ic_w I hn hw (fun f hf => va_up_n (by omega)) ⟨b9, b10, (by omega : D 13 w 11 + D 13 w 12 ≤ 999 * (n + 1))⟩ x3
    have k18 : ∀ b : Bool, b = (!decide (0 < D 13 w 13)) → PW G mm_X10_quash (fw_qI (fun r h' => done n D A (quS D w) h' ∧ 0 = 0 ∧ r = bI (!decide (0 < D 13 w 13))) (fun E h' => done n D A D h' ∧ exI 0 E [(1, eIO)])) 1 0 0 (hp M A D) 18 [(2, .ref (A 13 w)), (0, .ref (A 0 0)), (1, .int (nI w))] [.int (bI b)] := by
      intro b hb
      iterate 3 refine pw_go tk_X10_quash rfl rfl ?_
      refine pw_put tk_X10_quash rfl fp_X10_192 (hget Lw) rfl rfl (Nat.le_of_ble_eq_true rfl) ?_
      refine pw_h (h' := hp M A (quS D w)) (hset (va_up (D 13 w) 13 1) g.1 Lw) ?_
      refine pw_go tk_X10_quash rfl rfl ?_
      exact pw_iret tk_X10_quash rfl rfl (bI_z _) ⟨_, rfl, ⟨_, A, M, rfl, I2, esq.rf, hik_dp (by decide), adk.rf⟩, rfl, by rw [hb]⟩
    iterate 2 refine pw_go tk_X10_quash rfl rfl ?_
    refine pw_get tk_X10_quash rfl fl_X10_192 (hget Lw) rfl ?_
    refine pw_ifneB tk_X10_quash rfl (fun c => ?_) (fun c => ?_)
    · skip
      refine pw_go tk_X10_quash rfl rfl ?_
      exact k18 false (by rw [c]; rfl)
    · skip
      iterate 2 refine pw_go tk_X10_quash rfl rfl ?_
      exact k18 true (by rw [c]; rfl)
  · rintro E _ ⟨⟨rfl, rfl⟩, e⟩
    refine px_out rfl ⟨done_0 I, ?_⟩
    unfold quK
    rw [e, if_pos rfl]
    exact List.mem_cons_self
def apS (D : fw_DB) (w d : Nat) : fw_DB := dp D 13 w (va_up (D 13 w) 10 (d + 1))
theorem f_approve {x y : Int32} (hl : G.1.stackTraces = false) (hn : n ≤ 600) (I : IC n D A M) : PM G 2 2 12 mm_X10_approve [.ref (A 0 0), .int x, .int y] (hp M A D) (fw_qI (fun r h' => done n D A (apS D x.toNatClampNeg y.toNatClampNeg) h' ∧ pdK (D 99 0 13) x (inI y 0 (nI 19999)) = 0 ∧ r = nP (D 13 x.toNatClampNeg 10)) (fun E h' => done n D A D h' ∧ exI (pdK (D 99 0 13) x (inI y 0 (nI 19999))) E [(1, eIO), (2, eIA)])) := by
  refine pm_of (by decide +kernel) rfl rfl rfl ?_
  have g := I.1
  have m := I.2.1
  have n24 := g.2.2.2
  have L0 := g.1.lv (k := 0) (i := 0) (by have := m.1.1; omega)
  iterate 2 refine pw_go tk_X10_approve rfl rfl ?_
  refine pw_cv tk_X10_approve rfl ca_X10_knownWarrant lk_X10_106 iv_X10_knownWarrant sv_X10_knownWarrant (hget L0) rfl rfl (As := [.int x]) (rest := []) (kc' := 1) (ks' := 6) (q_warrant hl g m) rfl rfl rfl (Nat.le_of_ble_eq_true rfl) (by decide) (by decide) ?_ ?_
  · rintro _ _ ⟨_, rfl, rfl, w, hw, rfl, rfl⟩
    iterate 2 refine pw_go tk_X10_approve rfl rfl ?_
    refine pw_cs tk_X10_approve rfl ca_X10_requireDay lk_X10_63 sx_X10_requireDay (As := [.int y]) (rest := []) (kc' := 0) (ks' := 0) (q_day hl) rfl rfl rfl (Nat.le_of_ble_eq_true rfl) (by decide) (by decide) ?_ ?_
    · rintro _ _ ⟨rfl, rfl, e⟩
      rw [pdK_0 hw (by omega) e, nI_tn (by omega)]
      obtain ⟨d, rfl, d1, d2⟩ := inI_N (a := 0) e (by omega) (by omega)
      rw [nI_tn (by omega)]
      have Lw := g.1.lv hw
      have B := g.2.1.1 w hw
      have x := I.2.2.2.2.2.2.1 w hw
      unfold wB at B
      obtain ⟨b2, b3, b4, b9, b10, b11, -⟩ := B
      obtain ⟨x1, x2, x3, x4, x5, -⟩ := x
      have I2 : IC (n + 1) (apS D w d) A M := by
        unfold apS
        exact ic_w I hn hw (fun f hf => va_up_n (by omega)) ⟨b9, (by omega : d + 1 ≤ 20000), (by omega : D 13 w 11 + D 13 w 12 ≤ 999 * (n + 1))⟩ x3
      refine pw_go tk_X10_approve rfl rfl ?_
      refine pw_get tk_X10_approve rfl fl_X10_196 (hget Lw) rfl ?_
      iterate 3 refine pw_go tk_X10_approve rfl rfl ?_
      refine pw_i (x' := nP (d + 1)) (nP_p (Nat.succ_pos d)).symm ?_
      refine pw_put tk_X10_approve rfl fp_X10_196 (hget Lw) rfl rfl (Nat.le_of_ble_eq_true rfl) ?_
      refine pw_h (h' := hp M A (apS D w d)) (hset (va_up (D 13 w) 10 (d + 1)) g.1 Lw) ?_
      refine pw_go tk_X10_approve rfl rfl ?_
      exact pw_iret tk_X10_approve rfl rfl rfl ⟨_, rfl, ⟨_, A, M, rfl, I2, esq.rf, hik_dp (by decide), adk.rf⟩, rfl, rfl⟩
    · rintro E _ ⟨⟨rfl, rfl⟩, e⟩
      exact px_out rfl ⟨done_0 I, by rw [pdK_2 hw (by omega) e]; exact List.mem_cons_of_mem _ List.mem_cons_self⟩
  · rintro E _ ⟨⟨rfl, rfl⟩, e⟩
    exact px_out rfl ⟨done_0 I, by rw [pdK_1 e]; exact List.mem_cons_self⟩
def gbK (D : fw_DB) (x y : Int32) : Nat := if knI x (D 99 0 16) = false then 1 else if inI y 1 (nI (D 16 x.toNatClampNeg 1)) = false then 2 else 0
def gbS (D : fw_DB) (a d : Nat) : fw_DB := dp D 16 a (va_up (D 16 a) 1 (D 16 a 1 - d))
theorem f_giveBack {x y : Int32} (hl : G.1.stackTraces = false) (I : IC n D A M) : PM G 1 2 12 mm_X10_giveBack [.ref (A 0 0), .int x, .int y] (hp M A D) (fw_qI (fun r h' => done n D A (gbS D x.toNatClampNeg y.toNatClampNeg) h' ∧ gbK D x y = 0 ∧ r = nI (D 16 x.toNatClampNeg 1 - y.toNatClampNeg)) (fun E h' => done n D A D h' ∧ exI (gbK D x y) E [(1, eIO), (2, eIA)])) := by
  refine pm_of (by decide +kernel) rfl rfl rfl ?_
  have g := I.1
  have m := I.2.1
  have n30 := m.2.2.2.2.2.2.1
  have L0 := g.1.lv (k := 0) (i := 0) (by have := m.1.1; omega)
  iterate 2 refine pw_go tk_X10_giveBack rfl rfl ?_
  refine pw_cv tk_X10_giveBack rfl ca_X10_knownAdded lk_X10_211 iv_X10_knownAdded sv_X10_knownAdded (hget L0) rfl rfl (As := [.int x]) (rest := []) (kc' := 1) (ks' := 6) (q_added hl g m) rfl rfl rfl (Nat.le_of_ble_eq_true rfl) (by decide) (by decide) ?_ ?_
  · rintro _ _ ⟨_, rfl, rfl, a, ha, rfl, rfl⟩
    have La := g.1.lv ha
    have hB := (g.2.1.2.2 a ha).2
    have eK : gbK D (nI a) y = if inI y 1 (nI (D 16 a 1)) = false then 2 else 0 := by
      unfold gbK
      rw [knI_of ha (by omega), if_neg (by decide), nI_tn (by omega)]
    rw [eK, nI_tn (by omega)]
    iterate 4 refine pw_go tk_X10_giveBack rfl rfl ?_
    refine pw_get tk_X10_giveBack rfl fl_X10_215 (hget La) rfl ?_
    refine pw_cs tk_X10_giveBack rfl ca_X10_requireRange lk_X10_84 sx_X10_requireRange (As := [.int y, .int 1, .int (nI (D 16 a 1))]) (rest := []) (kc' := 0) (ks' := 0) (q_range hl) rfl rfl rfl (Nat.le_of_ble_eq_true rfl) (by decide) (by decide) ?_ ?_
    · rintro _ _ ⟨rfl, rfl, e⟩
      rw [e, if_neg (by decide)]
      obtain ⟨d, rfl, d1, d2⟩ := inI_N (a := 1) e (by omega) (by omega)
      rw [nI_tn (by omega)]
      have I2 : IC (n + 1) (gbS D a d) A M := ic_16 I ha (by omega)
      iterate 2 refine pw_go tk_X10_giveBack rfl rfl ?_
      refine pw_get tk_X10_giveBack rfl fl_X10_215 (hget La) rfl ?_
      refine pw_go tk_X10_giveBack rfl rfl ?_
      refine pw_subN (D 16 a 1) (d) tk_X10_giveBack rfl rfl rfl (by omega) ?_
      refine pw_put tk_X10_giveBack rfl fp_X10_215 (hget La) rfl rfl (Nat.le_of_ble_eq_true rfl) ?_
      refine pw_h (h' := hp M A (gbS D a d)) (hset (va_up (D 16 a) 1 (D 16 a 1 - d)) g.1 La) ?_
      refine pw_go tk_X10_giveBack rfl rfl ?_
      refine pw_get tk_X10_giveBack rfl fl_X10_215 (hgp La) rfl ?_
      exact pw_iret tk_X10_giveBack rfl rfl rfl ⟨_, rfl, ⟨_, A, M, rfl, I2, esq.rf, hik_dp (by decide), adk.rf⟩, rfl, rfl⟩
    · rintro E _ ⟨⟨rfl, rfl⟩, e⟩
      exact px_out rfl ⟨done_0 I, by rw [e, if_pos rfl]; exact List.mem_cons_of_mem _ List.mem_cons_self⟩
  · rintro E _ ⟨⟨rfl, rfl⟩, e⟩
    refine px_out rfl ⟨done_0 I, ?_⟩
    unfold gbK
    rw [e, if_pos rfl]
    exact List.mem_cons_self
theorem spI_to {a b : Int32} (h : spI a b = true) : ∃ x y, a = nI x ∧ b = nI y ∧ x < y ∧ y ≤ 20000 := by
  unfold spI at h
  rw [Bool.and_eq_true] at h
  obtain ⟨x, rfl, -, hx⟩ := inI_N (a := 0) h.1 (by omega) (by omega)
  have h2 := h.2
  rw [nI_1] at h2
  obtain ⟨y, rfl, y1, y2⟩ := inI_N h2 (by omega) (by omega)
  exact ⟨x, y, rfl, rfl, by omega, by omega⟩
def spF (f : Nat → Bool) (a b : Nat) : Nat → Bool := fun d => f d || iv a (min b 20000) d
def atS (D : fw_DB) (p a b : Nat) : fw_DB := dp D 10 p (oB (spF (sB (D 10 p)) a b))
def atV (D : fw_DB) (p a b : Nat) : Nat := cu (fun d => spF (sB (D 10 p)) a b d && iv 0 20000 d) 20032
theorem f_atLarge {x y z : Int32} (hl : G.1.stackTraces = false) (I : IC n D A M) : PM G 3 3 18 mm_X10_atLarge [.ref (A 0 0), .int x, .int y, .int z] (hp M A D) (fw_qI (fun r h' => done n D A (atS D x.toNatClampNeg y.toNatClampNeg z.toNatClampNeg) h' ∧ pdK (D 99 0 8) x (spI y z) = 0 ∧ r = nI (atV D x.toNatClampNeg y.toNatClampNeg z.toNatClampNeg)) (fun E h' => done n D A D h' ∧ exI (pdK (D 99 0 8) x (spI y z)) E [(1, eIO), (2, eIA)])) := by
  refine pm_of (by decide +kernel) rfl rfl rfl ?_
  have g := I.1
  have m := I.2.1
  have nn := I.2.2.2.1
  have n8 := m.2.2.2.2.1
  have L0 := g.1.lv (k := 0) (i := 0) (by have := m.1.1; omega)
  iterate 2 refine pw_go tk_X10_atLarge rfl rfl ?_
  refine pw_cv tk_X10_atLarge rfl ca_X10_knownPerson lk_X10_134 iv_X10_knownPerson sv_X10_knownPerson (hget L0) rfl rfl (As := [.int x]) (rest := []) (kc' := 2) (ks' := 12) (q_person hl g m) rfl rfl rfl (Nat.le_of_ble_eq_true rfl) (by decide) (by decide) ?_ ?_
  · rintro _ _ ⟨_, rfl, rfl, p, hp8, rfl, rfl⟩
    iterate 3 refine pw_go tk_X10_atLarge rfl rfl ?_
    refine pw_cs tk_X10_atLarge rfl ca_X10_requireSpan lk_X10_218 sx_X10_requireSpan (As := [.int y, .int z]) (rest := []) (kc' := 0) (ks' := 0) (q_span hl) rfl rfl rfl (Nat.le_of_ble_eq_true rfl) (by decide) (by decide) ?_ ?_
    · rintro _ _ ⟨rfl, rfl, e⟩
      rw [pdK_0 hp8 (by omega) e, nI_tn (by omega)]
      obtain ⟨a, b, rfl, rfl, h1, h2⟩ := spI_to e
      rw [nI_tn (by omega), nI_tn (by omega)]
      have hk : p < D 99 0 9 := by have := nn.1; omega
      have hw := g.1.ok hk
      have hw : p < D 99 0 10 := hw
      have hdd : dyAt (hp M A D) (A 9 p) (A 10 p) (sB (D 10 p)) := ⟨hget (g.1.lv hk), hget (g.1.lv hw)⟩
      have I2 : IC (n + 1) (atS D p a b) A M := ic_10 I (fun d hd => by
        unfold spF iv sB
        rw [(I.2.2.1.1.2 p d hd).1, decide_eq_false (fun q : d < min b 20000 => by have := Nat.min_le_right b 20000; omega), Bool.and_false]
        rfl)
      have hrow : kRow A 10 p (oB (spF (sB (D 10 p)) a b)) = .inl (1, 313, .inr (.inl (wd (spF (sB (D 10 p)) a b)))) := by
        show Sum.inl (1, 313, Sum.inr (Sum.inl (wd (sB (oB _))))) = _
        rw [sB_oB]
      have hdd2 : dyAt (hp M A (atS D p a b)) (A 9 p) (A 10 p) (spF (sB (D 10 p)) a b) := ⟨hget (D := atS D p a b) (g.1.lv hk), by
        have q := hgp (D := D) (g := oB (spF (sB (D 10 p)) a b)) (g.1.lv hw)
        rw [hrow] at q
        exact q⟩
      refine pw_go tk_X10_atLarge rfl rfl ?_
      refine pw_get tk_X10_atLarge rfl fl_X10_221 (hget (g.1.lv hp8)) rfl ?_
      iterate 2 refine pw_go tk_X10_atLarge rfl rfl ?_
      refine pw_cv tk_X10_atLarge rfl ca_X3_put lk_X10_224 iv_X3_put sv_X3_put hdd.1 rfl rfl (As := [.int (nI a), .int (nI b)]) (rest := []) (kc' := 0) (ks' := 0) (c_put hdd (by omega) (by omega)) rfl rfl rfl (Nat.le_of_ble_eq_true rfl) (Nat.le_of_eq (Nat.zero_add _)) (Nat.le_of_eq (Nat.zero_add _)) ?_ ?_
      · rintro _ _ ⟨rfl, rfl⟩
        refine pw_h (h' := hp M A (atS D p a b)) (by
          have q := hset (oB (spF (sB (D 10 p)) a b)) g.1 (g.1.lv hw)
          rw [hrow] at q
          exact q) ?_
        refine pw_go tk_X10_atLarge rfl rfl ?_
        refine pw_get tk_X10_atLarge rfl fl_X10_221 (hget (D := atS D p a b) (g.1.lv hp8)) rfl ?_
        iterate 2 refine pw_go tk_X10_atLarge rfl rfl ?_
        refine pw_cvp tk_X10_atLarge rfl ca_X3_within lk_X10_227 iv_X3_within sv_X3_within hdd2.1 rfl rfl (As := [.int 0, .int (nI 20000)]) (rest := []) (c_within (x := 0) (z := 20000) hdd2 (by omega) (by omega)) rfl rfl rfl rfl ?_
        exact pw_iret tk_X10_atLarge rfl rfl rfl ⟨_, rfl, ⟨_, A, M, rfl, I2, esq.rf, hik_dp (by decide), adk.rf⟩, rfl, rfl⟩
      · exact fun E h' z => z.elim
    · rintro E _ ⟨⟨rfl, rfl⟩, e⟩
      exact px_out rfl ⟨done_0 I, by rw [pdK_2 hp8 (by omega) e]; exact List.mem_cons_of_mem _ List.mem_cons_self⟩
  · rintro E _ ⟨⟨rfl, rfl⟩, e⟩
    exact px_out rfl ⟨done_0 I, by rw [pdK_1 e]; exact List.mem_cons_self⟩
def heS (D : fw_DB) (p a b : Nat) : fw_DB := dp D 12 p (oB (spF (sB (D 12 p)) a b))
def heV (D : fw_DB) (p a b : Nat) : Nat := cu (fun d => spF (sB (D 12 p)) a b d && iv 0 20000 d) 20032
theorem f_held {x y z : Int32} (hl : G.1.stackTraces = false) (I : IC n D A M) : PM G 3 3 18 mm_X10_held [.ref (A 0 0), .int x, .int y, .int z] (hp M A D) (fw_qI (fun r h' => done n D A (heS D x.toNatClampNeg y.toNatClampNeg z.toNatClampNeg) h' ∧ pdK (D 99 0 8) x (spI y z) = 0 ∧ r = nI (heV D x.toNatClampNeg y.toNatClampNeg z.toNatClampNeg)) (fun E h' => done n D A D h' ∧ exI (pdK (D 99 0 8) x (spI y z)) E [(1, eIO), (2, eIA)])) := by
  refine pm_of (by decide +kernel) rfl rfl rfl ?_
  have g := I.1
  have m := I.2.1
  have nn := I.2.2.2.1
  have n8 := m.2.2.2.2.1
  have L0 := g.1.lv (k := 0) (i := 0) (by have := m.1.1; omega)
  iterate 2 refine pw_go tk_X10_held rfl rfl ?_
  refine pw_cv tk_X10_held rfl ca_X10_knownPerson lk_X10_134 iv_X10_knownPerson sv_X10_knownPerson (hget L0) rfl rfl (As := [.int x]) (rest := []) (kc' := 2) (ks' := 12) (q_person hl g m) rfl rfl rfl (Nat.le_of_ble_eq_true rfl) (by decide) (by decide) ?_ ?_
  · rintro _ _ ⟨_, rfl, rfl, p, hp8, rfl, rfl⟩
    iterate 3 refine pw_go tk_X10_held rfl rfl ?_
    refine pw_cs tk_X10_held rfl ca_X10_requireSpan lk_X10_218 sx_X10_requireSpan (As := [.int y, .int z]) (rest := []) (kc' := 0) (ks' := 0) (q_span hl) rfl rfl rfl (Nat.le_of_ble_eq_true rfl) (by decide) (by decide) ?_ ?_
    · rintro _ _ ⟨rfl, rfl, e⟩
      rw [pdK_0 hp8 (by omega) e, nI_tn (by omega)]
      obtain ⟨a, b, rfl, rfl, h1, h2⟩ := spI_to e
      rw [nI_tn (by omega), nI_tn (by omega)]
      have hk : p < D 99 0 11 := by have := nn.2.2.1; omega
      have hw := g.1.ok hk
      have hw : p < D 99 0 12 := hw
      have hdd : dyAt (hp M A D) (A 11 p) (A 12 p) (sB (D 12 p)) := ⟨hget (g.1.lv hk), hget (g.1.lv hw)⟩
      have I2 : IC (n + 1) (heS D p a b) A M := ic_12 I (fun d hd => by
        unfold spF iv sB
        rw [(I.2.2.1.1.2 p d hd).2, decide_eq_false (fun q : d < min b 20000 => by have := Nat.min_le_right b 20000; omega), Bool.and_false]
        rfl)
      have hrow : kRow A 12 p (oB (spF (sB (D 12 p)) a b)) = .inl (1, 313, .inr (.inl (wd (spF (sB (D 12 p)) a b)))) := by
        show Sum.inl (1, 313, Sum.inr (Sum.inl (wd (sB (oB _))))) = _
        rw [sB_oB]
      have hdd2 : dyAt (hp M A (heS D p a b)) (A 11 p) (A 12 p) (spF (sB (D 12 p)) a b) := ⟨hget (D := heS D p a b) (g.1.lv hk), by
        have q := hgp (D := D) (g := oB (spF (sB (D 12 p)) a b)) (g.1.lv hw)
        rw [hrow] at q
        exact q⟩
      refine pw_go tk_X10_held rfl rfl ?_
      refine pw_get tk_X10_held rfl fl_X10_299 (hget (g.1.lv hp8)) rfl ?_
      iterate 2 refine pw_go tk_X10_held rfl rfl ?_
      refine pw_cv tk_X10_held rfl ca_X3_put lk_X10_224 iv_X3_put sv_X3_put hdd.1 rfl rfl (As := [.int (nI a), .int (nI b)]) (rest := []) (kc' := 0) (ks' := 0) (c_put hdd (by omega) (by omega)) rfl rfl rfl (Nat.le_of_ble_eq_true rfl) (Nat.le_of_eq (Nat.zero_add _)) (Nat.le_of_eq (Nat.zero_add _)) ?_ ?_
      · rintro _ _ ⟨rfl, rfl⟩
        refine pw_h (h' := hp M A (heS D p a b)) (by
          have q := hset (oB (spF (sB (D 12 p)) a b)) g.1 (g.1.lv hw)
          rw [hrow] at q
          exact q) ?_
        refine pw_go tk_X10_held rfl rfl ?_
        refine pw_get tk_X10_held rfl fl_X10_299 (hget (D := heS D p a b) (g.1.lv hp8)) rfl ?_
        iterate 2 refine pw_go tk_X10_held rfl rfl ?_
        refine pw_cvp tk_X10_held rfl ca_X3_within lk_X10_227 iv_X3_within sv_X3_within hdd2.1 rfl rfl (As := [.int 0, .int (nI 20000)]) (rest := []) (c_within (x := 0) (z := 20000) hdd2 (by omega) (by omega)) rfl rfl rfl rfl ?_
        exact pw_iret tk_X10_held rfl rfl rfl ⟨_, rfl, ⟨_, A, M, rfl, I2, esq.rf, hik_dp (by decide), adk.rf⟩, rfl, rfl⟩
      · exact fun E h' z => z.elim
    · rintro E _ ⟨⟨rfl, rfl⟩, e⟩
      exact px_out rfl ⟨done_0 I, by rw [pdK_2 hp8 (by omega) e]; exact List.mem_cons_of_mem _ List.mem_cons_self⟩
  · rintro E _ ⟨⟨rfl, rfl⟩, e⟩
    exact px_out rfl ⟨done_0 I, by rw [pdK_1 e]; exact List.mem_cons_self⟩
def lgK (D : fw_DB) (x y : Int32) : Nat := if pdK (D 99 0 8) x (inI y 0 (nI 19999)) = 0 then (if rcS D x.toNatClampNeg y.toNatClampNeg = 0 then 3 else 0) else pdK (D 99 0 8) x (inI y 0 (nI 19999))
def lgS (D : fw_DB) (p d : Nat) : fw_DB := dp D 17 (rcS D p d - 1) (va_up (D 17 (rcS D p d - 1)) 4 d)
theorem f_letGo {x y : Int32} (hl : G.1.stackTraces = false) (I : IC n D A M) : PM G 5 3 18 mm_X10_letGo [.ref (A 0 0), .int x, .int y] (hp M A D) (fw_qI (fun r h' => done n D A (lgS D x.toNatClampNeg y.toNatClampNeg) h' ∧ lgK D x y = 0 ∧ r = nI (D 17 (rcS D x.toNatClampNeg y.toNatClampNeg - 1) 1)) (fun E h' => done n D A D h' ∧ exI (lgK D x y) E [(1, eIO), (2, eIA), (3, eUO)])) := by
  refine pm_of (by decide +kernel) rfl rfl rfl ?_
  have I0 := I
  obtain ⟨g, m, b, nn, pp, okw, okx⟩ := I
  have n8 := m.2.2.2.2.1
  have L0 := g.1.lv (k := 0) (i := 0) (by have := m.1.1; omega)
  iterate 2 refine pw_go tk_X10_letGo rfl rfl ?_
  refine pw_cv tk_X10_letGo rfl ca_X10_knownPerson lk_X10_134 iv_X10_knownPerson sv_X10_knownPerson (hget L0) rfl rfl (As := [.int x]) (rest := []) (kc' := 2) (ks' := 12) (q_person hl g m) rfl rfl rfl (Nat.le_of_ble_eq_true rfl) (by decide) (by decide) ?_ ?_
  · rintro _ _ ⟨_, rfl, rfl, p, hp8, rfl, rfl⟩
    iterate 2 refine pw_go tk_X10_letGo rfl rfl ?_
    refine pw_cs tk_X10_letGo rfl ca_X10_requireDay lk_X10_63 sx_X10_requireDay (As := [.int y]) (rest := []) (kc' := 1) (ks' := 6) (q_day hl) rfl rfl rfl (Nat.le_of_ble_eq_true rfl) (by decide) (by decide) ?_ ?_
    · rintro _ _ ⟨rfl, rfl, e⟩
      have eK : lgK D (nI p) y = if rcS D p y.toNatClampNeg = 0 then 3 else 0 := by
        unfold lgK
        rw [pdK_0 hp8 (by omega) e, if_pos rfl, nI_tn (by omega)]
      rw [eK, nI_tn (by omega)]
      obtain ⟨d, rfl, -, hd⟩ := inI_N (a := 0) e (by omega) (by omega)
      rw [nI_tn (by omega)]
      have P := (pp _ hp8).1
      obtain ⟨I2, s2⟩ := ic_prk I0 (sc.rf (D := D)) hp8
      have hst := rcS_prk (p := p) (d := d) (ic_ok I0) (sc.rf (D := D))
      refine pw_go tk_X10_letGo rfl rfl ?_
      refine pw_cv tk_X10_letGo rfl ca_X5_reckon lk_X10_233 iv_X5_reckon sv_X5_reckon (hget (g.1.lv hp8)) rfl rfl (As := []) (rest := []) (kc' := 1) (ks' := 6) (p_reckon g P) rfl rfl rfl (Nat.le_of_ble_eq_true rfl) (Nat.le_of_eq (Nat.zero_add _)) (Nat.le_of_eq (Nat.zero_add _)) ?_ ?_
      · rintro _ _ ⟨rfl, rfl⟩
        have P2 := P.sc s2
        unfold lgS
        rw [← hst]
        generalize prk D (wlS D p) (alS D p) (rlS D p) = D2 at *
        have hin := rc_in (F := D2) (d := d) (l := rlS D p)
        have hp2 : p < D2 99 0 8 := by rw [s2.N]; exact hp8
        have hrc := p_recallAt (G := G) (d := d) I2.1.1 I2.1.2.2.1 hp2 P2.2.2.2.2.1 (fun i hi => (P2.2.2.2.2.2.1 i hi).1) (by omega)
        generalize rc D2 d (rlS D p) = c9 at *
        iterate 2 refine pw_go tk_X10_letGo rfl rfl ?_
        refine pw_cvpQ tk_X10_letGo rfl ca_X5_recallAt lk_X10_256 iv_X5_recallAt sv_X5_recallAt (hget (I2.1.1.lv hp2)) rfl rfl (As := [.int (nI d)]) (rest := []) (hrc) rfl rfl rfl rfl ?_
        refine pw_astoreq tk_X10_letGo rfl rfl rfl ?_
        refine pw_aloadq tk_X10_letGo rfl rfl rfl ?_
        refine pw_ifnonnullq tk_X10_letGo rfl (fun a c => ?_) (fun c => ?_)
        · have c := (rq_s c).1
          rw [if_neg (by omega)]
          obtain ⟨hm, hm1, -⟩ := hin c
          have hr17 := (mem_rlS.mp hm).1
          have hr2 : c9 - 1 < D2 99 0 17 := by rw [s2.N]; exact hr17
          have Lr := I2.1.1.lv hr2
          have I3 := ic_17 (v := d) I2 hr2 (by omega) hm1
          refine pw_aloadq tk_X10_letGo rfl rfl rfl ?_
          refine pw_q (rq_p c) ?_
          refine pw_go tk_X10_letGo rfl rfl ?_
          refine pw_put tk_X10_letGo rfl fp_X10_262 (hget Lr) rfl rfl (Nat.le_of_ble_eq_true rfl) ?_
          refine pw_h (hset (va_up (D2 17 (c9 - 1)) 4 d) I2.1.1 Lr) ?_
          refine pw_aloadq tk_X10_letGo rfl rfl rfl ?_
          refine pw_q (rq_p c) ?_
          refine pw_get tk_X10_letGo rfl fl_X10_265 (hgp Lr) rfl ?_
          refine pw_iret tk_X10_letGo rfl rfl rfl ⟨_, rfl, ⟨_, A, M, rfl, I3, esq_dp (sc_es s2) (fun f hf => ?_), (sc_hi s2).tr (hik_dp (by decide)), adk.rf⟩, rfl, by rw [← s2 17 (c9 - 1) 1 rfl]; rfl⟩
          by_cases q : f = 4
          · subst q
            rfl
          · rw [va_up_n q, va_up_n q]
            exact sc_es s2 17 (c9 - 1) f hf
        · have c := rq_n.mp c
          rw [if_pos c]
          exact pw_throwW hl rfl th_118_260 tk_X10_letGo rfl rfl rfl rfl rfl rfl ⟨kept_done ⟨D2, rfl, I2, s2⟩, List.mem_cons_of_mem _ (List.mem_cons_of_mem _ List.mem_cons_self)⟩
      · rintro E h' hx
        exact hx.elim
    · rintro E _ ⟨⟨rfl, rfl⟩, e⟩
      refine px_out rfl ⟨done_0 I0, ?_⟩
      unfold lgK
      rw [pdK_2 hp8 (by omega) e, if_neg (by decide)]
      exact List.mem_cons_of_mem _ List.mem_cons_self
  · rintro E _ ⟨⟨rfl, rfl⟩, e⟩
    refine px_out rfl ⟨done_0 I0, ?_⟩
    unfold lgK
    rw [pdK_1 e, if_neg (by decide)]
    exact List.mem_cons_self
end FACE5

