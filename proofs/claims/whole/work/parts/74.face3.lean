/-! the face: states, keepers, days too long and too short -/
section FACE3
variable {G : fw_G} {D : fw_DB} {A : fw_AD} {M : fw_MP} {n : Nat}
def pdK (N : Nat) (x : Int32) (good : Bool) : Nat := if knI x N = false then 1 else if good = false then 2 else 0
theorem pdK_1 {N : Nat} {x : Int32} {b : Bool} (h : knI x N = false) : pdK N x b = 1 := by
  unfold pdK
  rw [h, if_pos rfl]
theorem pdK_2 {N k : Nat} {b : Bool} (h : k < N) (hn : N ≤ 100) (e : b = false) : pdK N (nI k) b = 2 := by
  unfold pdK
  rw [knI_of h hn, if_neg (by decide), e, if_pos rfl]
theorem pdK_0 {N k : Nat} {b : Bool} (h : k < N) (hn : N ≤ 100) (e : b = true) : pdK N (nI k) b = 0 := by
  unfold pdK
  rw [knI_of h hn, if_neg (by decide), e, if_neg (by decide)]
theorem f_stateOn {x y : Int32} (hl : G.1.stackTraces = false) (I : IC n D A M) : PM G 5 2 12 mm_X10_stateOn [.ref (A 0 0), .int x, .int y] (hp M A D) (fw_qI (fun r h' => kept n D A M h' ∧ pdK (D 99 0 8) x (inI y 0 (nI 19999)) = 0 ∧ r = nI (stS D x.toNatClampNeg y.toNatClampNeg)) (fun E h' => kept n D A M h' ∧ exI (pdK (D 99 0 8) x (inI y 0 (nI 19999))) E [(1, eIO), (2, eIA)])) := by
  refine pm_of (by decide +kernel) rfl rfl rfl ?_
  have I0 := I
  obtain ⟨g, m, b, nn, pp, okw, okx⟩ := I
  have n8 := m.2.2.2.2.1
  have L0 := g.1.lv (k := 0) (i := 0) (by have := m.1.1; omega)
  iterate 2 refine pw_go tk_X10_stateOn rfl rfl ?_
  refine pw_cv tk_X10_stateOn rfl ca_X10_knownPerson lk_X10_134 iv_X10_knownPerson sv_X10_knownPerson (hget L0) rfl rfl (As := [.int x]) (rest := []) (kc' := 1) (ks' := 6) (q_person hl g m) rfl rfl rfl (Nat.le_of_ble_eq_true rfl) (by decide) (by decide) ?_ ?_
  · rintro _ _ ⟨_, rfl, rfl, p, hp8, rfl, rfl⟩
    iterate 2 refine pw_go tk_X10_stateOn rfl rfl ?_
    refine pw_cs tk_X10_stateOn rfl ca_X10_requireDay lk_X10_63 sx_X10_requireDay (As := [.int y]) (rest := []) (kc' := 0) (ks' := 0) (q_day hl) rfl rfl rfl (Nat.le_of_ble_eq_true rfl) (by decide) (by decide) ?_ ?_
    · rintro _ _ ⟨rfl, rfl, e⟩
      rw [pdK_0 hp8 (by omega) e, nI_tn (by omega)]
      obtain ⟨d, rfl, -, hd⟩ := inI_N (a := 0) e (by omega) (by omega)
      rw [nI_tn (by omega)]
      have P := (pp _ hp8).1
      obtain ⟨I2, s2⟩ := ic_prk I0 (sc.rf (D := D)) hp8
      have hst := stS_prk (p := p) (d := d) (ic_ok I0) (sc.rf (D := D))
      refine pw_go tk_X10_stateOn rfl rfl ?_
      refine pw_cv tk_X10_stateOn rfl ca_X5_reckon lk_X10_233 iv_X5_reckon sv_X5_reckon (hget (g.1.lv hp8)) rfl rfl (As := []) (rest := []) (kc' := 0) (ks' := 0) (p_reckon g P) rfl rfl rfl (Nat.le_of_ble_eq_true rfl) (Nat.le_of_eq (Nat.zero_add _)) (Nat.le_of_eq (Nat.zero_add _)) ?_ ?_
      · rintro _ _ ⟨rfl, rfl⟩
        have P2 := P.sc s2
        rw [← hst]
        generalize prk D (wlS D p) (alS D p) (rlS D p) = D2 at *
        have hp2 : p < D2 99 0 8 := by rw [s2.N]; exact hp8
        iterate 2 refine pw_go tk_X10_stateOn rfl rfl ?_
        refine pw_cvp tk_X10_stateOn rfl ca_X5_stateAt lk_X10_236 iv_X5_stateAt sv_X5_stateAt (hget (I2.1.1.lv hp2)) rfl rfl (As := [.int (nI d)]) (rest := []) (p_state I2.1.1 I2.1.2.1 I2.1.2.2.1 hp2 P2.1 (fun i hi => (P2.2.1 i hi).1) P2.2.2.2.2.1 (fun i hi => (P2.2.2.2.2.2.1 i hi).1) (by omega)) rfl rfl rfl rfl ?_
        exact pw_iret tk_X10_stateOn rfl rfl (nar_c stt_lt) ⟨_, rfl, ⟨D2, rfl, I2, s2⟩, rfl, rfl⟩
      · rintro E h' hx
        exact hx.elim
    · rintro E _ ⟨⟨rfl, rfl⟩, e⟩
      exact px_out rfl ⟨kept_0 I0, by rw [pdK_2 hp8 (by omega) e]; exact List.mem_cons_of_mem _ List.mem_cons_self⟩
  · rintro E _ ⟨⟨rfl, rfl⟩, e⟩
    exact px_out rfl ⟨kept_0 I0, by rw [pdK_1 e]; exact List.mem_cons_self⟩
/-- behind the clerk's days -/
theorem ic_clerk {p d : Nat} (I : IC n D A M) (hp8 : p < D 99 0 8) (hd : d ≤ 20000) : IC n (cEE p (wlS D p) (alS D p) (rlS D p) D d).1 A M ∧ sc D (cEE p (wlS D p) (alS D p) (rlS D p) D d).1 := by
  obtain ⟨h1, s1⟩ := cEE_I I.1 (I.2.2.2.2.1 p hp8).1 I.2.2.1.2 wlS_nd rlS_nd d hd
  have h2 := cEE_2 (p := p) (wl := wlS D p) (al := alS D p) (rl := rlS D p) (D := D) d
  refine ⟨ic_sc I s1 h1.1 (fun e he => ?_) h1.2.2.1.1, s1⟩
  rw [h2 6 0 e rfl]
  exact I.2.2.1.1.1 e he
theorem f_byClerk {x y : Int32} (hl : G.1.stackTraces = false) (I : IC n D A M) : PM G 7 2 12 mm_X10_byClerk [.ref (A 0 0), .int x, .int y] (hp M A D) (fw_qI (fun r h' => kept n D A M h' ∧ pdK (D 99 0 8) x (inI y 0 (nI 19999)) = 0 ∧ r = nI (stS D x.toNatClampNeg y.toNatClampNeg)) (fun E h' => kept n D A M h' ∧ exI (pdK (D 99 0 8) x (inI y 0 (nI 19999))) E [(1, eIO), (2, eIA)])) := by
  refine pm_of (by decide +kernel) rfl rfl rfl ?_
  have I0 := I
  obtain ⟨g, m, b, nn, pp, okw, okx⟩ := I
  have n8 := m.2.2.2.2.1
  have L0 := g.1.lv (k := 0) (i := 0) (by have := m.1.1; omega)
  iterate 2 refine pw_go tk_X10_byClerk rfl rfl ?_
  refine pw_cv tk_X10_byClerk rfl ca_X10_knownPerson lk_X10_134 iv_X10_knownPerson sv_X10_knownPerson (hget L0) rfl rfl (As := [.int x]) (rest := []) (kc' := 1) (ks' := 6) (q_person hl g m) rfl rfl rfl (Nat.le_of_ble_eq_true rfl) (by decide) (by decide) ?_ ?_
  · rintro _ _ ⟨_, rfl, rfl, p, hp8, rfl, rfl⟩
    iterate 2 refine pw_go tk_X10_byClerk rfl rfl ?_
    refine pw_cs tk_X10_byClerk rfl ca_X10_requireDay lk_X10_63 sx_X10_requireDay (As := [.int y]) (rest := []) (kc' := 0) (ks' := 0) (q_day hl) rfl rfl rfl (Nat.le_of_ble_eq_true rfl) (by decide) (by decide) ?_ ?_
    · rintro _ _ ⟨rfl, rfl, e⟩
      rw [pdK_0 hp8 (by omega) e, nI_tn (by omega)]
      obtain ⟨d, rfl, -, hd⟩ := inI_N (a := 0) e (by omega) (by omega)
      rw [nI_tn (by omega)]
      have P := (pp _ hp8).1
      have hst := stS_clerk (p := p) (d := d) (ic_ok I0) (sc.rf (D := D)) (by omega)
      obtain ⟨I2, s2⟩ := ic_clerk (p := p) (d := d + 1) I0 hp8 (by omega)
      iterate 2 refine pw_go tk_X10_byClerk rfl rfl ?_
      refine pw_cs tk_X10_byClerk rfl ca_X2_stateAfterDays lk_X10_288 sx_X2_stateAfterDays (As := [.ref (A 8 p), .int (nI d)]) (rest := []) (kc' := 0) (ks' := 0) (k_state g P wlS_nd rlS_nd b.2 (by omega : d < 20000)) rfl rfl rfl (Nat.le_of_ble_eq_true rfl) (Nat.le_of_eq (Nat.zero_add _)) (Nat.le_of_eq (Nat.zero_add _)) ?_ ?_
      · rintro _ _ ⟨_, rfl, rfl, rfl⟩
        rw [hst]
        exact pw_iret tk_X10_byClerk rfl rfl (nar_c stS_lt) ⟨_, rfl, ⟨_, rfl, I2, s2⟩, rfl, rfl⟩
      · rintro E h' hx
        exact hx.elim
    · rintro E _ ⟨⟨rfl, rfl⟩, e⟩
      exact px_out rfl ⟨kept_0 I0, by rw [pdK_2 hp8 (by omega) e]; exact List.mem_cons_of_mem _ List.mem_cons_self⟩
  · rintro E _ ⟨⟨rfl, rfl⟩, e⟩
    exact px_out rfl ⟨kept_0 I0, by rw [pdK_1 e]; exact List.mem_cons_self⟩
def keK (D : fw_DB) (x y : Int32) : Nat := if pdK (D 99 0 8) x (inI y 0 (nI 19999)) = 0 then (if kpS D x.toNatClampNeg y.toNatClampNeg = 0 then 3 else 0) else pdK (D 99 0 8) x (inI y 0 (nI 19999))
theorem f_keeper {x y : Int32} (hl : G.1.stackTraces = false) (I : IC n D A M) : PM G 5 3 18 mm_X10_keeper [.ref (A 0 0), .int x, .int y] (hp M A D) (fw_qI (fun r h' => kept n D A M h' ∧ keK D x y = 0 ∧ r = nI (kpS D x.toNatClampNeg y.toNatClampNeg - 1)) (fun E h' => kept n D A M h' ∧ exI (keK D x y) E [(1, eIO), (2, eIA), (3, eNS)])) := by
  refine pm_of (by decide +kernel) rfl rfl rfl ?_
  have I0 := I
  obtain ⟨g, m, b, nn, pp, okw, okx⟩ := I
  have n8 := m.2.2.2.2.1
  have L0 := g.1.lv (k := 0) (i := 0) (by have := m.1.1; omega)
  iterate 2 refine pw_go tk_X10_keeper rfl rfl ?_
  refine pw_cv tk_X10_keeper rfl ca_X10_knownPerson lk_X10_134 iv_X10_knownPerson sv_X10_knownPerson (hget L0) rfl rfl (As := [.int x]) (rest := []) (kc' := 2) (ks' := 12) (q_person hl g m) rfl rfl rfl (Nat.le_of_ble_eq_true rfl) (by decide) (by decide) ?_ ?_
  · rintro _ _ ⟨_, rfl, rfl, p, hp8, rfl, rfl⟩
    iterate 2 refine pw_go tk_X10_keeper rfl rfl ?_
    refine pw_cs tk_X10_keeper rfl ca_X10_requireDay lk_X10_63 sx_X10_requireDay (As := [.int y]) (rest := []) (kc' := 1) (ks' := 6) (q_day hl) rfl rfl rfl (Nat.le_of_ble_eq_true rfl) (by decide) (by decide) ?_ ?_
    · rintro _ _ ⟨rfl, rfl, e⟩
      have eK : keK D (nI p) y = if kpS D p y.toNatClampNeg = 0 then 3 else 0 := by
        unfold keK
        rw [pdK_0 hp8 (by omega) e, if_pos rfl, nI_tn (by omega)]
      rw [eK, nI_tn (by omega)]
      obtain ⟨d, rfl, -, hd⟩ := inI_N (a := 0) e (by omega) (by omega)
      rw [nI_tn (by omega)]
      have P := (pp _ hp8).1
      obtain ⟨I2, s2⟩ := ic_prk I0 (sc.rf (D := D)) hp8
      have hst := kpS_prk (p := p) (d := d) (ic_ok I0) (sc.rf (D := D))
      have hin := kpS_in (S := D) (p := p) (d := d)
      refine pw_go tk_X10_keeper rfl rfl ?_
      refine pw_cv tk_X10_keeper rfl ca_X5_reckon lk_X10_233 iv_X5_reckon sv_X5_reckon (hget (g.1.lv hp8)) rfl rfl (As := []) (rest := []) (kc' := 1) (ks' := 6) (p_reckon g P) rfl rfl rfl (Nat.le_of_ble_eq_true rfl) (Nat.le_of_eq (Nat.zero_add _)) (Nat.le_of_eq (Nat.zero_add _)) ?_ ?_
      · rintro _ _ ⟨rfl, rfl⟩
        have P2 := P.sc s2
        rw [← hst] at hin ⊢
        generalize prk D (wlS D p) (alS D p) (rlS D p) = D2 at *
        have hp2 : p < D2 99 0 8 := by rw [s2.N]; exact hp8
        iterate 2 refine pw_go tk_X10_keeper rfl rfl ?_
        refine pw_cvpQ tk_X10_keeper rfl ca_X5_keeperAt lk_X10_294 iv_X5_keeperAt sv_X5_keeperAt (hget (I2.1.1.lv hp2)) rfl rfl (As := [.int (nI d)]) (rest := []) (p_keeper I2.1.1 I2.1.2.1 hp2 P2.1 (fun i hi => (P2.2.1 i hi).1) (by omega)) rfl rfl rfl rfl ?_
        refine pw_astoreq tk_X10_keeper rfl rfl rfl ?_
        refine pw_aloadq tk_X10_keeper rfl rfl rfl ?_
        refine pw_ifnonnullq tk_X10_keeper rfl (fun a c => ?_) (fun c => ?_)
        · have c := (rq_s c).1
          rw [if_neg (by omega)]
          have hw := (P2.2.1 _ (hin c)).1
          refine pw_aloadq tk_X10_keeper rfl rfl rfl ?_
          refine pw_q (rq_p c) ?_
          refine pw_get tk_X10_keeper rfl fl_X10_163 (hget (I2.1.1.lv hw)) rfl ?_
          exact pw_iret tk_X10_keeper rfl rfl rfl ⟨_, rfl, ⟨D2, rfl, I2, s2⟩, rfl, rfl⟩
        · have c := rq_n.mp c
          rw [if_pos c]
          exact pw_throwXW hl rfl th_127_297 tk_X10_keeper rfl rfl rfl rfl rfl rfl ⟨⟨D2, rfl, I2, s2⟩, List.mem_cons_of_mem _ (List.mem_cons_of_mem _ List.mem_cons_self)⟩
      · rintro E h' hx
        exact hx.elim
    · rintro E _ ⟨⟨rfl, rfl⟩, e⟩
      refine px_out rfl ⟨kept_0 I0, ?_⟩
      unfold keK
      rw [pdK_2 hp8 (by omega) e, if_neg (by decide)]
      exact List.mem_cons_of_mem _ List.mem_cons_self
  · rintro E _ ⟨⟨rfl, rfl⟩, e⟩
    refine px_out rfl ⟨kept_0 I0, ?_⟩
    unfold keK
    rw [pdK_1 e, if_neg (by decide)]
    exact List.mem_cons_self
theorem dy_held {p : Nat} (W : Wf D A M) (h11 : p < D 99 0 11) : dyAt (hp M A D) (A 11 p) (A 12 p) (sB (D 12 p)) := ⟨hget (W.lv h11), hget (W.lv (W.ok h11 : p < D 99 0 12))⟩
/-- behind the days due -/
theorem ic_due {f : Nat → Bool} (I : IC n D A M) (hf : ∀ d, 20000 ≤ d → f d = false) : IC n (dp D 6 0 (oB f)) A M ∧ sc D (dp D 6 0 (oB f)) := by
  have s : sc D (dp D 6 0 (oB f)) := sc_dp (fun f hf => by cases hf)
  refine ⟨ic_sc I s ⟨I.1.1.put (by decide) trivial, ?_, ?_, by rw [s.N]; exact I.1.2.2.2⟩ (fun d hd => ?_) ?_, s⟩
  · exact I.1.2.1
  · exact I.1.2.2.1
  · rw [dp_s]
    unfold oB
    rw [hf d hd]
    rfl
  · exact I.2.2.1.2
theorem f_tooLong {x y : Int32} (hl : G.1.stackTraces = false) (I : IC n D A M) : PM G 5 2 12 mm_X10_tooLong [.ref (A 0 0), .int x, .int y] (hp M A D) (fw_qI (fun r h' => kept n D A M h' ∧ pdK (D 99 0 8) x (inI y 0 (nI 20000)) = 0 ∧ r = nI (tlV D x.toNatClampNeg y.toNatClampNeg)) (fun E h' => kept n D A M h' ∧ exI (pdK (D 99 0 8) x (inI y 0 (nI 20000))) E [(1, eIO), (2, eIA)])) := by
  refine pm_of (by decide +kernel) rfl rfl rfl ?_
  have I0 := I
  obtain ⟨g, m, b, nn, pp, okw, okx⟩ := I
  have n8 := m.2.2.2.2.1
  have L0 := g.1.lv (k := 0) (i := 0) (by have := m.1.1; omega)
  iterate 2 refine pw_go tk_X10_tooLong rfl rfl ?_
  refine pw_cv tk_X10_tooLong rfl ca_X10_knownPerson lk_X10_134 iv_X10_knownPerson sv_X10_knownPerson (hget L0) rfl rfl (As := [.int x]) (rest := []) (kc' := 1) (ks' := 6) (q_person hl g m) rfl rfl rfl (Nat.le_of_ble_eq_true rfl) (by decide) (by decide) ?_ ?_
  · rintro _ _ ⟨_, rfl, rfl, p, hp8, rfl, rfl⟩
    iterate 4 refine pw_go tk_X10_tooLong rfl rfl ?_
    refine pw_cs tk_X10_tooLong rfl ca_X10_requireRange lk_X10_84 sx_X10_requireRange (As := [.int y, .int 0, .int (nI 20000)]) (rest := []) (kc' := 0) (ks' := 0) (q_range hl) rfl rfl rfl (Nat.le_of_ble_eq_true rfl) (by decide) (by decide) ?_ ?_
    · rintro _ _ ⟨rfl, rfl, e⟩
      rw [pdK_0 hp8 (by omega) e, nI_tn (by omega)]
      obtain ⟨d, rfl, -, hd⟩ := inI_N (a := 0) e (by omega) (by omega)
      rw [nI_tn (by omega)]
      have P := (pp _ hp8).1
      obtain ⟨I2, s2⟩ := ic_prk I0 (sc.rf (D := D)) hp8
      have hst := dueS_prk (p := p) (ic_ok I0) (sc.rf (D := D))
      refine pw_go tk_X10_tooLong rfl rfl ?_
      refine pw_cv tk_X10_tooLong rfl ca_X5_reckon lk_X10_233 iv_X5_reckon sv_X5_reckon (hget (g.1.lv hp8)) rfl rfl (As := []) (rest := []) (kc' := 0) (ks' := 0) (p_reckon g P) rfl rfl rfl (Nat.le_of_ble_eq_true rfl) (Nat.le_of_eq (Nat.zero_add _)) (Nat.le_of_eq (Nat.zero_add _)) ?_ ?_
      · rintro _ _ ⟨rfl, rfl⟩
        have P2 := P.sc s2
        have e12 : prk D (wlS D p) (alS D p) (rlS D p) 12 = D 12 := prk_kk (by decide) (by decide)
        unfold tlV
        rw [← hst, ← e12]
        generalize prk D (wlS D p) (alS D p) (rlS D p) = D2 at *
        have hp2 : p < D2 99 0 8 := by rw [s2.N]; exact hp8
        have m2 := I2.2.1
        have L20 := I2.1.1.lv (k := 0) (i := 0) (by have := m2.1.1; omega)
        have hduf : ∀ d, 20000 ≤ d → duF D2 (wlS D p) (rlS D p) d = false := fun d hd => duF_hi hd
        have L5 := I2.1.1.lv (k := 5) (i := 0) (by have := m2.1.2.2.2.2.2.1; omega)
        have L6 := I2.1.1.lv (k := 6) (i := 0) (by have := m2.1.2.2.2.2.2.2; omega)
        iterate 2 refine pw_go tk_X10_tooLong rfl rfl ?_
        refine pw_get tk_X10_tooLong rfl fl_X10_36 (hget L20) rfl ?_
        refine pw_cv tk_X10_tooLong rfl ca_X5_putDue lk_X10_302 iv_X5_putDue sv_X5_putDue (hget (I2.1.1.lv hp2)) rfl rfl (As := [.ref (A 5 0)]) (rest := []) (kc' := 0) (ks' := 0) (p_putDue I2.1 P2 (by have := m2.1.2.2.2.2.2.1; omega) (by have := m2.1.2.2.2.2.2.2; omega) I2.2.2.1.1) rfl rfl rfl (Nat.le_of_ble_eq_true rfl) (Nat.le_of_eq (Nat.zero_add _)) (Nat.le_of_eq (Nat.zero_add _)) ?_ ?_
        · rintro _ _ ⟨rfl, rfl⟩
          obtain ⟨I3, s3⟩ := ic_due I2 hduf
          have hdd := dy_due (f := duF D2 (wlS D p) (rlS D p)) L5 L6 (D := D2) (A := A) (M := M)
          have hdh := dy_held (p := p) I3.1.1 (by have := I3.2.2.2.1.2.2.1; have := I3.2.2.2.1.2.2.2.1; rw [s3.N, s2.N] at *; have := nn.2.2.1; omega)
          have e12b : dp D2 6 0 (oB (duF D2 (wlS D p) (rlS D p))) 12 = D2 12 := funext fun j => dp_k (by decide)
          rw [e12b] at hdh
          refine pw_go tk_X10_tooLong rfl rfl ?_
          refine pw_get tk_X10_tooLong rfl fl_X10_299 (hget (I3.1.1.lv (k := 8) (i := p) (by rw [s3.N]; exact hp2))) rfl ?_
          refine pw_go tk_X10_tooLong rfl rfl ?_
          refine pw_get tk_X10_tooLong rfl fl_X10_36 (hget (I3.1.1.lv (k := 0) (i := 0) (by have := I3.2.1.1.1; omega))) rfl ?_
          refine pw_go tk_X10_tooLong rfl rfl ?_
          refine pw_cvp tk_X10_tooLong rfl ca_X3_outside lk_X10_306 iv_X3_outside sv_X3_outside hdh.1 rfl rfl (As := [.ref (A 5 0), .int (nI d)]) (rest := []) (c_outside hdh hdd (by omega)) rfl rfl rfl rfl ?_
          exact pw_iret tk_X10_tooLong rfl rfl rfl ⟨_, rfl, ⟨_, rfl, I3, s2.tr s3⟩, rfl, rfl⟩
        · rintro E h' hx
          exact hx.elim
      · rintro E h' hx
        exact hx.elim
    · rintro E _ ⟨⟨rfl, rfl⟩, e⟩
      exact px_out rfl ⟨kept_0 I0, by rw [pdK_2 hp8 (by omega) e]; exact List.mem_cons_of_mem _ List.mem_cons_self⟩
  · rintro E _ ⟨⟨rfl, rfl⟩, e⟩
    exact px_out rfl ⟨kept_0 I0, by rw [pdK_1 e]; exact List.mem_cons_self⟩
theorem f_tooShort {x y : Int32} (hl : G.1.stackTraces = false) (I : IC n D A M) : PM G 5 2 12 mm_X10_tooShort [.ref (A 0 0), .int x, .int y] (hp M A D) (fw_qI (fun r h' => kept n D A M h' ∧ pdK (D 99 0 8) x (inI y 0 (nI 20000)) = 0 ∧ r = nI (tsV D x.toNatClampNeg y.toNatClampNeg)) (fun E h' => kept n D A M h' ∧ exI (pdK (D 99 0 8) x (inI y 0 (nI 20000))) E [(1, eIO), (2, eIA)])) := by
  refine pm_of (by decide +kernel) rfl rfl rfl ?_
  have I0 := I
  obtain ⟨g, m, b, nn, pp, okw, okx⟩ := I
  have n8 := m.2.2.2.2.1
  have L0 := g.1.lv (k := 0) (i := 0) (by have := m.1.1; omega)
  iterate 2 refine pw_go tk_X10_tooShort rfl rfl ?_
  refine pw_cv tk_X10_tooShort rfl ca_X10_knownPerson lk_X10_134 iv_X10_knownPerson sv_X10_knownPerson (hget L0) rfl rfl (As := [.int x]) (rest := []) (kc' := 1) (ks' := 6) (q_person hl g m) rfl rfl rfl (Nat.le_of_ble_eq_true rfl) (by decide) (by decide) ?_ ?_
  · rintro _ _ ⟨_, rfl, rfl, p, hp8, rfl, rfl⟩
    iterate 4 refine pw_go tk_X10_tooShort rfl rfl ?_
    refine pw_cs tk_X10_tooShort rfl ca_X10_requireRange lk_X10_84 sx_X10_requireRange (As := [.int y, .int 0, .int (nI 20000)]) (rest := []) (kc' := 0) (ks' := 0) (q_range hl) rfl rfl rfl (Nat.le_of_ble_eq_true rfl) (by decide) (by decide) ?_ ?_
    · rintro _ _ ⟨rfl, rfl, e⟩
      rw [pdK_0 hp8 (by omega) e, nI_tn (by omega)]
      obtain ⟨d, rfl, -, hd⟩ := inI_N (a := 0) e (by omega) (by omega)
      rw [nI_tn (by omega)]
      have P := (pp _ hp8).1
      obtain ⟨I2, s2⟩ := ic_prk I0 (sc.rf (D := D)) hp8
      have hst := dueS_prk (p := p) (ic_ok I0) (sc.rf (D := D))
      refine pw_go tk_X10_tooShort rfl rfl ?_
      refine pw_cv tk_X10_tooShort rfl ca_X5_reckon lk_X10_233 iv_X5_reckon sv_X5_reckon (hget (g.1.lv hp8)) rfl rfl (As := []) (rest := []) (kc' := 0) (ks' := 0) (p_reckon g P) rfl rfl rfl (Nat.le_of_ble_eq_true rfl) (Nat.le_of_eq (Nat.zero_add _)) (Nat.le_of_eq (Nat.zero_add _)) ?_ ?_
      · rintro _ _ ⟨rfl, rfl⟩
        have P2 := P.sc s2
        have e12 : prk D (wlS D p) (alS D p) (rlS D p) 12 = D 12 := prk_kk (by decide) (by decide)
        have e10 : prk D (wlS D p) (alS D p) (rlS D p) 10 = D 10 := prk_kk (by decide) (by decide)
        unfold tsV
        rw [← hst, ← e12, ← e10]
        generalize prk D (wlS D p) (alS D p) (rlS D p) = D2 at *
        have hp2 : p < D2 99 0 8 := by rw [s2.N]; exact hp8
        have m2 := I2.2.1
        have L20 := I2.1.1.lv (k := 0) (i := 0) (by have := m2.1.1; omega)
        have hduf : ∀ d, 20000 ≤ d → duF D2 (wlS D p) (rlS D p) d = false := fun d hd => duF_hi hd
        have L5 := I2.1.1.lv (k := 5) (i := 0) (by have := m2.1.2.2.2.2.2.1; omega)
        have L6 := I2.1.1.lv (k := 6) (i := 0) (by have := m2.1.2.2.2.2.2.2; omega)
        iterate 2 refine pw_go tk_X10_tooShort rfl rfl ?_
        refine pw_get tk_X10_tooShort rfl fl_X10_36 (hget L20) rfl ?_
        refine pw_cv tk_X10_tooShort rfl ca_X5_putDue lk_X10_302 iv_X5_putDue sv_X5_putDue (hget (I2.1.1.lv hp2)) rfl rfl (As := [.ref (A 5 0)]) (rest := []) (kc' := 0) (ks' := 0) (p_putDue I2.1 P2 (by have := m2.1.2.2.2.2.2.1; omega) (by have := m2.1.2.2.2.2.2.2; omega) I2.2.2.1.1) rfl rfl rfl (Nat.le_of_ble_eq_true rfl) (Nat.le_of_eq (Nat.zero_add _)) (Nat.le_of_eq (Nat.zero_add _)) ?_ ?_
        · rintro _ _ ⟨rfl, rfl⟩
          generalize duF D2 (wlS D p) (rlS D p) = fd at *
          obtain ⟨I3, s3⟩ := ic_due I2 hduf
          have hdd := dy_due (f := fd) L5 L6 (D := D2) (A := A) (M := M)
          have h9 : p < dp D2 6 0 (oB fd) 99 0 9 := by have := I3.2.2.2.1.1; rw [s3.N, s2.N] at *; have := nn.1; omega
          have hda := dy_aw (p := p) I3.1.1 h9
          have e10b : dp D2 6 0 (oB fd) 10 = D2 10 := funext fun j => dp_k (by decide)
          rw [e10b] at hda
          have L10 := I3.1.1.lv (k := 10) (i := p) (I3.1.1.ok h9)
          have L63 := I3.1.1.lv (k := 6) (i := 0) (by have := I3.2.1.1.2.2.2.2.2.2; omega)
          have n106 : A 10 p ≠ A 6 0 := fun z => by
            rw [z, L63] at L10
            cases L10
          refine pw_go tk_X10_tooShort rfl rfl ?_
          refine pw_get tk_X10_tooShort rfl fl_X10_36 (hget (I3.1.1.lv (k := 0) (i := 0) (by have := I3.2.1.1.1; omega))) rfl ?_
          refine pw_go tk_X10_tooShort rfl rfl ?_
          refine pw_get tk_X10_tooShort rfl fl_X10_221 (hget (I3.1.1.lv (k := 8) (i := p) (by rw [s3.N]; exact hp2))) rfl ?_
          refine pw_cv tk_X10_tooShort rfl ca_X3_remove lk_X10_310 iv_X3_remove sv_X3_remove hdd.1 rfl rfl (As := [.ref (A 9 p)]) (rest := []) (kc' := 0) (ks' := 0) (c_remove hdd hda n106 (fun d hd => by have := (I2.2.2.1.1.2 p d hd).1; unfold sB; rw [this]; rfl)) rfl rfl rfl (Nat.le_of_ble_eq_true rfl) (Nat.le_of_eq (Nat.zero_add _)) (Nat.le_of_eq (Nat.zero_add _)) ?_ ?_
          · rintro _ _ ⟨rfl, rfl⟩
            refine pw_h (due_set I2.1.1 L6) ?_
            obtain ⟨I4, s4⟩ := ic_due (f := fun d => fd d && !sB (D2 10 p) d) I2 (fun d hd => by rw [hduf d hd]; rfl)
            have hdd4 := dy_due (f := fun d => fd d && !sB (D2 10 p) d) L5 L6 (D := D2) (A := A) (M := M)
            have hdh := dy_held (p := p) I4.1.1 (by have := I4.2.2.2.1.2.2.1; rw [s4.N, s2.N] at *; have := nn.2.2.1; omega)
            have e12b : dp D2 6 0 (oB (fun d => fd d && !sB (D2 10 p) d)) 12 = D2 12 := funext fun j => dp_k (by decide)
            rw [e12b] at hdh
            refine pw_go tk_X10_tooShort rfl rfl ?_
            refine pw_get tk_X10_tooShort rfl fl_X10_36 (hget (I4.1.1.lv (k := 0) (i := 0) (by have := I4.2.1.1.1; omega))) rfl ?_
            refine pw_go tk_X10_tooShort rfl rfl ?_
            refine pw_get tk_X10_tooShort rfl fl_X10_299 (hget (I4.1.1.lv (k := 8) (i := p) (by rw [s4.N]; exact hp2))) rfl ?_
            refine pw_go tk_X10_tooShort rfl rfl ?_
            refine pw_cvp tk_X10_tooShort rfl ca_X3_outside lk_X10_306 iv_X3_outside sv_X3_outside hdd4.1 rfl rfl (As := [.ref (A 11 p), .int (nI d)]) (rest := []) (c_outside hdd4 hdh (by omega)) rfl rfl rfl rfl ?_
            exact pw_iret tk_X10_tooShort rfl rfl rfl ⟨_, rfl, ⟨_, rfl, I4, s2.tr s4⟩, rfl, rfl⟩
          · rintro E h' hx
            exact hx.elim
        · rintro E h' hx
          exact hx.elim
      · rintro E h' hx
        exact hx.elim
    · rintro E _ ⟨⟨rfl, rfl⟩, e⟩
      exact px_out rfl ⟨kept_0 I0, by rw [pdK_2 hp8 (by omega) e]; exact List.mem_cons_of_mem _ List.mem_cons_self⟩
  · rintro E _ ⟨⟨rfl, rfl⟩, e⟩
    exact px_out rfl ⟨kept_0 I0, by rw [pdK_1 e]; exact List.mem_cons_self⟩
theorem f_warrants (I : IC n D A M) : PM G 0 0 0 mm_X10_warrants [.ref (A 0 0)] (hp M A D) (fw_qp (nI (D 99 0 13)) (hp M A D)) := by
  refine pm_of (by decide +kernel) rfl rfl rfl ?_
  have m := I.2.1
  have L0 := I.1.1.lv (k := 0) (i := 0) (by have := m.1.1; omega)
  refine pw_go tk_X10_warrants rfl rfl ?_
  refine pw_get tk_X10_warrants rfl fl_X10_151 (hget L0) rfl ?_
  refine pw_i (congrArg nI m.2.2.1.2.2.1) ?_
  exact pw_iretp tk_X10_warrants rfl rfl
end FACE3

