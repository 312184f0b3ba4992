/-! the face: recalls -/
section FACE8
variable {G : fw_G} {D : fw_DB} {A : fw_AD} {M : fw_MP} {n : Nat}
theorem tkR_W {p r : Nat} (W : Wf D A M) (hp8 : p < D 99 0 8) (hr : r < D 99 0 17) : Wf (tkR D p r) A M := by
  unfold tkR
  obtain ⟨q1, q2, q3, q4, q5, q6, q7, q8⟩ := W.ok hp8
  by_cases c : D 8 p 7 = 0
  · rw [if_pos c]
    exact W.put (by decide) ⟨q1, q2, q3, q4, q5, q6, (show r + 1 ≤ D 99 0 17 by omega), (show r + 1 ≤ D 99 0 17 by omega)⟩
  · rw [if_neg c]
    have hk := W.ok (k := 17) (i := D 8 p 7 - 1) (by omega)
    exact (W.put (k := 17) (i := D 8 p 7 - 1) (g := va_up (D 17 (D 8 p 7 - 1)) 8 (r + 1)) (by decide) ⟨hk.1, (show r + 1 ≤ D 99 0 17 by omega)⟩).put (by decide) ⟨q1, q2, q3, q4, q5, q6, q7, (show r + 1 ≤ D 99 0 17 by omega)⟩
def rcK (D : fw_DB) (x y z : Int32) : Nat := if pdK (D 99 0 8) x (inI y 0 (nI 19999) && (decide (z = nI 102) || decide (z = nI 115))) = 0 then (if stS D x.toNatClampNeg y.toNatClampNeg = 108 then (if D 99 0 17 = 20 then 4 else 0) else 3) else pdK (D 99 0 8) x (inI y 0 (nI 19999) && (decide (z = nI 102) || decide (z = nI 115)))
set_option maxRecDepth 20000 in
theorem f_recall {x y z : Int32} (hl : G.1.stackTraces = false) (I : IC n D A M) : PM G 5 4 27 mm_X10_recall [.ref (A 0 0), .int x, .int y, .int z] (hp M A D) (fw_qI (fun r h' => done n D A (reS D x.toNatClampNeg y.toNatClampNeg (if decide (z = nI 102) = true then 1 else 0)) h' ∧ rcK D x y z = 0 ∧ r = nI ((rlS D x.toNatClampNeg).length + 1)) (fun E h' => done n D A D h' ∧ exI (rcK D x y z) E [(1, eIO), (2, eIA), (3, eUO), (4, eIS)])) := by
  refine pm_of (by decide +kernel) rfl rfl rfl ?_
  have I0 := I
  obtain ⟨g, m, b, nn, pp, okw, okx⟩ := I
  have n8 := m.2.2.2.2.1
  have n20 := m.2.2.2.2.2.2.2
  have L0 := g.1.lv (k := 0) (i := 0) (by have := m.1.1; omega)
  iterate 2 refine pw_go tk_X10_recall rfl rfl ?_
  refine pw_cv tk_X10_recall rfl ca_X10_knownPerson lk_X10_134 iv_X10_knownPerson sv_X10_knownPerson (hget L0) rfl rfl (As := [.int x]) (rest := []) (kc' := 3) (ks' := 21) (q_person hl g m) rfl rfl rfl (Nat.le_of_ble_eq_true rfl) (by decide) (by decide) ?_ ?_
  · rintro _ _ ⟨_, rfl, rfl, p, hp8, rfl, rfl⟩
    iterate 2 refine pw_go tk_X10_recall rfl rfl ?_
    refine pw_cs tk_X10_recall rfl ca_X10_requireDay lk_X10_63 sx_X10_requireDay (As := [.int y]) (rest := []) (kc' := 2) (ks' := 15) (q_day hl) rfl rfl rfl (Nat.le_of_ble_eq_true rfl) (by decide) (by decide) ?_ ?_
    · rintro _ _ ⟨rfl, rfl, e⟩
      obtain ⟨Q, hQ⟩ : ∃ Q, Q = (fw_qI (fun r h' => done n D A (reS D (nI p).toNatClampNeg y.toNatClampNeg (if decide (z = nI 102) = true then 1 else 0)) h' ∧ rcK D (nI p) y z = 0 ∧ r = nI ((rlS D (nI p).toNatClampNeg).length + 1)) (fun E h' => done n D A D h' ∧ exI (rcK D (nI p) y z) E [(1, eIO), (2, eIA), (3, eUO), (4, eIS)])) := ⟨_, rfl⟩
      rw [← hQ]
      have k33 : (decide (z = nI 102) || decide (z = nI 115)) = true → PW G mm_X10_recall Q 5 2 15 (hp M A D) 33 [(0, .ref (A 0 0)), (2, .int y), (3, .int z), (4, .ref (A 8 p))] [] := by
        intro ez
        have eK : rcK D (nI p) y z = if stS D p y.toNatClampNeg = 108 then (if D 99 0 17 = 20 then 4 else 0) else 3 := by
          unfold rcK
          rw [pdK_0 hp8 (by omega) (by rw [e, ez]; rfl), if_pos rfl, nI_tn (by omega)]
        rw [eK, nI_tn (by omega)] at hQ
        obtain ⟨d, rfl, -, hd⟩ := inI_N (a := 0) e (by omega) (by omega)
        rw [nI_tn (by omega)] at hQ
        have P := (pp _ hp8).1
        have p10 := (pp _ hp8).2.2.2
        obtain ⟨I2, s2⟩ := ic_prk I0 (sc.rf (D := D)) hp8
        have hst := stS_prk (p := p) (d := d) (ic_ok I0) (sc.rf (D := D))
        refine pw_go tk_X10_recall rfl rfl ?_
        refine pw_cv tk_X10_recall rfl ca_X5_reckon lk_X10_233 iv_X5_reckon sv_X5_reckon (hget (g.1.lv hp8)) rfl rfl (As := []) (rest := []) (kc' := 2) (ks' := 15) (p_reckon g P) rfl rfl rfl (Nat.le_of_ble_eq_true rfl) (Nat.le_of_eq (Nat.zero_add _)) (Nat.le_of_eq (Nat.zero_add _)) ?_ ?_
        · rintro _ _ ⟨rfl, rfl⟩
          have P2 := P.sc s2
          rw [← hst] at hQ
          generalize prk D (wlS D p) (alS D p) (rlS D p) = D2 at *
          have hp2 : p < D2 99 0 8 := by rw [s2.N]; exact hp8
          have hlt := stt_lt (F := D2) (aw := sB (D2 10 p)) (d := d) (wl := wlS D p) (rl := rlS D p)
          iterate 2 refine pw_go tk_X10_recall rfl rfl ?_
          refine pw_cvp tk_X10_recall rfl ca_X5_stateAt lk_X10_236 iv_X5_stateAt sv_X5_stateAt (hget (I2.1.1.lv hp2)) rfl rfl (As := [.int (nI d)]) (rest := []) (p_state I2.1.1 I2.1.2.1 I2.1.2.2.1 hp2 P2.1 (fun i hi => (P2.2.1 i hi).1) P2.2.2.2.2.1 (fun i hi => (P2.2.2.2.2.2.1 i hi).1) (by omega)) rfl rfl rfl rfl ?_
          refine pw_go tk_X10_recall rfl rfl ?_
          refine pw_icN (stt D2 (sB (D2 10 p)) d (wlS D p) (rlS D p)) (108) tk_X10_recall rfl rfl rfl (by omega) (by omega) (fun c => ?_) (fun c => ?_)
          · have c : stt D2 (sB (D2 10 p)) d (wlS D p) (rlS D p) = 108 := c
            rw [if_pos c] at hQ
            have m2 := I2.2.1
            have L02 := I2.1.1.lv (k := 0) (i := 0) (by have := m2.1.1; omega)
            have e09 : D2 0 0 9 = D2 99 0 17 := m2.2.2.1.2.2.2.2
            have e07 : D2 0 0 7 = D2 99 0 13 := m2.2.2.1.2.2.1
            have h99 : D2 99 0 17 = D 99 0 17 := by rw [s2.N]
            have ep8 : D2 8 p 8 = (rlS D p).length := by rw [s2 8 p 8 rfl, p10]
            refine pw_go tk_X10_recall rfl rfl ?_
            refine pw_get tk_X10_recall rfl fl_X10_242 (hget L02) rfl ?_
            refine pw_go tk_X10_recall rfl rfl ?_
            refine pw_icN (D2 0 0 9) (20) tk_X10_recall rfl rfl rfl (by omega) (by omega) (fun c => ?_) (fun c => ?_)
            · have c2 : D2 0 0 9 < 20 := c
              rw [if_neg (show ¬ D 99 0 17 = 20 by omega)] at hQ
              iterate 2 refine pw_go tk_X10_recall rfl rfl ?_
              refine pw_get tk_X10_recall rfl fl_X10_242 (hget L02) rfl ?_
              refine pw_go tk_X10_recall rfl rfl ?_
              refine pw_addN (D2 99 0 17) (1) tk_X10_recall rfl (congrArg nI e09) rfl ?_
              refine pw_put tk_X10_recall rfl fp_X10_242 (hget L02) rfl rfl (Nat.le_of_ble_eq_true rfl) ?_
              refine pw_h (h' := hp M A (reT D2)) (hset (va_up (D2 0 0) 9 (D2 99 0 17 + 1)) I2.1.1 L02) ?_
              have W3 : Wf (reT D2) A M := I2.1.1.put (by decide) (I2.1.1.ok (k := 0) (i := 0) (by have := m2.1.1; omega))
              have N3 : reT D2 99 0 = D2 99 0 := dp_k (by decide)
              refine pw_go tk_X10_recall rfl rfl ?_
              refine pw_new tk_X10_recall rfl nw_X10_247 (fun q qf qg => ?_)
              iterate 4 refine pw_go tk_X10_recall rfl rfl ?_
              have k108 : ∀ o : Bool, o = decide (z = nI 102) → PW G mm_X10_recall Q 5 1 6 (fw_up (hp M A (reT D2)) q (.inr (9, [.null, .int 0, .int 0, .int 0, .int 0, .int 0, .int 0, .int 0, .null]))) 108 [(0, .ref (A 0 0)), (4, .ref (A 8 p))] [.int (bI o), .int (nI d), .ref (A 8 p), .ref q, .ref q, .ref (A 8 p)] := by
                intro o ho
                have nq : A 0 0 ≠ q := fun z => by
                  have := hget (D := reT D2) L02
                  rw [z, qf] at this
                  cases this
                have ho0 : fw_up (hp M A (reT D2)) q (.inr (9, [.null, .int 0, .int 0, .int 0, .int 0, .int 0, .int 0, .int 0, .null])) (A 0 0) = some (kRow A 0 0 (reT D2 0 0)) := by
                  rw [fw_up_n nq]
                  exact hget (D := reT D2) L02
                have e7 : reT D2 0 0 7 = D2 99 0 13 := by
                  unfold reT
                  rw [dp_s]
                  exact e07
                refine pw_go tk_X10_recall rfl rfl ?_
                refine pw_get tk_X10_recall rfl fl_X10_151 ho0 rfl ?_
                refine pw_i (congrArg nI e7) ?_
                refine pw_ci tk_X10_recall rfl ca_X6_init (Or.inl lk_X10_249) iv_X6_init rfl rfl (As := [.ref (A 8 p), .int (nI d), .int (bI o), .int (nI (D2 99 0 13))]) (rest := [.ref q, .ref (A 8 p)]) (kc' := 1) (ks' := 6) (n_Recall fw_up_s) (fun _ _ z => z) rfl rfl rfl (Nat.le_of_ble_eq_true rfl) (by decide) (by decide) ?_
                rintro _ _ ⟨rfl, rfl⟩
                refine pw_h fw_up_2 ?_
                rw [← ho] at hQ
                clear ho
                generalize hb1 : (if o = true then 1 else 0) = b1 at *
                have eb1 : bN b1 = bI o := by rw [← hb1]; exact bN_b o
                obtain ⟨hh, W4⟩ := hnew (g := rcG p d b1 (D2 99 0 13)) (k := 17) (n := D2 99 0 17) (q := q) W3 qf (by rw [N3]) (by decide) ⟨(show p < dn (reT D2) 17 (D2 99 0 17) _ 99 0 8 by rw [dn_N, if_neg (by decide), N3]; exact hp2), Nat.zero_le _⟩
                refine pw_h (h' := fw_up (hp M A (reT D2)) q (kRow (an A 17 (D2 99 0 17) q) 17 (D2 99 0 17) (rcG p d b1 (D2 99 0 13)))) (by rw [← eb1]; rfl) ?_
                refine pw_h hh ?_
                have hq : an A 17 (D2 99 0 17) q 17 (D2 99 0 17) = q := an_s
                have hA : ∀ k j, k ≠ 17 → an A 17 (D2 99 0 17) q k j = A k j := fun k j hk => by
                  unfold an
                  rw [if_neg hk]
                obtain ⟨A1, hA1⟩ : ∃ A1, A1 = an A 17 (D2 99 0 17) q := ⟨_, rfl⟩
                rw [← hA1] at W4 hq hA ⊢
                generalize mn M 17 (D2 99 0 17) q = M1 at *
                refine pw_e (st2 := [.ref (A1 17 (D2 99 0 17)), .ref (A1 8 p)]) (by rw [hq, hA 8 p (by decide)]; rfl) ?_
                show PW G mm_X10_recall _ 5 1 6 (hp M1 A1 (reU D2 p d b1)) _ _ _
                have W4 : Wf (reU D2 p d b1) A1 M1 := W4
                have hU8 : reU D2 p d b1 8 = D2 8 := reU_k (by decide)
                have hp4 : p < reU D2 p d b1 99 0 8 := by rw [reU_N, if_neg (by decide)]; exact hp2
                have hr4 : D2 99 0 17 < reU D2 p d b1 99 0 17 := by rw [reU_N, if_pos rfl]; omega
                refine pw_cv tk_X10_recall rfl ca_X5_takeRecall lk_X10_252 iv_X5_takeRecall sv_X5_takeRecall (hget (W4.lv hp4)) rfl rfl (As := [.ref (A1 17 (D2 99 0 17))]) (rest := []) (kc' := 1) (ks' := 6) (p_takeR W4 hp4 hr4) rfl rfl rfl (Nat.le_of_ble_eq_true rfl) (Nat.le_of_eq (Nat.zero_add _)) (Nat.le_of_eq (Nat.zero_add _)) ?_ ?_
                · rintro _ _ ⟨_, rfl, rfl, rfl⟩
                  subst hQ
                  exact pw_iret tk_X10_recall rfl rfl rfl ⟨_, rfl, ⟨_, A1, M1, rfl, ic_of (tkR_W W4 hp4 hr4) (icd_rec (ic_d I2) hp2 (by omega) (by omega)), re_es s2, (sc_hi s2).tr re_hi, hA 0 0 (by decide), hA 30 0 (by decide), hA 46 0 (by decide), hA 70 0 (by decide), hA 71 0 (by decide)⟩, rfl, by rw [hU8, ep8]⟩
                · exact fun E h' z => z.elim
              refine pw_go tk_X10_recall rfl rfl ?_
              refine pw_br tk_X10_recall rfl rfl (fun c3 => ?_) (fun c3 => ?_)
              · have c3 : ¬ z = nI 102 := c3
                refine pw_go tk_X10_recall rfl rfl ?_
                refine pw_M [(0, .ref (A 0 0)), (4, .ref (A 8 p))] ⟨rfl, rfl, trivial⟩ ?_
                exact k108 false (by rw [decide_eq_false c3])
              · have c3 : z = nI 102 := Decidable.not_not.mp c3
                iterate 2 refine pw_go tk_X10_recall rfl rfl ?_
                refine pw_M [(0, .ref (A 0 0)), (4, .ref (A 8 p))] ⟨rfl, rfl, trivial⟩ ?_
                exact k108 true (by rw [decide_eq_true c3])
            · have c2 : ¬ D2 0 0 9 < 20 := c
              rw [if_pos (show D 99 0 17 = 20 by omega)] at hQ
              subst hQ
              exact pw_throw hl rfl th_95_245 tk_X10_recall rfl rfl rfl rfl rfl rfl ⟨kept_done ⟨D2, rfl, I2, s2⟩, List.mem_cons_of_mem _ (List.mem_cons_of_mem _ (List.mem_cons_of_mem _ List.mem_cons_self))⟩
          · have c : ¬ stt D2 (sB (D2 10 p)) d (wlS D p) (rlS D p) = 108 := c
            rw [if_neg c] at hQ
            subst hQ
            exact pw_throw hl rfl th_118_240 tk_X10_recall rfl rfl rfl rfl rfl rfl ⟨kept_done ⟨D2, rfl, I2, s2⟩, List.mem_cons_of_mem _ (List.mem_cons_of_mem _ List.mem_cons_self)⟩
        · exact fun E h' z => z.elim
      iterate 2 refine pw_go tk_X10_recall rfl rfl ?_
      refine pw_br tk_X10_recall rfl rfl (fun c => ?_) (fun c => ?_)
      · have c : z = nI 102 := c
        refine pw_M [(0, .ref (A 0 0)), (2, .int y), (3, .int z), (4, .ref (A 8 p))] ⟨rfl, rfl, rfl, rfl, trivial⟩ ?_
        exact k33 (by rw [decide_eq_true c]; rfl)
      iterate 2 refine pw_go tk_X10_recall rfl rfl ?_
      refine pw_br tk_X10_recall rfl rfl (fun c2 => ?_) (fun c2 => ?_)
      · have c2 : z = nI 115 := c2
        refine pw_M [(0, .ref (A 0 0)), (2, .int y), (3, .int z), (4, .ref (A 8 p))] ⟨rfl, rfl, rfl, rfl, trivial⟩ ?_
        exact k33 (by rw [decide_eq_true c2, Bool.or_true])
      have c : ¬ z = nI 102 := c
      have c2 : ¬ z = nI 115 := c2
      subst hQ
      exact pw_throw hl rfl th_46_231 tk_X10_recall rfl rfl rfl rfl rfl rfl ⟨done_0 I0, by unfold rcK; rw [decide_eq_false c, decide_eq_false c2, pdK_2 hp8 (by omega) (by rw [Bool.or_false, Bool.and_false]), if_neg (by decide)]; exact List.mem_cons_of_mem _ List.mem_cons_self⟩
    · rintro E _ ⟨⟨rfl, rfl⟩, e⟩
      refine px_out rfl ⟨done_0 I0, ?_⟩
      unfold rcK
      rw [pdK_2 hp8 (by omega) (by rw [e, Bool.false_and]), if_neg (by decide)]
      exact List.mem_cons_of_mem _ List.mem_cons_self
  · rintro E _ ⟨⟨rfl, rfl⟩, e⟩
    refine px_out rfl ⟨done_0 I0, ?_⟩
    unfold rcK
    rw [pdK_1 e, if_neg (by decide)]
    exact List.mem_cons_self
end FACE8

