/-! the face: warrants -/
section FACEA
variable {G : fw_G} {D : fw_DB} {A : fw_AD} {M : fw_MP} {n : Nat}
theorem tkW_W {p r : Nat} (W : Wf D A M) (hp8 : p < D 99 0 8) (hr : r < D 99 0 13) : Wf (tkW D p r) A M := by
  unfold tkW
  obtain ⟨q1, q2, q3, q4, q5, q6, q7, q8⟩ := W.ok hp8
  by_cases c : D 8 p 3 = 0
  · rw [if_pos c]
    exact W.put (by decide) ⟨q1, q2, (show r + 1 ≤ D 99 0 13 by omega), (show r + 1 ≤ D 99 0 13 by omega), q5, q6, q7, q8⟩
  · rw [if_neg c]
    have hk := W.ok (k := 13) (i := D 8 p 3 - 1) (by omega)
    exact (W.put (k := 13) (i := D 8 p 3 - 1) (g := va_up (D 13 (D 8 p 3 - 1)) 18 (r + 1)) (by decide) ⟨hk.1, hk.2.1, hk.2.2.1, hk.2.2.2.1, hk.2.2.2.2.1, (show r + 1 ≤ D 99 0 13 by omega)⟩).put (by decide) ⟨q1, q2, q3, (show r + 1 ≤ D 99 0 13 by omega), q5, q6, q7, q8⟩
def bhC (b : Int32) : Nat := if b = -1 then 0 else b.toNatClampNeg + 1
def wrGd (k o p y m d : Int32) : Bool := kdI k && (inI o 0 (nI 19999) && (inI p o (nI 19999) && smI y m d))
def wrK (D : fw_DB) (x k o p y m d b : Int32) : Nat := if (knI x (D 99 0 8) && (decide (b = -1) || knI b (D 99 0 13))) = false then 1 else if wrGd k o p y m d = false then 2 else if 0 < bhC b ∧ D 13 (bhC b - 1) 1 ≠ x.toNatClampNeg then 3 else if D 99 0 13 = 24 then 4 else 0
theorem kdI_to {k : Int32} (h : kdI k = true) : ∃ c, k = nI c ∧ (c = 102 ∨ c = 108 ∨ c = 100 ∨ c = 115) := by
  unfold kdI at h
  simp only [Bool.or_eq_true, decide_eq_true_eq] at h
  rcases h with ((h | h) | h) | h
  · exact ⟨102, h, Or.inl rfl⟩
  · exact ⟨108, h, Or.inr (Or.inl rfl)⟩
  · exact ⟨100, h, Or.inr (Or.inr (Or.inl rfl))⟩
  · exact ⟨115, h, Or.inr (Or.inr (Or.inr rfl))⟩
theorem fw_up_q2 {H : fw_H} {q q2 : Nat} {x y a : fw_O} : fw_up (fw_up (fw_up H q x) q2 a) q y = fw_up (fw_up H q2 a) q y := funext fun e => by
  unfold fw_up
  by_cases h : e = q
  · rw [if_pos h, if_pos h]
  · simp only [if_neg h]
theorem hnew3 {k q m : Nat} {g : Nat → Nat} {o : fw_O} (W : Wf D A M) (hq : hp M A D q = none) (hn : m = D 99 0 k) (hk : k ≠ 99) (hr : rOk (dn D k m g 99 0) k m g) (ho : ∀ A' : fw_AD, A' k m = q → (∀ k' j, k' ≠ k → A' k' j = A k' j) → (∀ j, j ≠ m → A' k j = A k j) → o = kRow A' k m g) : ∃ A' M', fw_up (hp M A D) q o = hp M' A' (dn D k m g) ∧ Wf (dn D k m g) A' M' ∧ A' k m = q ∧ (∀ k' j, k' ≠ k → A' k' j = A k' j) ∧ ∀ j, j ≠ m → A' k j = A k j := by
  have hA : ∀ k' j, k' ≠ k → an A k m q k' j = A k' j := fun k' j h => by
    unfold an
    rw [if_neg h]
  obtain ⟨h1, h2⟩ := hnew W hq hn hk hr
  exact ⟨_, _, by rw [ho (an A k m q) an_s hA (fun j hj => an_n hj)]; exact h1, h2, an_s, hA, fun j hj => an_n hj⟩
theorem m_inj {k i j : Nat} (W : Wf D A M) (hi : i < D 99 0 k) (hj : j < D 99 0 k) (hk : k ≠ 46) (e : A k i = A k j) : i = j := by
  have h1 := W.lv hi hk
  have h2 := W.lv hj hk
  rw [e, h2] at h1
  cases h1
  rfl
set_option maxRecDepth 20000 in
theorem f_warrant {x k o pa y u d b : Int32} (hl : G.1.stackTraces = false) (I : IC n D A M) : PM G 3 12 90 mm_X10_warrant [.ref (A 0 0), .int x, .int k, .int o, .int pa, .int y, .int u, .int d, .int b] (hp M A D) (fw_qI (fun r h' => done n D A (wrS D (trG y.toNatClampNeg u.toNatClampNeg d.toNatClampNeg) (wrG x.toNatClampNeg k.toNatClampNeg o.toNatClampNeg pa.toNatClampNeg (bhC b))) h' ∧ wrK D x k o pa y u d b = 0 ∧ r = nI (D 99 0 13)) (fun E h' => done n D A D h' ∧ exI (wrK D x k o pa y u d b) E [(1, eIO), (2, eIA), (3, eUO), (4, eIS)])) := by
  refine pm_of (by decide +kernel) rfl rfl rfl ?_
  have g := I.1
  have m := I.2.1
  have n8 := m.2.2.2.2.1
  have n24 := g.2.2.2
  obtain ⟨nn9, nn10, nn11, nn12, nn14, nn15⟩ := I.2.2.2.1
  have L0 := g.1.lv (k := 0) (i := 0) (by have := m.1.1; omega)
  obtain ⟨Q, hQ⟩ : ∃ Q, Q = (fw_qI (fun r h' => done n D A (wrS D (trG y.toNatClampNeg u.toNatClampNeg d.toNatClampNeg) (wrG x.toNatClampNeg k.toNatClampNeg o.toNatClampNeg pa.toNatClampNeg (bhC b))) h' ∧ wrK D x k o pa y u d b = 0 ∧ r = nI (D 99 0 13)) (fun E h' => done n D A D h' ∧ exI (wrK D x k o pa y u d b) E [(1, eIO), (2, eIA), (3, eUO), (4, eIS)])) := ⟨_, rfl⟩
  rw [← hQ]
  iterate 2 refine pw_go tk_X10_warrant rfl rfl ?_
  refine pw_cv tk_X10_warrant rfl ca_X10_knownPerson lk_X10_134 iv_X10_knownPerson sv_X10_knownPerson (hget L0) rfl rfl (As := [.int x]) (rest := []) (kc' := 11) (ks' := 84) (q_person hl g m) rfl rfl rfl (Nat.le_of_ble_eq_true rfl) (by decide) (by decide) ?_ ?_
  · rintro _ _ ⟨_, rfl, rfl, p, hp8, rfl, rfl⟩
    have hx := knI_of hp8 (by omega)
    rw [nI_tn (by omega)] at hQ
    have k23 : ∀ cb, cb = bhC b → cb ≤ D 99 0 13 → (decide (b = -1) || knI b (D 99 0 13)) = true → PW G mm_X10_warrant Q 3 10 78 (hp M A D) 23 [(0, .ref (A 0 0)), (2, .int k), (3, .int o), (4, .int pa), (5, .int y), (6, .int u), (7, .int d), (9, .ref (A 8 p))] [va_rf (rq (A 13) cb)] := by
      intro cb hc hcn hkn
      have eK1 : wrK D (nI p) k o pa y u d b = if wrGd k o pa y u d = false then 2 else if 0 < bhC b ∧ D 13 (bhC b - 1) 1 ≠ p then 3 else if D 99 0 13 = 24 then 4 else 0 := by
        unfold wrK
        rw [hx, hkn, if_neg (by decide), nI_tn (by omega)]
      rw [eK1, ← hc] at hQ
      clear hc hkn eK1
      refine pw_astoreq tk_X10_warrant rfl rfl rfl ?_
      refine pw_go tk_X10_warrant rfl rfl ?_
      refine pw_cs tk_X10_warrant rfl ca_X10_requireKind lk_X10_138 sx_X10_requireKind (As := [.int k]) (rest := []) (kc' := 9) (ks' := 72) (q_kind hl) rfl rfl rfl (Nat.le_of_ble_eq_true rfl) (by decide) (by decide) ?_ ?_
      · rintro _ _ ⟨rfl, rfl, e1⟩
        refine pw_go tk_X10_warrant rfl rfl ?_
        refine pw_cs tk_X10_warrant rfl ca_X10_requireDay lk_X10_63 sx_X10_requireDay (As := [.int o]) (rest := []) (kc' := 8) (ks' := 66) (q_day hl) rfl rfl rfl (Nat.le_of_ble_eq_true rfl) (by decide) (by decide) ?_ ?_
        · rintro _ _ ⟨rfl, rfl, e2⟩
          iterate 3 refine pw_go tk_X10_warrant rfl rfl ?_
          refine pw_cs tk_X10_warrant rfl ca_X10_requireRange lk_X10_84 sx_X10_requireRange (As := [.int pa, .int o, .int (nI 19999)]) (rest := []) (kc' := 7) (ks' := 60) (q_range hl) rfl rfl rfl (Nat.le_of_ble_eq_true rfl) (by decide) (by decide) ?_ ?_
          · rintro _ _ ⟨rfl, rfl, e3⟩
            iterate 3 refine pw_go tk_X10_warrant rfl rfl ?_
            refine pw_cs tk_X10_warrant rfl ca_X10_requireSomeTerm lk_X10_142 sx_X10_requireSomeTerm (As := [.int y, .int u, .int d]) (rest := []) (kc' := 3) (ks' := 36) (q_some hl) rfl rfl rfl (Nat.le_of_ble_eq_true rfl) (by decide) (by decide) ?_ ?_
            · rintro _ _ ⟨rfl, rfl, e4⟩
              have eg : wrGd k o pa y u d = true := by
                unfold wrGd
                rw [e1, e2, e3, e4]
                rfl
              rw [eg, if_neg (show ¬ (true = false) by decide)] at hQ
              clear eg
              obtain ⟨kk, rfl, hkk⟩ := kdI_to e1
              obtain ⟨oo, rfl, -, hoo⟩ := inI_N (a := 0) e2 (by omega) (by omega)
              obtain ⟨pp, rfl, hpo, hpp⟩ := inI_N e3 (by omega) (by omega)
              obtain ⟨ty, tm, td, rfl, rfl, rfl, hty, htm, htd⟩ := smI_to e4
              rw [nI_tn (by omega), nI_tn (by omega), nI_tn (by omega), nI_tn (by omega), nI_tn (by omega), nI_tn (by omega)] at hQ
              have L3 := g.1.lv (k := 3) (i := 0) (by have := m.1.2.2.2.1; omega)
              have e07 : D 0 0 7 = D 99 0 13 := m.2.2.1.2.2.1
              have k76 : ¬ (0 < cb ∧ D 13 (cb - 1) 1 ≠ p) → PW G mm_X10_warrant Q 3 3 36 (hp M A D) 76 [(0, .ref (A 0 0)), (2, .int (nI kk)), (3, .int (nI oo)), (4, .int (nI pp)), (5, .int (nI ty)), (6, .int (nI tm)), (7, .int (nI td)), (9, .ref (A 8 p)), (10, va_rf (rq (A 13) cb))] [] := by
                intro hco
                rw [if_neg hco] at hQ
                refine pw_go tk_X10_warrant rfl rfl ?_
                refine pw_get tk_X10_warrant rfl fl_X10_151 (hget L0) rfl ?_
                refine pw_go tk_X10_warrant rfl rfl ?_
                refine pw_get tk_X10_warrant rfl fl_X10_23 (hget L0) rfl ?_
                refine pw_alen tk_X10_warrant rfl (hget L3) (by decide) ?_
                refine pw_icN (D 0 0 7) (24) tk_X10_warrant rfl rfl rfl (by omega) (by omega) (fun c => ?_) (fun c => ?_)
                · have c9 : D 0 0 7 < 24 := c
                  rw [if_neg (show ¬ D 99 0 13 = 24 by omega)] at hQ
                  have hW : D 99 0 13 < 24 := by omega
                  have hfit : fits .char (.int (nI kk)) = true := by
                    rcases hkk with h | h | h | h <;> rw [h] <;> rfl
                  refine pw_new tk_X10_warrant rfl nw_X10_75 (fun qt qtf qtg => ?_)
                  iterate 4 refine pw_go tk_X10_warrant rfl rfl ?_
                  refine pw_ci tk_X10_warrant rfl ca_X8_init (Or.inl lk_X10_77) iv_X8_init rfl rfl (As := [.int (nI ty), .int (nI tm), .int (nI td)]) (rest := [.ref qt]) (kc' := 2) (ks' := 33) (n_Term fw_up_s) (fun _ _ z => z) rfl rfl rfl (Nat.le_of_ble_eq_true rfl) (by decide) (by decide) ?_
                  rintro _ _ ⟨rfl, rfl⟩
                  refine pw_h fw_up_2 ?_
                  obtain ⟨A1, M1, h1, W1, a1, b1⟩ := hnew2 (k := 15) (m := D 99 0 13) (g := trG ty tm td) (o := .inr (11, [.int (nI ty), .int (nI tm), .int (nI td)])) g.1 qtf (by omega) (by decide) trivial (fun A' _ _ => rfl)
                  rw [h1]
                  clear h1
                  have hA13 : A1 13 = A 13 := funext fun j => b1 13 j (by decide)
                  refine pw_e (st2 := [va_rf (some qt)]) rfl ?_
                  refine pw_astoreq tk_X10_warrant rfl rfl (fw_ok1q rfl) ?_
                  refine pw_M [(0, .ref (A1 0 0)), (2, .int (nI kk)), (3, .int (nI oo)), (4, .int (nI pp)), (9, .ref (A1 8 p)), (10, va_rf (rq (A1 13) cb)), (11, .ref (A1 15 (D 99 0 13)))] ⟨congrArg (fun z => some (Value.ref z)) (b1 0 0 (by decide)).symm, rfl, rfl, rfl, congrArg (fun z => some (Value.ref z)) (b1 8 p (by decide)).symm, congrArg (fun z => some (va_rf (rq z cb))) hA13.symm, congrArg (fun z => some (Value.ref z)) a1.symm, trivial⟩ ?_
                  show PW G mm_X10_warrant _ 3 2 33 (hp M1 A1 (wr1 D (trG ty tm td))) _ _ _
                  have W1 : Wf (wr1 D (trG ty tm td)) A1 M1 := W1
                  have N1 : ∀ f, wr1 D (trG ty tm td) 99 0 f = if f = 15 then D 99 0 13 + 1 else D 99 0 f := fun f => dn_N f
                  have s0 : wr1 D (trG ty tm td) 0 = D 0 := dn_k (by decide) (by decide)
                  have L01 := W1.lv (k := 0) (i := 0) (by rw [N1, if_neg (by decide)]; have := m.1.1; omega)
                  refine pw_new tk_X10_warrant rfl nw_X10_21 (fun qw qwf qwg => ?_)
                  have nqw : A1 0 0 ≠ qw := fun z => by
                    have := hget (D := wr1 D (trG ty tm td)) L01
                    rw [z, qwf] at this
                    cases this
                  iterate 2 refine pw_go tk_X10_warrant rfl rfl ?_
                  refine pw_get tk_X10_warrant rfl fl_X10_151 (show _ = some (kRow A1 0 0 (wr1 D (trG ty tm td) 0 0)) from by rw [fw_up_n nqw]; exact hget L01) rfl ?_
                  refine pw_i (x' := nI (D 99 0 13)) (by rw [s0]; exact congrArg nI e07) ?_
                  iterate 4 refine pw_go tk_X10_warrant rfl rfl ?_
                  refine pw_aloadq tk_X10_warrant rfl rfl rfl ?_
                  refine pw_go tk_X10_warrant rfl rfl ?_
                  refine pw_ci tk_X10_warrant rfl ca_X9_init (Or.inl lk_X10_156) iv_X9_init rfl rfl (As := [.int (nI (D 99 0 13)), .ref (A1 8 p), .int (nI kk), .int (nI oo), .int (nI pp), va_rf (rq (A1 13) cb), .ref (A1 15 (D 99 0 13))]) (rest := [.ref qw]) (kc' := 0) (ks' := 0) (n_Warrant (x := nI (D 99 0 13)) (ow := A1 8 p) (ah := rq (A1 13) cb) (te := A1 15 (D 99 0 13)) (nar_c (by omega)) hfit fw_up_s) (fun _ _ z => z) rfl rfl rfl (Nat.le_of_ble_eq_true rfl) (by decide) (by decide) ?_
                  rintro _ _ ⟨rfl, qy, qyf, rfl⟩
                  refine pw_h fw_up_q2 ?_
                  obtain ⟨nyw, qyf⟩ := fw_fr0 qyf
                  obtain ⟨A2, M2, h2, W2, a2, b2⟩ := hnew2 (k := 14) (m := D 99 0 13) (g := tyG) (o := .inr (10, [.int 0, .int 0, .int 0, .int 0, .int 0, .int 0, .int 0])) W1 qyf (by rw [N1, if_neg (by decide)]; omega) (by decide) trivial (fun A' _ _ => by
                    show _ = Sum.inr (10, [_, _, _, _, _, _, Value.int (nO 1000000)])
                    rw [show nO 1000000 = 0 by decide]
                    rfl)
                  rw [h2]
                  have wq : hp M2 A2 (dn (wr1 D (trG ty tm td)) 14 (D 99 0 13) tyG) qw = none := by rw [← h2]; exact fw_up_0 nyw.symm qwf
                  clear h2
                  have N2 : ∀ f, wr2 D (trG ty tm td) 99 0 f = if f = 14 ∨ f = 15 then D 99 0 13 + 1 else D 99 0 f := fun f => by
                    unfold wr2
                    rw [dn_N, N1]
                    by_cases z : f = 14
                    · rw [if_pos z, if_pos (by omega)]
                    · rw [if_neg z]
                      by_cases z2 : f = 15
                      · rw [if_pos z2, if_pos (by omega)]
                      · rw [if_neg z2, if_neg (by omega)]
                  have hA2 : A2 13 = A1 13 := funext fun j => b2 13 j (by decide)
                  obtain ⟨A3, M3, h3, W3, a3, b3, c3⟩ := hnew3 (k := 13) (m := D 99 0 13) (g := wrG p kk oo pp cb) (o := .inr (12, [.int (nI (D 99 0 13)), .ref (A1 8 p), .int (nI kk), .int (nI oo), .int (nI pp), va_rf (rq (A1 13) cb), .ref qy, .null, .ref (A1 15 (D 99 0 13)), .int (-1), .int (-1), .int 0, .int 0, .int 0, .int (nI 1000000), .int 0, .int (nI 1000000), .int 0, .null])) W2 wq (show D 99 0 13 = wr2 D (trG ty tm td) 99 0 13 by rw [N2, if_neg (by omega)]) (by decide) (by
                    have N3 : ∀ f, dn (wr2 D (trG ty tm td)) 13 (D 99 0 13) (wrG p kk oo pp cb) 99 0 f = if f = 13 then D 99 0 13 + 1 else wr2 D (trG ty tm td) 99 0 f := fun f => dn_N f
                    refine ⟨?_, ?_, ?_, Nat.zero_le _, ?_, Nat.zero_le _⟩
                    · show p < dn (wr2 D (trG ty tm td)) 13 (D 99 0 13) (wrG p kk oo pp cb) 99 0 8
                      rw [N3, if_neg (by decide), N2, if_neg (by omega)]
                      exact hp8
                    · show cb ≤ dn (wr2 D (trG ty tm td)) 13 (D 99 0 13) (wrG p kk oo pp cb) 99 0 13
                      rw [N3, if_pos rfl]
                      omega
                    · show D 99 0 13 < dn (wr2 D (trG ty tm td)) 13 (D 99 0 13) (wrG p kk oo pp cb) 99 0 14
                      rw [N3, if_neg (by decide), N2, if_pos (by omega)]
                      omega
                    · show D 99 0 13 < dn (wr2 D (trG ty tm td)) 13 (D 99 0 13) (wrG p kk oo pp cb) 99 0 15
                      rw [N3, if_neg (by decide), N2, if_pos (by omega)]
                      omega) (fun A' _ hA' hB' => by
                    show _ = Sum.inr (12, [_, Value.ref (A' 8 p), _, _, _, va_rf (rq (A' 13) cb), Value.ref (A' 14 (D 99 0 13)), _, Value.ref (A' 15 (D 99 0 13)), _, _, _, _, _, _, _, _, Value.int (nO 1000000), _])
                    rw [show nO 1000000 = 0 by decide, hA' 8 p (by decide), hA' 14 _ (by decide), hA' 15 _ (by decide), b2 8 p (by decide), a2, b2 15 _ (by decide)]
                    have hr : rq (A' 13) cb = rq (A1 13) cb := rq_c hcn (fun j hj => by rw [hB' j (by omega), hA2])
                    rw [hr]
                    rfl)
                  rw [h3]
                  clear h3 wq
                  have hA : ∀ k j, k ≠ 13 ∧ k ≠ 14 ∧ k ≠ 15 → A3 k j = A k j := fun k j h => by rw [b3 k j h.1, b2 k j h.2.1, b1 k j h.2.2]
                  have hA8 : A1 8 p = A3 8 p := by rw [b3 8 p (by decide), b2 8 p (by decide)]
                  have hA0 : A1 0 0 = A3 0 0 := by rw [b3 0 0 (by decide), b2 0 0 (by decide)]
                  show PW G mm_X10_warrant _ 3 0 0 (hp M3 A3 (wr3 D (trG ty tm td) (wrG p kk oo pp cb))) _ _ _
                  have W3 : Wf (wr3 D (trG ty tm td) (wrG p kk oo pp cb)) A3 M3 := W3
                  refine pw_go tk_X10_warrant rfl rfl ?_
                  refine pw_M [(0, .ref (A3 0 0)), (9, .ref (A3 8 p)), (12, .ref (A3 13 (D 99 0 13)))] ⟨congrArg (fun z => some (Value.ref z)) hA0, congrArg (fun z => some (Value.ref z)) hA8, congrArg (fun z => some (Value.ref z)) a3.symm, trivial⟩ ?_
                  clear W1 W2 a1 b1 a2 b2 b3 c3 hA2 hA13 hA8 hA0 L01 nqw qwf qyf nyw
                  generalize htr : trG ty tm td = t at *
                  have ht2 : t 0 ≤ 40 ∧ t 1 ≤ 11 ∧ t 2 ≤ 9999 := by
                    rw [← htr]
                    exact ⟨hty, htm, htd⟩
                  have hg0 : ∀ f, f ≠ 7 → ∀ v, va_up (wrG p kk oo pp cb) 7 v f = wrG p kk oo pp cb f := fun f hf v => va_up_n hf
                  obtain ⟨gi, hgi⟩ : ∃ gi : Nat → Nat → Nat, gi = fun i => va_up (wrG p kk oo pp cb) 7 (lwN (wr3 D zz (wrG p kk oo pp cb)) (D 99 0 13) (min i (D 99 0 7))) := ⟨_, rfl⟩
                  have n7 := m.2.2.2.1
                  have WG : ∀ i, Wf (wr3 D t (gi i)) A3 M3 := fun i => by
                    have := W3.put (k := 13) (i := D 99 0 13) (g := gi i) (by decide) (by
                      have hk := W3.ok (k := 13) (i := D 99 0 13) (by rw [wr3_N, if_pos (by omega)]; omega)
                      rw [wr3_13, if_pos rfl] at hk
                      rw [hgi]
                      refine ⟨hk.1, hk.2.1, hk.2.2.1, ?_, hk.2.2.2.2⟩
                      show lwN _ _ _ ≤ _
                      rw [wr3_N, if_neg (by omega)]
                      have := lwN_le (S := wr3 D zz (wrG p kk oo pp cb)) (w := D 99 0 13) (min i (D 99 0 7))
                      have := Nat.min_le_right i (D 99 0 7)
                      omega)
                    rw [wr3_set] at this
                    exact this
                  have NN : ∀ g f, wr3 D t g 99 0 f = if f = 13 ∨ f = 14 ∨ f = 15 then D 99 0 13 + 1 else D 99 0 f := fun g f => wr3_N f
                  have e0 : wr3 D t (wrG p kk oo pp cb) = wr3 D t (gi 0) := by
                    congr 1
                    funext f
                    rw [hgi]
                    show _ = if f = 7 then _ else _
                    by_cases z : f = 7
                    · rw [if_pos z, Nat.min_eq_left (Nat.zero_le _), z]
                      rfl
                    · rw [if_neg z]
                  have L03 := W3.lv (k := 0) (i := 0) (by rw [NN, if_neg (by omega)]; have := m.1.1; omega)
                  have L13 := W3.lv (k := 1) (i := 0) (by rw [NN, if_neg (by omega)]; have := m.1.2.1; omega)
                  have L33 := W3.lv (k := 3) (i := 0) (by rw [NN, if_neg (by omega)]; have := m.1.2.2.2.1; omega)
                  have L133 := W3.lv (k := 13) (i := D 99 0 13) (by rw [NN, if_pos (by omega)]; omega)
                  have hp3 : ∀ g, p < wr3 D t g 99 0 8 := fun g => by rw [NN, if_neg (by omega)]; exact hp8
                  have hw3 : ∀ g, D 99 0 13 < wr3 D t g 99 0 13 := fun g => by rw [NN, if_pos (by omega)]; omega
                  have L83 := W3.lv (hp3 _)
                  refine pw_go tk_X10_warrant rfl rfl ?_
                  refine pw_get tk_X10_warrant rfl fl_X10_11 (hget L03) rfl ?_
                  iterate 2 refine pw_go tk_X10_warrant rfl rfl ?_
                  refine pw_alen tk_X10_warrant rfl (hget L13) (by decide) ?_
                  iterate 3 refine pw_go tk_X10_warrant rfl rfl ?_
                  have loop : ∀ (k i : Nat), i + k = 8 → PW G mm_X10_warrant Q 3 0 0 (hp M3 A3 (wr3 D t (gi i))) 150 [(0, .ref (A3 0 0)), (9, .ref (A3 8 p)), (12, .ref (A3 13 (D 99 0 13))), (13, .ref (A3 1 0)), (14, .int (nI 8)), (15, .int (nI i))] [] := by
                    intro k
                    induction k with
                    | zero =>
                      intro i hi
                      have hi : i = 8 := by omega
                      subst hi
                      have hgl : wrok D (gi 8) p := by
                        have hm8 : min 8 (D 99 0 7) = D 99 0 7 := Nat.min_eq_right n7
                        have q7 : gi 8 7 = lwN (wr3 D zz (wrG p kk oo pp cb)) (D 99 0 13) (D 99 0 7) := by
                          rw [hgi]
                          show lwN _ _ (min 8 (D 99 0 7)) = _
                          rw [hm8]
                        have qf : ∀ f, f ≠ 7 → gi 8 f = wrG p kk oo pp cb f := fun f hf => by rw [hgi]; exact hg0 f hf _
                        refine ⟨qf 1 (by decide), by rw [qf 2 (by decide)]; exact hkk, by rw [qf 3 (by decide), qf 4 (by decide)]; exact hpo, by rw [qf 4 (by decide)]; show pp < 20000; omega, fun z => ?_, ⟨qf 9 (by decide), qf 10 (by decide), qf 11 (by decide), qf 12 (by decide)⟩, ⟨qf 14 (by decide), qf 15 (by decide), qf 16 (by decide), qf 17 (by decide), qf 18 (by decide)⟩, ?_⟩
                        · rw [qf 5 (by decide)] at z ⊢
                          have z : 0 < cb := z
                          show cb - 1 < _ ∧ D 13 (cb - 1) 1 = p
                          exact ⟨by omega, Decidable.byContradiction (fun z2 => hco ⟨z, z2⟩)⟩
                        · rw [q7]
                          exact lwN_c2 (fun i hi => by
                            rw [show wr3 D zz (gi 8) 7 = wr3 D zz (wrG p kk oo pp cb) 7 from (wr3_k (by decide)).trans (wr3_k (by decide)).symm, wr3_13, if_pos rfl, wr3_13, if_pos rfl]
                            exact (wapp_f (fun f hf => qf f hf)).symm)
                      have qf : ∀ f, f ≠ 7 → gi 8 f = wrG p kk oo pp cb f := fun f hf => by rw [hgi]; exact hg0 f hf _
                      have W8 := WG 8
                      clear hgi e0 WG
                      generalize gi 8 = g8 at *
                      have es8 : esq (wrS D t (wrG p kk oo pp cb)) (wrD D t g8 p) := esq.tr (fun q j f hf => by
                        unfold wrS
                        by_cases c1 : q = 13
                        · subst c1
                          by_cases c2 : j = D 99 0 13
                          · rw [c2, dn_s (by decide), dn_s (by decide), qf f (fun z => by rw [z] at hf; cases hf)]
                          · rw [dn_i c2 (by decide), dn_i c2 (by decide)]
                        · by_cases c9 : q = 99
                          · subst c9
                            by_cases c2 : j = 0
                            · subst c2
                              rw [dn_N, dn_N, dn_N, dn_N]
                            · rw [dn_i9 c2 (by decide), dn_i9 c2 (by decide), dn_i9 c2 (by decide), dn_i9 c2 (by decide)]
                          · rw [dn_k c1 c9, dn_k c1 c9]) wr_es
                      have W5 : Wf (wr5 D t g8 p) A3 M3 := tkW_W W8 (hp3 _) (hw3 _)
                      have h5 : ∀ q, q ≠ 8 → q ≠ 13 → wr5 D t g8 p q = wr3 D t g8 q := fun q h8 h13 => tkW_o.1 q h8 h13
                      have t3 : wr5 D t g8 p 3 0 0 = D 99 0 13 := by
                        rw [h5 3 (by decide) (by decide), wr3_k (by decide)]
                        exact m.2.1.2.2.1
                      have t0 : wr5 D t g8 p 0 0 7 = D 99 0 13 := by
                        rw [h5 0 (by decide) (by decide), wr3_k (by decide)]
                        exact e07
                      have t9 : wr5 D t g8 p 99 0 = wr3 D t g8 99 0 := by rw [h5 99 (by decide) (by decide)]
                      have W6 : Wf (wr6 D t g8 p) A3 M3 := W5.put (by decide) (show D 99 0 13 + 1 ≤ wr5 D t g8 p 99 0 13 by rw [t9, NN, if_pos (by omega)]; omega)
                      have u0 : wr6 D t g8 p 0 0 7 = D 99 0 13 := by
                        unfold wr6
                        rw [dp_k (by decide)]
                        exact t0
                      have W7 : Wf (wrD D t g8 p) A3 M3 := W6.put (by decide) (W6.ok (k := 0) (i := 0) (by
                        have : wr6 D t g8 p 99 0 0 = D 99 0 0 := by
                          unfold wr6
                          rw [dp_k (by decide), t9, NN, if_neg (by omega)]
                        have := m.1.1
                        omega))
                      iterate 2 refine pw_go tk_X10_warrant rfl rfl ?_
                      refine pw_icN (8) (8) tk_X10_warrant rfl rfl rfl (by omega) (by omega) (fun c => ?_) (fun c => absurd (Nat.le_refl 8) c)
                      iterate 2 refine pw_go tk_X10_warrant rfl rfl ?_
                      refine pw_cv tk_X10_warrant rfl ca_X5_takeWarrant lk_X10_159 iv_X5_takeWarrant sv_X5_takeWarrant (hget L83) rfl rfl (As := [.ref (A3 13 (D 99 0 13))]) (rest := []) (kc' := 0) (ks' := 0) (p_takeW W8 (hp3 _) (hw3 _)) rfl rfl rfl (Nat.le_of_ble_eq_true rfl) (Nat.le_of_eq (Nat.zero_add _)) (Nat.le_of_eq (Nat.zero_add _)) ?_ ?_
                      · rintro _ _ ⟨rfl, rfl⟩
                        refine pw_h (h' := hp M3 A3 (wr5 D t g8 p)) rfl ?_
                        refine pw_go tk_X10_warrant rfl rfl ?_
                        refine pw_get tk_X10_warrant rfl fl_X10_23 (hget L03) rfl ?_
                        refine pw_go tk_X10_warrant rfl rfl ?_
                        refine pw_get tk_X10_warrant rfl fl_X10_151 (hget L03) rfl ?_
                        refine pw_go tk_X10_warrant rfl rfl ?_
                        refine pw_aastN tk_X10_warrant rfl (hget L33) (by decide) (hget L133) rfl rfl (congrArg nI t0) (by omega) (by omega) ?_
                        refine pw_h (h' := hp M3 A3 (wr6 D t g8 p)) (by
                          rw [t3, rfs_up]
                          exact hset (va_up (wr5 D t g8 p 3 0) 0 (D 99 0 13 + 1)) W5 L33) ?_
                        iterate 2 refine pw_go tk_X10_warrant rfl rfl ?_
                        refine pw_get tk_X10_warrant rfl fl_X10_151 (hget L03) rfl ?_
                        refine pw_go tk_X10_warrant rfl rfl ?_
                        refine pw_addN (D 99 0 13) (1) tk_X10_warrant rfl (congrArg nI u0) rfl ?_
                        refine pw_put tk_X10_warrant rfl fp_X10_151 (hget L03) rfl rfl (Nat.le_of_ble_eq_true rfl) ?_
                        refine pw_h (h' := hp M3 A3 (wrD D t g8 p)) (hset (va_up (wr6 D t g8 p 0 0) 7 (D 99 0 13 + 1)) W6 L03) ?_
                        refine pw_go tk_X10_warrant rfl rfl ?_
                        refine pw_get tk_X10_warrant rfl fl_X10_163 (hget L133) rfl ?_
                        subst hQ
                        exact pw_iret tk_X10_warrant rfl rfl rfl ⟨_, rfl, ⟨_, A3, M3, rfl, ic_of W7 (icd_war (ic_d I) hp8 hW ht2 hgl), es8, wr_hi, hA 0 0 (by decide), hA 30 0 (by decide), hA 46 0 (by decide), hA 70 0 (by decide), hA 71 0 (by decide)⟩, rfl, rfl⟩
                      · exact fun E h' z => z.elim
                    | succ k ih =>
                      intro i hi
                      have e1 : wr3 D t (gi i) 1 0 0 = D 99 0 7 := by
                        rw [wr3_k (by decide)]
                        exact m.2.1.1
                      have qf : ∀ f, f ≠ 7 → gi i f = wrG p kk oo pp cb f := fun f hf => by rw [hgi]; exact hg0 f hf _
                      iterate 2 refine pw_go tk_X10_warrant rfl rfl ?_
                      refine pw_icN (i) (8) tk_X10_warrant rfl rfl rfl (by omega) (by omega) (fun c => absurd (show 8 ≤ i from c) (by omega)) (fun c => ?_)
                      iterate 2 refine pw_go tk_X10_warrant rfl rfl ?_
                      refine pw_aaldN tk_X10_warrant rfl (hget L13) (by decide) rfl rfl (by omega) (by omega) ?_
                      refine pw_astoreq tk_X10_warrant rfl rfl rfl ?_
                      refine pw_aloadq tk_X10_warrant rfl rfl rfl ?_
                      by_cases hc : i < D 99 0 7
                      · have estep : (if wapp (gi i) (D 7 i) = true then va_up (gi i) 7 (i + 1) else gi i) = gi (i + 1) := by
                          have ewp : wapp (gi i) (D 7 i) = wapp (wrG p kk oo pp cb) (D 7 i) := wapp_f (fun f hf => qf f hf)
                          have el : lwN (wr3 D zz (wrG p kk oo pp cb)) (D 99 0 13) (i + 1) = if wapp (wrG p kk oo pp cb) (D 7 i) = true then i + 1 else lwN (wr3 D zz (wrG p kk oo pp cb)) (D 99 0 13) i := by
                            show (if wapp (wr3 D zz (wrG p kk oo pp cb) 13 (D 99 0 13)) (wr3 D zz (wrG p kk oo pp cb) 7 i) = true then i + 1 else _) = _
                            rw [wr3_13, if_pos rfl, show wr3 D zz (wrG p kk oo pp cb) 7 = D 7 from wr3_k (by decide)]
                          rw [ewp, hgi]
                          show (if _ then va_up (va_up (wrG p kk oo pp cb) 7 (lwN _ _ (min i _))) 7 (i + 1) else va_up (wrG p kk oo pp cb) 7 (lwN _ _ (min i _))) = va_up (wrG p kk oo pp cb) 7 (lwN _ _ (min (i + 1) _))
                          rw [Nat.min_eq_left (by omega : i ≤ D 99 0 7), Nat.min_eq_left (by omega : i + 1 ≤ D 99 0 7), el]
                          by_cases cw : wapp (wrG p kk oo pp cb) (D 7 i) = true
                          · rw [if_pos cw, if_pos cw]
                            funext f
                            by_cases z : f = 7
                            · subst z
                              rfl
                            · rw [va_up_n z, va_up_n z, va_up_n z]
                          · rw [if_neg cw, if_neg cw]
                        have e7 : wr3 D t (gi i) 7 = D 7 := wr3_k (by decide)
                        have e13 : wr3 D t (gi i) 13 (D 99 0 13) = gi i := by rw [wr3_13, if_pos rfl]
                        have hi7 : i < wr3 D t (gi i) 99 0 7 := by rw [NN, if_neg (by omega)]; exact hc
                        have hap := w_apply (G := G) (WG i) (hw3 _) hi7 (by rw [e13, qf 2 (by decide)]; show kk < 1000; omega) (by rw [e13, qf 3 (by decide)]; show oo < _; omega) (by rw [e13, qf 4 (by decide)]; show pp < _; omega) (by rw [e7]; have := (g.2.1.2.1 i hc).1; omega)
                        rw [e13, e7, estep, wr3_set] at hap
                        refine pw_q (rfs_p (by omega : i < wr3 D t (gi i) 1 0 0)) ?_
                        refine pw_go tk_X10_warrant rfl rfl ?_
                        refine pw_go tk_X10_warrant rfl rfl ?_
                        refine pw_aloadq tk_X10_warrant rfl rfl rfl ?_
                        refine pw_q (rfs_p (by omega : i < wr3 D t (gi i) 1 0 0)) ?_
                        refine pw_cv tk_X10_warrant rfl ca_X9_apply lk_X10_99 iv_X9_apply sv_X9_apply (hget L133) rfl rfl (As := [.ref (A3 7 i)]) (rest := []) (kc' := 0) (ks' := 0) (hap) rfl rfl rfl (Nat.le_of_ble_eq_true rfl) (Nat.le_of_eq (Nat.zero_add _)) (Nat.le_of_eq (Nat.zero_add _)) ?_ ?_
                        · rintro _ _ ⟨rfl, rfl⟩
                          iterate 2 refine pw_go tk_X10_warrant rfl rfl ?_
                          refine pw_M [(0, .ref (A3 0 0)), (9, .ref (A3 8 p)), (12, .ref (A3 13 (D 99 0 13))), (13, .ref (A3 1 0)), (14, .int (nI 8)), (15, .int (nI (i + 1)))] ⟨rfl, rfl, rfl, rfl, rfl, congrArg (fun z => some (Value.int z)) (nI_1 i), trivial⟩ ?_
                          exact ih (i + 1) (by omega)
                        · exact fun E h' z => z.elim
                      · have estep : gi i = gi (i + 1) := by
                          rw [hgi]
                          show va_up _ 7 (lwN _ _ (min i _)) = va_up _ 7 (lwN _ _ (min (i + 1) _))
                          rw [Nat.min_eq_right (by omega : D 99 0 7 ≤ i), Nat.min_eq_right (by omega : D 99 0 7 ≤ i + 1)]
                        refine pw_q (rfs_n (by omega : ¬ i < wr3 D t (gi i) 1 0 0)) ?_
                        refine pw_go tk_X10_warrant rfl rfl ?_
                        rw [estep]
                        iterate 2 refine pw_go tk_X10_warrant rfl rfl ?_
                        refine pw_M [(0, .ref (A3 0 0)), (9, .ref (A3 8 p)), (12, .ref (A3 13 (D 99 0 13))), (13, .ref (A3 1 0)), (14, .int (nI 8)), (15, .int (nI (i + 1)))] ⟨rfl, rfl, rfl, rfl, rfl, congrArg (fun z => some (Value.int z)) (nI_1 i), trivial⟩ ?_
                        exact ih (i + 1) (by omega)
                  rw [e0]
                  refine pw_M [(0, .ref (A3 0 0)), (9, .ref (A3 8 p)), (12, .ref (A3 13 (D 99 0 13))), (13, .ref (A3 1 0)), (14, .int (nI 8)), (15, .int (nI 0))] ⟨rfl, rfl, rfl, rfl, rfl, rfl, trivial⟩ ?_
                  exact loop 8 0 (by omega)
                · have c9 : ¬ D 0 0 7 < 24 := c
                  rw [if_pos (show D 99 0 13 = 24 by omega)] at hQ
                  subst hQ
                  exact pw_throw hl rfl th_95_154 tk_X10_warrant rfl rfl rfl rfl rfl rfl ⟨done_0 I, List.mem_cons_of_mem _ (List.mem_cons_of_mem _ (List.mem_cons_of_mem _ List.mem_cons_self))⟩
              refine pw_aloadq tk_X10_warrant rfl rfl rfl ?_
              refine pw_ifnullq tk_X10_warrant rfl (fun z => ?_) (fun a z => ?_)
              · have z := rq_n.mp z
                refine pw_M [(0, .ref (A 0 0)), (2, .int (nI kk)), (3, .int (nI oo)), (4, .int (nI pp)), (5, .int (nI ty)), (6, .int (nI tm)), (7, .int (nI td)), (9, .ref (A 8 p)), (10, va_rf (rq (A 13) cb))] ⟨rfl, rfl, rfl, rfl, rfl, rfl, rfl, rfl, rfl, trivial⟩ ?_
                exact k76 (fun q => by omega)
              · have z := (rq_s z).1
                have hc13 : cb - 1 < D 99 0 13 := by omega
                refine pw_aloadq tk_X10_warrant rfl rfl rfl ?_
                refine pw_q (rq_p z) ?_
                refine pw_get tk_X10_warrant rfl fl_X10_145 (hget (g.1.lv hc13)) rfl ?_
                refine pw_go tk_X10_warrant rfl rfl ?_
                refine pw_e (st2 := [va_rf (some (A 8 p)), va_rf (some (A 8 (D 13 (cb - 1) 1)))]) rfl ?_
                refine pw_acmpeq tk_X10_warrant rfl (fun e => ?_) (fun e => ?_)
                · have e := Option.some.inj e
                  have e := m_inj g.1 ((I.2.2.2.2.2.2.1 _ hc13).2.2.2.2.1) hp8 (by decide) e
                  refine pw_M [(0, .ref (A 0 0)), (2, .int (nI kk)), (3, .int (nI oo)), (4, .int (nI pp)), (5, .int (nI ty)), (6, .int (nI tm)), (7, .int (nI td)), (9, .ref (A 8 p)), (10, va_rf (rq (A 13) cb))] ⟨rfl, rfl, rfl, rfl, rfl, rfl, rfl, rfl, rfl, trivial⟩ ?_
                  exact k76 (fun q => q.2 e)
                · rw [if_pos ⟨z, fun z2 => e (by rw [z2])⟩] at hQ
                  subst hQ
                  exact pw_throw hl rfl th_118_149 tk_X10_warrant rfl rfl rfl rfl rfl rfl ⟨done_0 I, List.mem_cons_of_mem _ (List.mem_cons_of_mem _ List.mem_cons_self)⟩
            · rintro E _ ⟨⟨rfl, rfl⟩, e4⟩
              rw [show wrGd k o pa y u d = false by unfold wrGd; rw [e4, Bool.and_false, Bool.and_false, Bool.and_false], if_pos rfl] at hQ
              subst hQ
              exact px_out rfl ⟨done_0 I, List.mem_cons_of_mem _ List.mem_cons_self⟩
          · rintro E _ ⟨⟨rfl, rfl⟩, e3⟩
            rw [show wrGd k o pa y u d = false by unfold wrGd; rw [e3, Bool.false_and, Bool.and_false, Bool.and_false], if_pos rfl] at hQ
            subst hQ
            exact px_out rfl ⟨done_0 I, List.mem_cons_of_mem _ List.mem_cons_self⟩
        · rintro E _ ⟨⟨rfl, rfl⟩, e2⟩
          rw [show wrGd k o pa y u d = false by unfold wrGd; rw [e2, Bool.false_and, Bool.and_false], if_pos rfl] at hQ
          subst hQ
          exact px_out rfl ⟨done_0 I, List.mem_cons_of_mem _ List.mem_cons_self⟩
      · rintro E _ ⟨⟨rfl, rfl⟩, e1⟩
        rw [show wrGd k o pa y u d = false by unfold wrGd; rw [e1, Bool.false_and], if_pos rfl] at hQ
        subst hQ
        exact px_out rfl ⟨done_0 I, List.mem_cons_of_mem _ List.mem_cons_self⟩
    iterate 3 refine pw_go tk_X10_warrant rfl rfl ?_
    refine pw_br tk_X10_warrant rfl rfl (fun z => ?_) (fun z => ?_)
    · have z : ¬ b = -1 := z
      iterate 2 refine pw_go tk_X10_warrant rfl rfl ?_
      refine pw_cv tk_X10_warrant rfl ca_X10_knownWarrant lk_X10_106 iv_X10_knownWarrant sv_X10_knownWarrant (hget L0) rfl rfl (As := [.int b]) (rest := []) (kc' := 10) (ks' := 78) (q_warrant hl g m) rfl rfl rfl (Nat.le_of_ble_eq_true rfl) (by decide) (by decide) ?_ ?_
      · rintro _ _ ⟨_, rfl, rfl, v, hv, rfl, rfl⟩
        refine pw_e (st2 := [va_rf (rq (A 13) (v + 1))]) rfl ?_
        refine pw_M [(0, .ref (A 0 0)), (2, .int k), (3, .int o), (4, .int pa), (5, .int y), (6, .int u), (7, .int d), (9, .ref (A 8 p))] ⟨rfl, rfl, rfl, rfl, rfl, rfl, rfl, rfl, trivial⟩ ?_
        exact k23 (v + 1) (by unfold bhC; rw [if_neg z, nI_tn (by omega)]) (by omega) (by rw [knI_of hv (by omega), Bool.or_true])
      · rintro E _ ⟨⟨rfl, rfl⟩, e⟩
        rw [show wrK D (nI p) k o pa y u d b = 1 by unfold wrK; rw [e, decide_eq_false z, Bool.or_false, Bool.and_false, if_pos rfl]] at hQ
        subst hQ
        exact px_out rfl ⟨done_0 I, List.mem_cons_self⟩
    · have z : b = -1 := Decidable.not_not.mp z
      iterate 2 refine pw_go tk_X10_warrant rfl rfl ?_
      refine pw_e (st2 := [va_rf (rq (A 13) 0)]) rfl ?_
      refine pw_mono (Q' := Q) (d' := 3) (kc' := 10) (ks' := 78) (by omega) (by omega) (by omega) ?_
      refine pw_M [(0, .ref (A 0 0)), (2, .int k), (3, .int o), (4, .int pa), (5, .int y), (6, .int u), (7, .int d), (9, .ref (A 8 p))] ⟨rfl, rfl, rfl, rfl, rfl, rfl, rfl, rfl, trivial⟩ ?_
      exact k23 0 (by unfold bhC; rw [if_pos z]) (by omega) (by rw [decide_eq_true z]; rfl)
  · rintro E _ ⟨⟨rfl, rfl⟩, e⟩
    rw [show wrK D x k o pa y u d b = 1 by unfold wrK; rw [e, Bool.false_and, if_pos rfl]] at hQ
    subst hQ
    exact px_out rfl ⟨done_0 I, List.mem_cons_self⟩
end FACEA

