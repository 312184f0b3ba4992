/-! the face: terms told anew, laws -/
section FACE7
variable {G : fw_G} {D : fw_DB} {A : fw_AD} {M : fw_MP} {n : Nat}
theorem kRow_15 {w q : Nat} : ∀ k i g, k ≠ 13 → k ≠ 66 → kRow (an A 15 w q) k i g = kRow A k i g := by
  intro k i g hk h66
  unfold kRow
  split <;> first | rfl | (exact absurd rfl hk) | (exact absurd rfl h66)
def mo (M : fw_MP) (A : fw_AD) (w q : Nat) : fw_MP := fun a => if a = q then some (15, w) else if a = A 15 w then none else M a
theorem mo_q {w q : Nat} : mo M A w q q = some (15, w) := if_pos rfl
theorem mo_a {w q a : Nat} (h : a ≠ q) (h2 : a = A 15 w) : mo M A w q a = none := (if_neg h).trans (if_pos h2)
theorem mo_n {w q a : Nat} (h : a ≠ q) (h2 : a ≠ A 15 w) : mo M A w q a = M a := (if_neg h).trans (if_neg h2)
/-- the term of a warrant is another object -/
theorem hmove15 {w q : Nat} {g : Nat → Nat} (W : Wf D A M) (hw : w < D 99 0 15) (hw13 : w < D 99 0 13) (hq : hp M A D q = none) (h66 : D 99 0 66 = 0) : Wf (dp D 15 w g) (an A 15 w q) (mo M A w q) ∧ ∀ b o, hp (mo M A w q) (an A 15 w q) (dp D 15 w g) b = some o → fw_up (fw_up (hp M A D) q (kRow A 15 w g)) (A 13 w) (kRow (an A 15 w q) 13 w (D 13 w)) b = some o := by
  have hM : M q = none := by
    unfold hp at hq
    cases h : M q with
    | none => rfl
    | some t => rw [h] at hq; cases hq
  have hN : ∀ k, dp D 15 w g 99 0 k = D 99 0 k := fun k => congrFun (dp_k (by decide)) k
  have hne : ∀ a k i, M a = some (k, i) → a ≠ q := fun a k i h z => by rw [z, hM] at h; cases h
  have hA1 : ∀ k i, ¬ (k = 15 ∧ i = w) → an A 15 w q k i = A k i := fun k i h => by
    unfold an
    by_cases c : k = 15
    · subst c
      rw [if_pos rfl, if_neg (fun z => h ⟨rfl, z⟩)]
    · rw [if_neg c]
  have hD1 : ∀ k i, ¬ (k = 15 ∧ i = w) → dp D 15 w g k i = D k i := fun k i h => by
    by_cases c : k = 15
    · subst c
      exact dp_i (fun z => h ⟨rfl, z⟩)
    · exact dp_k c
  have L15 := W.lv hw
  have L13 := W.lv hw13
  refine ⟨⟨fun a k i h => ?_, fun k i h46 h => ?_, fun a k i h => ?_, fun k i h => ?_⟩, fun b o h => ?_⟩
  · by_cases c : a = q
    · rw [c, mo_q] at h
      cases h
      rw [an_s, c]
    · by_cases c2 : a = A 15 w
      · rw [mo_a c c2] at h
        cases h
      · rw [mo_n c c2] at h
        have e := W.1 a k i h
        rw [hA1 k i (fun z => c2 (by rw [e, z.1, z.2]))]
        exact e
  · rw [hN] at h
    by_cases c : k = 15 ∧ i = w
    · rw [c.1, c.2, an_s, mo_q]
    · rw [hA1 k i c]
      have l := W.lv h h46
      rw [mo_n (hne _ _ _ l) (fun z => by rw [z, L15] at l; cases l; exact c ⟨rfl, rfl⟩)]
      exact l
  · rw [hN]
    by_cases c : a = q
    · rw [c, mo_q] at h
      cases h
      exact hw
    · by_cases c2 : a = A 15 w
      · rw [mo_a c c2] at h
        cases h
      · rw [mo_n c c2] at h
        exact W.2.2.1 a k i h
  · rw [hN] at h
    have e : dp D 15 w g 99 0 = D 99 0 := dp_k (by decide)
    rw [e]
    by_cases c : k = 15 ∧ i = w
    · rw [c.1]
      trivial
    · rw [hD1 k i c]
      exact W.ok h
  · unfold hp at h
    by_cases c : b = q
    · have n13 : q ≠ A 13 w := fun z => hne _ _ _ L13 z.symm
      rw [c, mo_q] at h
      rw [c, fw_up_n n13, fw_up_s]
      have h : some (kRow (an A 15 w q) 15 w (dp D 15 w g 15 w)) = some o := h
      rw [dp_s, kRow_15 15 w g (by decide) (by decide)] at h
      exact h
    · by_cases c2 : b = A 15 w
      · rw [mo_a c c2] at h
        cases h
      · rw [mo_n c c2] at h
        cases hm : M b with
        | none => rw [hm] at h; cases h
        | some t =>
          obtain ⟨k, i⟩ := t
          rw [hm] at h
          have h : some (kRow (an A 15 w q) k i (dp D 15 w g k i)) = some o := h
          have eb := W.1 b k i hm
          have lt := W.2.2.1 b k i hm
          have nk : ¬ (k = 15 ∧ i = w) := fun z => c2 (by rw [eb, z.1, z.2])
          rw [hD1 k i nk] at h
          by_cases c3 : k = 13
          · subst c3
            by_cases c4 : i = w
            · subst c4
              rw [eb, fw_up_s]
              exact h
            · have nb : b ≠ A 13 w := fun z => by rw [z, L13] at hm; cases hm; exact c4 rfl
              rw [fw_up_n nb, fw_up_n c]
              unfold hp
              rw [hm, ← h]
              show some (kRow A 13 i (D 13 i)) = some (kRow (an A 15 w q) 13 i (D 13 i))
              have : an A 15 w q 15 i = A 15 i := an_n c4
              unfold kRow
              rw [this]
              rfl
          · have nb : b ≠ A 13 w := fun z => by rw [z, L13] at hm; cases hm; exact c3 rfl
            rw [fw_up_n nb, fw_up_n c]
            unfold hp
            rw [hm, ← h]
            show some (kRow A k i (D k i)) = some (kRow (an A 15 w q) k i (D k i))
            rw [kRow_15 k i _ c3 (fun z => by rw [z, h66] at lt; omega)]
def trG (y m d : Nat) : Nat → Nat := fun f => if f = 0 then y else if f = 1 then m else if f = 2 then d else 0
def vaS (D : fw_DB) (w y m d : Nat) : fw_DB := dp D 15 w (trG y m d)
theorem smI_to {y m d : Int32} (h : smI y m d = true) : ∃ a b c, y = nI a ∧ m = nI b ∧ d = nI c ∧ a ≤ 40 ∧ b ≤ 11 ∧ c ≤ 9999 := by
  unfold smI tmI at h
  rw [Bool.and_eq_true, Bool.and_eq_true, Bool.and_eq_true] at h
  obtain ⟨a, rfl, -, ha⟩ := inI_N (a := 0) h.1.1.1 (by omega) (by omega)
  obtain ⟨b, rfl, -, hb⟩ := inI_N (a := 0) h.1.1.2 (by omega) (by omega)
  obtain ⟨c, rfl, -, hc⟩ := inI_N (a := 0) h.1.2 (by omega) (by omega)
  exact ⟨a, b, c, rfl, rfl, rfl, ha, hb, hc⟩
set_option maxRecDepth 20000 in
theorem f_vary {x y z u : Int32} (hl : G.1.stackTraces = false) (I : IC n D A M) (h66 : D 99 0 66 = 0) : PM G 3 6 33 mm_X10_vary [.ref (A 0 0), .int x, .int y, .int z, .int u] (hp M A D) (fw_qI (fun r h' => done n D A (vaS D x.toNatClampNeg y.toNatClampNeg z.toNatClampNeg u.toNatClampNeg) h' ∧ pdK (D 99 0 13) x (smI y z u) = 0 ∧ r = nI (sp_len (D 13 x.toNatClampNeg 4) y.toNatClampNeg z.toNatClampNeg u.toNatClampNeg)) (fun E h' => done n D A D h' ∧ exI (pdK (D 99 0 13) x (smI y z u)) E [(1, eIO), (2, eIA)])) := by
  refine pm_of (by decide +kernel) rfl rfl rfl ?_
  have g := I.1
  have m := I.2.1
  have n24 := g.2.2.2
  have L0 := g.1.lv (k := 0) (i := 0) (by have := m.1.1; omega)
  iterate 2 refine pw_go tk_X10_vary rfl rfl ?_
  refine pw_cv tk_X10_vary rfl ca_X10_knownWarrant lk_X10_106 iv_X10_knownWarrant sv_X10_knownWarrant (hget L0) rfl rfl (As := [.int x]) (rest := []) (kc' := 5) (ks' := 27) (q_warrant hl g m) rfl rfl rfl (Nat.le_of_ble_eq_true rfl) (by decide) (by decide) ?_ ?_
  · rintro _ _ ⟨_, rfl, rfl, w, hw, rfl, rfl⟩
    iterate 4 refine pw_go tk_X10_vary rfl rfl ?_
    refine pw_cs tk_X10_vary rfl ca_X10_requireSomeTerm lk_X10_142 sx_X10_requireSomeTerm (As := [.int y, .int z, .int u]) (rest := []) (kc' := 1) (ks' := 3) (q_some hl) rfl rfl rfl (Nat.le_of_ble_eq_true rfl) (by decide) (by decide) ?_ ?_
    · rintro _ _ ⟨rfl, rfl, e⟩
      rw [pdK_0 hw (by omega) e, nI_tn (by omega)]
      obtain ⟨a, b, c, rfl, rfl, rfl, ha, hb, hc⟩ := smI_to e
      rw [nI_tn (by omega), nI_tn (by omega), nI_tn (by omega)]
      have Lw := g.1.lv hw
      have h15 : w < D 99 0 15 := by have := I.2.2.2.1.2.2.2.2.2; omega
      have B4 := (g.2.1.1 w hw).2.2.1
      refine pw_go tk_X10_vary rfl rfl ?_
      refine pw_new tk_X10_vary rfl nw_X10_75 (fun q qf qg => ?_)
      iterate 4 refine pw_go tk_X10_vary rfl rfl ?_
      refine pw_ci tk_X10_vary rfl ca_X8_init (Or.inl lk_X10_77) iv_X8_init rfl rfl (As := [.int (nI a), .int (nI b), .int (nI c)]) (rest := [.ref q, .ref (A 13 w)]) (kc' := 0) (ks' := 0) (n_Term fw_up_s) (fun _ _ z => z) rfl rfl rfl (Nat.le_of_ble_eq_true rfl) (by decide) (by decide) ?_
      rintro _ _ ⟨rfl, rfl⟩
      refine pw_h fw_up_2 ?_
      obtain ⟨W1, hsub⟩ := hmove15 (g := trG a b c) g.1 h15 hw qf h66
      have nq : A 13 w ≠ q := fun z => by
        have := hget (D := D) Lw
        rw [z, qf] at this
        cases this
      have ho : fw_up (hp M A D) q (.inr (11, [.int (nI a), .int (nI b), .int (nI c)])) (A 13 w) = some (kRow A 13 w (D 13 w)) := by
        rw [fw_up_n nq]
        exact hget Lw
      refine pw_put tk_X10_vary rfl fp_X10_188 ho rfl rfl (Nat.le_of_ble_eq_true rfl) ?_
      generalize mo M A w q = M1 at *
      refine pw_forget (h' := hp M1 (an A 15 w q) (vaS D w a b c)) (fun b o hb => ?_) ?_
      · refine (?_ : _ = _).trans (hsub b o hb)
        refine congrFun (congrArg (fw_up _ (A 13 w)) ?_) b
        show Sum.inr _ = kRow (an A 15 w q) 13 w (D 13 w)
        have e15 : an A 15 w q 15 w = q := an_s
        unfold kRow
        rw [e15]
        rfl
      have hA : ∀ k j, k ≠ 15 → an A 15 w q k j = A k j := fun k j hk => by
        unfold an
        rw [if_neg hk]
      generalize an A 15 w q = A1 at *
      have hNN : vaS D w a b c 99 0 = D 99 0 := dp_k (by decide)
      have L1 := W1.lv (k := 13) (i := w) (by show w < vaS D w a b c 99 0 13; rw [hNN]; exact hw)
      have L15 := W1.lv (k := 15) (i := w) (by show w < vaS D w a b c 99 0 15; rw [hNN]; exact h15)
      have e13 : vaS D w a b c 13 w = D 13 w := dp_k (by decide)
      have e15 : vaS D w a b c 15 w = trG a b c := dp_s
      refine pw_M [(5, .ref (A1 13 w))] ⟨congrArg (fun z => some (Value.ref z)) (hA 13 w (by decide)).symm, trivial⟩ ?_
      refine pw_go tk_X10_vary rfl rfl ?_
      refine pw_get tk_X10_vary rfl fl_X10_188 (hget (D := vaS D w a b c) L1) rfl ?_
      refine pw_go tk_X10_vary rfl rfl ?_
      refine pw_get tk_X10_vary rfl fl_X10_174 (hget (D := vaS D w a b c) L1) rfl ?_
      refine pw_i (x' := nI (D 13 w 4)) (by rw [e13]) ?_
      have hrow : hp M1 A1 (vaS D w a b c) (A1 15 w) = some (.inr (11, [.int (nI a), .int (nI b), .int (nI c)])) := by
        have := hget (D := vaS D w a b c) L15
        rw [e15] at this
        exact this
      refine pw_cvp tk_X10_vary rfl ca_X8_spanFrom lk_X10_79 iv_X8_spanFrom sv_X8_spanFrom hrow rfl rfl (As := [.int (nI (D 13 w 4))]) (rest := []) (c_spanFrom hrow B4 ha hb hc) rfl rfl rfl rfl ?_
      exact pw_iret tk_X10_vary rfl rfl rfl ⟨_, rfl, ⟨_, A1, M1, rfl, ic_of W1 (icd_15 (ic_d I) ⟨ha, hb, hc⟩), esq.rf, hik_dp (by decide), hA 0 0 (by decide), hA 30 0 (by decide), hA 46 0 (by decide), hA 70 0 (by decide), hA 71 0 (by decide)⟩, rfl, rfl⟩
    · rintro E _ ⟨⟨rfl, rfl⟩, e⟩
      exact px_out rfl ⟨done_0 I, by rw [pdK_2 hw (by omega) e]; exact List.mem_cons_of_mem _ List.mem_cons_self⟩
  · rintro E _ ⟨⟨rfl, rfl⟩, e⟩
    exact px_out rfl ⟨done_0 I, by rw [pdK_1 e]; exact List.mem_cons_self⟩
theorem lwA_W {l : Nat} (W : Wf D A M) (hl : l < D 99 0 7) : ∀ i, Wf (lwA D l i) A M
  | 0 => W
  | i + 1 => by
    have ih := lwA_W W hl i
    unfold lwA
    split
    · rename_i c
      have e9 : lwA D l i 99 = D 99 := lwA_k (by decide) i
      have hk := ih.ok (k := 13) (i := i) (by rw [e9]; exact c)
      refine ih.put (by decide) ?_
      split
      · rw [e9] at hk ⊢
        exact ⟨hk.1, hk.2.1, hk.2.2.1, (show l + 1 ≤ D 99 0 7 by omega), hk.2.2.2.2⟩
      · exact hk
    · exact ih
def lwK (D : fw_DB) (x y z : Int32) : Nat := if ((decide (x = nI 111) || decide (x = nI 112)) && (inI y 0 (nI 19999) && inI z 1 (nI 8))) = false then 1 else if D 99 0 7 = 8 then 2 else 0
theorem bN_b (b : Bool) : bN (if b = true then 1 else 0) = bI b := by cases b <;> rfl
set_option maxRecDepth 20000 in
theorem f_law {x y z : Int32} {b : Bool} (hl : G.1.stackTraces = false) (I : IC n D A M) : PM G 2 4 23 mm_X10_law [.ref (A 0 0), .int x, .int y, .int z, .int (bI b)] (hp M A D) (fw_qI (fun r h' => done n D A (lwS D (if decide (x = nI 111) = true then 1 else 0) y.toNatClampNeg z.toNatClampNeg (if b = true then 1 else 0)) h' ∧ lwK D x y z = 0 ∧ r = nI (D 99 0 7)) (fun E h' => done n D A D h' ∧ exI (lwK D x y z) E [(1, eIA), (2, eIS)])) := by
  refine pm_of (by decide +kernel) rfl rfl rfl ?_
  have g := I.1
  have m := I.2.1
  have n7 := m.2.2.2.1
  have e05 : D 0 0 5 = D 99 0 7 := m.2.2.1.1
  have L0 := g.1.lv (k := 0) (i := 0) (by have := m.1.1; omega)
  have La := g.1.lv (k := 1) (i := 0) (by have := m.1.2.1; omega)
  obtain ⟨Q, hQ⟩ : ∃ Q, Q = (fw_qI (fun r h' => done n D A (lwS D (if decide (x = nI 111) = true then 1 else 0) y.toNatClampNeg z.toNatClampNeg (if b = true then 1 else 0)) h' ∧ lwK D x y z = 0 ∧ r = nI (D 99 0 7)) (fun E h' => done n D A D h' ∧ exI (lwK D x y z) E [(1, eIA), (2, eIS)])) := ⟨_, rfl⟩
  rw [← hQ]
  have k22 : (decide (x = nI 111) || decide (x = nI 112)) = true → PW G mm_X10_law Q 2 4 23 (hp M A D) 22 [(0, .ref (A 0 0)), (1, .int x), (2, .int y), (3, .int z), (4, .int (bI b))] [] := by
    intro ex
    have eK1 : lwK D x y z = if (inI y 0 (nI 19999) && inI z 1 (nI 8)) = false then 1 else if D 99 0 7 = 8 then 2 else 0 := by
      unfold lwK
      rw [ex, Bool.true_and]
    rw [eK1] at hQ
    refine pw_go tk_X10_law rfl rfl ?_
    refine pw_cs tk_X10_law rfl ca_X10_requireDay lk_X10_63 sx_X10_requireDay (As := [.int y]) (rest := []) (kc' := 3) (ks' := 17) (q_day hl) rfl rfl rfl (Nat.le_of_ble_eq_true rfl) (by decide) (by decide) ?_ ?_
    · rintro _ _ ⟨rfl, rfl, e⟩
      iterate 3 refine pw_go tk_X10_law rfl rfl ?_
      refine pw_cs tk_X10_law rfl ca_X10_requireRange lk_X10_84 sx_X10_requireRange (As := [.int z, .int 1, .int (nI 8)]) (rest := []) (kc' := 2) (ks' := 11) (q_range hl) rfl rfl rfl (Nat.le_of_ble_eq_true rfl) (by decide) (by decide) ?_ ?_
      · rintro _ _ ⟨rfl, rfl, e2⟩
        rw [e, e2, Bool.true_and, if_neg (show ¬ (true = false) by decide)] at hQ
        obtain ⟨fr, rfl, -, hfr⟩ := inI_N (a := 0) e (by omega) (by omega)
        obtain ⟨ei, rfl, k1, k2⟩ := inI_N (a := 1) e2 (by omega) (by omega)
        rw [nI_tn (by omega), nI_tn (by omega)] at hQ
        refine pw_go tk_X10_law rfl rfl ?_
        refine pw_get tk_X10_law rfl fl_X10_87 (hget L0) rfl ?_
        refine pw_go tk_X10_law rfl rfl ?_
        refine pw_get tk_X10_law rfl fl_X10_11 (hget L0) rfl ?_
        refine pw_alen tk_X10_law rfl (hget La) (by decide) ?_
        refine pw_icN (D 0 0 5) (8) tk_X10_law rfl rfl rfl (by omega) (by omega) (fun c => ?_) (fun c => ?_)
        · have c : D 0 0 5 < 8 := c
          rw [if_neg (show ¬ D 99 0 7 = 8 by omega)] at hQ
          have hL : D 99 0 7 < 8 := by omega
          refine pw_new tk_X10_law rfl nw_X10_9 (fun q qf qg => ?_)
          have nq : A 0 0 ≠ q := fun z => by
            have := hget (D := D) L0
            rw [z, qf] at this
            cases this
          have ho0 : fw_up (hp M A D) q (.inr (7, [.int 0, .int 0, .int 0, .int 0, .int 0])) (A 0 0) = some (kRow A 0 0 (D 0 0)) := by
            rw [fw_up_n nq]
            exact hget L0
          iterate 2 refine pw_go tk_X10_law rfl rfl ?_
          refine pw_get tk_X10_law rfl fl_X10_87 ho0 rfl ?_
          refine pw_i (congrArg nI e05) ?_
          have k74 : ∀ o : Bool, o = decide (x = nI 111) → PW G mm_X10_law Q 2 1 6 (fw_up (hp M A D) q (.inr (7, [.int 0, .int 0, .int 0, .int 0, .int 0]))) 74 [(0, .ref (A 0 0)), (1, .int x), (2, .int (nI fr)), (3, .int (nI ei)), (4, .int (bI b))] [.int (bI o), .int (nI (D 99 0 7)), .ref q, .ref q] := by
            intro o ho
            iterate 3 refine pw_go tk_X10_law rfl rfl ?_
            refine pw_ci tk_X10_law rfl ca_X4_init (Or.inl lk_X10_96) iv_X4_init rfl rfl (As := [.int (nI (D 99 0 7)), .int (bI o), .int (nI fr), .int (nI ei), .int (bI b)]) (rest := [.ref q]) (kc' := 1) (ks' := 6) (n_Law fw_up_s) (fun _ _ z => z) rfl rfl rfl (Nat.le_of_ble_eq_true rfl) (by decide) (by decide) ?_
            rintro _ _ ⟨rfl, rfl⟩
            refine pw_h fw_up_2 ?_
            rw [← ho] at hQ
            clear ho
            generalize hb1 : (if o = true then 1 else 0) = b1 at *
            generalize hb2 : (if b = true then 1 else 0) = b2 at *
            have eb1 : bN b1 = bI o := by rw [← hb1]; exact bN_b o
            have eb2 : bN b2 = bI b := by rw [← hb2]; exact bN_b b
            obtain ⟨hh, W1⟩ := hnew (g := lwG b1 fr ei b2) (k := 7) (n := D 99 0 7) (q := q) g.1 qf rfl (by decide) trivial
            refine pw_h (h' := fw_up (hp M A D) q (kRow (an A 7 (D 99 0 7) q) 7 (D 99 0 7) (lwG b1 fr ei b2))) (by rw [← eb1, ← eb2]; rfl) ?_
            refine pw_h hh ?_
            refine pw_go tk_X10_law rfl rfl ?_
            have hq : an A 7 (D 99 0 7) q 7 (D 99 0 7) = q := an_s
            have hA : ∀ k j, k ≠ 7 → an A 7 (D 99 0 7) q k j = A k j := fun k j hk => by
              unfold an
              rw [if_neg hk]
            obtain ⟨A1, hA1⟩ : ∃ A1, A1 = an A 7 (D 99 0 7) q := ⟨_, rfl⟩
            rw [← hA1] at W1 hq hA ⊢
            generalize mn M 7 (D 99 0 7) q = M1 at *
            refine pw_M [(0, .ref (A1 0 0)), (5, .ref (A1 7 (D 99 0 7)))] ⟨congrArg (fun z => some (Value.ref z)) (hA 0 0 (by decide)).symm, congrArg (fun z => some (Value.ref z)) hq.symm, trivial⟩ ?_
            show PW G mm_X10_law _ 2 1 6 (hp M1 A1 (lwS D b1 fr ei b2)) _ _ _
            have W1 : Wf (lwS D b1 fr ei b2) A1 M1 := W1
            have NN : ∀ f, lwS D b1 fr ei b2 99 0 f = if f = 7 then D 99 0 7 + 1 else D 99 0 f := fun f => dn_N f
            have s1 : lwS D b1 fr ei b2 1 = D 1 := dn_k (by decide) (by decide)
            have s0 : lwS D b1 fr ei b2 0 = D 0 := dn_k (by decide) (by decide)
            have L01 := W1.lv (k := 0) (i := 0) (by rw [NN, if_neg (by decide)]; have := m.1.1; omega)
            have L11 := W1.lv (k := 1) (i := 0) (by rw [NN, if_neg (by decide)]; have := m.1.2.1; omega)
            have L31 := W1.lv (k := 3) (i := 0) (by rw [NN, if_neg (by decide)]; have := m.1.2.2.2.1; omega)
            have L71 := W1.lv (k := 7) (i := D 99 0 7) (by rw [NN, if_pos rfl]; omega)
            have t1 : lwS D b1 fr ei b2 1 0 0 = D 99 0 7 := by rw [s1]; exact m.2.1.1
            have t0 : lwS D b1 fr ei b2 0 0 5 = D 99 0 7 := by rw [s0]; exact e05
            refine pw_go tk_X10_law rfl rfl ?_
            refine pw_get tk_X10_law rfl fl_X10_11 (hget L01) rfl ?_
            refine pw_go tk_X10_law rfl rfl ?_
            refine pw_get tk_X10_law rfl fl_X10_87 (hget L01) rfl ?_
            refine pw_go tk_X10_law rfl rfl ?_
            refine pw_aastN tk_X10_law rfl (hget L11) (by decide) (hget L71) rfl rfl (congrArg nI t0) (by omega) (by omega) ?_
            have W2 : Wf (lwT D b1 fr ei b2) A1 M1 := W1.put (by decide) (show D 99 0 7 + 1 ≤ lwS D b1 fr ei b2 99 0 7 by rw [NN, if_pos rfl]; omega)
            refine pw_h (h' := hp M1 A1 (lwT D b1 fr ei b2)) (by
              rw [t1, rfs_up]
              exact hset (va_up (lwS D b1 fr ei b2 1 0) 0 (D 99 0 7 + 1)) W1 L11) ?_
            have u0 : lwT D b1 fr ei b2 0 0 5 = D 99 0 7 := by
              unfold lwT
              rw [dp_k (by decide)]
              exact t0
            iterate 2 refine pw_go tk_X10_law rfl rfl ?_
            refine pw_get tk_X10_law rfl fl_X10_87 (hget L01) rfl ?_
            refine pw_go tk_X10_law rfl rfl ?_
            refine pw_addN (D 99 0 7) (1) tk_X10_law rfl (congrArg nI u0) rfl ?_
            have W3 : Wf (lwU D b1 fr ei b2) A1 M1 := W2.put (by decide) (W2.ok (k := 0) (i := 0) (by
              have : lwT D b1 fr ei b2 99 0 0 = D 99 0 0 := by
                unfold lwT
                rw [dp_k (by decide), NN, if_neg (by decide)]
              have := m.1.1
              omega))
            refine pw_put tk_X10_law rfl fp_X10_87 (hget L01) rfl rfl (Nat.le_of_ble_eq_true rfl) ?_
            refine pw_h (h' := hp M1 A1 (lwU D b1 fr ei b2)) (hset (va_up (lwT D b1 fr ei b2 0 0) 5 (D 99 0 7 + 1)) W2 L01) ?_
            refine pw_go tk_X10_law rfl rfl ?_
            refine pw_get tk_X10_law rfl fl_X10_23 (hget L01) rfl ?_
            iterate 2 refine pw_go tk_X10_law rfl rfl ?_
            refine pw_alen tk_X10_law rfl (hget L31) (by decide) ?_
            iterate 3 refine pw_go tk_X10_law rfl rfl ?_
            have hN7 : D 99 0 7 < lwU D b1 fr ei b2 99 0 7 := by rw [lwU_N, if_pos rfl]; omega
            have hU13 : lwU D b1 fr ei b2 13 = D 13 := lwU_k (by decide)
            have hN13 : lwU D b1 fr ei b2 99 0 13 = D 99 0 13 := by rw [lwU_N, if_neg (by decide)]
            have hU7 : lwU D b1 fr ei b2 7 (D 99 0 7) = lwG b1 fr ei b2 := by rw [lwU_7, if_pos rfl]
            have hU3 : lwU D b1 fr ei b2 3 = D 3 := lwU_k (by decide)
            have WA := fun i => lwA_W W3 hN7 i
            have loop : ∀ (k i : Nat), i + k = 24 → PW G mm_X10_law Q 2 1 6 (hp M1 A1 (lwA (lwU D b1 fr ei b2) (D 99 0 7) i)) 118 [(0, .ref (A1 0 0)), (5, .ref (A1 7 (D 99 0 7))), (6, .ref (A1 3 0)), (7, .int (nI 24)), (8, .int (nI i))] [] := by
              intro k
              induction k with
              | zero =>
                intro i hi
                have hi : i = 24 := by omega
                subst hi
                iterate 2 refine pw_go tk_X10_law rfl rfl ?_
                refine pw_icN (24) (24) tk_X10_law rfl rfl rfl (by omega) (by omega) (fun c => ?_) (fun c => absurd (Nat.le_refl 24) c)
                refine pw_go tk_X10_law rfl rfl ?_
                refine pw_get tk_X10_law rfl fl_X10_103 (hget L71) rfl ?_
                subst hQ
                exact pw_iret tk_X10_law rfl rfl rfl ⟨_, rfl, ⟨_, A1, M1, rfl, ic_of (WA 24) (icd_law (ic_d I) (by omega) k2 hL), lw_es, lw_hi, hA 0 0 (by decide), hA 30 0 (by decide), hA 46 0 (by decide), hA 70 0 (by decide), hA 71 0 (by decide)⟩, rfl, rfl⟩
              | succ k ih =>
                intro i hi
                have e3 : lwA (lwU D b1 fr ei b2) (D 99 0 7) i 3 0 0 = D 99 0 13 := by
                  rw [lwA_k (by decide), hU3]
                  exact m.2.1.2.2.1
                iterate 2 refine pw_go tk_X10_law rfl rfl ?_
                refine pw_icN (i) (24) tk_X10_law rfl rfl rfl (by omega) (by omega) (fun c => absurd (show 24 ≤ i from c) (by omega)) (fun c => ?_)
                iterate 2 refine pw_go tk_X10_law rfl rfl ?_
                refine pw_aaldN tk_X10_law rfl (hget L31) (by decide) rfl rfl (by omega) (by omega) ?_
                refine pw_astoreq tk_X10_law rfl rfl rfl ?_
                refine pw_aloadq tk_X10_law rfl rfl rfl ?_
                by_cases hc : i < D 99 0 13
                · have hw9 : i < lwA (lwU D b1 fr ei b2) (D 99 0 7) i 99 0 13 := by rw [lwA_k (by decide), hN13]; exact hc
                  have Lw := (WA i).lv hw9
                  have B := g.2.1.1 i hc
                  refine pw_q (rfs_p (by omega : i < lwA (lwU D b1 fr ei b2) (D 99 0 7) i 3 0 0)) ?_
                  refine pw_go tk_X10_law rfl rfl ?_
                  refine pw_aloadq tk_X10_law rfl rfl rfl ?_
                  refine pw_q (rfs_p (by omega : i < lwA (lwU D b1 fr ei b2) (D 99 0 7) i 3 0 0)) ?_
                  refine pw_go tk_X10_law rfl rfl ?_
                  refine pw_cv tk_X10_law rfl ca_X9_apply lk_X10_99 iv_X9_apply sv_X9_apply (hget Lw) rfl rfl (As := [.ref (A1 7 (D 99 0 7))]) (rest := []) (kc' := 1) (ks' := 6) (w_apply (WA i) hw9 (by rw [lwA_k (by decide)]; exact hN7) (by rw [lwA_f _ _ _ (by decide), hU13]; exact B.1) (by rw [lwA_f _ _ _ (by decide), hU13]; have := B.2.1; omega) (by rw [lwA_f _ _ _ (by decide), hU13]; have := B.2.2.1; omega) (by rw [lwA_k (by decide), hU7]; show fr < _; omega)) rfl rfl rfl (Nat.le_of_ble_eq_true rfl) (Nat.le_of_eq (Nat.zero_add _)) (Nat.le_of_eq (Nat.zero_add _)) ?_ ?_
                  · rintro _ _ ⟨rfl, rfl⟩
                    refine pw_h (h' := hp M1 A1 (lwA (lwU D b1 fr ei b2) (D 99 0 7) (i + 1))) (congrArg (hp M1 A1) (show _ = if i < lwU D b1 fr ei b2 99 0 13 then _ else _ from (if_pos (by rw [hN13]; exact hc)).symm)) ?_
                    iterate 2 refine pw_go tk_X10_law rfl rfl ?_
                    refine pw_M [(0, .ref (A1 0 0)), (5, .ref (A1 7 (D 99 0 7))), (6, .ref (A1 3 0)), (7, .int (nI 24)), (8, .int (nI (i + 1)))] ⟨rfl, rfl, rfl, rfl, congrArg (fun z => some (Value.int z)) (nI_1 i), trivial⟩ ?_
                    exact ih (i + 1) (by omega)
                  · exact fun E h' z => z.elim
                · refine pw_q (rfs_n (by omega : ¬ i < lwA (lwU D b1 fr ei b2) (D 99 0 7) i 3 0 0)) ?_
                  refine pw_go tk_X10_law rfl rfl ?_
                  refine pw_h (h' := hp M1 A1 (lwA (lwU D b1 fr ei b2) (D 99 0 7) (i + 1))) (congrArg (hp M1 A1) (show _ = if i < lwU D b1 fr ei b2 99 0 13 then _ else _ from (if_neg (by rw [hN13]; exact hc)).symm)) ?_
                  iterate 2 refine pw_go tk_X10_law rfl rfl ?_
                  refine pw_M [(0, .ref (A1 0 0)), (5, .ref (A1 7 (D 99 0 7))), (6, .ref (A1 3 0)), (7, .int (nI 24)), (8, .int (nI (i + 1)))] ⟨rfl, rfl, rfl, rfl, congrArg (fun z => some (Value.int z)) (nI_1 i), trivial⟩ ?_
                  exact ih (i + 1) (by omega)
            refine pw_M [(0, .ref (A1 0 0)), (5, .ref (A1 7 (D 99 0 7))), (6, .ref (A1 3 0)), (7, .int (nI 24)), (8, .int (nI 0))] ⟨rfl, rfl, rfl, rfl, rfl, trivial⟩ ?_
            exact loop 24 0 (by omega)
          iterate 2 refine pw_go tk_X10_law rfl rfl ?_
          refine pw_br tk_X10_law rfl rfl (fun c2 => ?_) (fun c2 => ?_)
          · have c2 : ¬ x = nI 111 := c2
            refine pw_go tk_X10_law rfl rfl ?_
            refine pw_M [(0, .ref (A 0 0)), (1, .int x), (2, .int (nI fr)), (3, .int (nI ei)), (4, .int (bI b))] ⟨rfl, rfl, rfl, rfl, rfl, trivial⟩ ?_
            exact k74 false (by rw [decide_eq_false c2])
          · have c2 : x = nI 111 := Decidable.not_not.mp c2
            iterate 2 refine pw_go tk_X10_law rfl rfl ?_
            refine pw_M [(0, .ref (A 0 0)), (1, .int x), (2, .int (nI fr)), (3, .int (nI ei)), (4, .int (bI b))] ⟨rfl, rfl, rfl, rfl, rfl, trivial⟩ ?_
            exact k74 true (by rw [decide_eq_true c2])
        · have c : ¬ D 0 0 5 < 8 := c
          rw [if_pos (show D 99 0 7 = 8 by omega)] at hQ
          subst hQ
          exact pw_throw hl rfl th_95_93 tk_X10_law rfl rfl rfl rfl rfl rfl ⟨done_0 I, List.mem_cons_of_mem _ List.mem_cons_self⟩
      · rintro E _ ⟨⟨rfl, rfl⟩, e2⟩
        rw [e2, Bool.and_false, if_pos rfl] at hQ
        subst hQ
        exact px_out rfl ⟨done_0 I, List.mem_cons_self⟩
    · rintro E _ ⟨⟨rfl, rfl⟩, e⟩
      rw [e, Bool.false_and, if_pos rfl] at hQ
      subst hQ
      exact px_out rfl ⟨done_0 I, List.mem_cons_self⟩
  iterate 2 refine pw_go tk_X10_law rfl rfl ?_
  refine pw_br tk_X10_law rfl rfl (fun c => k22 ?_) (fun c => ?_)
  · have c : x = nI 111 := c
    rw [decide_eq_true c]
    rfl
  iterate 2 refine pw_go tk_X10_law rfl rfl ?_
  refine pw_br tk_X10_law rfl rfl (fun c2 => k22 ?_) (fun c2 => ?_)
  · have c2 : x = nI 112 := c2
    rw [decide_eq_true c2, Bool.or_true]
  have c : ¬ x = nI 111 := c
  have c2 : ¬ x = nI 112 := c2
  subst hQ
  exact pw_throw hl rfl th_46_82 tk_X10_law rfl rfl rfl rfl rfl rfl ⟨done_0 I, by unfold lwK; rw [decide_eq_false c, decide_eq_false c2, if_pos (by rfl)]; exact List.mem_cons_self⟩
end FACE7

