/-! the face: persons -/
section FACE9
variable {G : fw_G} {D : fw_DB} {A : fw_AD} {M : fw_MP} {n : Nat}
/-- one more object, its row told by its own address -/
theorem hnew2 {k q m : Nat} {g : Nat → Nat} {o : fw_O} (W : Wf D A M) (hq : hp M A D q = none) (hn : m = D 99 0 k) (hk : k ≠ 99) (hr : rOk (dn D k m g 99 0) k m g) (ho : ∀ A' : fw_AD, A' k m = q → (∀ k' j, k' ≠ k → A' k' j = A k' j) → o = kRow A' k m g) : ∃ A' M', fw_up (hp M A D) q o = hp M' A' (dn D k m g) ∧ Wf (dn D k m g) A' M' ∧ A' k m = q ∧ ∀ k' j, k' ≠ k → A' k' j = A k' j := by
  have hA : ∀ k' j, k' ≠ k → an A k m q k' j = A k' j := fun k' j h => by
    unfold an
    rw [if_neg h]
  obtain ⟨h1, h2⟩ := hnew W hq hn hk hr
  exact ⟨_, _, by rw [ho (an A k m q) an_s hA]; exact h1, h2, an_s, hA⟩
def peK (D : fw_DB) : Nat := if D 99 0 8 = 6 then 1 else 0
theorem fw_up_q {H : fw_H} {q q1 q2 q3 q4 : Nat} {x y a b c d : fw_O} : fw_up (fw_up (fw_up (fw_up (fw_up (fw_up H q x) q2 a) q1 b) q4 c) q3 d) q y = fw_up (fw_up (fw_up (fw_up (fw_up H q2 a) q1 b) q4 c) q3 d) q y := funext fun e => by
  unfold fw_up
  by_cases h : e = q
  · rw [if_pos h, if_pos h]
  · simp only [if_neg h]
theorem fw_up_0 {H : fw_H} {a b : Nat} {x : fw_O} (n : b ≠ a) (e : H b = none) : fw_up H a x b = none := by
  rw [fw_up_n n]
  exact e
set_option maxRecDepth 20000 in
theorem f_person (hl : G.1.stackTraces = false) (I : IC n D A M) : PM G 2 6 643 mm_X10_person [.ref (A 0 0)] (hp M A D) (fw_qI (fun r h' => done n D A (peS D) h' ∧ peK D = 0 ∧ r = nI (D 99 0 8)) (fun E h' => done n D A D h' ∧ exI (peK D) E [(1, eIS)])) := by
  refine pm_of (by decide +kernel) rfl rfl rfl ?_
  have g := I.1
  have m := I.2.1
  obtain ⟨nn9, nn10, nn11, nn12, -, -⟩ := I.2.2.2.1
  have n8 := m.2.2.2.2.1
  have e06 : D 0 0 6 = D 99 0 8 := m.2.2.1.2.1
  have L0 := g.1.lv (k := 0) (i := 0) (by have := m.1.1; omega)
  have La := g.1.lv (k := 2) (i := 0) (by have := m.1.2.2.1; omega)
  refine pw_go tk_X10_person rfl rfl ?_
  refine pw_get tk_X10_person rfl fl_X10_128 (hget L0) rfl ?_
  refine pw_go tk_X10_person rfl rfl ?_
  refine pw_get tk_X10_person rfl fl_X10_17 (hget L0) rfl ?_
  refine pw_alen tk_X10_person rfl (hget La) (by decide) ?_
  refine pw_icN (D 0 0 6) (6) tk_X10_person rfl rfl rfl (by omega) (by omega) (fun c => ?_) (fun c => ?_)
  · have c : D 0 0 6 < 6 := c
    have hP : D 99 0 8 < 6 := by omega
    have eK : peK D = 0 := by
      unfold peK
      rw [if_neg (by omega)]
    rw [eK]
    refine pw_go tk_X10_person rfl rfl ?_
    refine pw_get tk_X10_person rfl fl_X10_17 (hget L0) rfl ?_
    refine pw_go tk_X10_person rfl rfl ?_
    refine pw_get tk_X10_person rfl fl_X10_128 (hget L0) rfl ?_
    refine pw_i (congrArg nI e06) ?_
    refine pw_new tk_X10_person rfl nw_X10_15 (fun q qf qg => ?_)
    refine pw_go tk_X10_person rfl rfl ?_
    refine pw_ci tk_X10_person rfl ca_X5_init (Or.inr ⟨_, lk_X10_133⟩) iv_X5_init rfl rfl (As := []) (rest := [.ref q, .int (nI (D 99 0 8)), .ref (A 2 0)]) (kc' := 1) (ks' := 6) (n_Person fw_up_s) (fun _ _ z => z) rfl rfl rfl (Nat.le_of_ble_eq_true rfl) (by decide) (by decide) ?_
    rintro _ _ ⟨rfl, q1, q2, q3, q4, z1, z2, z3, z4, n12, n13, n14, n23, n24, n34, rfl⟩
    refine pw_h fw_up_q ?_
    obtain ⟨y1, z1⟩ := fw_fr0 z1
    obtain ⟨y2, z2⟩ := fw_fr0 z2
    obtain ⟨y3, z3⟩ := fw_fr0 z3
    obtain ⟨y4, z4⟩ := fw_fr0 z4
    obtain ⟨A1, M1, h1, W1, a1, b1⟩ := hnew2 (k := 10) (m := D 99 0 8) (g := zz) (o := .inl (1, 313, .inr (.inl (wd (fun _ => false))))) g.1 z2 (by omega) (by decide) trivial (fun A' _ _ => rfl)
    rw [h1]
    have w1 : hp M1 A1 (dn D 10 (D 99 0 8) zz) q1 = none := by rw [← h1]; exact fw_up_0 n12 z1
    have w4 : hp M1 A1 (dn D 10 (D 99 0 8) zz) q4 = none := by rw [← h1]; exact fw_up_0 n24.symm z4
    have w3 : hp M1 A1 (dn D 10 (D 99 0 8) zz) q3 = none := by rw [← h1]; exact fw_up_0 n23.symm z3
    have wq : hp M1 A1 (dn D 10 (D 99 0 8) zz) q = none := by rw [← h1]; exact fw_up_0 y2.symm qf
    obtain ⟨A2, M2, h2, W2, a2, b2⟩ := hnew2 (k := 9) (m := D 99 0 8) (g := zz) (o := .inr (6, [.ref q2])) W1 w1 (by rw [dn_N, if_neg (by decide)]; omega) (by decide) (show D 99 0 8 < dn (dn D 10 (D 99 0 8) zz) 9 (D 99 0 8) zz 99 0 10 by rw [dn_N, if_neg (by decide), dn_N, if_pos rfl]; omega) (fun A' _ hA => by
      show _ = Sum.inr (6, [Value.ref (A' 10 (D 99 0 8))])
      rw [hA 10 _ (by decide), a1])
    rw [h2]
    have x4 : hp M2 A2 (dn (dn D 10 (D 99 0 8) zz) 9 (D 99 0 8) zz) q4 = none := by rw [← h2]; exact fw_up_0 n14.symm w4
    have x3 : hp M2 A2 (dn (dn D 10 (D 99 0 8) zz) 9 (D 99 0 8) zz) q3 = none := by rw [← h2]; exact fw_up_0 n13.symm w3
    have xq : hp M2 A2 (dn (dn D 10 (D 99 0 8) zz) 9 (D 99 0 8) zz) q = none := by rw [← h2]; exact fw_up_0 y1.symm wq
    obtain ⟨A3, M3, h3, W3, a3, b3⟩ := hnew2 (k := 12) (m := D 99 0 8) (g := zz) (o := .inl (1, 313, .inr (.inl (wd (fun _ => false))))) W2 x4 (by rw [dn_N, if_neg (by decide), dn_N, if_neg (by decide)]; omega) (by decide) trivial (fun A' _ _ => rfl)
    rw [h3]
    have v3 : hp M3 A3 (dn (dn (dn D 10 (D 99 0 8) zz) 9 (D 99 0 8) zz) 12 (D 99 0 8) zz) q3 = none := by rw [← h3]; exact fw_up_0 n34 x3
    have vq : hp M3 A3 (dn (dn (dn D 10 (D 99 0 8) zz) 9 (D 99 0 8) zz) 12 (D 99 0 8) zz) q = none := by rw [← h3]; exact fw_up_0 y4.symm xq
    obtain ⟨A4, M4, h4, W4, a4, b4⟩ := hnew2 (k := 11) (m := D 99 0 8) (g := zz) (o := .inr (6, [.ref q4])) W3 v3 (by rw [dn_N, if_neg (by decide), dn_N, if_neg (by decide), dn_N, if_neg (by decide)]; omega) (by decide) (show D 99 0 8 < dn (dn (dn (dn D 10 (D 99 0 8) zz) 9 (D 99 0 8) zz) 12 (D 99 0 8) zz) 11 (D 99 0 8) zz 99 0 12 by rw [dn_N, if_neg (by decide), dn_N, if_pos rfl]; omega) (fun A' _ hA => by
      show _ = Sum.inr (6, [Value.ref (A' 12 (D 99 0 8))])
      rw [hA 12 _ (by decide), a3])
    rw [h4]
    have uq : hp M4 A4 (dn (dn (dn (dn D 10 (D 99 0 8) zz) 9 (D 99 0 8) zz) 12 (D 99 0 8) zz) 11 (D 99 0 8) zz) q = none := by rw [← h4]; exact fw_up_0 y3.symm vq
    have N4 : ∀ f, dn (dn (dn (dn D 10 (D 99 0 8) zz) 9 (D 99 0 8) zz) 12 (D 99 0 8) zz) 11 (D 99 0 8) zz 99 0 f = if f = 9 ∨ f = 10 ∨ f = 11 ∨ f = 12 then D 99 0 8 + 1 else D 99 0 f := fun f => by
      rw [dn_N, dn_N, dn_N, dn_N]
      by_cases c1 : f = 11
      · rw [if_pos c1, if_pos (by omega)]
      · rw [if_neg c1]
        by_cases c2 : f = 12
        · rw [if_pos c2, if_pos (by omega)]
        · rw [if_neg c2]
          by_cases c3 : f = 9
          · rw [if_pos c3, if_pos (by omega)]
          · rw [if_neg c3]
            by_cases c4 : f = 10
            · rw [if_pos c4, if_pos (by omega)]
            · rw [if_neg c4, if_neg (by omega)]
    have a9 : A4 9 (D 99 0 8) = q1 := by rw [b4 9 _ (by decide), b3 9 _ (by decide), a2]
    obtain ⟨A5, M5, h5, W5, a5, b5⟩ := hnew2 (k := 8) (m := D 99 0 8) (g := zz) (o := .inr (8, [.ref q1, .ref q3, .null, .null, .null, .null, .null, .null, .int 0])) W4 uq (by rw [N4, if_neg (by decide)]) (by decide) (by
      refine ⟨?_, ?_, Nat.zero_le _, Nat.zero_le _, Nat.zero_le _, Nat.zero_le _, Nat.zero_le _, Nat.zero_le _⟩
      · rw [dn_N, if_neg (by decide), N4, if_pos (by omega)]
        omega
      · rw [dn_N, if_neg (by decide), N4, if_pos (by omega)]
        omega) (fun A' _ hA => by
      show _ = Sum.inr (8, [Value.ref (A' 9 (D 99 0 8)), Value.ref (A' 11 (D 99 0 8)), _, _, _, _, _, _, _])
      rw [hA 9 _ (by decide), hA 11 _ (by decide), a9, a4]
      rfl)
    rw [h5]
    have hA : ∀ k j, k ≠ 8 ∧ k ≠ 9 ∧ k ≠ 10 ∧ k ≠ 11 ∧ k ≠ 12 → A5 k j = A k j := fun k j h => by rw [b5 k j h.1, b4 k j h.2.2.2.1, b3 k j h.2.2.2.2, b2 k j h.2.1, b1 k j h.2.2.1]
    show PW G mm_X10_person _ 2 1 6 (hp M5 A5 (pe5 D (D 99 0 8))) _ _ _
    have W5 : Wf (pe5 D (D 99 0 8)) A5 M5 := W5
    clear h1 h2 h3 h4 h5 W1 W2 W3 W4 z1 z2 z3 z4 w1 w3 w4 wq x3 x4 xq v3 vq uq
    refine pw_e (st2 := [.ref (A5 8 (D 99 0 8)), .int (nI (D 99 0 8)), .ref (A5 2 0)]) (by rw [a5, hA 2 0 (by decide)]; rfl) ?_
    refine pw_M [(0, .ref (A5 0 0))] ⟨congrArg (fun z => some (Value.ref z)) (hA 0 0 (by decide)).symm, trivial⟩ ?_
    have L05 := W5.lv (k := 0) (i := 0) (by rw [pe5_N, if_neg (by omega)]; have := m.1.1; omega)
    have L25 := W5.lv (k := 2) (i := 0) (by rw [pe5_N, if_neg (by omega)]; have := m.1.2.2.1; omega)
    have L85 := W5.lv (k := 8) (i := D 99 0 8) (by rw [pe5_N, if_pos (by omega)]; omega)
    have t2 : pe5 D (D 99 0 8) 2 0 0 = D 99 0 8 := by rw [pe5_k (by decide)]; exact m.2.1.2.1
    refine pw_aastN (k := D 99 0 8) tk_X10_person rfl (hget L25) (by decide) (hget L85) rfl rfl rfl (by omega) (by omega) ?_
    have W6 : Wf (peT D) A5 M5 := W5.put (by decide) (show D 99 0 8 + 1 ≤ pe5 D (D 99 0 8) 99 0 8 by rw [pe5_N, if_pos (by omega)]; omega)
    refine pw_h (h' := hp M5 A5 (peT D)) (by
      rw [t2, rfs_up]
      exact hset (va_up (pe5 D (D 99 0 8) 2 0) 0 (D 99 0 8 + 1)) W5 L25) ?_
    have u0 : peT D 0 0 6 = D 99 0 8 := by
      unfold peT
      rw [dp_k (by decide), pe5_k (by decide)]
      exact e06
    iterate 2 refine pw_go tk_X10_person rfl rfl ?_
    refine pw_get tk_X10_person rfl fl_X10_128 (hget L05) rfl ?_
    refine pw_go tk_X10_person rfl rfl ?_
    refine pw_addN (D 99 0 8) (1) tk_X10_person rfl (congrArg nI u0) rfl ?_
    have W7 : Wf (peD D) A5 M5 := W6.put (by decide) (W6.ok (k := 0) (i := 0) (by
      have : peT D 99 0 0 = D 99 0 0 := by
        unfold peT
        rw [dp_k (by decide), pe5_N, if_neg (by omega)]
      have := m.1.1
      omega))
    refine pw_put tk_X10_person rfl fp_X10_128 (hget L05) rfl rfl (Nat.le_of_ble_eq_true rfl) ?_
    refine pw_h (h' := hp M5 A5 (peD D)) (hset (va_up (peT D 0 0) 6 (D 99 0 8 + 1)) W6 L05) ?_
    have v0 : peD D 0 0 6 = D 99 0 8 + 1 := by
      unfold peD
      rw [dp_s]
      rfl
    refine pw_go tk_X10_person rfl rfl ?_
    refine pw_get tk_X10_person rfl fl_X10_128 (hget L05) rfl ?_
    refine pw_go tk_X10_person rfl rfl ?_
    refine pw_subN (D 99 0 8 + 1) (1) tk_X10_person rfl (congrArg nI v0) rfl (by omega) ?_
    exact pw_iret tk_X10_person rfl rfl rfl ⟨_, rfl, ⟨_, A5, M5, rfl, ic_of W7 (icd_per (ic_d I) hP), pe_es, pe_hi, hA 0 0 (by decide), hA 30 0 (by decide), hA 46 0 (by decide), hA 70 0 (by decide), hA 71 0 (by decide)⟩, rfl, rfl⟩
  · have c : ¬ D 0 0 6 < 6 := c
    exact pw_throw hl rfl th_95_131 tk_X10_person rfl rfl rfl rfl rfl rfl ⟨done_0 I, by unfold peK; rw [if_pos (by omega)]; exact List.mem_cons_self⟩
end FACE9

