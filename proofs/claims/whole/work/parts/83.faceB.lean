/-! the class's constructor -/
section FACEB
variable {G : fw_G} {D : fw_DB} {A : fw_AD} {M : fw_MP}
theorem rfs_0 {f : Nat → Nat} : rfs 0 f = fun _ => none := funext fun j => if_neg (by omega)
theorem fw_up_q3 {H : fw_H} {q a b : Nat} {x X Y y : fw_O} : fw_up (fw_up (fw_up (fw_up H q x) a X) b Y) q y = fw_up (fw_up (fw_up H a X) b Y) q y := funext fun e => by
  unfold fw_up
  by_cases h : e = q
  · rw [if_pos h, if_pos h]
  · simp only [if_neg h]
theorem hn_none {q qx : Nat} {D' : fw_DB} {A' : fw_AD} {M' : fw_MP} {o : fw_O} (e : fw_up (hp M A D) qx o = hp M' A' D') (n : q ≠ qx) (h : hp M A D q = none) : hp M' A' D' q = none := by
  rw [← e]
  exact fw_up_0 n h
set_option maxRecDepth 20000 in
theorem f_init {q : Nat} (W : Wf D A M) (hz : ∀ k i f, k < 30 → D k i f = 0) (hN : ∀ f, f < 30 → D 99 0 f = 0) (hq : hp M A D q = none) : PM G 1 6 382 mm_X10_init [.ref q] (fw_up (hp M A D) q (.inr (13, [.null, .null, .null, .null, .null, .int 0, .int 0, .int 0, .int 0, .int 0]))) (fw_qV (fun h' => ∃ A' M', h' = hp M' A' (iD D) ∧ IC 0 (iD D) A' M' ∧ A' 0 0 = q ∧ ∀ k j, 6 < k → A' k j = A k j) fw_noX) := by
  refine pm_of (by decide +kernel) rfl rfl rfl ?_
  refine pw_go tk_X10_init rfl rfl ?_
  refine pw_oinit tk_X10_init rfl lk_X10_3 oi_1 oi_2 rfl ?_
  iterate 2 refine pw_go tk_X10_init rfl rfl ?_
  refine pw_newq (t := 5) (n := 8) (N' := 8) tk_X10_init rfl (by decide) rfl (by decide) cn_X10_9 (by decide) (by decide) (by decide) (fun q1 q1f q1g => ?_)
  obtain ⟨n1, q1f⟩ := fw_fr0 q1f
  refine pw_putF tk_X10_init rfl fq_X10_11 rfl ((by rw [fw_up_n n1.symm]; exact fw_up_s)) rfl rfl (Nat.le_of_ble_eq_true rfl) ?_
  refine pw_h fw_up_q2 ?_
  obtain ⟨A1, M1, h1, W1, a1, b1⟩ := hnew2 (k := 1) (m := 0) (g := zz) (o := .inl (5, 8, .inr (.inr (.inr (.inr (fun _ => none)))))) W q1f (by rw [hN 1 (by omega)]) (by decide) (Nat.zero_le _) (fun A' _ _ => by rw [← rfs_0 (f := A' 7)]; rfl)
  refine pw_h (congrArg (fun z => fw_up z q _) h1) ?_
  have hq := hn_none h1 n1.symm hq
  clear h1
  iterate 2 refine pw_go tk_X10_init rfl rfl ?_
  refine pw_newq (t := 6) (n := 6) (N' := 6) tk_X10_init rfl (by decide) rfl (by decide) cn_X10_15 (by decide) (by decide) (by decide) (fun q2 q2f q2g => ?_)
  obtain ⟨n2, q2f⟩ := fw_fr0 q2f
  refine pw_putF tk_X10_init rfl fq_X10_17 rfl ((by rw [fw_up_n n2.symm]; exact fw_up_s)) rfl rfl (Nat.le_of_ble_eq_true rfl) ?_
  refine pw_h fw_up_q2 ?_
  obtain ⟨A2, M2, h2, W2, a2, b2⟩ := hnew2 (k := 2) (m := 0) (g := zz) (o := .inl (6, 6, .inr (.inr (.inr (.inr (fun _ => none)))))) W1 q2f (by rw [dn_N, if_neg (by decide), hN 2 (by omega)]) (by decide) (Nat.zero_le _) (fun A' _ _ => by rw [← rfs_0 (f := A' 8)]; rfl)
  refine pw_h (congrArg (fun z => fw_up z q _) h2) ?_
  have hq := hn_none h2 n2.symm hq
  clear h2
  iterate 2 refine pw_go tk_X10_init rfl rfl ?_
  refine pw_newq (t := 7) (n := 24) (N' := 24) tk_X10_init rfl (by decide) rfl (by decide) cn_X10_21 (by decide) (by decide) (by decide) (fun q3 q3f q3g => ?_)
  obtain ⟨n3, q3f⟩ := fw_fr0 q3f
  refine pw_putF tk_X10_init rfl fq_X10_23 rfl ((by rw [fw_up_n n3.symm]; exact fw_up_s)) rfl rfl (Nat.le_of_ble_eq_true rfl) ?_
  refine pw_h fw_up_q2 ?_
  obtain ⟨A3, M3, h3, W3, a3, b3⟩ := hnew2 (k := 3) (m := 0) (g := zz) (o := .inl (7, 24, .inr (.inr (.inr (.inr (fun _ => none)))))) W2 q3f (by rw [dn_N, if_neg (by decide), dn_N, if_neg (by decide), hN 3 (by omega)]) (by decide) (Nat.zero_le _) (fun A' _ _ => by rw [← rfs_0 (f := A' 13)]; rfl)
  refine pw_h (congrArg (fun z => fw_up z q _) h3) ?_
  have hq := hn_none h3 n3.symm hq
  clear h3
  iterate 2 refine pw_go tk_X10_init rfl rfl ?_
  refine pw_newq (t := 8) (n := 30) (N' := 30) tk_X10_init rfl (by decide) rfl (by decide) cn_X10_27 (by decide) (by decide) (by decide) (fun q4 q4f q4g => ?_)
  obtain ⟨n4, q4f⟩ := fw_fr0 q4f
  refine pw_putF tk_X10_init rfl fq_X10_29 rfl ((by rw [fw_up_n n4.symm]; exact fw_up_s)) rfl rfl (Nat.le_of_ble_eq_true rfl) ?_
  refine pw_h fw_up_q2 ?_
  obtain ⟨A4, M4, h4, W4, a4, b4⟩ := hnew2 (k := 4) (m := 0) (g := zz) (o := .inl (8, 30, .inr (.inr (.inr (.inr (fun _ => none)))))) W3 q4f (by rw [dn_N, if_neg (by decide), dn_N, if_neg (by decide), dn_N, if_neg (by decide), hN 4 (by omega)]) (by decide) (Nat.zero_le _) (fun A' _ _ => by rw [← rfs_0 (f := A' 16)]; rfl)
  refine pw_h (congrArg (fun z => fw_up z q _) h4) ?_
  have hq := hn_none h4 n4.symm hq
  clear h4
  refine pw_go tk_X10_init rfl rfl ?_
  refine pw_new tk_X10_init rfl nw_X10_33 (fun q5 q5f q5g => ?_)
  obtain ⟨n5, q5f⟩ := fw_fr0 q5f
  refine pw_go tk_X10_init rfl rfl ?_
  refine pw_ci tk_X10_init rfl ca_X3_init (Or.inr ⟨_, lk_X10_35⟩) iv_X3_init rfl rfl (As := []) (rest := [.ref q5, .ref q]) (kc' := 0) (ks' := 0) (c_Days fw_up_s) (fun _ _ z => z) rfl rfl rfl (Nat.le_of_ble_eq_true rfl) (by decide) (by decide) ?_
  rintro _ _ ⟨rfl, q6, q6f, -, rfl⟩
  obtain ⟨n65, q6f⟩ := fw_fr0 q6f
  obtain ⟨n6, q6f⟩ := fw_fr0 q6f
  refine pw_h fw_up_q2 ?_
  refine pw_putF tk_X10_init rfl fq_X10_36 rfl ((by rw [fw_up_n n5.symm, fw_up_n n6.symm]; exact fw_up_s)) rfl rfl (Nat.le_of_ble_eq_true rfl) ?_
  refine pw_h fw_up_q3 ?_
  obtain ⟨A6, M6, h6, W6, a6, b6⟩ := hnew2 (k := 6) (m := 0) (g := zz) (o := .inl (1, 313, .inr (.inl (wd (fun _ => false))))) W4 q6f (by rw [dn_N, if_neg (by decide), dn_N, if_neg (by decide), dn_N, if_neg (by decide), dn_N, if_neg (by decide), hN 6 (by omega)]) (by decide) trivial (fun A' _ _ => rfl)
  have q5f := hn_none h6 n65.symm q5f
  have hq := hn_none h6 n6.symm hq
  obtain ⟨A5, M5, h5, W5, a5, b5⟩ := hnew2 (k := 5) (m := 0) (g := zz) (o := .inr (6, [.ref q6])) W6 q5f (by rw [dn_N, if_neg (by decide), dn_N, if_neg (by decide), dn_N, if_neg (by decide), dn_N, if_neg (by decide), dn_N, if_neg (by decide), hN 5 (by omega)]) (by decide) (show 0 < dn (dn _ 6 0 zz) 5 0 zz 99 0 6 by rw [dn_N, if_neg (by decide), dn_N, if_pos rfl]; omega) (fun A' _ hA => by
    show _ = Sum.inr (6, [Value.ref (A' 6 0)])
    rw [hA 6 0 (by decide), a6])
  have hq := hn_none h5 n5.symm hq
  refine pw_h (congrArg (fun z => fw_up z q _) ((congrArg (fun z => fw_up z q5 _) h6).trans h5)) ?_
  have c1 : A5 1 0 = q1 := by rw [b5 1 0 (by decide), b6 1 0 (by decide), b4 1 0 (by decide), b3 1 0 (by decide), b2 1 0 (by decide), a1]
  have c2 : A5 2 0 = q2 := by rw [b5 2 0 (by decide), b6 2 0 (by decide), b4 2 0 (by decide), b3 2 0 (by decide), a2]
  have c3 : A5 3 0 = q3 := by rw [b5 3 0 (by decide), b6 3 0 (by decide), b4 3 0 (by decide), a3]
  have c4 : A5 4 0 = q4 := by rw [b5 4 0 (by decide), b6 4 0 (by decide), a4]
  obtain ⟨A0, M0, h0, W0, a0, b0⟩ := hnew2 (k := 0) (m := 0) (g := zz) (o := .inr (13, [.ref q1, .ref q2, .ref q3, .ref q4, .ref q5, .int 0, .int 0, .int 0, .int 0, .int 0])) W5 hq (by rw [dn_N, if_neg (by decide), dn_N, if_neg (by decide), dn_N, if_neg (by decide), dn_N, if_neg (by decide), dn_N, if_neg (by decide), dn_N, if_neg (by decide), hN 0 (by omega)]) (by decide) (by
    have e := fun f => iD_N (D := D) f
    show 0 < iD D 99 0 1 ∧ 0 < iD D 99 0 2 ∧ 0 < iD D 99 0 3 ∧ 0 < iD D 99 0 4 ∧ 0 < iD D 99 0 5
    rw [e 1, e 2, e 3, e 4, e 5, if_pos (by decide), if_pos (by decide), if_pos (by decide), if_pos (by decide), if_pos (by decide)]
    exact ⟨Nat.one_pos, Nat.one_pos, Nat.one_pos, Nat.one_pos, Nat.one_pos⟩) (fun A' _ hA => by
    show _ = Sum.inr (13, [Value.ref (A' 1 0), Value.ref (A' 2 0), Value.ref (A' 3 0), Value.ref (A' 4 0), Value.ref (A' 5 0), _, _, _, _, _])
    rw [hA 1 0 (by decide), hA 2 0 (by decide), hA 3 0 (by decide), hA 4 0 (by decide), hA 5 0 (by decide), c1, c2, c3, c4, a5]
    rfl)
  refine pw_h (h' := hp M0 A0 (iD D)) h0 ?_
  exact pw_vret tk_X10_init rfl rfl ⟨rfl, A0, M0, rfl, ic_of W0 (icd_0 hz hN), a0, fun k j hk => by rw [b0 k j (by omega), b5 k j (by omega), b6 k j (by omega), b4 k j (by omega), b3 k j (by omega), b2 k j (by omega), b1 k j (by omega)]⟩
end FACEB

