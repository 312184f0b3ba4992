/-! THE LAW: from its entry -/
theorem IR_hi2 {S D D' : fw_DB} (I : IR S D) (e : ∀ k, 30 ≤ k → k < 70 → D' k = D k) (eN : ∀ f, 30 ≤ f → f < 70 → D' 99 0 f = D 99 0 f) : IR S D' := by
  unfold IR LR at I ⊢
  rw [e 31 (by decide) (by decide), e 32 (by decide) (by decide), e 33 (by decide) (by decide), e 34 (by decide) (by decide), e 35 (by decide) (by decide), e 41 (by decide) (by decide), e 42 (by decide) (by decide), e 43 (by decide) (by decide), e 44 (by decide) (by decide), e 45 (by decide) (by decide), e 51 (by decide) (by decide), e 53 (by decide) (by decide), e 54 (by decide) (by decide), e 55 (by decide) (by decide), e 56 (by decide) (by decide), e 57 (by decide) (by decide), e 58 (by decide) (by decide), eN 30 (by decide) (by decide), eN 46 (by decide) (by decide), eN 31 (by decide) (by decide), eN 32 (by decide) (by decide), eN 33 (by decide) (by decide), eN 34 (by decide) (by decide), eN 35 (by decide) (by decide), eN 41 (by decide) (by decide), eN 42 (by decide) (by decide), eN 43 (by decide) (by decide), eN 44 (by decide) (by decide), eN 45 (by decide) (by decide), eN 51 (by decide) (by decide), eN 52 (by decide) (by decide), eN 53 (by decide) (by decide), eN 54 (by decide) (by decide), eN 55 (by decide) (by decide), eN 56 (by decide) (by decide), eN 57 (by decide) (by decide), eN 58 (by decide) (by decide)]
  obtain ⟨i1, i2, i3, i4, i5⟩ := I
  exact ⟨i1, i2, i3, fun f a b => by rw [eN f (by omega) (by omega)]; exact i4 f a b, i5⟩
def D00 : fw_DB := fun k i f => if k = 99 ∧ i = 0 ∧ f = 46 then 1 else 0
def A00 (G : fw_G) : fw_AD := fun k _ => if k = 46 then tE G else 0
theorem D00_N {f : Nat} : D00 99 0 f = if f = 46 then 1 else 0 := by
  unfold D00
  by_cases c : f = 46
  · rw [if_pos ⟨rfl, rfl, c⟩, if_pos c]
  · rw [if_neg (fun z => c z.2.2), if_neg c]
theorem W00 {G : fw_G} : Wf D00 (A00 G) (fun _ => none) := by
  refine ⟨fun a k i h => (by cases h), fun k i h46 h => ?_, fun a k i h => (by cases h), fun k i h => ?_⟩
  · rw [D00_N, if_neg h46] at h
    omega
  · rw [D00_N] at h
    split at h
    · rename_i z
      subst z
      trivial
    · omega
theorem iD_M {f : Nat} : iD D00 99 0 f = if f ≤ 6 then 1 else if f = 46 then 1 else 0 := by
  unfold iD
  rw [dn_N, dn_N, dn_N, dn_N, dn_N, dn_N, dn_N, D00_N]
  rcases (show f = 0 ∨ f = 1 ∨ f = 2 ∨ f = 3 ∨ f = 4 ∨ f = 5 ∨ f = 6 ∨ 6 < f by omega) with rfl | rfl | rfl | rfl | rfl | rfl | rfl | h
  · rfl
  · rfl
  · rfl
  · rfl
  · rfl
  · rfl
  · rfl
  · rw [if_neg (by omega), if_neg (by omega), if_neg (by omega), if_neg (by omega), if_neg (by omega), if_neg (by omega), if_neg (by omega), if_neg (show ¬ f ≤ 6 by omega)]
section START
variable {G : fw_G}
set_option maxRecDepth 50000 in
theorem law_start (hl : G.1.stackTraces = false) (hb : nS G ≤ 4608) : PW G mm_L_law_ lwQ 11 603072 7186538 (fun _ => none) 0 [(0, .ref (cS G))] [] := by
  have h0 : (fun _ => none : fw_H) = hp (fun _ => none) (A00 G) D00 := rfl
  rw [h0]
  refine pw_mono (Q' := lwQ) (kc' := 600000 + 1) (ks' := 7180000 + 10) (Nat.le_refl _) (by decide) (by decide) ?_
  refine pw_new tk_l0 rfl nw_L_8 (fun q qf qg => ?_)
  refine pw_go tk_l0 rfl rfl ?_
  refine pw_ci tk_l0 rfl ca_X10_init (Or.inl lk_L_121) iv_X10_init rfl rfl (As := []) (rest := [.ref q]) (kc' := 599000) (ks' := 7170000) (f_init W00 (fun k i f hk => if_neg (fun z => by omega)) (fun f hf => by rw [D00_N, if_neg (by omega)]) qf) (fun _ _ z => z) rfl rfl rfl (Nat.le_of_ble_eq_true rfl) (show 6 + 599000 ≤ 600000 by decide) (show 382 + 7170000 ≤ 7180000 by decide) ?_
  rintro _ _ ⟨rfl, A1, M1, rfl, I1, a0, a6⟩
  refine pw_go tk_l0 rfl rfl ?_
  refine pw_mono (Q' := lwQ) (kc' := 590000 + 1) (ks' := 7160000 + 6) (Nat.le_refl _) (by decide) (by decide) ?_
  refine pw_new tk_l0 rfl nw_L_122 (fun q2 q2f q2g => ?_)
  have t1 : A1 46 0 = tE G := by
    rw [a6 46 0 (by decide)]
    exact if_pos rfl
  refine pw_go tk_l0 rfl rfl ?_
  refine pw_ci tk_l0 rfl ca_X17_init (Or.inl lk_L_124) iv_X17_init rfl rfl (As := []) (rest := [.ref q2]) (kc' := 580000) (ks' := 7150000) (m_ctor (S := iD D00) I1.1.1 (fun _ _ z => z) (by rw [iD_M]; rfl) (fun f f1 f2 f3 => by rw [iD_M, if_neg (by omega), if_neg f3]) ⟨by rw [iD_M]; rfl, by rw [iD_M]; rfl, by rw [iD_M]; rfl, by rw [iD_M]; rfl, by rw [iD_M]; rfl⟩ t1 q2f) (fun _ _ z => z) rfl rfl rfl (Nat.le_of_ble_eq_true rfl) (show 5 + 580000 ≤ 590000 by decide) (show 15 + 7150000 ≤ 7160000 by decide) ?_
  rintro _ h2 ⟨rfl, D2, A2, M2, I2, W2, s2, l2, b0, b6, b30⟩
  iterate 2 refine pw_go tk_l0 rfl rfl ?_
  refine pw_mono (Q' := lwQ) (kc' := 570000 + 1) (ks' := 7140000 + 1) (Nat.le_refl _) (by decide) (by decide) ?_
  refine pw_newa (t := 1) (N' := 1) (a0 := (1, .inr (.inl (fun _ => 0)))) tk_l0 rfl (by decide) rfl rfl ar_long (fun _ => rfl) (by decide) (by decide) (by decide) (fun q3 q3f _ => ?_)
  obtain ⟨A3, M3, W3, s3, x3, y3, -⟩ := sub_new (k := 70) (m := 0) (g := zz) (o := .inl (1, 1, .inr (.inl (fun _ => 0)))) W2 s2 q3f (by rw [l2.2 70 (Or.inr (Or.inl rfl)), iD_M]; rfl) (by decide) trivial (fun A' _ _ => by
    show _ = (Sum.inl (1, 1, .inr (.inl (fun j => if j = 0 then lN 0 else 0))) : fw_O)
    congr 5
    funext j
    split <;> rfl)
  iterate 2 refine pw_go tk_l0 rfl rfl ?_
  refine pw_mono (Q' := lwQ) (kc' := 560000 + 1) (ks' := 7130000 + 1) (Nat.le_refl _) (by decide) (by decide) ?_
  refine pw_newa (t := 3) (N' := 1) (a0 := (1, .inr (.inr (.inr (.inl (fun _ => 0)))))) tk_l0 rfl (by decide) rfl rfl ar_double (fun _ => rfl) (by decide) (by decide) (by decide) (fun q4 q4f _ => ?_)
  obtain ⟨A4, M4, W4, s4, x4, y4, -⟩ := sub_new (k := 71) (m := 0) (g := zz) (o := .inl (3, 1, .inr (.inr (.inr (.inl (fun _ => 0)))))) W3 s3 q4f (by rw [dn_N, if_neg (by decide), l2.2 71 (Or.inr (Or.inr rfl)), iD_M]; rfl) (by decide) trivial (fun A' _ _ => by
    show _ = (Sum.inl (3, 1, .inr (.inr (.inr (.inl (fun j => if j = 0 then UInt64.ofNat 0 else 0))))) : fw_O)
    congr 7
    funext j
    split <;> rfl)
  obtain ⟨D4, hD4⟩ : ∃ D4, D4 = dn (dn D2 70 0 zz) 71 0 zz := ⟨_, rfl⟩
  rw [← hD4] at W4 s4
  have e4 : ∀ k, k ≠ 70 → k ≠ 71 → k ≠ 99 → D4 k = D2 k := fun k k1 k2 k3 => by rw [hD4, dw_k k3 k2, dw_k k3 k1]
  have n4 : ∀ f, D4 99 0 f = if f = 71 then 1 else if f = 70 then 1 else D2 99 0 f := fun f => by rw [hD4, dn_N, dn_N]
  have L : LI G 0 D4 A4 M4 := by
    refine ⟨IC_of (ICd_lo (IC_d I1) (fun k hk => ?_) (fun f hf => ?_)) W4, ?_, ⟨?_, ?_⟩, ?_⟩
    · rw [e4 k (by omega) (by omega) (by omega), l2.1 k (Or.inl hk)]
    · rw [n4, if_neg (by omega), if_neg (by omega), l2.2 f (Or.inl hf)]
    · refine IR_S (S := iD D00) (IR_hi2 I2 (fun k k1 k2 => e4 k (by omega) (by omega) (by omega)) (fun f f1 f2 => by rw [n4, if_neg (by omega), if_neg (by omega)])) (fun k i f h hi => ?_)
      by_cases c : k = 99
      · rw [hi c]
        subst c
        have hf : f < 30 := by
          unfold es at h
          simp only [Bool.or_eq_true, decide_eq_true_eq] at h
          omega
        rw [n4, if_neg (by omega), if_neg (by omega), l2.2 f (Or.inl hf)]
      · have hk : k < 30 := by
          unfold es at h
          split at h <;> first | omega | (cases h)
        rw [e4 k (by omega) (by omega) (by omega), l2.1 k (Or.inl hk)]
    · rw [n4, if_neg (by decide), if_pos rfl]
    · rw [n4, if_pos rfl]
    · rw [y4 _ _ (by decide), y3 _ _ (by decide), b6 _ _ (by decide) (by decide)]
      exact t1
  have z0 : A4 0 0 = q := by rw [y4 _ _ (by decide), y3 _ _ (by decide), b6 _ _ (by decide) (by decide)]; exact a0
  have z30 : A4 30 0 = q2 := by rw [y4 _ _ (by decide), y3 _ _ (by decide)]; exact b0
  have z70 : A4 70 0 = q3 := by rw [y4 _ _ (by decide)]; exact x3
  iterate 3 refine pw_go tk_l0 rfl rfl ?_
  refine pw_forget s4 ?_
  refine pw_mono (Q' := lwQ) (kc' := 210 * 512) (ks' := 2500 * 512 + 61000 * (6 - D4 99 0 8)) (Nat.le_refl _) (by omega) (by omega) ?_
  exact law_loop hl hb 512 0 rfl D4 A4 M4 L _ ⟨rfl, congrArg (fun z => some (Value.ref z)) z0.symm, congrArg (fun z => some (Value.ref z)) z30.symm, congrArg (fun z => some (Value.ref z)) z70.symm, congrArg (fun z => some (Value.ref z)) x4.symm, rfl, trivial⟩
end START

