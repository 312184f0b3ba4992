/-! REFERENCE: all facts; what is asked of warrants -/
theorem rfs_s {k b : Nat} {ad : Nat → Nat} : va_up (rfs k ad) k (some b) = rfs (k + 1) (fun j => if j = k then b else ad j) := funext fun j => by
  unfold va_up rfs
  by_cases c : j = k
  · subst c
    rw [if_pos rfl, if_pos (by omega)]
    show some b = some (if j = j then b else ad j)
    rw [if_pos rfl]
  · rw [if_neg c]
    by_cases c2 : j < k
    · rw [if_pos c2, if_pos (by omega)]
      show some (ad j) = some (if j = k then b else ad j)
      rw [if_neg c]
    · rw [if_neg c2, if_neg (by omega)]
theorem sT_2 {D : fw_DB} {a b : Nat} : sT (sT D a) b = sT D b := by
  unfold sT
  rw [dp_2, dp_s]
  congr 1
  funext f
  unfold va_up
  split <;> rfl
theorem sT_0 {D : fw_DB} {t : Nat} : sT D t 30 0 0 = t := by
  unfold sT
  rw [dp_s]
  rfl
/-- the class's own rows, those of the law -/
def lo (D D' : fw_DB) : Prop := (∀ k, (k < 30 ∨ k = 70 ∨ k = 71) → D' k = D k) ∧ ∀ f, (f < 30 ∨ f = 70 ∨ f = 71) → D' 99 0 f = D 99 0 f
theorem lo.rf {D : fw_DB} : lo D D := ⟨fun _ _ => rfl, fun _ _ => rfl⟩
theorem lo.tr {D D1 D2 : fw_DB} (a : lo D D1) (b : lo D1 D2) : lo D D2 := ⟨fun k h => (b.1 k h).trans (a.1 k h), fun f h => (b.2 f h).trans (a.2 f h)⟩
theorem lo_dp {D : fw_DB} {k i : Nat} {g : Nat → Nat} (h : 30 ≤ k ∧ k < 70) : lo D (dp D k i g) := ⟨fun k' h' => funext fun j => dp_k (by omega), fun f _ => by rw [dp_k (by omega)]⟩
/-- what a call leaves behind: K thrown, the days being S' -/
def rdn (S' D : fw_DB) (A : fw_AD) (K : Nat) (h' : fw_H) : Prop := ∃ D' A' M', IR S' D' ∧ Wf D' A' M' ∧ (∀ (b : Nat) (o : fw_O), hp M' A' D' b = some o → h' b = some o) ∧ lo D D' ∧ adk A A' ∧ D' 30 0 0 = K
section REFB
variable {G : fw_G} {n : Nat} {S D : fw_DB} {A : fw_AD} {M : fw_MP} {h : fw_H}
theorem rdn_of {K : Nat} {h' : fw_H} (R : RD G n S (sT D K) A M h') : rdn S D A K h' := ⟨sT D K, A, M, R.2.1, R.2.2.1, R.2.2.2.1, lo_dp (by decide), adk.rf, sT_0⟩
theorem n_facts (R : RD G n S D A M h) : PM G 8 193 2352 mm_X17_facts [.ref (A 30 0)] h (fw_qQ (fun x h' => ∃ q ad, x = some q ∧ (∀ (c : Nat) (o : fw_O), h c = some o → h' c = some o) ∧ FA S h' q ad (S 99 0 13)) fw_noX) := by
  refine pm_of (by decide +kernel) rfl rfl rfl ?_
  have hN := R.n7
  have loop : ∀ j k, j + k = S 99 0 13 → ∀ (H : fw_H) (q : Nat) (ad : Nat → Nat), (∀ (c : Nat) (o : fw_O), h c = some o → H c = some o) → h q = none → H q = some (.inl (9, S 99 0 13, .inr (.inr (.inr (.inr (rfs k ad)))))) → (∀ i, i < k → H (ad i) = some (fcO S i)) → PW G mm_X17_facts (fw_qQ (fun x h' => ∃ q ad, x = some q ∧ (∀ (c : Nat) (o : fw_O), h c = some o → h' c = some o) ∧ FA S h' q ad (S 99 0 13)) fw_noX) 8 (8 * j) (97 * j) H 13 [(0, .ref (A 30 0)), (1, .ref q), (2, .int (nI k))] [] := by
    intro j
    induction j with
    | zero =>
      intro k hk H q ad sH hq Hq HF
      have hk : k = S 99 0 13 := by omega
      subst hk
      iterate 2 refine pw_go tk_X17_facts rfl rfl ?_
      refine pw_alen tk_X17_facts rfl Hq (by decide) ?_
      refine pw_icN (S 99 0 13) (S 99 0 13) tk_X17_facts rfl rfl rfl (by omega) (by omega) (fun _ => ?_) (fun c => absurd (show S 99 0 13 ≤ S 99 0 13 by omega) c)
      refine pw_go tk_X17_facts rfl rfl ?_
      exact pw_aret (r := some q) tk_X17_facts rfl rfl (Or.inr ⟨_, rfl⟩) ⟨some q, rfl, q, ad, rfl, sH, Hq, HF⟩
    | succ j ih =>
      intro k hk H q ad sH hq Hq HF
      have hw : k < S 99 0 13 := by omega
      have RH := R.mono sH
      iterate 2 refine pw_go tk_X17_facts rfl rfl ?_
      refine pw_alen tk_X17_facts rfl Hq (by decide) ?_
      refine pw_icN (k) (S 99 0 13) tk_X17_facts rfl rfl rfl (by omega) (by omega) (fun c => absurd (show S 99 0 13 ≤ k from c) (by omega)) (fun _ => ?_)
      iterate 4 refine pw_go tk_X17_facts rfl rfl ?_
      refine pw_get tk_X17_facts rfl fl_X17_19 RH.m rfl ?_
      refine pw_go tk_X17_facts rfl rfl ?_
      refine pw_lget (k := k) tk_X17_facts rfl (RH.l3) hw rfl rfl rfl rfl ?_
      refine pw_cast tk_X17_facts rfl (RH.war hw) rfl cw_X17_88 ?_
      refine pw_go tk_X17_facts rfl rfl ?_
      refine pw_cv tk_X17_facts rfl ca_X17_factOf lk_X17_264 iv_X17_factOf sv_X17_factOf RH.m rfl rfl (As := [.ref (A 53 k), .ref q]) (rest := [.int (nI k), .ref q]) (kc' := 8 * j) (ks' := 97 * j) (n_factOf RH hw Hq (by omega) (by omega) HF) rfl rfl rfl (Nat.le_of_ble_eq_true rfl) (show 8 + 8 * j ≤ 8 * (j + 1) by omega) (show 97 + 97 * j ≤ 97 * (j + 1) by omega) ?_ ?_
      · rintro _ H2 ⟨_, rfl, b, rfl, hb, s2, hb2⟩
        refine pw_aastN (k := k) tk_X17_facts rfl (s2 _ _ Hq) (by decide) hb2 rfl rfl rfl hw (by omega) ?_
        rw [rfs_s]
        refine pw_go tk_X17_facts rfl rfl ?_
        refine pw_M [(0, .ref (A 30 0)), (1, .ref q), (2, .int (nI (k + 1)))] ⟨rfl, rfl, congrArg (fun z => some (Value.int z)) (nI_1 k), trivial⟩ ?_
        refine pw_go tk_X17_facts rfl rfl ?_
        have up : ∀ {a : Nat} {o : fw_O} {o' : fw_O}, H2 a = some o → (∀ x, o ≠ .inl x) → fw_up H2 q o' a = some o := fun {a o o'} ha hn => by
          rw [fw_up_n (fun z => by rw [z, s2 _ _ Hq] at ha; cases ha; exact hn _ rfl)]
          exact ha
        refine ih (k + 1) (by omega) _ q _ (fun c o hc => ?_) hq fw_up_s (fun i hi => ?_)
        · rw [fw_up_n (fun z => by rw [z, hq] at hc; cases hc)]
          exact s2 _ _ (sH _ _ hc)
        · by_cases z : i = k
          · subst z
            rw [if_pos rfl]
            exact up hb2 (fun x hx => by cases hx)
          · rw [if_neg z]
            exact up (s2 _ _ (HF i (by omega))) (fun x hx => by cases hx)
      · exact fun _ _ z => z.elim
  refine pw_go tk_X17_facts rfl rfl ?_
  refine pw_get tk_X17_facts rfl fl_X17_19 R.m rfl ?_
  refine pw_lsz tk_X17_facts rfl (R.l3) rfl rfl rfl ?_
  refine pw_mono (Q' := fw_qp 0 h) (Nat.le_refl _) (show 8 * S 99 0 13 + 1 ≤ 193 by omega) (show 97 * S 99 0 13 + S 99 0 13 ≤ 2352 by omega) ?_
  refine pw_newq (t := 9) (N' := S 99 0 13) (Cn := "TermreckonryModel$Fact") tk_X17_facts rfl (by decide) rfl (by decide) (fw_gw 1693 (by decide +kernel) (by decide +kernel)) (fun z => by have := (nI_ltI (a := S 99 0 13) (b := 0) (by omega) (by omega)).mp z; omega) (nI_clamp (show S 99 0 13 < 2 ^ 31 by omega)) (by omega) (fun q hq hg => ?_)
  iterate 3 refine pw_go tk_X17_facts rfl rfl ?_
  refine pw_W (loop (S 99 0 13) 0 (by omega) _ q (fun _ => 0) (up_sub hq) hq ?_ (fun i hi => absurd hi (by omega))) ⟨rfl, rfl, rfl, trivial⟩
  rw [fw_up_s, show rfs 0 (fun _ => 0) = fun _ => none from funext fun j => if_neg (by omega)]
theorem n_begun {x : Int32} (R : RD G n S D A M h) : PM G 9 193 2352 mm_X17_begun [.ref (A 30 0), .int x] h (fw_qQ (fun r h' => RD G n S (sT D (bgK S x)) A M h' ∧ ((bgK S x ≠ 0 ∧ r = none) ∨ (bgK S x = 0 ∧ ∃ b w, r = some b ∧ w < S 99 0 13 ∧ x = nI w ∧ h' b = some (fcO S w)))) fw_noX) := by
  refine pm_of (by decide +kernel) rfl rfl rfl ?_
  have hN := R.n7
  iterate 2 refine pw_go tk_X17_begun rfl rfl ?_
  refine pw_cv tk_X17_begun rfl ca_X17_noWarrant lk_X17_101 iv_X17_noWarrant sv_X17_noWarrant R.m rfl rfl (As := [.int x]) (rest := [])  (n_noWarrant R) rfl rfl rfl (Nat.le_of_ble_eq_true rfl) (Nat.le_of_eq (Nat.zero_add _)) (Nat.le_of_eq (Nat.zero_add _)) ?_ ?_
  · rintro _ h2 ⟨_, rfl, rfl, e9⟩
    rw [e9]
    cases hk : knI x (S 99 0 13) with
    | false =>
      refine pw_ifeqB tk_X17_begun rfl (fun c => absurd c (by decide)) (fun _ => ?_)
      refine pw_go tk_X17_begun rfl rfl ?_
      have e := bgK_1 hk
      have e2 : nwK S x = 1 := by unfold nwK; rw [hk]; rfl
      rw [e, e2]
      exact pw_aret (r := none) tk_X17_begun rfl rfl (Or.inl ⟨_, rfl⟩) ⟨none, rfl, R.t 1, Or.inl ⟨by decide, rfl⟩⟩
    | true =>
      obtain ⟨w, hw, rfl⟩ := knI_to hk (by omega)
      have e2 : nwK S (nI w) = 0 := by unfold nwK; rw [hk]; rfl
      have e := bgK_n hw (by omega)
      rw [e2]
      have R1 := R.t 0
      refine pw_ifeqB tk_X17_begun rfl (fun _ => ?_) (fun c => absurd c (by decide))
      refine pw_go tk_X17_begun rfl rfl ?_
      refine pw_cv tk_X17_begun rfl ca_X17_facts lk_X17_294 iv_X17_facts sv_X17_facts R1.m rfl rfl (As := []) (rest := []) (kc' := 0) (ks' := 0) (n_facts R1) rfl rfl rfl (Nat.le_of_ble_eq_true rfl) (Nat.le_refl _) (Nat.le_refl _) ?_ ?_
      · rintro _ H ⟨_, rfl, q, ad, rfl, s1, F⟩
        have RH := R1.mono s1
        refine pw_go tk_X17_begun rfl rfl ?_
        refine pw_aaldN (k := w) tk_X17_begun rfl F.1 (by decide) rfl rfl hw (by omega) ?_
        refine pw_q (x' := some (ad w)) (if_pos hw) ?_
        have hb := F.2 w hw
        have hb2 := hb
        unfold fcO at hb2
        iterate 3 refine pw_go tk_X17_begun rfl rfl ?_
        refine pw_get tk_X17_begun rfl fl_X17_232 hb2 rfl ?_
        have k : ∀ t, RD G n S (sT D t) A M (tU A (sT D 0) H t) := fun t => by
          have := RH.t t
          rw [sT_2] at this
          exact this
        have up : ∀ t, tU A (sT D 0) H t (ad w) = some (fcO S w) := fun t => by
          unfold tU
          rw [fw_up_n (fun z => by rw [z, RH.m] at hb; cases hb)]
          exact hb
        refine pw_ifeqB (b := fB S w) tk_X17_begun rfl (fun c => ?_) (fun c => ?_)
        · have c : FD S 13 w 14 = 1000000 := by
            unfold fB at c
            simpa using c
          rw [e, if_pos c]
          refine pw_go tk_X17_begun rfl rfl ?_
          refine pw_put tk_X17_begun rfl fp_X17_28 RH.m rfl rfl (Nat.le_of_ble_eq_true rfl) ?_
          refine pw_h (h' := tU A (sT D 0) H 2) rfl ?_
          refine pw_go tk_X17_begun rfl rfl ?_
          refine pw_get tk_X17_begun rfl fl_X17_28 ((k 2).m) rfl ?_
          refine pw_ifN (2) tk_X17_begun rfl rfl (by omega) (fun c => absurd (show 2 ≤ 0 from c) (by omega)) (fun _ => ?_)
          iterate 2 refine pw_go tk_X17_begun rfl rfl ?_
          exact pw_aret (r := none) tk_X17_begun rfl rfl (Or.inl ⟨_, rfl⟩) ⟨none, rfl, k 2, Or.inl ⟨by decide, rfl⟩⟩
        · have c : FD S 13 w 14 ≠ 1000000 := by
            unfold fB at c
            simpa using c
          rw [e, if_neg c]
          iterate 2 refine pw_go tk_X17_begun rfl rfl ?_
          refine pw_put tk_X17_begun rfl fp_X17_28 RH.m rfl rfl (Nat.le_of_ble_eq_true rfl) ?_
          refine pw_h (h' := tU A (sT D 0) H 0) rfl ?_
          refine pw_go tk_X17_begun rfl rfl ?_
          refine pw_get tk_X17_begun rfl fl_X17_28 ((k 0).m) rfl ?_
          refine pw_ifN (0) tk_X17_begun rfl rfl (by omega) (fun _ => ?_) (fun c => absurd (show 0 ≤ 0 by omega) c)
          refine pw_go tk_X17_begun rfl rfl ?_
          exact pw_aret (r := some (ad w)) tk_X17_begun rfl rfl (Or.inl ⟨_, rfl⟩) ⟨some (ad w), rfl, k 0, Or.inr ⟨rfl, ad w, w, rfl, hw, rfl, up 0⟩⟩
      · exact fun _ _ z => z.elim
  · exact fun _ _ z => z.elim
theorem bgK_w {w : Nat} (h : ICd n S) (hw : w < S 99 0 13) (hk : bgK S (nI w) = 0) : FD S 13 w 14 ≠ 1000000 := fun z => by
  rw [bgK_n hw h.1.2.2, if_pos z] at hk
  cases hk
theorem m_begins {x : Int32} (R : RD G n S D A M h) : PM G 10 193 2352 mm_X17_begins [.ref (A 30 0), .int x] h (fw_qI (fun r h' => rdn S D A (bgK S x) h' ∧ (bgK S x = 0 → r = nI (FD S 13 x.toNatClampNeg 14))) fw_noX) := by
  refine pm_of (by decide +kernel) rfl rfl rfl ?_
  have hN := R.n7
  iterate 2 refine pw_go tk_X17_begins rfl rfl ?_
  refine pw_cv tk_X17_begins rfl ca_X17_begun lk_X17_305 iv_X17_begun sv_X17_begun R.m rfl rfl (As := [.int x]) (rest := []) (kc' := 0) (ks' := 0) (n_begun R) rfl rfl rfl (Nat.le_of_ble_eq_true rfl) (Nat.le_refl _) (Nat.le_refl _) ?_ ?_
  · rintro _ H ⟨_, rfl, R2, ⟨hk, rfl⟩ | ⟨hk, b, w, rfl, hw, rfl, hb⟩⟩
    · iterate 2 refine pw_go tk_X17_begins rfl rfl ?_
      refine pw_go tk_X17_begins rfl rfl ?_
      iterate 2 refine pw_go tk_X17_begins rfl rfl ?_
      exact pw_iret tk_X17_begins rfl rfl rfl ⟨_, rfl, rdn_of R2, fun z => absurd z hk⟩
    · rw [fcO_1 (bgK_w R.1 hw hk)] at hb
      iterate 2 refine pw_go tk_X17_begins rfl rfl ?_
      refine pw_go tk_X17_begins rfl rfl ?_
      refine pw_go tk_X17_begins rfl rfl ?_
      refine pw_get tk_X17_begins rfl fl_X17_238 hb rfl ?_
      exact pw_iret tk_X17_begins rfl rfl rfl ⟨_, rfl, rdn_of R2, fun _ => by rw [nI_tn (by omega)]⟩
  · exact fun _ _ z => z.elim
theorem m_needed {x : Int32} (R : RD G n S D A M h) : PM G 10 193 2352 mm_X17_needed [.ref (A 30 0), .int x] h (fw_qI (fun r h' => rdn S D A (bgK S x) h' ∧ (bgK S x = 0 → r = nI (FD S 13 x.toNatClampNeg 15))) fw_noX) := by
  refine pm_of (by decide +kernel) rfl rfl rfl ?_
  have hN := R.n7
  iterate 2 refine pw_go tk_X17_needed rfl rfl ?_
  refine pw_cv tk_X17_needed rfl ca_X17_begun lk_X17_305 iv_X17_begun sv_X17_begun R.m rfl rfl (As := [.int x]) (rest := []) (kc' := 0) (ks' := 0) (n_begun R) rfl rfl rfl (Nat.le_of_ble_eq_true rfl) (Nat.le_refl _) (Nat.le_refl _) ?_ ?_
  · rintro _ H ⟨_, rfl, R2, ⟨hk, rfl⟩ | ⟨hk, b, w, rfl, hw, rfl, hb⟩⟩
    · iterate 2 refine pw_go tk_X17_needed rfl rfl ?_
      refine pw_go tk_X17_needed rfl rfl ?_
      iterate 2 refine pw_go tk_X17_needed rfl rfl ?_
      exact pw_iret tk_X17_needed rfl rfl rfl ⟨_, rfl, rdn_of R2, fun z => absurd z hk⟩
    · rw [fcO_1 (bgK_w R.1 hw hk)] at hb
      iterate 2 refine pw_go tk_X17_needed rfl rfl ?_
      refine pw_go tk_X17_needed rfl rfl ?_
      refine pw_go tk_X17_needed rfl rfl ?_
      refine pw_get tk_X17_needed rfl fl_X17_246 hb rfl ?_
      exact pw_iret tk_X17_needed rfl rfl rfl ⟨_, rfl, rdn_of R2, fun _ => by rw [nI_tn (by omega)]⟩
  · exact fun _ _ z => z.elim
end REFB

