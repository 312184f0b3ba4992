/-! REFERENCE: what follows for a warrant -/
theorem wadd_fil {ad lw : Nat → Nat → Nat} {aw : Nat → Bool} {g : Nat → Nat} {b s : Nat} : ∀ {l : List Nat} {n : Nat}, n ≤ wmost g s → wadd ad lw aw g b s n l = wadd ad lw aw g b s n (l.filter (fun i => decide (0 < ad i 1)))
  | [], _, _ => rfl
  | i :: l, n, h => by
    rw [List.filter_cons]
    by_cases c : 0 < ad i 1
    · rw [if_pos (decide_eq_true c)]
      unfold wadd
      refine wadd_fil ?_
      split
      · exact Nat.min_le_right _ _
      · exact h
    · rw [if_neg (by rw [decide_eq_false c]; decide), ← wadd_fil h]
      show wadd ad lw aw g b s (if _ then min (n + ad i 1) (wmost g s) else n) l = _
      have e : min (n + ad i 1) (wmost g s) = n := by
        rw [Nat.min_eq_left (by omega)]
        omega
      rw [e]
      congr 1
      split <;> rfl
theorem wadd_nof {ad lw : Nat → Nat → Nat} {aw : Nat → Bool} {g : Nat → Nat} {b s : Nat} (h : wfx g = false) : ∀ {l : List Nat} {n : Nat}, wadd ad lw aw g b s n l = n
  | [], _ => rfl
  | i :: l, n => by
    unfold wadd
    rw [h, Bool.false_and, if_neg (by decide)]
    exact wadd_nof h
section FDP
variable {n w : Nat} {S : fw_DB}
theorem fdag : agw (S 13 w) (FD S 13 w) := agw_sc FD_sc w
theorem fd14 (h : ICd n S) (hw : w < S 99 0 13) : FD S 13 w 14 = if wct (S 13 w) = true then (if 0 < S 13 w 5 ∧ wct (S 13 (S 13 w 5 - 1)) = true then max (wown (S 13 w)) (FD S 13 (S 13 w 5 - 1) 16) else wown (S 13 w)) else 1000000 := by
  rw [(fx_is (FD_fxW (okd h) hw)).1]
  unfold wbeg
  rw [← wct_a fdag, ← wown_a fdag, f13 (by decide), ← wct_a (fdag (w := S 13 w 5 - 1))]
theorem fdnd (h : ICd n S) (hw : w < S 99 0 13) : wneed (S 7) (S 13 w) (spn (FD S) w) ≤ wmost (S 13 w) (spn (FD S) w) := by
  have := (FD_fxW (okd h) hw).2.2.1
  rw [f7, ← wneed_a fdag, ← wmost_a fdag] at this
  exact this
theorem fd15 (h : ICd n S) (hw : w < S 99 0 13) (hb : FD S 13 w 14 ≠ 1000000) : FD S 13 w 15 = wadd (S 16) (S 7) (sB (S 10 (S 13 w 1))) (S 13 w) (FD S 13 w 14) (spn (FD S) w) (wneed (S 7) (S 13 w) (spn (FD S) w)) (alP S (S 13 w 1) (S 99 0 16)) := by
  rw [((fx_is (FD_fxW (okd h) hw)).2.2 hb).1]
  unfold ndF awF
  rw [f7, f16, f10, ← wneed_a fdag, ← wadd_a fdag, f13 (f := 1) (by decide), wadd_fil (fdnd h hw)]
  rfl
theorem fd16 (h : ICd n S) (hw : w < S 99 0 13) (hb : FD S 13 w 14 ≠ 1000000) : FD S 13 w 16 = wrel (S 7) (sB (S 10 (S 13 w 1))) (S 13 w) (FD S 13 w 14) (FD S 13 w 15) := by
  obtain ⟨h1, h2, -⟩ := (fx_is (FD_fxW (okd h) hw)).2.2 hb
  rw [h2, ← h1]
  unfold awF
  rw [f7, f10, f13 (f := 1) (by decide), ← wrel_a fdag]
theorem fdsp : spn (FD S) w = sp_len (FD S 13 w 14) (S 15 w 0) (S 15 w 1) (S 15 w 2) := by
  unfold spn
  rw [f15]
theorem fcO_0 (h : ICd n S) (hw : w < S 99 0 13) (hb : FD S 13 w 14 = 1000000) : fcO S w = .inr (15, [.int 0, .int 0, .int 0, .int 0, .int (nI 20000), .int (-1)]) := by
  obtain ⟨-, -, -, hnb, -⟩ := fdw h hw
  obtain ⟨a1, a2, a3⟩ := hnb hb
  unfold fcO
  have e : fB S w = false := decide_eq_false (fun z => z hb)
  have e2 : fE S w = -1 := if_neg (fun z => z.1 hb)
  rw [e, e2, a1, a2]
  rfl
theorem fcO_1 (hb : FD S 13 w 14 ≠ 1000000) : fcO S w = .inr (15, [.int 1, .int (nI (FD S 13 w 14)), .int (nI (spn (FD S) w)), .int (nI (FD S 13 w 15)), .int (nI (min (FD S 13 w 16) 20000)), .int (fE S w)]) := by
  unfold fcO
  have e : fB S w = true := decide_eq_true hb
  rw [e, if_pos rfl, if_pos rfl]
  rfl
end FDP
theorem mx0 {a c : Nat} (ha : a < 1073741824) (hc : c < 1073741824) : (if (0 : Int32) < nI a - nI c then nI a - nI c else 0) = nI (a - c) := by
  have h1 := nI_toInt (n := a) (by omega)
  have h2 := nI_toInt (n := c) (by omega)
  have hs : (nI a - nI c).toInt = (a : Int) - c := by
    rw [Int32.toInt_sub, h1, h2, Int.bmod_eq_of_le (by omega) (by omega)]
  have h3 : (0 : Int32) < nI a - nI c ↔ c < a := by
    rw [Int32.lt_iff_toInt_lt, hs]
    show (0 : Int) < _ ↔ _
    omega
  by_cases z : c < a
  · rw [if_pos (h3.mpr z), pk_sub (by omega)]
  · rw [if_neg (fun y => z (h3.mp y)), show a - c = 0 by omega]
    rfl
theorem LV.upd {H : fw_H} {a n b ci : Nat} {F : Nat → Nat} {fs fs' : List Value} (l : LV H a n F) (hb : H b = some (.inr (ci, fs))) (hc : ci ≠ 4) : LV (fw_up H b (.inr (ci, fs'))) a n F := by
  obtain ⟨e, cap, h1, h2, h3⟩ := l
  refine ⟨e, cap, ?_, fun z => (h2 z).imp fun f hf => ⟨?_, hf.2⟩, h3⟩
  · rw [fw_up_n (fun z => by rw [z, hb] at h1; cases h1; exact hc rfl)]
    exact h1
  · rw [fw_up_n (fun z => by have := hf.1; rw [z, hb] at this; cases this)]
    exact hf.1
section REFA
variable {G : fw_G} {n : Nat} {S D : fw_DB} {A : fw_AD} {M : fw_MP} {h : fw_H}
theorem n_factInit {b : Nat} (hb : h b = some (.inr (15, [.int 0, .int 0, .int 0, .int 0, .int 0, .int 0]))) : PM G 1 0 0 mm_X12_init [.ref b] h (fw_qV (fun h' => h' = fw_up h b (.inr (15, [.int 0, .int 0, .int 0, .int 0, .int (nI 20000), .int (-1)]))) fw_noX) := by
  refine pm_of (by decide +kernel) rfl rfl rfl ?_
  refine pw_go tk_X12_init rfl rfl ?_
  refine pw_oinit tk_X12_init rfl lk_X12_3 oi_1 oi_2 rfl ?_
  iterate 2 refine pw_go tk_X12_init rfl rfl ?_
  refine pw_put tk_X12_init rfl fp_X12_9 hb rfl rfl (Nat.le_of_ble_eq_true rfl) ?_
  iterate 2 refine pw_go tk_X12_init rfl rfl ?_
  refine pw_put tk_X12_init rfl fp_X12_15 fw_up_s rfl rfl (Nat.le_of_ble_eq_true rfl) ?_
  rw [fw_up_2]
  exact pw_vret tk_X12_init rfl rfl ⟨rfl, rfl⟩
abbrev fo (B s m : Nat) (r e : Int32) : fw_O := .inr (15, [.int 1, .int (nI B), .int (nI s), .int (nI m), .int r, .int e])
set_option maxRecDepth 20000 in
set_option maxHeartbeats 2000000 in
theorem n_factOf {w q N : Nat} {ad : Nat → Nat} (R : RD G n S D A M h) (hw : w < S 99 0 13) (hq : h q = some (.inl (9, N, .inr (.inr (.inr (.inr (rfs w ad))))))) (hwN : w < N) (hN9 : N ≤ 24) (hF : ∀ j, j < w → h (ad j) = some (fcO S j)) : PM G 7 8 97 mm_X17_factOf [.ref (A 30 0), .ref (A 53 w), .ref q] h (fw_qQ (fun x h' => ∃ b, x = some b ∧ h b = none ∧ (∀ (c : Nat) (o : fw_O), h c = some o → h' c = some o) ∧ h' b = some (fcO S w)) fw_noX) := by
  refine pm_of (by decide +kernel) rfl rfl rfl ?_
  have hN := R.n7
  obtain ⟨B, hk, h5, h7, h1⟩ := icw R.1 hw
  obtain ⟨b2, b3, b4, b9, b10, b11, b15, -⟩ := B
  obtain ⟨h14, h16, hle, hnb, h15, h17⟩ := fdw R.1 hw
  have e14 := fd14 R.1 hw
  have h5b := ((okd R.1).2.2.2.1 w hw).1
  have hlw : S 13 w 7 ≤ S 99 0 7 := by rw [h7]; exact lwN_le _
  refine pw_new (kc := 7) (ks := 91) tk_X17_factOf rfl nw_X17_224 (fun b bf bg => ?_)
  refine pw_go tk_X17_factOf rfl rfl ?_
  refine pw_ci tk_X17_factOf rfl ca_X12_init (Or.inr ⟨_, lk_X17_226⟩) iv_X12_init rfl rfl (As := []) (rest := [.ref b])  (n_factInit fw_up_s) (fun _ _ z => z) rfl rfl rfl (Nat.le_of_ble_eq_true rfl) (Nat.le_of_eq (Nat.zero_add _)) (Nat.le_of_eq (Nat.zero_add _)) ?_
  rintro _ _ ⟨rfl, rfl⟩
  rw [fw_up_2]
  have R1 := R.up (o := .inr (15, [.int 0, .int 0, .int 0, .int 0, .int (nI 20000), .int (-1)])) bf
  have hb0 : fw_up h b (.inr (15, [.int 0, .int 0, .int 0, .int 0, .int (nI 20000), .int (-1)])) b = some (.inr (15, [.int 0, .int 0, .int 0, .int 0, .int (nI 20000), .int (-1)])) := fw_up_s
  have s0 : ∀ (c : Nat) (o : fw_O), h c = some o → fw_up h b (.inr (15, [.int 0, .int 0, .int 0, .int 0, .int (nI 20000), .int (-1)])) c = some o := up_sub bf
  generalize fw_up h b (.inr (15, [.int 0, .int 0, .int 0, .int 0, .int (nI 20000), .int (-1)])) = H0 at *
  have none0 : ∀ {pc : Nat} {L : List (Nat × Value)} {nx a : Nat} {v : Int32}, fw_at tb_X17_factOf pc = some (.areturn, nx, a, v) → FD S 13 w 14 = 1000000 → PW G mm_X17_factOf (fw_qQ (fun x h' => ∃ b, x = some b ∧ h b = none ∧ (∀ (c : Nat) (o : fw_O), h c = some o → h' c = some o) ∧ h' b = some (fcO S w)) fw_noX) 7 7 91 H0 pc L [.ref b] := fun {pc L nx a v} hr e => pw_aret (r := some b) tk_X17_factOf hr rfl (Or.inl ⟨_, rfl⟩) ⟨some b, rfl, b, rfl, bf, s0, by rw [fcO_0 R.1 hw e]; exact hb0⟩
  -- its return
  have ret : ∀ (H : fw_H) (kc ks : Nat) (L : List (Nat × Value)), fw_lk L 3 = some (.ref b) → (∀ (c : Nat) (o : fw_O), h c = some o → H c = some o) → H b = some (fcO S w) → PW G mm_X17_factOf (fw_qQ (fun x h' => ∃ b, x = some b ∧ h b = none ∧ (∀ (c : Nat) (o : fw_O), h c = some o → h' c = some o) ∧ h' b = some (fcO S w)) fw_noX) 7 kc ks H 426 L [] := by
    intro H kc ks L hL s1 s2
    refine pw_aloadq (r := some b) tk_X17_factOf rfl rfl hL ?_
    exact pw_aret (r := some b) tk_X17_factOf rfl rfl (Or.inl ⟨_, rfl⟩) ⟨some b, rfl, b, rfl, bf, s1, s2⟩
  -- from the release on
  have kE : FD S 13 w 14 ≠ 1000000 → ∀ (H : fw_H) (v8 : Value), (∀ (c : Nat) (o : fw_O), h c = some o → H c = some o) → H b = some (fo (FD S 13 w 14) (spn (FD S) w) (FD S 13 w 15) (nI 20000) (-1)) → PW G mm_X17_factOf (fw_qQ (fun x h' => ∃ b, x = some b ∧ h b = none ∧ (∀ (c : Nat) (o : fw_O), h c = some o → h' c = some o) ∧ h' b = some (fcO S w)) fw_noX) 7 0 0 H 333 [(0, .ref (A 30 0)), (1, .ref (A 53 w)), (2, .ref q), (3, .ref b), (4, .int (nI (FD S 13 w 14)))] [] := by
    intro hb14 H v8 sH hbH
    have hB : FD S 13 w 14 < 20000 := h14.resolve_right hb14
    have RH := R.mono sH
    have e16 := fd16 R.1 hw hb14
    have e17 := fd17 R.1 hw hb14
    have esp := fdsp (S := S) (w := w)
    have hsp := sp_len_up hB b15.1 b15.2.1 b15.2.2
    rw [← esp] at hsp
    obtain ⟨r1, r2, r3⟩ := fr_is R.1 hw
    have efc := fcO_1 (w := w) hb14
    have cl : ∀ d, cu (fun d => !sB (S 10 (S 13 w 1)) d) d ≤ d := fun d => cu_le _ d
    iterate 5 refine pw_go tk_X17_factOf rfl rfl ?_
    refine pw_get tk_X17_factOf rfl fl_X17_246 hbH rfl ?_
    refine pw_cvp tk_X17_factOf rfl ca_X17_releaseBy lk_X17_253 iv_X17_releaseBy sv_X17_releaseBy RH.m rfl rfl (As := [.ref (A 53 w), .int (nI (FD S 13 w 14)), .int (nI (FD S 13 w 15))]) (rest := [.ref b]) (n_releaseBy RH hw hB (by omega)) rfl rfl rfl rfl ?_
    rw [← e16]
    generalize min (FD S 13 w 16) 20000 = r at *
    refine pw_put tk_X17_factOf rfl fp_X17_235 hbH rfl rfl (Nat.le_of_ble_eq_true rfl) ?_
    have s2 : ∀ (c : Nat) (o : fw_O), h c = some o → fw_up H b (fo (FD S 13 w 14) (spn (FD S) w) (FD S 13 w 15) (nI r) (-1)) c = some o := fun c o hc => by
      rw [fw_up_n (fun z => by rw [z, bf] at hc; cases hc)]
      exact sH c o hc
    have hb2 : fw_up H b (fo (FD S 13 w 14) (spn (FD S) w) (FD S 13 w 15) (nI r) (-1)) b = some (fo (FD S 13 w 14) (spn (FD S) w) (FD S 13 w 15) (nI r) (-1)) := fw_up_s
    refine pw_h (h' := fw_up H b (fo (FD S 13 w 14) (spn (FD S) w) (FD S 13 w 15) (nI r) (-1))) rfl ?_
    have hup : ∀ o, fw_up (fw_up H b (fo (FD S 13 w 14) (spn (FD S) w) (FD S 13 w 15) (nI r) (-1))) b o = fw_up H b o := fun o => fw_up_2
    generalize fw_up H b (fo (FD S 13 w 14) (spn (FD S) w) (FD S 13 w 15) (nI r) (-1)) = H2 at *
    have RH2 := R.mono s2
    refine pw_go tk_X17_factOf rfl rfl ?_
    refine pw_get tk_X17_factOf rfl fl_X17_16 RH2.m rfl ?_
    refine pw_go tk_X17_factOf rfl rfl ?_
    refine pw_get tk_X17_factOf rfl fl_X17_128 (RH2.war hw) rfl ?_
    refine pw_lget (k := S 13 w 1) tk_X17_factOf rfl (RH2.l2) h1 rfl rfl rfl rfl ?_
    refine pw_cast tk_X17_factOf rfl (RH2.per h1) rfl cw_X17_112 ?_
    refine pw_get tk_X17_factOf rfl fl_X17_257 (RH2.per h1) rfl ?_
    iterate 2 refine pw_go tk_X17_factOf rfl rfl ?_
    refine pw_get tk_X17_factOf rfl fl_X17_235 hb2 rfl ?_
    refine pw_go tk_X17_factOf rfl rfl ?_
    refine pw_icN (r) (19999) tk_X17_factOf rfl rfl rfl (by omega) (by omega) (fun c => ?_) (fun c => ?_)
    · have c : 19999 < r := c
      refine ret H2 _ _ _ rfl s2 ?_
      have e : fE S w = -1 := if_neg (fun z => by have := r2 z.2.1; omega)
      rw [efc, e]
      exact hb2
    have c : ¬ 19999 < r := c
    have h16 : FD S 13 w 16 < 20000 := by rcases h16 with z | z; exact z; (have := r3 z; omega)
    have er := r2 h16
    refine pw_go tk_X17_factOf rfl rfl ?_
    refine pw_cvp tk_X17_factOf rfl ca_X16_isFixed lk_X17_108 iv_X16_isFixed sv_X16_isFixed (RH2.war hw) rfl rfl (As := []) (rest := []) (n_isFixed RH2 hw b2) rfl rfl rfl rfl ?_
    refine pw_ifeqB tk_X17_factOf rfl (fun c2 => ?_) (fun c2 => ?_)
    · refine ret H2 _ _ _ rfl s2 ?_
      have e : fE S w = -1 := if_neg (fun z => by have := z.2.2; rw [c2] at this; cases this)
      rw [efc, e]
      exact hb2
    have eE : fE S w = nO (FD S 13 w 17) := if_pos ⟨hb14, h16, c2⟩
    have k2 : ¬ (FD S 13 w 16 = 1000000 ∨ S 13 w 2 = 100) ∧ S 13 w 2 ≠ 108 := by
      unfold wfx at c2
      simp only [Bool.or_eq_true, decide_eq_true_eq] at c2
      omega
    rw [if_neg k2.1, if_neg k2.2] at e17
    have m1 := cl r
    have m2 := cu_mono (fun d => !sB (S 10 (S 13 w 1)) d) (show FD S 13 w 14 ≤ r by omega)
    have n1 := cu_not (sB (S 10 (S 13 w 1))) r
    have n2 := cu_not (sB (S 10 (S 13 w 1))) (FD S 13 w 14)
    have n3 := cu_mono (sB (S 10 (S 13 w 1))) (show FD S 13 w 14 ≤ r by omega)
    rw [← er, cu_iv (show r ≤ 20032 by omega)] at e17
    refine pw_go tk_X17_factOf rfl rfl ?_
    refine pw_get tk_X17_factOf rfl fl_X17_235 hb2 rfl ?_
    refine pw_go tk_X17_factOf rfl rfl ?_
    refine pw_subN (r) (FD S 13 w 14) tk_X17_factOf rfl rfl rfl (by omega) ?_
    iterate 2 refine pw_go tk_X17_factOf rfl rfl ?_
    refine pw_get tk_X17_factOf rfl fl_X17_235 hb2 rfl ?_
    refine pw_free (k := r) tk_X17_factOf rfl RH2 h1 (by omega) rfl ?_
    iterate 2 refine pw_go tk_X17_factOf rfl rfl ?_
    refine pw_free (k := FD S 13 w 14) tk_X17_factOf rfl RH2 h1 (by omega) rfl ?_
    refine pw_subN (cu (fun d => !sB (S 10 (S 13 w 1)) d) r) (cu (fun d => !sB (S 10 (S 13 w 1)) d) (FD S 13 w 14)) tk_X17_factOf rfl rfl rfl (by omega) ?_
    refine pw_subN (r - FD S 13 w 14) (cu (fun d => !sB (S 10 (S 13 w 1)) d) r - cu (fun d => !sB (S 10 (S 13 w 1)) d) (FD S 13 w 14)) tk_X17_factOf rfl rfl rfl (by omega) ?_
    iterate 4 refine pw_go tk_X17_factOf rfl rfl ?_
    refine pw_get tk_X17_factOf rfl fl_X17_241 hb2 rfl ?_
    refine pw_addN (FD S 13 w 14) (spn (FD S) w) tk_X17_factOf rfl rfl rfl ?_
    refine pw_go tk_X17_factOf rfl rfl ?_
    refine pw_cvp tk_X17_factOf rfl ca_X16_counted lk_X17_149 iv_X16_counted sv_X16_counted (RH2.war hw) rfl rfl (As := []) (rest := [.int (nI (FD S 13 w 14 + spn (FD S) w)), .ref b]) (n_counted RH2 hw b11) rfl rfl rfl rfl ?_
    refine pw_go tk_X17_factOf rfl rfl ?_
    refine pw_go tk_X17_factOf rfl rfl ?_
    refine pw_go tk_X17_factOf rfl rfl ?_
    have hwc : wcn (S 13 w) ≤ 1000000 := by unfold wcn; omega
    refine pw_i (x' := fE S w) ?_ ?_
    · rw [eE, nO_sum hwc, e17]
      congr 1
      omega
    refine pw_put tk_X17_factOf rfl fp_X17_261 hb2 rfl rfl (Nat.le_of_ble_eq_true rfl) ?_
    refine ret _ _ _ _ rfl (fun c o hc => ?_) ?_
    · rw [fw_up_n (fun z => by rw [z, bf] at hc; cases hc)]
      exact s2 c o hc
    · rw [fw_up_s, efc]
      rfl
  -- the loop over added days
  have kL : ∀ l : List Nat, (∀ i ∈ l, i < S 99 0 16) → l.length ≤ 30 → (l = [] ∨ wfx (S 13 w) = true) → FD S 13 w 14 ≠ 1000000 → ∀ j k, j + k = l.length → ∀ (H : fw_H) (m it al lst : Nat), (∀ (c : Nat) (o : fw_O), h c = some o → H c = some o) → H b = some (fo (FD S 13 w 14) (spn (FD S) w) m (nI 20000) (-1)) → H it = some (itO al l.length k lst) → h it = none → LV H al l.length (fun j => A 54 (l.getD j 0)) → wadd (S 16) (S 7) (sB (S 10 (S 13 w 1))) (S 13 w) (FD S 13 w 14) (spn (FD S) w) m (l.drop k) = FD S 13 w 15 → m ≤ wmost (S 13 w) (spn (FD S) w) → ∀ v5 v6 : Value, PW G mm_X17_factOf (fw_qQ (fun x h' => ∃ b, x = some b ∧ h b = none ∧ (∀ (c : Nat) (o : fw_O), h c = some o → h' c = some o) ∧ h' b = some (fcO S w)) fw_noX) 7 0 0 H 260 [(0, .ref (A 30 0)), (1, .ref (A 53 w)), (2, .ref q), (3, .ref b), (4, .int (nI (FD S 13 w 14))), (7, .int (nI (wmost (S 13 w) (spn (FD S) w)))), (8, .ref it)] [] := by
    intro l hl hl30 hlf hb14 j
    have hB : FD S 13 w 14 < 20000 := h14.resolve_right hb14
    have esp := fdsp (S := S) (w := w)
    have hsp := sp_len_up hB b15.1 b15.2.1 b15.2.2
    rw [← esp] at hsp
    have hmo : wmost (S 13 w) (spn (FD S) w) < 50000 := by unfold wmost; omega
    induction j with
    | zero =>
      intro k hk H m it al lst sH hbH hit hith lv hwd hm v5 v6
      have hk : k = l.length := by omega
      subst hk
      rw [List.drop_length] at hwd
      have hwd : m = FD S 13 w 15 := hwd
      refine pw_go tk_X17_factOf rfl rfl ?_
      refine pw_ifh tk_X17_factOf rfl (hit) (j_hasNext lv hit (by omega)) (rest := []) rfl rfl rfl rfl ?_
      rw [decide_eq_false (fun z => z rfl)]
      refine pw_ifeqB tk_X17_factOf rfl (fun _ => ?_) (fun c => absurd c (by decide))
      rw [hwd] at hbH
      exact pw_W (kE hb14 H .null sH hbH) ⟨rfl, rfl, rfl, rfl, rfl, trivial⟩
    | succ j ih =>
      intro k hk H m it al lst sH hbH hit hith lv hwd hm v5 v6
      have hk2 : k < l.length := by omega
      have hfx : wfx (S 13 w) = true := hlf.resolve_left (fun z => by rw [z] at hk2; exact absurd hk2 (Nat.not_lt_zero _))
      have hi : l.getD k 0 ∈ l := by
        rw [List.getD_eq_getElem?_getD, List.getElem?_eq_getElem hk2]
        exact List.getElem_mem hk2
      have hd : l.drop k = l.getD k 0 :: l.drop (k + 1) := by
        rw [List.drop_eq_getElem_cons hk2, List.getD_eq_getElem?_getD, List.getElem?_eq_getElem hk2]
        rfl
      have hi2 := hl _ hi
      obtain ⟨a1, a2⟩ := R.1.1.1.2.2 _ hi2
      rw [hd] at hwd
      generalize hgd : l.getD k 0 = i at *
      refine pw_go tk_X17_factOf rfl rfl ?_
      refine pw_ifh tk_X17_factOf rfl (hit) (j_hasNext lv hit (by omega)) (rest := []) rfl rfl rfl rfl ?_
      rw [decide_eq_true (show k ≠ l.length by omega)]
      refine pw_ifeqB tk_X17_factOf rfl (fun c => absurd c (by decide)) (fun _ => ?_)
      refine pw_go tk_X17_factOf rfl rfl ?_
      refine pw_ifn tk_X17_factOf rfl (hit) (j_next lv hit hk2) (rest := []) rfl rfl rfl rfl ?_
      rw [hgd]
      have hbi : b ≠ it := fun z => by rw [← z, hbH] at hit; cases hit
      have sH2 : ∀ (c : Nat) (o : fw_O), h c = some o → fw_up H it (itO al l.length (k + 1) (k + 1)) c = some o := fun c o hc => by
        rw [fw_up_n (fun z => by rw [z, hith] at hc; cases hc)]
        exact sH c o hc
      have hbH2 : fw_up H it (itO al l.length (k + 1) (k + 1)) b = some (fo (FD S 13 w 14) (spn (FD S) w) m (nI 20000) (-1)) := by
        rw [fw_up_n hbi]
        exact hbH
      have hit2 : fw_up H it (itO al l.length (k + 1) (k + 1)) it = some (itO al l.length (k + 1) (k + 1)) := fw_up_s
      have lv2 := lv.upd (fs' := [.int (nI (k + 1)), .int (nP (k + 1)), .int (nI l.length), .ref al]) hit (by decide)
      generalize fw_up H it (itO al l.length (k + 1) (k + 1)) = H2 at *
      have RH2 := R.mono sH2
      have skip : (decide (FD S 13 w 14 ≤ S 16 i 0) && decide (S 16 i 0 < wrel (S 7) (sB (S 10 (S 13 w 1))) (S 13 w) (FD S 13 w 14) m)) = false → PW G mm_X17_factOf (fw_qQ (fun x h' => ∃ b, x = some b ∧ h b = none ∧ (∀ (c : Nat) (o : fw_O), h c = some o → h' c = some o) ∧ h' b = some (fcO S w)) fw_noX) 7 0 0 H2 330 [(9, .ref (A 54 i)), (0, .ref (A 30 0)), (1, .ref (A 53 w)), (2, .ref q), (3, .ref b), (4, .int (nI (FD S 13 w 14))), (7, .int (nI (wmost (S 13 w) (spn (FD S) w)))), (8, .ref it)] [] := by
        intro e
        refine pw_go tk_X17_factOf rfl rfl ?_
        refine pw_W (ih (k + 1) (by omega) H2 m it al _ sH2 hbH2 hit2 hith lv2 ?_ hm v5 v6) ⟨rfl, rfl, rfl, rfl, rfl, rfl, rfl, trivial⟩
        rw [← hwd]
        show _ = wadd _ _ _ _ _ _ (if _ then _ else _) _
        rw [e, Bool.and_false, if_neg (by decide)]
      refine pw_cast tk_X17_factOf rfl (RH2.add hi2) rfl cw_X17_185 ?_
      iterate 3 refine pw_go tk_X17_factOf rfl rfl ?_
      refine pw_get tk_X17_factOf rfl fl_X17_217 (RH2.add hi2) rfl ?_
      refine pw_icN (FD S 13 w 14) (S 16 i 0) tk_X17_factOf rfl rfl rfl (by omega) (by omega) (fun c => ?_) (fun c => ?_)
      · have c : S 16 i 0 < FD S 13 w 14 := c
        exact skip (by rw [decide_eq_false (p := FD S 13 w 14 ≤ S 16 i 0) (by omega)]; rfl)
      have c : ¬ S 16 i 0 < FD S 13 w 14 := c
      iterate 4 refine pw_go tk_X17_factOf rfl rfl ?_
      refine pw_get tk_X17_factOf rfl fl_X17_246 hbH2 rfl ?_
      refine pw_cvp tk_X17_factOf rfl ca_X17_releaseBy lk_X17_253 iv_X17_releaseBy sv_X17_releaseBy RH2.m rfl rfl (As := [.ref (A 53 w), .int (nI (FD S 13 w 14)), .int (nI m)]) (rest := []) (n_releaseBy RH2 hw hB (by omega)) rfl rfl rfl rfl ?_
      have hmn : min (wrel (S 7) (sB (S 10 (S 13 w 1))) (S 13 w) (FD S 13 w 14) m) 20000 ≤ 20000 ∧ (S 16 i 0 < min (wrel (S 7) (sB (S 10 (S 13 w 1))) (S 13 w) (FD S 13 w 14) m) 20000 ↔ S 16 i 0 < wrel (S 7) (sB (S 10 (S 13 w 1))) (S 13 w) (FD S 13 w 14) m) := ⟨Nat.min_le_right _ _, ⟨fun z => Nat.lt_of_lt_of_le z (Nat.min_le_left _ _), fun z => Nat.lt_min.mpr ⟨z, a1⟩⟩⟩
      obtain ⟨hm1, hm2⟩ := hmn
      generalize min (wrel (S 7) (sB (S 10 (S 13 w 1))) (S 13 w) (FD S 13 w 14) m) 20000 = r at *
      refine pw_go tk_X17_factOf rfl rfl ?_
      refine pw_get tk_X17_factOf rfl fl_X17_217 (RH2.add hi2) rfl ?_
      refine pw_icN (r) (S 16 i 0) tk_X17_factOf rfl rfl rfl (by omega) (by omega) (fun c2 => ?_) (fun c2 => ?_)
      · have c2 : r ≤ S 16 i 0 := c2
        exact skip (by rw [decide_eq_false (p := S 16 i 0 < wrel _ _ _ _ _) (fun z => by have := hm2.mpr z; omega), Bool.and_false])
      have c2 : ¬ r ≤ S 16 i 0 := c2
      iterate 2 refine pw_go tk_X17_factOf rfl rfl ?_
      refine pw_get tk_X17_factOf rfl fl_X17_246 hbH2 rfl ?_
      refine pw_go tk_X17_factOf rfl rfl ?_
      refine pw_get tk_X17_factOf rfl fl_X17_190 (RH2.add hi2) rfl ?_
      refine pw_addN (m) (S 16 i 1) tk_X17_factOf rfl rfl rfl ?_
      refine pw_go tk_X17_factOf rfl rfl ?_
      refine pw_minN (m + S 16 i 1) (wmost (S 13 w) (spn (FD S) w)) tk_X17_factOf rfl lk_X17_47 rfl rfl (by omega) (by omega) rfl ?_
      refine pw_put tk_X17_factOf rfl fp_X17_246 hbH2 rfl rfl (Nat.le_of_ble_eq_true rfl) ?_
      refine pw_h (h' := fw_up H2 b (fo (FD S 13 w 14) (spn (FD S) w) (min (m + S 16 i 1) (wmost (S 13 w) (spn (FD S) w))) (nI 20000) (-1))) rfl ?_
      refine pw_go tk_X17_factOf rfl rfl ?_
      refine pw_W (ih (k + 1) (by omega) _ (min (m + S 16 i 1) (wmost (S 13 w) (spn (FD S) w))) it al (k + 1) (fun c o hc => ?_) fw_up_s ?_ hith (lv2.upd (fs' := [.int 1, .int (nI (FD S 13 w 14)), .int (nI (spn (FD S) w)), .int (nI (min (m + S 16 i 1) (wmost (S 13 w) (spn (FD S) w)))), .int (nI 20000), .int (-1)]) hbH2 (by decide)) ?_ (Nat.min_le_right _ _) v5 v6) ⟨rfl, rfl, rfl, rfl, rfl, rfl, rfl, trivial⟩
      · rw [fw_up_n (fun z => by rw [z, bf] at hc; cases hc)]
        exact sH2 c o hc
      · rw [fw_up_n hbi.symm]
        exact hit2
      · rw [← hwd]
        show _ = wadd _ _ _ _ _ _ (if _ then _ else _) _
        rw [if_pos (by rw [hfx, decide_eq_true (p := FD S 13 w 14 ≤ S 16 i 0) (by omega), decide_eq_true (p := S 16 i 0 < wrel _ _ _ _ _) (hm2.mp (by omega))]; rfl)]
  -- the iterator is made
  have k255 : ∀ l : List Nat, (∀ i ∈ l, i < S 99 0 16) → l.length ≤ 30 → (l = [] ∨ wfx (S 13 w) = true) → FD S 13 w 14 ≠ 1000000 → ∀ (H : fw_H) (m al : Nat) (v5 v6 : Value), (∀ (c : Nat) (o : fw_O), h c = some o → H c = some o) → H b = some (fo (FD S 13 w 14) (spn (FD S) w) m (nI 20000) (-1)) → LV H al l.length (fun j => A 54 (l.getD j 0)) → wadd (S 16) (S 7) (sB (S 10 (S 13 w 1))) (S 13 w) (FD S 13 w 14) (spn (FD S) w) m l = FD S 13 w 15 → m ≤ wmost (S 13 w) (spn (FD S) w) → PW G mm_X17_factOf (fw_qQ (fun x h' => ∃ b, x = some b ∧ h b = none ∧ (∀ (c : Nat) (o : fw_O), h c = some o → h' c = some o) ∧ h' b = some (fcO S w)) fw_noX) 7 1 4 H 255 [(0, .ref (A 30 0)), (1, .ref (A 53 w)), (2, .ref q), (3, .ref b), (4, .int (nI (FD S 13 w 14))), (7, .int (nI (wmost (S 13 w) (spn (FD S) w))))] [.ref al] := by
    intro l hl hl30 hlf hb14 H m al v5 v6 sH hbH lv hwd hm
    have lv0 := lv
    obtain ⟨eL, capL, oL, -⟩ := lv0
    refine pw_cv tk_X17_factOf rfl ca_Jx4a65c_iterator_32c93 lk_X17_158 iv_Jx4a65c_iterator_32c93 sv_Jx4a65c_iterator_32c93 oL rfl rfl (As := []) (rest := []) (kc' := 0) (ks' := 0) (j_iterator lv) rfl rfl rfl (Nat.le_of_ble_eq_true rfl) (Nat.le_refl _) (Nat.le_refl _) ?_ ?_
    · rintro _ _ ⟨_, rfl, it, rfl, hit, rfl⟩
      refine pw_go tk_X17_factOf rfl rfl ?_
      have hith : h it = none := by
        cases c : h it with
        | none => rfl
        | some o => rw [sH it o c] at hit; cases hit
      exact pw_W (kL l hl hl30 hlf hb14 l.length 0 (by omega) _ m it al 0 (fun c o hc => up_sub hit _ _ (sH c o hc)) (up_sub hit _ _ hbH) fw_up_s hith (lv.up hit) hwd hm v5 v6) ⟨rfl, rfl, rfl, rfl, rfl, rfl, rfl, trivial⟩
    · exact fun _ _ z => z.elim
  have k230 : FD S 13 w 14 ≠ 1000000 → ∀ (H : fw_H) (v5 v6 : Value), (∀ (c : Nat) (o : fw_O), h c = some o → H c = some o) → H b = some (fo (FD S 13 w 14) (spn (FD S) w) (wneed (S 7) (S 13 w) (spn (FD S) w)) (nI 20000) (-1)) → PW G mm_X17_factOf (fw_qQ (fun x h' => ∃ b, x = some b ∧ h b = none ∧ (∀ (c : Nat) (o : fw_O), h c = some o → h' c = some o) ∧ h' b = some (fcO S w)) fw_noX) 7 7 91 H 230 [(0, .ref (A 30 0)), (1, .ref (A 53 w)), (2, .ref q), (3, .ref b), (4, .int (nI (FD S 13 w 14))), (7, .int (nI (wmost (S 13 w) (spn (FD S) w))))] [] := by
    intro hb14 H v5 v6 sH hbH
    have RH := R.mono sH
    have e15 := fd15 R.1 hw hb14
    have hnd := fdnd R.1 hw
    refine pw_go tk_X17_factOf rfl rfl ?_
    refine pw_cvp tk_X17_factOf rfl ca_X16_isFixed lk_X17_108 iv_X16_isFixed sv_X16_isFixed (RH.war hw) rfl rfl (As := []) (rest := []) (n_isFixed RH hw b2) rfl rfl rfl rfl ?_
    refine pw_ifeqB tk_X17_factOf rfl (fun c => ?_) (fun c => ?_)
    · skip
      refine pw_mono (Q' := fw_qp 0 h) (Nat.le_refl _) (show 6 + 1 ≤ 7 by omega) (show 88 + 3 ≤ 91 by omega) ?_
      refine pw_new (kc := 6) (ks := 88) tk_X17_factOf rfl nw_X17_7 (fun al af ag => ?_)
      refine pw_go tk_X17_factOf rfl rfl ?_
      refine pw_ci tk_X17_factOf rfl ca_Jx4a65c_init_da8c8 (Or.inl lk_X17_9) iv_Jx4a65c_init_da8c8 rfl rfl (As := []) (rest := [.ref al])  (j_init fw_up_s) (fun _ _ z => z) rfl rfl rfl (Nat.le_of_ble_eq_true rfl) (Nat.le_of_eq (Nat.zero_add _)) (Nat.le_of_eq (Nat.zero_add _)) ?_
      rintro _ _ ⟨rfl, rfl⟩
      rw [fw_up_2]
      refine pw_mono (Q' := fw_qp 0 h) (Nat.le_refl _) (show 1 ≤ 6 by omega) (show 4 ≤ 88 by omega) ?_
      rw [wadd_nof c] at e15
      exact pw_W (k255 [] (fun i hi => nomatch hi) (by decide) (Or.inl rfl) hb14 _ (wneed (S 7) (S 13 w) (spn (FD S) w)) al v5 v6 (fun c o hc => up_sub af _ _ (sH c o hc)) (up_sub af _ _ hbH) ⟨tE G, 0, fw_up_s, fun z => absurd z (by decide), by decide⟩ e15.symm hnd) ⟨rfl, rfl, rfl, rfl, rfl, rfl, trivial⟩
    · skip
      iterate 2 refine pw_go tk_X17_factOf rfl rfl ?_
      refine pw_get tk_X17_factOf rfl fl_X17_128 (RH.war hw) rfl ?_
      refine pw_cv tk_X17_factOf rfl ca_X17_addedOf lk_X17_249 iv_X17_addedOf sv_X17_addedOf RH.m rfl rfl (As := [.int (nI (S 13 w 1))]) (rest := []) (kc' := 1) (ks' := 4) (n_addedOf RH (show S 13 w 1 < 100 by omega)) rfl rfl rfl (Nat.le_of_ble_eq_true rfl) (show 6 + 1 ≤ 7 by omega) (show 87 + 4 ≤ 91 by omega) ?_ ?_
      · rintro _ H2 ⟨_, rfl, al, rfl, s2, lv⟩
        refine pw_go tk_X17_factOf rfl rfl ?_
        have hlen := alP_len (S := S) (p := S 13 w 1) (S 99 0 16)
        exact pw_W (k255 (alP S (S 13 w 1) (S 99 0 16)) (fun i hi => alP_mem hi) (by omega) (Or.inr c) hb14 H2 (wneed (S 7) (S 13 w) (spn (FD S) w)) al v5 v6 (fun c o hc => s2 _ _ (sH c o hc)) (s2 _ _ hbH) lv e15.symm hnd) ⟨rfl, rfl, rfl, rfl, rfl, rfl, trivial⟩
      · exact fun _ _ z => z.elim
  -- a begun one
  have k111 : FD S 13 w 14 ≠ 1000000 → PW G mm_X17_factOf (fw_qQ (fun x h' => ∃ b, x = some b ∧ h b = none ∧ (∀ (c : Nat) (o : fw_O), h c = some o → h' c = some o) ∧ h' b = some (fcO S w)) fw_noX) 7 7 91 H0 111 [(0, .ref (A 30 0)), (1, .ref (A 53 w)), (2, .ref q), (3, .ref b), (4, .int (nI (FD S 13 w 14)))] [] := by
    intro hb14
    have hB : FD S 13 w 14 < 20000 := h14.resolve_right hb14
    have esp := fdsp (S := S) (w := w)
    have hsp := sp_len_up hB b15.1 b15.2.1 b15.2.2
    rw [← esp] at hsp
    have hwc : wcn (S 13 w) < 1000000 := by unfold wcn; omega
    have sU : ∀ (H : fw_H) (o' : fw_O), (∀ (c : Nat) (o : fw_O), h c = some o → H c = some o) → ∀ (c : Nat) (o : fw_O), h c = some o → fw_up H b o' c = some o := fun H o' sH c o hc => by
      rw [fw_up_n (fun z => by rw [z, bf] at hc; cases hc)]
      exact sH c o hc
    iterate 2 refine pw_go tk_X17_factOf rfl rfl ?_
    refine pw_put tk_X17_factOf rfl fp_X17_232 hb0 rfl rfl (Nat.le_of_ble_eq_true rfl) ?_
    iterate 2 refine pw_go tk_X17_factOf rfl rfl ?_
    refine pw_put tk_X17_factOf rfl fp_X17_238 fw_up_s rfl rfl (Nat.le_of_ble_eq_true rfl) ?_
    rw [fw_up_2]
    have R2 := R.mono (sU H0 (.inr (15, [.int 1, .int (nI (FD S 13 w 14)), .int 0, .int 0, .int (nI 20000), .int (-1)])) s0)
    refine pw_h (h' := fw_up H0 b (.inr (15, [.int 1, .int (nI (FD S 13 w 14)), .int 0, .int 0, .int (nI 20000), .int (-1)]))) rfl ?_
    iterate 3 refine pw_go tk_X17_factOf rfl rfl ?_
    refine pw_cvp tk_X17_factOf rfl ca_X16_length lk_X17_171 iv_X16_length sv_X16_length (R2.war hw) rfl rfl (As := [.int (nI (FD S 13 w 14))]) (rest := [.ref b]) (n_wlen R2 hw hB b15) rfl rfl rfl rfl ?_
    rw [← esp]
    refine pw_put tk_X17_factOf rfl fp_X17_241 fw_up_s rfl rfl (Nat.le_of_ble_eq_true rfl) ?_
    rw [fw_up_2]
    have s3 := sU H0 (fo (FD S 13 w 14) (spn (FD S) w) 0 (nI 20000) (-1)) s0
    have R3 := R.mono s3
    have hb3 : fw_up H0 b (fo (FD S 13 w 14) (spn (FD S) w) 0 (nI 20000) (-1)) b = some (fo (FD S 13 w 14) (spn (FD S) w) 0 (nI 20000) (-1)) := fw_up_s
    refine pw_h (h' := fw_up H0 b (fo (FD S 13 w 14) (spn (FD S) w) 0 (nI 20000) (-1))) rfl ?_
    have hu : ∀ o, fw_up (fw_up H0 b (fo (FD S 13 w 14) (spn (FD S) w) 0 (nI 20000) (-1))) b o = fw_up H0 b o := fun o => fw_up_2
    generalize fw_up H0 b (fo (FD S 13 w 14) (spn (FD S) w) 0 (nI 20000) (-1)) = H3 at *
    have k187 : ∀ v5 : Value, wei (S 7) (S 13 w) ≤ 8 → PW G mm_X17_factOf (fw_qQ (fun x h' => ∃ b, x = some b ∧ h b = none ∧ (∀ (c : Nat) (o : fw_O), h c = some o → h' c = some o) ∧ h' b = some (fcO S w)) fw_noX) 7 7 91 H3 187 [(0, .ref (A 30 0)), (1, .ref (A 53 w)), (2, .ref q), (3, .ref b), (4, .int (nI (FD S 13 w 14)))] [.int (nI (wei (S 7) (S 13 w)))] := by
      intro v5 he
      have hmul : spn (FD S) w * wei (S 7) (S 13 w) ≤ 50000 * 8 := Nat.mul_le_mul (by omega) he
      iterate 3 refine pw_go tk_X17_factOf rfl rfl ?_
      refine pw_get tk_X17_factOf rfl fl_X17_241 hb3 rfl ?_
      refine pw_go tk_X17_factOf rfl rfl ?_
      refine pw_cvp tk_X17_factOf rfl ca_X16_counted lk_X17_149 iv_X16_counted sv_X16_counted (R3.war hw) rfl rfl (As := []) (rest := [.int (nI (spn (FD S) w)), .int 0]) (n_counted R3 hw b11) rfl rfl rfl rfl ?_
      refine pw_go tk_X17_factOf rfl rfl ?_
      refine pw_max tk_X17_factOf rfl lk_X17_214 rfl ?_
      refine pw_i (x' := nI (wmost (S 13 w) (spn (FD S) w))) (mx0 (by omega) (by omega)) ?_
      iterate 4 refine pw_go tk_X17_factOf rfl rfl ?_
      refine pw_get tk_X17_factOf rfl fl_X17_241 hb3 rfl ?_
      refine pw_go tk_X17_factOf rfl rfl ?_
      refine pw_mulN (spn (FD S) w) (wei (S 7) (S 13 w)) tk_X17_factOf rfl rfl rfl ?_
      refine pw_go tk_X17_factOf rfl rfl ?_
      refine pw_addN (spn (FD S) w * wei (S 7) (S 13 w)) (7) tk_X17_factOf rfl rfl rfl ?_
      refine pw_go tk_X17_factOf rfl rfl ?_
      refine pw_divN (spn (FD S) w * wei (S 7) (S 13 w) + 7) (8) tk_X17_factOf rfl rfl rfl (by omega) (by omega) (by omega) ?_
      refine pw_go tk_X17_factOf rfl rfl ?_
      refine pw_cvp tk_X17_factOf rfl ca_X16_counted lk_X17_149 iv_X16_counted sv_X16_counted (R3.war hw) rfl rfl (As := []) (rest := [.int (nI ((spn (FD S) w * wei (S 7) (S 13 w) + 7) / 8)), .int 0, .ref b]) (n_counted R3 hw b11) rfl rfl rfl rfl ?_
      refine pw_go tk_X17_factOf rfl rfl ?_
      refine pw_max tk_X17_factOf rfl lk_X17_214 rfl ?_
      refine pw_i (x' := nI (wneed (S 7) (S 13 w) (spn (FD S) w))) (mx0 (by omega) (by omega)) ?_
      refine pw_put tk_X17_factOf rfl fp_X17_246 hb3 rfl rfl (Nat.le_of_ble_eq_true rfl) ?_
      exact pw_W (k230 hb14 _ v5 v5 (sU H3 _ s3) fw_up_s) ⟨rfl, rfl, rfl, rfl, rfl, rfl, trivial⟩
    have k148 : PW G mm_X17_factOf (fw_qQ (fun x h' => ∃ b, x = some b ∧ h b = none ∧ (∀ (c : Nat) (o : fw_O), h c = some o → h' c = some o) ∧ h' b = some (fcO S w)) fw_noX) 7 7 91 H3 148 [(0, .ref (A 30 0)), (1, .ref (A 53 w)), (2, .ref q), (3, .ref b), (4, .int (nI (FD S 13 w 14)))] [.int (nP (S 13 w 7))] := by
      iterate 2 refine pw_go tk_X17_factOf rfl rfl ?_
      refine pw_cvp tk_X17_factOf rfl ca_X16_isFixed lk_X17_108 iv_X16_isFixed sv_X16_isFixed (R3.war hw) rfl rfl (As := []) (rest := []) (n_isFixed R3 hw b2) rfl rfl rfl rfl ?_
      refine pw_ifneB tk_X17_factOf rfl (fun c => ?_) (fun c => ?_)
      · skip
        iterate 2 refine pw_go tk_X17_factOf rfl rfl ?_
        refine pw_br tk_X17_factOf rfl rfl (fun c2 => ?_) (fun c2 => ?_)
        · have c2 : S 13 w 7 ≠ 0 := fun z => c2 ((nP_0 (by omega)).mpr z)
          have e : wei (S 7) (S 13 w) = S 7 (S 13 w 7 - 1) 3 := by
            unfold wei
            rw [c, if_pos rfl, if_neg c2]
          have hl : S 13 w 7 - 1 < S 99 0 7 := by omega
          have := (lwRow R hl).2
          refine pw_go tk_X17_factOf rfl rfl ?_
          refine pw_get tk_X17_factOf rfl fl_X17_10 R3.m rfl ?_
          refine pw_go tk_X17_factOf rfl rfl ?_
          refine pw_lget (k := S 13 w 7 - 1) tk_X17_factOf rfl (R3.l1) hl (nP_p (by omega)) rfl rfl rfl ?_
          refine pw_cast tk_X17_factOf rfl (R3.law hl) rfl cw_X17_70 ?_
          refine pw_get tk_X17_factOf rfl fl_X17_243 (R3.law hl) rfl ?_
          have k := k187 .null (by omega)
          rw [e] at k
          exact pw_W k ⟨rfl, rfl, rfl, rfl, rfl, trivial⟩
        · have c2 : S 13 w 7 = 0 := (nP_0 (by omega)).mp (Decidable.not_not.mp c2)
          have e : wei (S 7) (S 13 w) = 4 := by
            unfold wei
            rw [c, if_pos rfl, if_pos c2]
          iterate 2 refine pw_go tk_X17_factOf rfl rfl ?_
          have k := k187 .null (by omega)
          rw [e] at k
          exact pw_W k ⟨rfl, rfl, rfl, rfl, rfl, trivial⟩
      · have e : wei (S 7) (S 13 w) = 8 := by
          unfold wei
          rw [c, if_neg (by decide)]
        iterate 2 refine pw_go tk_X17_factOf rfl rfl ?_
        have k := k187 .null (by omega)
        rw [e] at k
        exact pw_W k ⟨rfl, rfl, rfl, rfl, rfl, trivial⟩
    refine pw_go tk_X17_factOf rfl rfl ?_
    refine pw_cvp tk_X17_factOf rfl ca_X16_isFixed lk_X17_108 iv_X16_isFixed sv_X16_isFixed (R3.war hw) rfl rfl (As := []) (rest := []) (n_isFixed R3 hw b2) rfl rfl rfl rfl ?_
    refine pw_ifeqB tk_X17_factOf rfl (fun c => ?_) (fun c => ?_)
    · skip
      refine pw_go tk_X17_factOf rfl rfl ?_
      have e : S 13 w 7 = 0 := by rw [h7]; exact lwN_0 c _
      rw [e] at k148
      exact k148
    · skip
      iterate 2 refine pw_go tk_X17_factOf rfl rfl ?_
      refine pw_cvp tk_X17_factOf rfl ca_X17_lawFor lk_X17_104 iv_X17_lawFor sv_X17_lawFor R3.m rfl rfl (As := [.ref (A 53 w)]) (rest := []) (n_lawFor R3 hw) rfl rfl rfl rfl ?_
      rw [lwL_f c, ← h7]
      refine pw_go tk_X17_factOf rfl rfl ?_
      exact k148
  have k101 : ∀ bb, bb ≤ 20000 → ((FD S 13 w 14 = 1000000 ∧ 19999 < bb) ∨ (FD S 13 w 14 = bb ∧ bb < 20000)) → PW G mm_X17_factOf (fw_qQ (fun x h' => ∃ b, x = some b ∧ h b = none ∧ (∀ (c : Nat) (o : fw_O), h c = some o → h' c = some o) ∧ h' b = some (fcO S w)) fw_noX) 7 7 91 H0 101 [(0, .ref (A 30 0)), (1, .ref (A 53 w)), (2, .ref q), (3, .ref b), (4, .int (nI bb))] [] := by
    intro bb hbb hc
    iterate 2 refine pw_go tk_X17_factOf rfl rfl ?_
    refine pw_icN (bb) (19999) tk_X17_factOf rfl rfl rfl (by omega) (by omega) (fun c => ?_) (fun c => ?_)
    · have c : bb ≤ 19999 := c
      rcases hc with z | z
      · omega
      · have k := k111 (by omega)
        rw [z.1] at k
        exact k
    · have c : ¬ bb ≤ 19999 := c
      refine pw_go tk_X17_factOf rfl rfl ?_
      exact none0 rfl (by omega)
  iterate 2 refine pw_go tk_X17_factOf rfl rfl ?_
  refine pw_cvp tk_X17_factOf rfl ca_X16_counts lk_X17_227 iv_X16_counts sv_X16_counts (R1.war hw) rfl rfl (As := []) (rest := []) (n_counts R1 hw b2 b9) rfl rfl rfl rfl ?_
  refine pw_ifneB tk_X17_factOf rfl (fun c => ?_) (fun c => ?_)
  · rw [c, if_pos rfl] at e14
    have hown : wown (S 13 w) < 20000 := by unfold wown; split <;> omega
    have k37 : PW G mm_X17_factOf (fw_qQ (fun x h' => ∃ b, x = some b ∧ h b = none ∧ (∀ (c : Nat) (o : fw_O), h c = some o → h' c = some o) ∧ h' b = some (fcO S w)) fw_noX) 7 7 91 H0 37 [(0, .ref (A 30 0)), (1, .ref (A 53 w)), (2, .ref q), (3, .ref b)] [.int (nI (wown (S 13 w)))] := by
      iterate 2 refine pw_go tk_X17_factOf rfl rfl ?_
      refine pw_get tk_X17_factOf rfl fl_X17_230 (R1.war hw) rfl ?_
      refine pw_go tk_X17_factOf rfl rfl ?_
      refine pw_br tk_X17_factOf rfl rfl (fun c2 => ?_) (fun c2 => ?_)
      · have c2 : S 13 w 5 = 0 := (nP_0 (by omega)).mp c2
        rw [if_neg (fun z => by omega)] at e14
        exact pw_W (k101 _ (by omega) (Or.inr ⟨e14, hown⟩)) ⟨rfl, rfl, rfl, rfl, rfl, trivial⟩
      have c2 : S 13 w 5 ≠ 0 := fun z => c2 ((nP_0 (by omega)).mpr z)
      obtain ⟨h5, -⟩ := h5 (by omega)
      have hv : S 13 w 5 - 1 < S 99 0 13 := by omega
      obtain ⟨Bv, -⟩ := icw R.1 hv
      obtain ⟨v14, v16, -, vnb, -⟩ := fdw R.1 hv
      obtain ⟨r1, r2, r3⟩ := fr_is R.1 hv
      have hfv := s0 _ _ (hF _ h5)
      have hq0 := s0 _ _ hq
      refine pw_go tk_X17_factOf rfl rfl ?_
      refine pw_get tk_X17_factOf rfl fl_X17_19 R1.m rfl ?_
      refine pw_go tk_X17_factOf rfl rfl ?_
      refine pw_get tk_X17_factOf rfl fl_X17_230 (R1.war hw) rfl ?_
      refine pw_lget (k := S 13 w 5 - 1) tk_X17_factOf rfl (R1.l3) hv (nP_p (by omega)) rfl rfl rfl ?_
      refine pw_cast tk_X17_factOf rfl (R1.war hv) rfl cw_X17_88 ?_
      refine pw_cvp tk_X17_factOf rfl ca_X16_counts lk_X17_227 iv_X16_counts sv_X16_counts (R1.war hv) rfl rfl (As := []) (rest := []) (n_counts R1 hv Bv.1 Bv.2.2.2.1) rfl rfl rfl rfl ?_
      refine pw_ifeqB tk_X17_factOf rfl (fun c3 => ?_) (fun c3 => ?_)
      · rw [if_neg (fun z => by rw [c3] at z; exact absurd z.2 (by decide))] at e14
        exact pw_W (k101 _ (by omega) (Or.inr ⟨e14, hown⟩)) ⟨rfl, rfl, rfl, rfl, rfl, trivial⟩
      rw [if_pos ⟨by omega, c3⟩] at e14
      iterate 2 refine pw_go tk_X17_factOf rfl rfl ?_
      refine pw_get tk_X17_factOf rfl fl_X17_230 (R1.war hw) rfl ?_
      refine pw_aaldN (k := S 13 w 5 - 1) tk_X17_factOf rfl hq0 (by decide) rfl (nP_p (by omega)) (by omega) (by omega) ?_
      refine pw_q (x' := some (ad (S 13 w 5 - 1))) (if_pos h5) ?_
      unfold fcO at hfv
      refine pw_get tk_X17_factOf rfl fl_X17_232 hfv rfl ?_
      refine pw_ifeqB (b := fB S (S 13 w 5 - 1)) tk_X17_factOf rfl (fun c4 => ?_) (fun c4 => ?_)
      · have c4 : FD S 13 (S 13 w 5 - 1) 14 = 1000000 := by
          unfold fB at c4
          simpa using c4
        rw [(vnb c4).1, Nat.max_eq_right (by omega)] at e14
        iterate 2 refine pw_go tk_X17_factOf rfl rfl ?_
        exact pw_W (k101 20000 (by omega) (Or.inl ⟨e14, by omega⟩)) ⟨rfl, rfl, rfl, rfl, rfl, trivial⟩
      iterate 3 refine pw_go tk_X17_factOf rfl rfl ?_
      refine pw_get tk_X17_factOf rfl fl_X17_230 (R1.war hw) rfl ?_
      refine pw_aaldN (k := S 13 w 5 - 1) tk_X17_factOf rfl hq0 (by decide) rfl (nP_p (by omega)) (by omega) (by omega) ?_
      refine pw_q (x' := some (ad (S 13 w 5 - 1))) (if_pos h5) ?_
      refine pw_get tk_X17_factOf rfl fl_X17_235 hfv rfl ?_
      generalize min (FD S 13 (S 13 w 5 - 1) 16) 20000 = r at *
      refine pw_maxN (wown (S 13 w)) r tk_X17_factOf rfl lk_X17_214 rfl rfl (by omega) (by omega) rfl ?_
      iterate 2 refine pw_go tk_X17_factOf rfl rfl ?_
      refine pw_W (k101 (max (wown (S 13 w)) r) (Nat.max_le.mpr ⟨by omega, r1⟩) ?_) ⟨rfl, rfl, rfl, rfl, rfl, trivial⟩
      rcases v16 with z | z
      · right
        rw [r2 z]
        exact ⟨e14, Nat.max_lt.mpr ⟨hown, z⟩⟩
      · left
        rw [z, Nat.max_eq_right (by omega)] at e14
        rw [r3 z]
        exact ⟨e14, Nat.lt_of_lt_of_le (by omega) (Nat.le_max_right _ _)⟩
    refine pw_go tk_X17_factOf rfl rfl ?_
    refine pw_get tk_X17_factOf rfl fl_X17_152 (R1.war hw) rfl ?_
    refine pw_go tk_X17_factOf rfl rfl ?_
    refine pw_icN (S 13 w 2) (115) tk_X17_factOf rfl rfl rfl (by omega) (by omega) (fun c2 => ?_) (fun c2 => ?_)
    · have c2 : S 13 w 2 ≠ 115 := c2
      have e : wown (S 13 w) = S 13 w 4 := if_neg c2
      refine pw_go tk_X17_factOf rfl rfl ?_
      refine pw_get tk_X17_factOf rfl fl_X17_92 (R1.war hw) rfl ?_
      rw [e] at k37
      exact pw_W k37 ⟨rfl, rfl, rfl, rfl, trivial⟩
    · have c2 : S 13 w 2 = 115 := Decidable.not_not.mp c2
      have e : wown (S 13 w) = S 13 w 9 - 1 := if_pos c2
      have h9 : S 13 w 9 ≠ 0 := fun z => by
        unfold wct wwt at c
        rw [c2, z] at c
        simp at c
      refine pw_go tk_X17_factOf rfl rfl ?_
      refine pw_get tk_X17_factOf rfl fl_X17_155 (R1.war hw) rfl ?_
      refine pw_go tk_X17_factOf rfl rfl ?_
      rw [e] at k37
      exact pw_i (nP_p (by omega)) (pw_W k37 ⟨rfl, rfl, rfl, rfl, trivial⟩)
  · skip
    rw [c, if_neg (by decide)] at e14
    refine pw_go tk_X17_factOf rfl rfl ?_
    exact none0 rfl e14
end REFA

