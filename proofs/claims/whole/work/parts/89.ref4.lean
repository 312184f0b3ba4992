/-! REFERENCE: releases, what follows for a warrant, licences -/
section REF4
variable {G : fw_G} {n : Nat} {S D : fw_DB} {A : fw_AD} {M : fw_MP} {h : fw_H}
theorem rel_min {lw : Nat → Nat → Nat} {aw : Nat → Bool} {g : Nat → Nat} {b m : Nat} (h10 : g 10 ≤ 20000) : min (wrel lw aw g b m) 20000 = if wyes lw g = true then (if g 10 = 0 then 20000 else max (min (db (fun d => !aw d) m b (20032 - b) 1000000) 20000) (g 10 - 1)) else min (db (fun d => !aw d) m b (20032 - b) 1000000) 20000 := by
  unfold wrel
  dsimp only
  generalize db (fun d => !aw d) m b (20032 - b) 1000000 = t
  by_cases c1 : wyes lw g = true
  · rw [if_pos c1, if_pos c1]
    by_cases c2 : g 10 = 0
    · rw [if_pos c2, if_pos c2]
      rfl
    · rw [if_neg c2, if_neg c2]
      rcases Nat.le_total t (g 10 - 1) with z | z
      · rw [Nat.max_eq_right z, if_neg (by omega), Nat.min_eq_left (show g 10 - 1 ≤ 20000 by omega), Nat.max_eq_right (Nat.le_trans (Nat.min_le_left _ _) z)]
      · rw [Nat.max_eq_left z]
        by_cases c3 : 19999 < t
        · rw [if_pos c3, Nat.min_eq_right (show 20000 ≤ 1000000 by omega), Nat.min_eq_right (show 20000 ≤ t by omega), Nat.max_eq_left (by omega)]
        · rw [if_neg c3, Nat.min_eq_left (show t ≤ 20000 by omega), Nat.max_eq_left z]
  · rw [if_neg c1, if_neg c1]
    by_cases c3 : 19999 < t
    · rw [if_pos c3, Nat.min_eq_right (show 20000 ≤ 1000000 by omega), Nat.min_eq_right (show 20000 ≤ t by omega)]
    · rw [if_neg c3]
theorem n_releaseBy {w b m : Nat} (R : RD G n S D A M h) (hw : w < S 99 0 13) (hb : b < 20000) (hm : m < 2000000) : PM G 4 0 0 mm_X17_releaseBy [.ref (A 30 0), .ref (A 53 w), .int (nI b), .int (nI m)] h (fw_qp (nI (min (wrel (S 7) (sB (S 10 (S 13 w 1))) (S 13 w) b m) 20000)) h) := by
  refine pm_of (by decide +kernel) rfl rfl rfl ?_
  obtain ⟨B, hk, h5, h7, h1⟩ := icw R.1 hw
  obtain ⟨b2, b3, b4, b9, b10, -⟩ := B
  have hN := R.n7
  have hlw : S 13 w 7 ≤ S 99 0 7 := by rw [h7]; exact lwN_le _
  rw [rel_min b10]
  have k56 : ∀ z : Bool, z = wyes (S 7) (S 13 w) → PW G mm_X17_releaseBy (fw_qp (nI (if wyes (S 7) (S 13 w) = true then (if S 13 w 10 = 0 then 20000 else max (min (db (fun d => !sB (S 10 (S 13 w 1)) d) m b (20032 - b) 1000000) 20000) (S 13 w 10 - 1)) else min (db (fun d => !sB (S 10 (S 13 w 1)) d) m b (20032 - b) 1000000) 20000)) h) 4 0 0 h 56 [(0, .ref (A 30 0)), (1, .ref (A 53 w)), (2, .int (nI b)), (3, .int (nI m)), (4, .int (nP (S 13 w 7)))] [.int (bI z)] := by
    intro z hz
    rw [← hz]
    iterate 3 refine pw_go tk_X17_releaseBy rfl rfl ?_
    refine pw_icN (b) (19999) tk_X17_releaseBy rfl rfl rfl (by omega) (by omega) (fun _ => ?_) (fun c => absurd (show b ≤ 19999 by omega) c)
    refine pw_go tk_X17_releaseBy rfl rfl ?_
    refine pw_get tk_X17_releaseBy rfl fl_X17_16 R.m rfl ?_
    refine pw_go tk_X17_releaseBy rfl rfl ?_
    refine pw_get tk_X17_releaseBy rfl fl_X17_128 (R.war hw) rfl ?_
    refine pw_lget (k := S 13 w 1) tk_X17_releaseBy rfl (R.l2) h1 rfl rfl rfl rfl ?_
    refine pw_cast tk_X17_releaseBy rfl (R.per h1) rfl cw_X17_112 ?_
    iterate 2 refine pw_go tk_X17_releaseBy rfl rfl ?_
    refine pw_cvp tk_X17_releaseBy rfl ca_X14_behind lk_X17_211 iv_X14_behind sv_X14_behind (R.per h1) rfl rfl (As := [.int (nI b), .int (nI m)]) (rest := []) (n_behind R h1 hb hm) rfl rfl rfl rfl ?_
    generalize ht : min (db (fun d => !sB (S 10 (S 13 w 1)) d) m b (20032 - b) 1000000) 20000 = t
    have ht2 : t ≤ 20000 := by rw [← ht]; exact Nat.min_le_right _ _
    iterate 2 refine pw_go tk_X17_releaseBy rfl rfl ?_
    refine pw_ifneB tk_X17_releaseBy rfl (fun c => ?_) (fun c => ?_)
    · skip
      rw [c, if_pos rfl]
      refine pw_go tk_X17_releaseBy rfl rfl ?_
      refine pw_get tk_X17_releaseBy rfl fl_X17_178 (R.war hw) rfl ?_
      refine pw_go tk_X17_releaseBy rfl rfl ?_
      refine pw_br tk_X17_releaseBy rfl rfl (fun c2 => ?_) (fun c2 => ?_)
      · have c2 : S 13 w 10 ≠ 0 := fun z => c2 ((nP_0 (by omega)).mpr z)
        rw [if_neg c2]
        iterate 2 refine pw_go tk_X17_releaseBy rfl rfl ?_
        refine pw_get tk_X17_releaseBy rfl fl_X17_178 (R.war hw) rfl ?_
        refine pw_maxN t (S 13 w 10 - 1) tk_X17_releaseBy rfl lk_X17_214 rfl (nP_p (by omega)) (by omega) (by omega) rfl ?_
        exact pw_iretp tk_X17_releaseBy rfl rfl
      · have c2 : S 13 w 10 = 0 := (nP_0 (by omega)).mp (Decidable.not_not.mp c2)
        rw [if_pos c2]
        iterate 2 refine pw_go tk_X17_releaseBy rfl rfl ?_
        exact pw_iretp tk_X17_releaseBy rfl rfl
    · skip
      rw [c, if_neg (by decide)]
      iterate 2 refine pw_go tk_X17_releaseBy rfl rfl ?_
      exact pw_iretp tk_X17_releaseBy rfl rfl
  have k16 : PW G mm_X17_releaseBy (fw_qp (nI (if wyes (S 7) (S 13 w) = true then (if S 13 w 10 = 0 then 20000 else max (min (db (fun d => !sB (S 10 (S 13 w 1)) d) m b (20032 - b) 1000000) 20000) (S 13 w 10 - 1)) else min (db (fun d => !sB (S 10 (S 13 w 1)) d) m b (20032 - b) 1000000) 20000)) h) 4 0 0 h 16 [(0, .ref (A 30 0)), (1, .ref (A 53 w)), (2, .int (nI b)), (3, .int (nI m))] [.int (nP (S 13 w 7))] := by
    have sw : ∀ z : Bool, z = wyes (S 7) (S 13 w) → ∀ L, fw_sL L [(0, .ref (A 30 0)), (1, .ref (A 53 w)), (2, .int (nI b)), (3, .int (nI m)), (4, .int (nP (S 13 w 7)))] → PW G mm_X17_releaseBy (fw_qp (nI (if wyes (S 7) (S 13 w) = true then (if S 13 w 10 = 0 then 20000 else max (min (db (fun d => !sB (S 10 (S 13 w 1)) d) m b (20032 - b) 1000000) 20000) (S 13 w 10 - 1)) else min (db (fun d => !sB (S 10 (S 13 w 1)) d) m b (20032 - b) 1000000) 20000)) h) 4 0 0 h 56 L [.int (bI z)] := fun z hz L hL => pw_M _ hL (k56 z hz)
    iterate 2 refine pw_go tk_X17_releaseBy rfl rfl ?_
    refine pw_get tk_X17_releaseBy rfl fl_X17_152 (R.war hw) rfl ?_
    refine pw_go tk_X17_releaseBy rfl rfl ?_
    refine pw_icN (S 13 w 2) (108) tk_X17_releaseBy rfl rfl rfl (by omega) (by omega) (fun c => ?_) (fun c => ?_)
    · have c : S 13 w 2 = 108 := c
      iterate 2 refine pw_go tk_X17_releaseBy rfl rfl ?_
      exact sw true (by unfold wyes; simp [c]) _ ⟨rfl, rfl, rfl, rfl, rfl, trivial⟩
    have c : S 13 w 2 ≠ 108 := c
    iterate 2 refine pw_go tk_X17_releaseBy rfl rfl ?_
    refine pw_br tk_X17_releaseBy rfl rfl (fun c2 => ?_) (fun c2 => ?_)
    · have c2 : S 13 w 7 = 0 := (nP_0 (by omega)).mp c2
      refine pw_go tk_X17_releaseBy rfl rfl ?_
      exact sw false (by unfold wyes; simp [c, c2]) _ ⟨rfl, rfl, rfl, rfl, rfl, trivial⟩
    have c2 : S 13 w 7 ≠ 0 := fun z => c2 ((nP_0 (by omega)).mpr z)
    refine pw_go tk_X17_releaseBy rfl rfl ?_
    refine pw_get tk_X17_releaseBy rfl fl_X17_10 R.m rfl ?_
    refine pw_go tk_X17_releaseBy rfl rfl ?_
    refine pw_lget (k := S 13 w 7 - 1) tk_X17_releaseBy rfl (R.l1) (by omega) (nP_p (by omega)) rfl rfl rfl ?_
    refine pw_cast tk_X17_releaseBy rfl (R.law (show S 13 w 7 - 1 < S 99 0 7 by omega)) rfl cw_X17_70 ?_
    refine pw_get tk_X17_releaseBy rfl fl_X17_208 (R.law (show S 13 w 7 - 1 < S 99 0 7 by omega)) rfl ?_
    refine pw_ifeqB (b := decide (0 < S 7 (S 13 w 7 - 1) 4)) tk_X17_releaseBy rfl (fun c3 => ?_) (fun c3 => ?_)
    · skip
      refine pw_go tk_X17_releaseBy rfl rfl ?_
      exact sw false (by unfold wyes; rw [c3]; simp [c]) _ ⟨rfl, rfl, rfl, rfl, rfl, trivial⟩
    · skip
      iterate 2 refine pw_go tk_X17_releaseBy rfl rfl ?_
      exact sw true (by unfold wyes; rw [c3]; simp; omega) _ ⟨rfl, rfl, rfl, rfl, rfl, trivial⟩
  refine pw_go tk_X17_releaseBy rfl rfl ?_
  refine pw_cvp tk_X17_releaseBy rfl ca_X16_isFixed lk_X17_108 iv_X16_isFixed sv_X16_isFixed (R.war hw) rfl rfl (As := []) (rest := []) (n_isFixed R hw b2) rfl rfl rfl rfl ?_
  refine pw_ifeqB tk_X17_releaseBy rfl (fun c => ?_) (fun c => ?_)
  · skip
    refine pw_go tk_X17_releaseBy rfl rfl ?_
    have e : S 13 w 7 = 0 := by rw [h7]; exact lwN_0 c _
    rw [e] at k16
    exact k16
  · skip
    iterate 2 refine pw_go tk_X17_releaseBy rfl rfl ?_
    refine pw_cvp tk_X17_releaseBy rfl ca_X17_lawFor lk_X17_104 iv_X17_lawFor sv_X17_lawFor R.m rfl rfl (As := [.ref (A 53 w)]) (rest := []) (n_lawFor R hw) rfl rfl rfl rfl ?_
    rw [lwL_f c, ← h7]
    refine pw_go tk_X17_releaseBy rfl rfl ?_
    exact k16
/-- whether it begins, the end of its licence, all that follows -/
def fB (S : fw_DB) (w : Nat) : Bool := decide (FD S 13 w 14 ≠ 1000000)
def fE (S : fw_DB) (w : Nat) : Int32 := if FD S 13 w 14 ≠ 1000000 ∧ FD S 13 w 16 < 20000 ∧ wfx (S 13 w) = true then nO (FD S 13 w 17) else -1
def fcO (S : fw_DB) (w : Nat) : fw_O := .inr (15, [.int (bI (fB S w)), .int (nI (if fB S w = true then FD S 13 w 14 else 0)), .int (nI (if fB S w = true then spn (FD S) w else 0)), .int (nI (FD S 13 w 15)), .int (nI (min (FD S 13 w 16) 20000)), .int (fE S w)])
def FA (S : fw_DB) (h : fw_H) (q : Nat) (ad : Nat → Nat) (m : Nat) : Prop := h q = some (.inl (9, m, .inr (.inr (.inr (.inr (rfs m ad)))))) ∧ ∀ j, j < m → h (ad j) = some (fcO S j)
theorem FA.up {q m b : Nat} {ad : Nat → Nat} {o : fw_O} (F : FA S h q ad m) (hb : h b = none) : FA S (fw_up h b o) q ad m := ⟨up_sub hb _ _ F.1, fun j hj => up_sub hb _ _ (F.2 j hj)⟩
theorem fr_is {w : Nat} (hI : ICd n S) (hw : w < S 99 0 13) : min (FD S 13 w 16) 20000 ≤ 20000 ∧ (FD S 13 w 16 < 20000 → min (FD S 13 w 16) 20000 = FD S 13 w 16) ∧ (FD S 13 w 16 = 1000000 → min (FD S 13 w 16) 20000 = 20000) := ⟨Nat.min_le_right _ _, fun z => Nat.min_eq_left (by omega), fun z => Nat.min_eq_right (by omega)⟩
theorem n_hasLic {w d b : Nat} (R : RD G n S D A M h) (hw : w < S 99 0 13) (hb : h b = some (fcO S w)) (hd : d < 20000) : PM G 1 0 0 mm_X17_hasLicence [.ref (A 53 w), .ref b, .int (nI d)] h (fw_qp (bI (wlic (FD S 13 w) d)) h) := by
  refine pm_of (by decide +kernel) rfl rfl rfl ?_
  obtain ⟨h14, h16, hle, hnb, -, h17⟩ := fdw R.1 hw
  have e17 := fd17 R.1 hw
  obtain ⟨B, hk, -, -, -⟩ := icw R.1 hw
  have b2 := B.1
  obtain ⟨r1, r2, r3⟩ := fr_is R.1 hw
  unfold fcO at hb
  have eE : fE S w = if FD S 13 w 14 ≠ 1000000 ∧ FD S 13 w 16 < 20000 ∧ wfx (S 13 w) = true then nO (FD S 13 w 17) else -1 := rfl
  generalize min (FD S 13 w 16) 20000 = r at *
  have k53 : wlic (FD S 13 w) d = false → ∀ z, PW G mm_X17_hasLicence (fw_qp (bI (wlic (FD S 13 w) d)) h) 1 0 0 h 53 [(3, .int z), (0, .ref (A 53 w)), (1, .ref b), (2, .int (nI d))] [] := by
    intro e z
    rw [e]
    refine pw_go tk_X17_hasLicence rfl rfl ?_
    exact pw_zretp (b := false) tk_X17_hasLicence rfl rfl
  have k19 : wlic (FD S 13 w) d = false → PW G mm_X17_hasLicence (fw_qp (bI (wlic (FD S 13 w) d)) h) 1 0 0 h 19 [(0, .ref (A 53 w)), (1, .ref b), (2, .int (nI d))] [] := by
    intro e
    iterate 3 refine pw_go tk_X17_hasLicence rfl rfl ?_
    refine pw_br tk_X17_hasLicence rfl rfl (fun c => ?_) (fun c => absurd rfl c)
    exact k53 e _
  have nl : ¬ FD S 13 w 16 ≤ d → wlic (FD S 13 w) d = false := fun z => by
    unfold wlic
    rw [decide_eq_false z]
    rfl
  refine pw_go tk_X17_hasLicence rfl rfl ?_
  refine pw_get tk_X17_hasLicence rfl fl_X17_232 hb rfl ?_
  refine pw_ifeqB (b := fB S w) tk_X17_hasLicence rfl (fun c => ?_) (fun c => ?_)
  · have c : FD S 13 w 14 = 1000000 := by
      unfold fB at c
      simpa using c
    exact k19 (nl (by have := (hnb c).1; omega))
  have c : FD S 13 w 14 ≠ 1000000 := by
    unfold fB at c
    simpa using c
  have e17 := e17 c
  refine pw_go tk_X17_hasLicence rfl rfl ?_
  refine pw_get tk_X17_hasLicence rfl fl_X17_235 hb rfl ?_
  refine pw_go tk_X17_hasLicence rfl rfl ?_
  refine pw_icN (r) (d) tk_X17_hasLicence rfl rfl rfl (by omega) (by omega) (fun c2 => ?_) (fun c2 => ?_)
  · have c2 : d < r := c2
    exact k19 (nl (by rcases h16 with z | z <;> omega))
  have c2 : ¬ d < r := c2
  have h16 : FD S 13 w 16 < 20000 := by rcases h16 with z | z <;> omega
  have le : FD S 13 w 16 ≤ d := by have := r2 h16; omega
  have wl : ∀ z : Bool, decide (d + 1000000 < FD S 13 w 17) = z → wlic (FD S 13 w) d = z := fun z hz => by
    unfold wlic
    rw [decide_eq_true le, Bool.true_and]
    exact hz
  iterate 4 refine pw_go tk_X17_hasLicence rfl rfl ?_
  refine pw_br tk_X17_hasLicence rfl rfl (fun c => absurd c (by decide)) (fun _ => ?_)
  refine pw_go tk_X17_hasLicence rfl rfl ?_
  refine pw_get tk_X17_hasLicence rfl fl_X17_152 (R.war hw) rfl ?_
  refine pw_go tk_X17_hasLicence rfl rfl ?_
  refine pw_icN (S 13 w 2) (108) tk_X17_hasLicence rfl rfl rfl (by omega) (by omega) (fun c3 => ?_) (fun c3 => ?_)
  · have c3 : S 13 w 2 = 108 := c3
    rw [if_neg (by omega), if_pos c3] at e17
    rw [wl true (by rw [e17]; exact decide_eq_true (by omega))]
    iterate 2 refine pw_go tk_X17_hasLicence rfl rfl ?_
    exact pw_zretp (b := true) tk_X17_hasLicence rfl rfl
  have c3 : S 13 w 2 ≠ 108 := c3
  refine pw_go tk_X17_hasLicence rfl rfl ?_
  refine pw_cvp tk_X17_hasLicence rfl ca_X16_isFixed lk_X17_108 iv_X16_isFixed sv_X16_isFixed (R.war hw) rfl rfl (As := []) (rest := []) (n_isFixed R hw b2) rfl rfl rfl rfl ?_
  refine pw_ifeqB tk_X17_hasLicence rfl (fun c4 => ?_) (fun c4 => ?_)
  · have e2 : S 13 w 2 = 100 := by
      unfold wfx at c4
      simp only [Bool.or_eq_false_iff, decide_eq_false_iff_not] at c4
      omega
    rw [if_pos (Or.inr e2)] at e17
    exact k53 (wl false (by rw [e17]; exact decide_eq_false (by omega))) _
  rw [if_pos ⟨c, h16, c4⟩] at eE
  iterate 2 refine pw_go tk_X17_hasLicence rfl rfl ?_
  refine pw_get tk_X17_hasLicence rfl fl_X17_261 hb rfl ?_
  rw [eE]
  refine pw_br tk_X17_hasLicence rfl rfl (fun c5 => ?_) (fun c5 => ?_)
  · have c5 : nO (FD S 13 w 17) ≤ nI d := c5
    have c5 := (nO_le (by omega) (by omega)).mp c5
    exact k53 (wl false (decide_eq_false (by omega))) _
  · have c5 : ¬ nO (FD S 13 w 17) ≤ nI d := c5
    have c5 : ¬ FD S 13 w 17 ≤ d + 1000000 := fun z => c5 ((nO_le (by omega) (by omega)).mpr z)
    rw [wl true (decide_eq_true (by omega))]
    iterate 2 refine pw_go tk_X17_hasLicence rfl rfl ?_
    exact pw_zretp (b := true) tk_X17_hasLicence rfl rfl
/-- any of the first ones -/
def anyK (P : Nat → Bool) : Nat → Bool
  | 0 => false
  | k + 1 => anyK P k || P k
theorem anyK_r {P : Nat → Bool} : ∀ {k}, anyK P k = (List.range k).any P
  | 0 => rfl
  | k + 1 => by
    unfold anyK
    rw [anyK_r, List.range_succ, List.any_append]
    simp
theorem any_f {P Q : Nat → Bool} : ∀ {l : List Nat}, (l.filter Q).any P = l.any (fun w => Q w && P w)
  | [] => rfl
  | w :: l => by
    rw [List.filter_cons, List.any_cons, ← any_f (l := l)]
    cases hq : Q w <;> simp [hq]
theorem anyK_t {P : Nat → Bool} {k : Nat} : anyK P k = true ↔ ∃ j, j < k ∧ P j = true := by
  rw [anyK_r, List.any_eq_true]
  simp [List.mem_range]
/-- whether one of the first warrants licenses -/
def licK (S : fw_DB) (p d : Nat) : Nat → Bool := anyK (fun w => decide (S 13 w 1 = p) && wlic (FD S 13 w) d)
theorem n_isLic {p d q m : Nat} {ad : Nat → Nat} (R : RD G n S D A M h) (F : FA S h q ad (S 99 0 13)) (hp : p < S 99 0 8) (hd : d < 20000) (hm : m ≤ S 99 0 13) : PM G 3 0 0 mm_X17_isLicensed [.ref (A 30 0), .int (nI p), .int (nI d), .ref q, .int (nI m)] h (fw_qp (bI (licK S p d m)) h) := by
  refine pm_of (by decide +kernel) rfl rfl rfl ?_
  have hN := R.n7
  have loop : ∀ j k, j + k = m → PW G mm_X17_isLicensed (fw_qp (bI (licK S p d m)) h) 3 0 0 h 6 [(0, .ref (A 30 0)), (1, .int (nI p)), (2, .int (nI d)), (3, .ref q), (4, .int (nI m)), (5, .int (bI (licK S p d k))), (6, .int (nI k))] [] := by
    intro j
    induction j with
    | zero =>
      intro k hk
      have hk : k = m := by omega
      subst hk
      iterate 2 refine pw_go tk_X17_isLicensed rfl rfl ?_
      refine pw_icN (k) (k) tk_X17_isLicensed rfl rfl rfl (by omega) (by omega) (fun _ => ?_) (fun c => absurd (show k ≤ k by omega) c)
      refine pw_go tk_X17_isLicensed rfl rfl ?_
      exact pw_zretp (b := licK S p d k) tk_X17_isLicensed rfl rfl
    | succ j ih =>
      intro k hk
      have hw : k < S 99 0 13 := by omega
      obtain ⟨B, -, -, -, h1⟩ := icw R.1 hw
      have k65 : ∀ z, z = licK S p d (k + 1) → PW G mm_X17_isLicensed (fw_qp (bI (licK S p d m)) h) 3 0 0 h 65 [(0, .ref (A 30 0)), (1, .int (nI p)), (2, .int (nI d)), (3, .ref q), (4, .int (nI m)), (5, .int (bI (licK S p d k))), (6, .int (nI k))] [.int (bI z)] := by
        intro z hz
        subst hz
        iterate 2 refine pw_go tk_X17_isLicensed rfl rfl ?_
        refine pw_M [(0, .ref (A 30 0)), (1, .int (nI p)), (2, .int (nI d)), (3, .ref q), (4, .int (nI m)), (5, .int (bI (licK S p d (k + 1)))), (6, .int (nI (k + 1)))] ⟨rfl, rfl, rfl, rfl, rfl, rfl, congrArg (fun z => some (Value.int z)) (nI_1 k), trivial⟩ ?_
        refine pw_go tk_X17_isLicensed rfl rfl ?_
        exact ih (k + 1) (by omega)
      have e : licK S p d (k + 1) = (licK S p d k || (decide (S 13 k 1 = p) && wlic (FD S 13 k) d)) := rfl
      iterate 2 refine pw_go tk_X17_isLicensed rfl rfl ?_
      refine pw_icN (k) (m) tk_X17_isLicensed rfl rfl rfl (by omega) (by omega) (fun c => absurd (show m ≤ k from c) (by omega)) (fun _ => ?_)
      refine pw_go tk_X17_isLicensed rfl rfl ?_
      refine pw_ifneB tk_X17_isLicensed rfl (fun c => ?_) (fun c => ?_)
      · skip
        iterate 2 refine pw_go tk_X17_isLicensed rfl rfl ?_
        exact k65 true (by rw [e, c]; rfl)
      refine pw_go tk_X17_isLicensed rfl rfl ?_
      refine pw_get tk_X17_isLicensed rfl fl_X17_19 R.m rfl ?_
      refine pw_go tk_X17_isLicensed rfl rfl ?_
      refine pw_lget (k := k) tk_X17_isLicensed rfl (R.l3) hw rfl rfl rfl rfl ?_
      refine pw_cast tk_X17_isLicensed rfl (R.war hw) rfl cw_X17_88 ?_
      refine pw_get tk_X17_isLicensed rfl fl_X17_128 (R.war hw) rfl ?_
      refine pw_go tk_X17_isLicensed rfl rfl ?_
      refine pw_icN (S 13 k 1) (p) tk_X17_isLicensed rfl rfl rfl (by omega) (by omega) (fun c2 => ?_) (fun c2 => ?_)
      · have c2 : S 13 k 1 ≠ p := c2
        refine pw_go tk_X17_isLicensed rfl rfl ?_
        exact k65 false (by rw [e, c, decide_eq_false c2]; rfl)
      have c2 : S 13 k 1 = p := Decidable.not_not.mp c2
      refine pw_go tk_X17_isLicensed rfl rfl ?_
      refine pw_get tk_X17_isLicensed rfl fl_X17_19 R.m rfl ?_
      refine pw_go tk_X17_isLicensed rfl rfl ?_
      refine pw_lget (k := k) tk_X17_isLicensed rfl (R.l3) hw rfl rfl rfl rfl ?_
      refine pw_cast tk_X17_isLicensed rfl (R.war hw) rfl cw_X17_88 ?_
      iterate 2 refine pw_go tk_X17_isLicensed rfl rfl ?_
      refine pw_aaldN (k := k) tk_X17_isLicensed rfl F.1 (by decide) rfl rfl hw (by omega) ?_
      refine pw_q (x' := some (ad k)) (if_pos hw) ?_
      refine pw_go tk_X17_isLicensed rfl rfl ?_
      refine pw_csp tk_X17_isLicensed rfl ca_X17_hasLicence lk_X17_268 sx_X17_hasLicence (As := [.ref (A 53 k), .ref (ad k), .int (nI d)]) (rest := []) (n_hasLic R hw (F.2 k hw) hd) rfl rfl rfl rfl ?_
      refine pw_ifeqB tk_X17_isLicensed rfl (fun c3 => ?_) (fun c3 => ?_)
      · skip
        refine pw_go tk_X17_isLicensed rfl rfl ?_
        exact k65 false (by rw [e, c, c3, Bool.and_false]; rfl)
      · skip
        iterate 2 refine pw_go tk_X17_isLicensed rfl rfl ?_
        exact k65 true (by rw [e, c3, decide_eq_true c2]; simp)
  iterate 4 refine pw_go tk_X17_isLicensed rfl rfl ?_
  exact pw_M [(0, .ref (A 30 0)), (1, .int (nI p)), (2, .int (nI d)), (3, .ref q), (4, .int (nI m)), (5, .int (bI (licK S p d 0))), (6, .int (nI 0))] ⟨rfl, rfl, rfl, rfl, rfl, rfl, rfl, trivial⟩ (loop m 0 (by omega))
theorem n_isIn {k d q : Nat} {ad : Nat → Nat} (R : RD G n S D A M h) (F : FA S h q ad (S 99 0 13)) (hw : k < S 99 0 13) (hd : d < 20000) : PM G 0 0 0 mm_X17_isIn [.ref (A 30 0), .int (nI k), .int (nI d), .ref q] h (fw_qp (bI (wkeep (FD S 13 k) d)) h) := by
  refine pm_of (by decide +kernel) rfl rfl rfl ?_
  have hN := R.n7
  obtain ⟨h14, h16, hle, hnb, -, h17⟩ := fdw R.1 hw
  obtain ⟨r1, r2, r3⟩ := fr_is R.1 hw
  have hb := F.2 k hw
  unfold fcO at hb
  generalize min (FD S 13 k 16) 20000 = r at *
  have k33 : wkeep (FD S 13 k) d = false → PW G mm_X17_isIn (fw_qp (bI (wkeep (FD S 13 k) d)) h) 0 0 0 h 33 [(0, .ref (A 30 0)), (1, .int (nI k)), (2, .int (nI d)), (3, .ref q)] [] := by
    intro e
    rw [e]
    refine pw_go tk_X17_isIn rfl rfl ?_
    exact pw_zretp (b := false) tk_X17_isIn rfl rfl
  iterate 2 refine pw_go tk_X17_isIn rfl rfl ?_
  refine pw_aaldN (k := k) tk_X17_isIn rfl F.1 (by decide) rfl rfl hw (by omega) ?_
  refine pw_q (x' := some (ad k)) (if_pos hw) ?_
  refine pw_get tk_X17_isIn rfl fl_X17_232 hb rfl ?_
  refine pw_ifeqB (b := fB S k) tk_X17_isIn rfl (fun c => ?_) (fun c => ?_)
  · have c : FD S 13 k 14 = 1000000 := by
      unfold fB at c
      simpa using c
    exact k33 (by unfold wkeep; rw [decide_eq_false (p := FD S 13 k 14 ≤ d) (by omega)]; rfl)
  have c0 := c
  have c : FD S 13 k 14 ≠ 1000000 := by
    unfold fB at c
    simpa using c
  rw [c0, if_pos rfl] at hb
  iterate 2 refine pw_go tk_X17_isIn rfl rfl ?_
  refine pw_aaldN (k := k) tk_X17_isIn rfl F.1 (by decide) rfl rfl hw (by omega) ?_
  refine pw_q (x' := some (ad k)) (if_pos hw) ?_
  refine pw_get tk_X17_isIn rfl fl_X17_238 hb rfl ?_
  refine pw_go tk_X17_isIn rfl rfl ?_
  refine pw_icN (FD S 13 k 14) (d) tk_X17_isIn rfl rfl rfl (by omega) (by omega) (fun c2 => ?_) (fun c2 => ?_)
  · have c2 : d < FD S 13 k 14 := c2
    exact k33 (by unfold wkeep; rw [decide_eq_false (p := FD S 13 k 14 ≤ d) (by omega)]; rfl)
  have c2 : ¬ d < FD S 13 k 14 := c2
  iterate 2 refine pw_go tk_X17_isIn rfl rfl ?_
  refine pw_aaldN (k := k) tk_X17_isIn rfl F.1 (by decide) rfl rfl hw (by omega) ?_
  refine pw_q (x' := some (ad k)) (if_pos hw) ?_
  refine pw_get tk_X17_isIn rfl fl_X17_235 hb rfl ?_
  refine pw_go tk_X17_isIn rfl rfl ?_
  refine pw_icN (r) (d) tk_X17_isIn rfl rfl rfl (by omega) (by omega) (fun c3 => ?_) (fun c3 => ?_)
  · have c3 : r ≤ d := c3
    exact k33 (by unfold wkeep; rw [decide_eq_false (p := d < FD S 13 k 16) (by rcases h16 with z | z <;> omega), Bool.and_false])
  · have c3 : ¬ r ≤ d := c3
    rw [show wkeep (FD S 13 k) d = true by unfold wkeep; rw [decide_eq_true (p := FD S 13 k 14 ≤ d) (by omega), decide_eq_true (p := d < FD S 13 k 16) (by rcases h16 with z | z <;> omega)]; rfl]
    iterate 2 refine pw_go tk_X17_isIn rfl rfl ?_
    exact pw_zretp (b := true) tk_X17_isIn rfl rfl
end REF4

