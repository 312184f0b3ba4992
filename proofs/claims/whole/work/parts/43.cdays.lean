/-! DAYS: the class's sets of days -/
section CDAYS
variable {G : fw_G} {h : fw_H}
set_option maxRecDepth 20000 in
theorem c_bitsOf {w a b : Nat} (hw : w < 1000) (ha : a < 1073741824) (hb : b < 1073741824) : PM G 0 0 0 mm_X3_bitsOf [.int (nI w), .int (nI a), .int (nI b)] h (fw_qpL (wd (iv a b) w) h) := by
  refine pm_of (by decide +kernel) rfl rfl rfl ?_
  iterate 4 refine pw_go tk_X3_bitsOf rfl rfl ?_
  refine pw_mulN (w) (64) tk_X3_bitsOf rfl rfl rfl ?_
  refine pw_go tk_X3_bitsOf rfl rfl ?_
  refine pw_max tk_X3_bitsOf rfl lk_X3_21 rfl ?_
  refine pw_i (x' := nI (a - w * 64)) (max0 ha (by omega)) ?_
  iterate 5 refine pw_go tk_X3_bitsOf rfl rfl ?_
  refine pw_mulN (w) (64) tk_X3_bitsOf rfl rfl rfl ?_
  refine pw_go tk_X3_bitsOf rfl rfl ?_
  refine pw_min tk_X3_bitsOf rfl lk_X3_15 rfl ?_
  by_cases c : w * 64 ≤ b
  · refine pw_i (x' := nI (min 64 (b - w * 64))) (min64 hb (by omega) c) ?_
    iterate 3 refine pw_go tk_X3_bitsOf rfl rfl ?_
    refine pw_icN (a - w * 64) (min 64 (b - w * 64)) tk_X3_bitsOf rfl rfl rfl (by omega) (by omega) (fun c1 => ?_) (fun c1 => ?_)
    · skip
      have c1 : a - w * 64 < min 64 (b - w * 64) := c1
      iterate 2 refine pw_go tk_X3_bitsOf rfl rfl ?_
      refine pw_icN (min 64 (b - w * 64)) (64) tk_X3_bitsOf rfl rfl rfl (by omega) (by omega) (fun c2 => ?_) (fun c2 => ?_)
      · have c2 : min 64 (b - w * 64) ≠ 64 := c2
        iterate 7 refine pw_go tk_X3_bitsOf rfl rfl ?_
        refine pw_ldc2 tk_X3_bitsOf rfl kc_X3_28 ?_
        iterate 3 refine pw_go tk_X3_bitsOf rfl rfl ?_
        refine pw_lret tk_X3_bitsOf rfl rfl ⟨_, rfl, ?_, rfl⟩
        rw [← wd_iv (a := a) (b := b) (w := w) (by omega) (by omega) (by omega), show b - 64 * w = min 64 (b - w * 64) by omega, Nat.mul_comm 64 w]
        rfl
      · have c2 : min 64 (b - w * 64) = 64 := Classical.not_not.mp c2
        refine pw_ldc2 tk_X3_bitsOf rfl kc_X3_28 ?_
        iterate 3 refine pw_go tk_X3_bitsOf rfl rfl ?_
        refine pw_ldc2 tk_X3_bitsOf rfl kc_X3_28 ?_
        iterate 3 refine pw_go tk_X3_bitsOf rfl rfl ?_
        refine pw_lret tk_X3_bitsOf rfl rfl ⟨_, rfl, ?_, rfl⟩
        rw [← wd_iv64 (a := a) (b := b) (w := w) (by omega) (by omega), Nat.mul_comm 64 w]
    · skip
      have c1 : ¬ (a - w * 64 < min 64 (b - w * 64)) := c1
      refine pw_go tk_X3_bitsOf rfl rfl ?_
      refine pw_lret tk_X3_bitsOf rfl rfl ⟨_, rfl, ?_, rfl⟩
      exact wd_iv0 (by omega)
  · have c9 := min64n hb (show w * 64 < 1073741824 by omega) (show b < w * 64 by omega)
    refine pw_i (x' := nI b - nI (w * 64)) (if_pos c9.1) ?_
    iterate 3 refine pw_go tk_X3_bitsOf rfl rfl ?_
    refine pw_br tk_X3_bitsOf rfl rfl (fun c1 => ?_) (fun c1 => ?_)
    · exact absurd c1 (c9.2 _ (by omega))
    · skip
      refine pw_go tk_X3_bitsOf rfl rfl ?_
      refine pw_lret tk_X3_bitsOf rfl rfl ⟨_, rfl, ?_, rfl⟩
      exact wd_iv0 (by omega)
theorem nI_dec {m : Nat} (h : 0 < m) : nI m + (-1) = nI (m - 1) := by
  obtain ⟨k, rfl⟩ : ∃ k, m = k + 1 := ⟨m - 1, by omega⟩
  rw [← nI_add k 1, Int32.add_assoc, show nI 1 + (-1) = 0 by decide, Int32.add_zero]
  rfl
set_option maxRecDepth 20000 in
theorem c_bitBehind {x : Int64} {n : Nat} (hn : 0 < n) (hn2 : n < 1073741824) : PM G 0 0 0 mm_X3_bitBehind [.long x, .int (nI n)] h (fw_qp (nI (db (gb x) n 0 64 64)) h) := by
  refine pm_of (by decide +kernel) rfl rfl rfl ?_
  have loop : ∀ (j k m : Nat), k + j = 64 → 0 < m → m < 1073741824 → db (gb x) m k j 64 = db (gb x) n 0 64 64 → PW G mm_X3_bitBehind (fw_qp (nI (db (gb x) n 0 64 64)) h) 0 0 0 h 5 [(0, .long x), (2, .int (nI n)), (3, .int (nI m)), (4, .int (nI k))] [] := by
    intro j
    induction j with
    | zero =>
      intro k m hk hm hm2 he
      have hk : k = 64 := by omega
      subst hk
      iterate 2 refine pw_go tk_X3_bitBehind rfl rfl ?_
      refine pw_icN (64) (64) tk_X3_bitBehind rfl rfl rfl (by omega) (by omega) (fun c => ?_) (fun c => absurd (Nat.le_refl 64) c)
      refine pw_go tk_X3_bitBehind rfl rfl ?_
      refine pw_i (x' := nI (db (gb x) n 0 64 64)) (by rw [← he, db_e hm]; rfl) ?_
      exact pw_iretp tk_X3_bitBehind rfl rfl
    | succ j ih =>
      intro k m hk hm hm2 he
      rw [db_s hm] at he
      iterate 2 refine pw_go tk_X3_bitBehind rfl rfl ?_
      refine pw_icN (k) (64) tk_X3_bitBehind rfl rfl rfl (by omega) (by omega) (fun c => absurd (show 64 ≤ k from c) (by omega)) (fun c => ?_)
      iterate 5 refine pw_go tk_X3_bitBehind rfl rfl ?_
      have hb := gb_at x (k := k) (by omega)
      have k26 : ∀ m', m' ≤ m → db (gb x) m' (k + 1) j 64 = db (gb x) n 0 64 64 → PW G mm_X3_bitBehind (fw_qp (nI (db (gb x) n 0 64 64)) h) 0 0 0 h 26 [(0, .long x), (2, .int (nI n)), (3, .int (nI m')), (4, .int (nI k))] [] := by
        intro m' hm' he'
        refine pw_go tk_X3_bitBehind rfl rfl ?_
        refine pw_ifN (m') tk_X3_bitBehind rfl rfl (by omega) (fun c => ?_) (fun c => ?_)
        · skip
          iterate 2 refine pw_go tk_X3_bitBehind rfl rfl ?_
          refine pw_M [(0, .long x), (2, .int (nI n)), (3, .int (nI m')), (4, .int (nI (k + 1)))] ⟨rfl, rfl, rfl, congrArg (fun z => some (Value.int z)) (nI_1 k), trivial⟩ ?_
          exact ih (k + 1) m' (by omega) c (by omega) he'
        · skip
          have c : ¬ 0 < m' := c
          have c : m' = 0 := by omega
          subst c
          rw [db_0] at he'
          iterate 2 refine pw_go tk_X3_bitBehind rfl rfl ?_
          refine pw_addN (k) (1) tk_X3_bitBehind rfl rfl rfl ?_
          refine pw_i (x' := nI (db (gb x) n 0 64 64)) (by rw [he']) ?_
          exact pw_iretp tk_X3_bitBehind rfl rfl
      cases hg : gb x k with
      | true =>
        rw [hg] at he
        refine pw_l (x' := 1) (hb.1.mpr hg) ?_
        iterate 2 refine pw_go tk_X3_bitBehind rfl rfl ?_
        refine pw_br tk_X3_bitBehind rfl rfl (fun c => absurd c (by decide)) (fun c => ?_)
        refine pw_go tk_X3_bitBehind rfl rfl ?_
        refine pw_M [(0, .long x), (2, .int (nI n)), (3, .int (nI (m - 1))), (4, .int (nI k))] ⟨rfl, rfl, congrArg (fun z => some (Value.int z)) (nI_dec hm), rfl, trivial⟩ ?_
        exact k26 (m - 1) (by omega) he
      | false =>
        rw [hg] at he
        refine pw_l (x' := 0) (hb.2.mpr hg) ?_
        iterate 2 refine pw_go tk_X3_bitBehind rfl rfl ?_
        refine pw_br tk_X3_bitBehind rfl rfl (fun c => ?_) (fun c => absurd rfl c)
        refine pw_M [(0, .long x), (2, .int (nI n)), (3, .int (nI m)), (4, .int (nI k))] ⟨rfl, rfl, rfl, rfl, trivial⟩ ?_
        exact k26 m (by omega) he
  iterate 4 refine pw_go tk_X3_bitBehind rfl rfl ?_
  refine pw_M [(0, .long x), (2, .int (nI n)), (3, .int (nI n)), (4, .int (nI 0))] ⟨rfl, rfl, rfl, rfl, trivial⟩ ?_
  exact loop 64 0 n (by omega) hn hn2 rfl
/-- a set of days lies at b, its words at wa -/
def dyAt (h : fw_H) (b wa : Nat) (p : Nat → Bool) : Prop := h b = some (.inr (6, [.ref wa])) ∧ h wa = some (.inl (1, 313, .inr (.inl (wd p))))
section
variable {b wa : Nat} {p : Nat → Bool}
set_option maxRecDepth 20000 in
theorem c_has {d : Nat} (HD : dyAt h b wa p) (hd : d < 20032) : PM G 0 0 0 mm_X3_has [.ref b, .int (nI d)] h (fw_qp (bI (p d)) h) := by
  refine pm_of (by decide +kernel) rfl rfl rfl ?_
  obtain ⟨ho, hw⟩ := HD
  iterate 2 refine pw_go tk_X3_has rfl rfl ?_
  refine pw_divN (d) (64) tk_X3_has rfl rfl rfl (by omega) (by omega) (by omega) ?_
  iterate 2 refine pw_go tk_X3_has rfl rfl ?_
  refine pw_ifN (d) tk_X3_has rfl rfl (by omega) (fun c => absurd (show d < 0 from c) (by omega)) (fun c => ?_)
  iterate 2 refine pw_go tk_X3_has rfl rfl ?_
  refine pw_get tk_X3_has rfl fl_X3_11 ho rfl ?_
  refine pw_alen tk_X3_has rfl hw (by decide) ?_
  refine pw_icN (d / 64) (313) tk_X3_has rfl rfl rfl (by omega) (by omega) (fun c => absurd (show 313 ≤ d / 64 from c) (by omega)) (fun c => ?_)
  refine pw_go tk_X3_has rfl rfl ?_
  refine pw_get tk_X3_has rfl fl_X3_11 ho rfl ?_
  refine pw_go tk_X3_has rfl rfl ?_
  refine pw_laldN tk_X3_has rfl hw rfl (by omega) (by omega) ?_
  iterate 2 refine pw_go tk_X3_has rfl rfl ?_
  refine pw_remN (d) (64) tk_X3_has rfl rfl rfl (by omega) (by omega) (by omega) ?_
  iterate 3 refine pw_go tk_X3_has rfl rfl ?_
  have hb := gb_at (wd p (d / 64)) (k := d % 64) (by omega)
  have hg : gb (wd p (d / 64)) (d % 64) = p d := by rw [gb_wd _ _ (by omega), Nat.div_add_mod]
  cases hp : p d with
  | true =>
    refine pw_l (x' := 1) (hb.1.mpr (hg.trans hp)) ?_
    iterate 2 refine pw_go tk_X3_has rfl rfl ?_
    refine pw_br tk_X3_has rfl rfl (fun c => absurd c (by decide)) (fun c => ?_)
    iterate 2 refine pw_go tk_X3_has rfl rfl ?_
    exact pw_zretp (b := true) tk_X3_has rfl rfl
  | false =>
    refine pw_l (x' := 0) (hb.2.mpr (hg.trans hp)) ?_
    iterate 2 refine pw_go tk_X3_has rfl rfl ?_
    refine pw_br tk_X3_has rfl rfl (fun c => ?_) (fun c => absurd rfl c)
    refine pw_go tk_X3_has rfl rfl ?_
    exact pw_zretp (b := false) tk_X3_has rfl rfl
set_option maxRecDepth 20000 in
theorem c_put {x z : Nat} (HD : dyAt h b wa p) (hx : x < 1073741824) (hz : z < 1073741824) : PM G 1 0 0 mm_X3_put [.ref b, .int (nI x), .int (nI z)] h (fw_qV (fun h' => h' = fw_up h wa (.inl (1, 313, .inr (.inl (wd (fun d => p d || iv x (min z 20000) d)))))) fw_noX) := by
  refine pm_of (by decide +kernel) rfl rfl rfl ?_
  obtain ⟨ho, hw⟩ := HD
  obtain ⟨t, ht⟩ : ∃ t, t = min z 20000 := ⟨_, rfl⟩
  rw [← ht]
  have nwb : b ≠ wa := fw_ne ho hw (fun e => nomatch e)
  have fin : ∀ k, t ≤ 64 * k → (fun d => p d || (decide (d < 64 * k) && iv x t d)) = (fun d => p d || iv x t d) := by
    intro k hk
    funext d
    congr 1
    unfold iv
    by_cases hd : d < t
    · rw [decide_eq_true (show d < 64 * k by omega), Bool.true_and]
    · rw [decide_eq_false hd, Bool.and_false, Bool.and_false]
  have hst : (fun d => p d || (decide (d < 64 * (x / 64)) && iv x t d)) = p := by
    funext d
    unfold iv
    by_cases hd : d < 64 * (x / 64)
    · rw [decide_eq_false (show ¬ x ≤ d by omega), Bool.false_and, Bool.and_false, Bool.or_false]
    · rw [decide_eq_false hd, Bool.false_and, Bool.or_false]
  have stp : ∀ k, vp_updL (wd (fun d => p d || (decide (d < 64 * k) && iv x t d))) k (wd (fun d => p d || (decide (d < 64 * k) && iv x t d)) k ||| wd (iv x t) k) = wd (fun d => p d || (decide (d < 64 * (k + 1)) && iv x t d)) := by
    intro k
    funext w
    unfold vp_updL
    by_cases e : w = k
    · subst e
      rw [if_pos rfl]
      apply wd_of
      intro i hi
      rw [gb_or, gb_wd _ _ hi, gb_wd _ _ hi, decide_eq_false (show ¬ 64 * w + i < 64 * w by omega), decide_eq_true (show 64 * w + i < 64 * (w + 1) by omega), Bool.false_and, Bool.or_false, Bool.true_and]
    · rw [if_neg e]
      apply wd_congr
      intro i hi
      congr 2
      exact decide_eq_decide.mpr (by omega)
  have loop : ∀ (n k : Nat), k + n = 313 + x / 64 → PW G mm_X3_put (fw_qV (fun h' => h' = fw_up h wa (.inl (1, 313, .inr (.inl (wd (fun d => p d || iv x t d)))))) fw_noX) 1 0 0 (fw_up h wa (.inl (1, 313, .inr (.inl (wd (fun d => p d || (decide (d < 64 * k) && iv x t d))))))) 18 [(0, .ref b), (1, .int (nI x)), (2, .int (nI z)), (3, .int (nI t)), (4, .int (nI k))] [] := by
    intro n
    induction n with
    | zero =>
      intro k hk
      iterate 2 refine pw_go tk_X3_put rfl rfl ?_
      refine pw_get tk_X3_put rfl fl_X3_11 ((fw_up_n nwb).trans ho) rfl ?_
      refine pw_alen tk_X3_put rfl fw_up_s (by decide) ?_
      refine pw_icN (k) (313) tk_X3_put rfl rfl rfl (by omega) (by omega) (fun c => ?_) (fun c => absurd (show 313 ≤ k by omega) c)
      exact pw_vret tk_X3_put rfl rfl ⟨rfl, by rw [fin k (by omega)]⟩
    | succ n ih =>
      intro k hk
      iterate 2 refine pw_go tk_X3_put rfl rfl ?_
      refine pw_get tk_X3_put rfl fl_X3_11 ((fw_up_n nwb).trans ho) rfl ?_
      refine pw_alen tk_X3_put rfl fw_up_s (by decide) ?_
      refine pw_icN (k) (313) tk_X3_put rfl rfl rfl (by omega) (by omega) (fun c => ?_) (fun c => ?_)
      · skip
        have c : 313 ≤ k := c
        exact pw_vret tk_X3_put rfl rfl ⟨rfl, by rw [fin k (by omega)]⟩
      · skip
        have c : ¬ 313 ≤ k := c
        iterate 2 refine pw_go tk_X3_put rfl rfl ?_
        refine pw_mulN (k) (64) tk_X3_put rfl rfl rfl ?_
        refine pw_go tk_X3_put rfl rfl ?_
        refine pw_icN (k * 64) (t) tk_X3_put rfl rfl rfl (by omega) (by omega) (fun c2 => ?_) (fun c2 => ?_)
        · skip
          have c2 : t ≤ k * 64 := c2
          exact pw_vret tk_X3_put rfl rfl ⟨rfl, by rw [fin k (by omega)]⟩
        · skip
          refine pw_go tk_X3_put rfl rfl ?_
          refine pw_get tk_X3_put rfl fl_X3_11 ((fw_up_n nwb).trans ho) rfl ?_
          iterate 2 refine pw_go tk_X3_put rfl rfl ?_
          refine pw_laldN tk_X3_put rfl fw_up_s rfl (by omega) (by omega) ?_
          iterate 3 refine pw_go tk_X3_put rfl rfl ?_
          refine pw_cspL tk_X3_put rfl ca_X3_bitsOf lk_X3_24 sx_X3_bitsOf (As := [.int (nI k), .int (nI x), .int (nI t)]) (rest := [.long (wd (fun d => p d || (decide (d < 64 * k) && iv x t d)) k), .int (nI k), .ref wa]) (c_bitsOf (by omega) hx (by omega)) rfl rfl rfl rfl ?_
          refine pw_go tk_X3_put rfl rfl ?_
          refine pw_lastN tk_X3_put rfl fw_up_s rfl (by omega) (by omega) ?_
          refine pw_h (by rw [fw_up_2, stp]) ?_
          iterate 2 refine pw_go tk_X3_put rfl rfl ?_
          refine pw_M [(0, .ref b), (1, .int (nI x)), (2, .int (nI z)), (3, .int (nI t)), (4, .int (nI (k + 1)))] ⟨rfl, rfl, rfl, rfl, congrArg (fun z => some (Value.int z)) (nI_1 k), trivial⟩ ?_
          exact ih (k + 1) (by omega)
  iterate 2 refine pw_go tk_X3_put rfl rfl ?_
  refine pw_minN (z) (20000) tk_X3_put rfl lk_X3_15 rfl rfl (by omega) (by omega) rfl ?_
  refine pw_i (x' := nI t) (by rw [ht]) ?_
  iterate 3 refine pw_go tk_X3_put rfl rfl ?_
  refine pw_maxN (x) (0) tk_X3_put rfl lk_X3_21 rfl rfl (by omega) (by omega) rfl ?_
  refine pw_go tk_X3_put rfl rfl ?_
  refine pw_divN (max x 0) (64) tk_X3_put rfl rfl rfl (by omega) (by omega) (by omega) ?_
  refine pw_go tk_X3_put rfl rfl ?_
  refine pw_h (h' := fw_up h wa (.inl (1, 313, .inr (.inl (wd (fun d => p d || (decide (d < 64 * (x / 64)) && iv x t d))))))) (by rw [hst, fw_up_i hw]) ?_
  refine pw_M [(0, .ref b), (1, .int (nI x)), (2, .int (nI z)), (3, .int (nI t)), (4, .int (nI (x / 64)))] ⟨rfl, rfl, rfl, rfl, congrArg (fun z => some (Value.int (nI (z / 64)))) (by omega), trivial⟩ ?_
  exact loop 313 (x / 64) (by omega)
set_option maxRecDepth 20000 in
theorem c_clear (HD : dyAt h b wa p) (hp : ∀ d, 20000 ≤ d → p d = false) : PM G 0 0 0 mm_X3_clear [.ref b] h (fw_qV (fun h' => h' = fw_up h wa (.inl (1, 313, .inr (.inl (wd (fun _ => false)))))) fw_noX) := by
  refine pm_of (by decide +kernel) rfl rfl rfl ?_
  obtain ⟨ho, hw⟩ := HD
  have nwb : b ≠ wa := fw_ne ho hw (fun e => nomatch e)
  have hst : (fun d => p d && decide (64 * 0 ≤ d)) = p := by
    funext d
    rw [decide_eq_true (show 64 * 0 ≤ d by omega), Bool.and_true]
  have fin : (fun d => p d && decide (64 * 313 ≤ d)) = (fun _ => false) := by
    funext d
    by_cases hd : 20000 ≤ d
    · rw [hp d hd, Bool.false_and]
    · rw [decide_eq_false (show ¬ 64 * 313 ≤ d by omega), Bool.and_false]
  have stp : ∀ k, vp_updL (wd (fun d => p d && decide (64 * k ≤ d))) k 0 = wd (fun d => p d && decide (64 * (k + 1) ≤ d)) := by
    intro k
    funext w
    unfold vp_updL
    by_cases e : w = k
    · subst e
      rw [if_pos rfl]
      apply wd_of
      intro i hi
      rw [gb_0, decide_eq_false (show ¬ 64 * (w + 1) ≤ 64 * w + i by omega), Bool.and_false]
    · rw [if_neg e]
      apply wd_congr
      intro i hi
      congr 1
      exact decide_eq_decide.mpr (by omega)
  have loop : ∀ (n k : Nat), k + n = 313 → PW G mm_X3_clear (fw_qV (fun h' => h' = fw_up h wa (.inl (1, 313, .inr (.inl (wd (fun _ => false)))))) fw_noX) 0 0 0 (fw_up h wa (.inl (1, 313, .inr (.inl (wd (fun d => p d && decide (64 * k ≤ d))))))) 2 [(0, .ref b), (1, .int (nI k))] [] := by
    intro n
    induction n with
    | zero =>
      intro k hk
      have hk : k = 313 := by omega
      subst hk
      iterate 2 refine pw_go tk_X3_clear rfl rfl ?_
      refine pw_get tk_X3_clear rfl fl_X3_11 ((fw_up_n nwb).trans ho) rfl ?_
      refine pw_alen tk_X3_clear rfl fw_up_s (by decide) ?_
      refine pw_icN (313) (313) tk_X3_clear rfl rfl rfl (by omega) (by omega) (fun c => ?_) (fun c => absurd (Nat.le_refl 313) c)
      exact pw_vret tk_X3_clear rfl rfl ⟨rfl, by rw [fin]⟩
    | succ n ih =>
      intro k hk
      iterate 2 refine pw_go tk_X3_clear rfl rfl ?_
      refine pw_get tk_X3_clear rfl fl_X3_11 ((fw_up_n nwb).trans ho) rfl ?_
      refine pw_alen tk_X3_clear rfl fw_up_s (by decide) ?_
      refine pw_icN (k) (313) tk_X3_clear rfl rfl rfl (by omega) (by omega) (fun c => absurd (show 313 ≤ k from c) (by omega)) (fun c => ?_)
      refine pw_go tk_X3_clear rfl rfl ?_
      refine pw_get tk_X3_clear rfl fl_X3_11 ((fw_up_n nwb).trans ho) rfl ?_
      iterate 2 refine pw_go tk_X3_clear rfl rfl ?_
      refine pw_lastN tk_X3_clear rfl fw_up_s rfl (by omega) (by omega) ?_
      refine pw_h (fw_up_2.trans (congrArg (fun f => fw_up h wa (.inl (1, 313, .inr (.inl f)))) (stp k))) ?_
      iterate 2 refine pw_go tk_X3_clear rfl rfl ?_
      refine pw_M [(0, .ref b), (1, .int (nI (k + 1)))] ⟨rfl, congrArg (fun z => some (Value.int z)) (nI_1 k), trivial⟩ ?_
      exact ih (k + 1) (by omega)
  iterate 2 refine pw_go tk_X3_clear rfl rfl ?_
  refine pw_h (h' := fw_up h wa (.inl (1, 313, .inr (.inl (wd (fun d => p d && decide (64 * 0 ≤ d))))))) (by rw [hst, fw_up_i hw]) ?_
  refine pw_M [(0, .ref b), (1, .int (nI 0))] ⟨rfl, rfl, trivial⟩ ?_
  exact loop 313 0 (by omega)
set_option maxRecDepth 20000 in
theorem c_remove {b2 wa2 : Nat} {o : Nat → Bool} (HD : dyAt h b wa p) (HO : dyAt h b2 wa2 o) (nw : wa2 ≠ wa) (hp : ∀ d, 20000 ≤ d → o d = false) : PM G 0 0 0 mm_X3_remove [.ref b, .ref b2] h (fw_qV (fun h' => h' = fw_up h wa (.inl (1, 313, .inr (.inl (wd (fun d => p d && !o d)))))) fw_noX) := by
  refine pm_of (by decide +kernel) rfl rfl rfl ?_
  obtain ⟨ho, hw⟩ := HD
  obtain ⟨ho2, hw2⟩ := HO
  have nwb : b ≠ wa := fw_ne ho hw (fun e => nomatch e)
  have nwb2 : b2 ≠ wa := fw_ne ho2 hw (fun e => nomatch e)
  have hst : (fun d => p d && !(o d && decide (d < 64 * 0))) = p := by
    funext d
    rw [decide_eq_false (show ¬ d < 64 * 0 by omega), Bool.and_false]
    simp
  have fin : (fun d => p d && !(o d && decide (d < 64 * 313))) = (fun d => p d && !o d) := by
    funext d
    by_cases hd : 20000 ≤ d
    · rw [hp d hd, Bool.false_and]
    · rw [decide_eq_true (show d < 64 * 313 by omega), Bool.and_true]
  have stp : ∀ k, vp_updL (wd (fun d => p d && !(o d && decide (d < 64 * k)))) k (wd (fun d => p d && !(o d && decide (d < 64 * k))) k &&& (wd o k ^^^ (-1))) = wd (fun d => p d && !(o d && decide (d < 64 * (k + 1)))) := by
    intro k
    funext w
    unfold vp_updL
    by_cases e : w = k
    · subst e
      rw [if_pos rfl]
      apply wd_of
      intro i hi
      rw [gb_and, gb_not _ hi, gb_wd _ _ hi, gb_wd _ _ hi, decide_eq_false (show ¬ 64 * w + i < 64 * w by omega), decide_eq_true (show 64 * w + i < 64 * (w + 1) by omega), Bool.and_false]
      simp
    · rw [if_neg e]
      apply wd_congr
      intro i hi
      congr 3
      exact decide_eq_decide.mpr (by omega)
  have loop : ∀ (n k : Nat), k + n = 313 → PW G mm_X3_remove (fw_qV (fun h' => h' = fw_up h wa (.inl (1, 313, .inr (.inl (wd (fun d => p d && !o d)))))) fw_noX) 0 0 0 (fw_up h wa (.inl (1, 313, .inr (.inl (wd (fun d => p d && !(o d && decide (d < 64 * k)))))))) 2 [(0, .ref b), (1, .ref b2), (2, .int (nI k))] [] := by
    intro n
    induction n with
    | zero =>
      intro k hk
      have hk : k = 313 := by omega
      subst hk
      iterate 2 refine pw_go tk_X3_remove rfl rfl ?_
      refine pw_get tk_X3_remove rfl fl_X3_11 ((fw_up_n nwb).trans ho) rfl ?_
      refine pw_alen tk_X3_remove rfl fw_up_s (by decide) ?_
      refine pw_icN (313) (313) tk_X3_remove rfl rfl rfl (by omega) (by omega) (fun c => ?_) (fun c => absurd (Nat.le_refl 313) c)
      exact pw_vret tk_X3_remove rfl rfl ⟨rfl, by rw [fin]⟩
    | succ n ih =>
      intro k hk
      iterate 2 refine pw_go tk_X3_remove rfl rfl ?_
      refine pw_get tk_X3_remove rfl fl_X3_11 ((fw_up_n nwb).trans ho) rfl ?_
      refine pw_alen tk_X3_remove rfl fw_up_s (by decide) ?_
      refine pw_icN (k) (313) tk_X3_remove rfl rfl rfl (by omega) (by omega) (fun c => absurd (show 313 ≤ k from c) (by omega)) (fun c => ?_)
      iterate 2 refine pw_go tk_X3_remove rfl rfl ?_
      refine pw_get tk_X3_remove rfl fl_X3_11 ((fw_up_n nwb2).trans ho2) rfl ?_
      refine pw_alen tk_X3_remove rfl ((fw_up_n nw).trans hw2) (by decide) ?_
      refine pw_icN (k) (313) tk_X3_remove rfl rfl rfl (by omega) (by omega) (fun c => absurd (show 313 ≤ k from c) (by omega)) (fun c => ?_)
      refine pw_go tk_X3_remove rfl rfl ?_
      refine pw_get tk_X3_remove rfl fl_X3_11 ((fw_up_n nwb).trans ho) rfl ?_
      iterate 2 refine pw_go tk_X3_remove rfl rfl ?_
      refine pw_laldN tk_X3_remove rfl fw_up_s rfl (by omega) (by omega) ?_
      refine pw_go tk_X3_remove rfl rfl ?_
      refine pw_get tk_X3_remove rfl fl_X3_11 ((fw_up_n nwb2).trans ho2) rfl ?_
      refine pw_go tk_X3_remove rfl rfl ?_
      refine pw_laldN tk_X3_remove rfl ((fw_up_n nw).trans hw2) rfl (by omega) (by omega) ?_
      refine pw_ldc2 tk_X3_remove rfl kc_X3_28 ?_
      iterate 2 refine pw_go tk_X3_remove rfl rfl ?_
      refine pw_lastN tk_X3_remove rfl fw_up_s rfl (by omega) (by omega) ?_
      refine pw_h (by rw [fw_up_2, stp]) ?_
      iterate 2 refine pw_go tk_X3_remove rfl rfl ?_
      refine pw_M [(0, .ref b), (1, .ref b2), (2, .int (nI (k + 1)))] ⟨rfl, rfl, congrArg (fun z => some (Value.int z)) (nI_1 k), trivial⟩ ?_
      exact ih (k + 1) (by omega)
  iterate 2 refine pw_go tk_X3_remove rfl rfl ?_
  refine pw_h (h' := fw_up h wa (.inl (1, 313, .inr (.inl (wd (fun d => p d && !(o d && decide (d < 64 * 0)))))))) (by rw [hst, fw_up_i hw]) ?_
  refine pw_M [(0, .ref b), (1, .ref b2), (2, .int (nI 0))] ⟨rfl, rfl, rfl, trivial⟩ ?_
  exact loop 313 0 (by omega)
set_option maxRecDepth 20000 in
theorem c_within {x z : Nat} (HD : dyAt h b wa p) (hx : x < 1073741824) (hz : z < 1073741824) : PM G 1 0 0 mm_X3_within [.ref b, .int (nI x), .int (nI z)] h (fw_qp (nI (cu (fun d => p d && iv x z d) 20032)) h) := by
  refine pm_of (by decide +kernel) rfl rfl rfl ?_
  obtain ⟨ho, hw⟩ := HD
  have hst : cu (fun d => p d && iv x z d) (64 * (x / 64)) = 0 := cu_none (fun i hi => by
    unfold iv
    rw [decide_eq_false (show ¬ x ≤ i by omega), Bool.false_and, Bool.and_false])
  have fin : ∀ k, k ≤ 313 → z ≤ 64 * k → cu (fun d => p d && iv x z d) (64 * k) = cu (fun d => p d && iv x z d) 20032 := by
    intro k hk hz
    obtain ⟨j, hj⟩ : ∃ j, 20032 = 64 * k + j := ⟨20032 - 64 * k, by omega⟩
    have e0 : cu (fun i => (fun d => p d && iv x z d) (64 * k + i)) j = 0 := cu_none (fun i hi => by
      unfold iv
      show (p (64 * k + i) && (decide (x ≤ 64 * k + i) && decide (64 * k + i < z))) = false
      rw [decide_eq_false (show ¬ 64 * k + i < z by omega), Bool.and_false, Bool.and_false])
    rw [hj, cu_add, e0, Nat.add_zero]
  have stp : ∀ k, cu (fun d => p d && iv x z d) (64 * k) + cu (gb (wd p k &&& wd (iv x z) k)) 64 = cu (fun d => p d && iv x z d) (64 * (k + 1)) := by
    intro k
    rw [Nat.add_comm]
    exact cu_word (fun i hi => by rw [gb_and, gb_wd _ _ hi, gb_wd _ _ hi])
  have loop : ∀ (n k : Nat), k + n = 313 + x / 64 → k ≤ 313 + x / 64 → (k ≤ 313 ∨ k = x / 64) → PW G mm_X3_within (fw_qp (nI (cu (fun d => p d && iv x z d) 20032)) h) 1 0 0 h 12 [(0, .ref b), (1, .int (nI x)), (2, .int (nI z)), (3, .int (nI (cu (fun d => p d && iv x z d) (64 * k)))), (4, .int (nI k))] [] := by
    intro n
    have big : ∀ k, 313 ≤ k → (k ≤ 313 ∨ k = x / 64) → cu (fun d => p d && iv x z d) (64 * k) = cu (fun d => p d && iv x z d) 20032 := by
      intro k h1 h2
      rcases h2 with h2 | h2
      · rw [show 64 * k = 20032 by omega]
      · rw [h2, hst]
        refine (cu_none (fun i hi => ?_)).symm
        unfold iv
        rw [decide_eq_false (show ¬ x ≤ i by omega), Bool.false_and, Bool.and_false]
    induction n with
    | zero =>
      intro k hk hk2 hk3
      iterate 2 refine pw_go tk_X3_within rfl rfl ?_
      refine pw_get tk_X3_within rfl fl_X3_11 ho rfl ?_
      refine pw_alen tk_X3_within rfl hw (by decide) ?_
      refine pw_icN (k) (313) tk_X3_within rfl rfl rfl (by omega) (by omega) (fun c => ?_) (fun c => absurd (show 313 ≤ k by omega) c)
      refine pw_go tk_X3_within rfl rfl ?_
      refine pw_i (x' := nI (cu (fun d => p d && iv x z d) 20032)) (by rw [big k (by omega) hk3]) ?_
      exact pw_iretp tk_X3_within rfl rfl
    | succ n ih =>
      intro k hk hk2 hk3
      iterate 2 refine pw_go tk_X3_within rfl rfl ?_
      refine pw_get tk_X3_within rfl fl_X3_11 ho rfl ?_
      refine pw_alen tk_X3_within rfl hw (by decide) ?_
      refine pw_icN (k) (313) tk_X3_within rfl rfl rfl (by omega) (by omega) (fun c => ?_) (fun c => ?_)
      · skip
        have c : 313 ≤ k := c
        refine pw_go tk_X3_within rfl rfl ?_
        refine pw_i (x' := nI (cu (fun d => p d && iv x z d) 20032)) (by rw [big k (by omega) hk3]) ?_
        exact pw_iretp tk_X3_within rfl rfl
      · skip
        have c : ¬ 313 ≤ k := c
        iterate 2 refine pw_go tk_X3_within rfl rfl ?_
        refine pw_mulN (k) (64) tk_X3_within rfl rfl rfl ?_
        refine pw_go tk_X3_within rfl rfl ?_
        refine pw_icN (k * 64) (z) tk_X3_within rfl rfl rfl (by omega) (by omega) (fun c2 => ?_) (fun c2 => ?_)
        · skip
          have c2 : z ≤ k * 64 := c2
          refine pw_go tk_X3_within rfl rfl ?_
          refine pw_i (x' := nI (cu (fun d => p d && iv x z d) 20032)) (by rw [fin k (by omega) (by omega)]) ?_
          exact pw_iretp tk_X3_within rfl rfl
        · skip
          iterate 2 refine pw_go tk_X3_within rfl rfl ?_
          refine pw_get tk_X3_within rfl fl_X3_11 ho rfl ?_
          refine pw_go tk_X3_within rfl rfl ?_
          refine pw_laldN tk_X3_within rfl hw rfl (by omega) (by omega) ?_
          iterate 3 refine pw_go tk_X3_within rfl rfl ?_
          refine pw_cspL tk_X3_within rfl ca_X3_bitsOf lk_X3_24 sx_X3_bitsOf (As := [.int (nI k), .int (nI x), .int (nI z)]) (rest := [.long (wd p k), .int (nI (cu (fun d => p d && iv x z d) (64 * k)))]) (c_bitsOf (by omega) hx hz) rfl rfl rfl rfl ?_
          refine pw_go tk_X3_within rfl rfl ?_
          refine pw_csp tk_X3_within rfl ca_J13_bitCount_95d88 lk_X3_30 sx_J13_bitCount_95d88 (As := [.long (wd p k &&& wd (iv x z) k)]) (rest := [.int (nI (cu (fun d => p d && iv x z d) (64 * k)))]) (c_bitCount) rfl rfl rfl rfl ?_
          refine pw_addN (cu (fun d => p d && iv x z d) (64 * k)) (cu (gb (wd p k &&& wd (iv x z) k)) 64) tk_X3_within rfl rfl rfl ?_
          refine pw_i (x' := nI (cu (fun d => p d && iv x z d) (64 * (k + 1)))) (by rw [stp]) ?_
          iterate 3 refine pw_go tk_X3_within rfl rfl ?_
          refine pw_M [(0, .ref b), (1, .int (nI x)), (2, .int (nI z)), (3, .int (nI (cu (fun d => p d && iv x z d) (64 * (k + 1))))), (4, .int (nI (k + 1)))] ⟨rfl, rfl, rfl, rfl, congrArg (fun z => some (Value.int z)) (nI_1 k), trivial⟩ ?_
          exact ih (k + 1) (by omega) (by omega) (Or.inl (by omega))
  iterate 4 refine pw_go tk_X3_within rfl rfl ?_
  refine pw_maxN (x) (0) tk_X3_within rfl lk_X3_21 rfl rfl (by omega) (by omega) rfl ?_
  refine pw_go tk_X3_within rfl rfl ?_
  refine pw_divN (max x 0) (64) tk_X3_within rfl rfl rfl (by omega) (by omega) (by omega) ?_
  refine pw_go tk_X3_within rfl rfl ?_
  refine pw_M [(0, .ref b), (1, .int (nI x)), (2, .int (nI z)), (3, .int (nI (cu (fun d => p d && iv x z d) (64 * (x / 64))))), (4, .int (nI (x / 64)))] ⟨rfl, rfl, rfl, by rw [hst]; rfl, congrArg (fun z => some (Value.int (nI (z / 64)))) (by omega), trivial⟩ ?_
  exact loop 313 (x / 64) (by omega) (by omega) (Or.inr rfl)
set_option maxRecDepth 20000 in
theorem c_outside {b2 wa2 z : Nat} {o : Nat → Bool} (HD : dyAt h b wa p) (HO : dyAt h b2 wa2 o) (hz : z < 1073741824) : PM G 1 0 0 mm_X3_outside [.ref b, .ref b2, .int (nI z)] h (fw_qp (nI (cu (fun d => p d && !o d && iv 0 z d) 20032)) h) := by
  refine pm_of (by decide +kernel) rfl rfl rfl ?_
  obtain ⟨ho, hw⟩ := HD
  obtain ⟨ho2, hw2⟩ := HO
  have stp : ∀ k, cu (fun d => p d && !o d && iv 0 z d) (64 * k) + cu (gb (wd p k &&& (wd o k ^^^ (-1)) &&& wd (iv 0 z) k)) 64 = cu (fun d => p d && !o d && iv 0 z d) (64 * (k + 1)) := by
    intro k
    rw [Nat.add_comm]
    exact cu_word (fun i hi => by rw [gb_and, gb_and, gb_not _ hi, gb_wd _ _ hi, gb_wd _ _ hi, gb_wd _ _ hi])
  have loop : ∀ (n k : Nat), k + n = 313 → PW G mm_X3_outside (fw_qp (nI (cu (fun d => p d && !o d && iv 0 z d) 20032)) h) 1 0 0 h 5 [(0, .ref b), (1, .ref b2), (2, .int (nI z)), (3, .int (nI (cu (fun d => p d && !o d && iv 0 z d) (64 * k)))), (4, .int (nI k))] [] := by
    intro n
    induction n with
    | zero =>
      intro k hk
      have hk : k = 313 := by omega
      subst hk
      iterate 2 refine pw_go tk_X3_outside rfl rfl ?_
      refine pw_get tk_X3_outside rfl fl_X3_11 ho rfl ?_
      refine pw_alen tk_X3_outside rfl hw (by decide) ?_
      refine pw_icN (313) (313) tk_X3_outside rfl rfl rfl (by omega) (by omega) (fun c => ?_) (fun c => absurd (Nat.le_refl 313) c)
      refine pw_go tk_X3_outside rfl rfl ?_
      exact pw_iretp tk_X3_outside rfl rfl
    | succ n ih =>
      intro k hk
      iterate 2 refine pw_go tk_X3_outside rfl rfl ?_
      refine pw_get tk_X3_outside rfl fl_X3_11 ho rfl ?_
      refine pw_alen tk_X3_outside rfl hw (by decide) ?_
      refine pw_icN (k) (313) tk_X3_outside rfl rfl rfl (by omega) (by omega) (fun c => absurd (show 313 ≤ k from c) (by omega)) (fun c => ?_)
      iterate 2 refine pw_go tk_X3_outside rfl rfl ?_
      refine pw_get tk_X3_outside rfl fl_X3_11 ho2 rfl ?_
      refine pw_alen tk_X3_outside rfl hw2 (by decide) ?_
      refine pw_icN (k) (313) tk_X3_outside rfl rfl rfl (by omega) (by omega) (fun c => absurd (show 313 ≤ k from c) (by omega)) (fun c => ?_)
      iterate 2 refine pw_go tk_X3_outside rfl rfl ?_
      refine pw_get tk_X3_outside rfl fl_X3_11 ho rfl ?_
      refine pw_go tk_X3_outside rfl rfl ?_
      refine pw_laldN tk_X3_outside rfl hw rfl (by omega) (by omega) ?_
      refine pw_go tk_X3_outside rfl rfl ?_
      refine pw_get tk_X3_outside rfl fl_X3_11 ho2 rfl ?_
      refine pw_go tk_X3_outside rfl rfl ?_
      refine pw_laldN tk_X3_outside rfl hw2 rfl (by omega) (by omega) ?_
      refine pw_ldc2 tk_X3_outside rfl kc_X3_28 ?_
      iterate 5 refine pw_go tk_X3_outside rfl rfl ?_
      refine pw_cspL tk_X3_outside rfl ca_X3_bitsOf lk_X3_24 sx_X3_bitsOf (As := [.int (nI k), .int 0, .int (nI z)]) (rest := [.long (wd p k &&& (wd o k ^^^ (-1))), .int (nI (cu (fun d => p d && !o d && iv 0 z d) (64 * k)))]) (c_bitsOf (a := 0) (by omega) (by omega) hz) rfl rfl rfl rfl ?_
      refine pw_go tk_X3_outside rfl rfl ?_
      refine pw_csp tk_X3_outside rfl ca_J13_bitCount_95d88 lk_X3_30 sx_J13_bitCount_95d88 (As := [.long (wd p k &&& (wd o k ^^^ (-1)) &&& wd (iv 0 z) k)]) (rest := [.int (nI (cu (fun d => p d && !o d && iv 0 z d) (64 * k)))]) (c_bitCount) rfl rfl rfl rfl ?_
      refine pw_addN (cu (fun d => p d && !o d && iv 0 z d) (64 * k)) (cu (gb (wd p k &&& (wd o k ^^^ (-1)) &&& wd (iv 0 z) k)) 64) tk_X3_outside rfl rfl rfl ?_
      refine pw_i (x' := nI (cu (fun d => p d && !o d && iv 0 z d) (64 * (k + 1)))) (by rw [stp]) ?_
      iterate 3 refine pw_go tk_X3_outside rfl rfl ?_
      refine pw_M [(0, .ref b), (1, .ref b2), (2, .int (nI z)), (3, .int (nI (cu (fun d => p d && !o d && iv 0 z d) (64 * (k + 1))))), (4, .int (nI (k + 1)))] ⟨rfl, rfl, rfl, rfl, congrArg (fun z => some (Value.int z)) (nI_1 k), trivial⟩ ?_
      exact ih (k + 1) (by omega)
  iterate 4 refine pw_go tk_X3_outside rfl rfl ?_
  refine pw_M [(0, .ref b), (1, .ref b2), (2, .int (nI z)), (3, .int (nI (cu (fun d => p d && !o d && iv 0 z d) (64 * 0)))), (4, .int (nI 0))] ⟨rfl, rfl, rfl, rfl, rfl, trivial⟩ ?_
  exact loop 313 0 (by omega)
set_option maxRecDepth 20000 in
theorem c_dayBehind {x n : Nat} (HD : dyAt h b wa p) (hx : x < 20000) (hn : n < 1073741824) : PM G 1 0 0 mm_X3_dayBehind [.ref b, .int (nI x), .int (nI n)] h (fw_qp (nI (db (fun d => !p d) n x (20032 - x) 1000000)) h) := by
  refine pm_of (by decide +kernel) rfl rfl rfl ?_
  obtain ⟨ho, hw⟩ := HD
  refine pw_go tk_X3_dayBehind rfl rfl ?_
  refine pw_ifN (n) tk_X3_dayBehind rfl rfl (by omega) (fun c => ?_) (fun c => ?_)
  rotate_left
  · skip
    have c : ¬ 0 < n := c
    have c : n = 0 := by omega
    subst c
    refine pw_go tk_X3_dayBehind rfl rfl ?_
    refine pw_i (x' := nI (db (fun d => !p d) 0 x (20032 - x) 1000000)) (by rw [db_0]) ?_
    exact pw_iretp tk_X3_dayBehind rfl rfl
  have c : 0 < n := c
  obtain ⟨R, hR⟩ : ∃ R, R = db (fun d => !p d) n x (20032 - x) 1000000 := ⟨_, rfl⟩
  rw [← hR]
  obtain ⟨f, hf⟩ : ∃ f : Nat → Bool, f = fun d => !p d && decide (x ≤ d) := ⟨_, rfl⟩
  have hR2 : db f n (64 * (x / 64)) (20032 - 64 * (x / 64)) 1000000 = R := by
    have z : cu (fun i => f (64 * (x / 64) + i)) (x - 64 * (x / 64)) = 0 := cu_none (fun i hi => by
      subst hf
      show (!p (64 * (x / 64) + i) && decide (x ≤ 64 * (x / 64) + i)) = false
      rw [decide_eq_false (by omega), Bool.and_false])
    rw [show 20032 - 64 * (x / 64) = (x - 64 * (x / 64)) + (20032 - x) by omega, db_skip _ _ _ _ (by rw [z]; exact c), z, show 64 * (x / 64) + (x - 64 * (x / 64)) = x by omega, hR]
    refine db_congr _ _ _ _ (fun i h1 h2 => ?_)
    subst hf
    show (!p i && decide (x ≤ i)) = !p i
    rw [decide_eq_true h1, Bool.and_true]
  have loop : ∀ (j k m : Nat), k + j = 313 → x / 64 ≤ k → 0 < m → m < 1073741824 → db f m (64 * k) (64 * j) 1000000 = R → PW G mm_X3_dayBehind (fw_qp (nI R) h) 1 0 0 h 22 [(0, .ref b), (1, .int (nI x)), (3, .int (nI m)), (4, .int (nI (x / 64))), (5, .int (nI k))] [] := by
    intro j
    induction j with
    | zero =>
      intro k m hk hk2 hm hm2 he
      have hk : k = 313 := by omega
      subst hk
      iterate 2 refine pw_go tk_X3_dayBehind rfl rfl ?_
      refine pw_get tk_X3_dayBehind rfl fl_X3_11 ho rfl ?_
      refine pw_alen tk_X3_dayBehind rfl hw (by decide) ?_
      refine pw_icN (313) (313) tk_X3_dayBehind rfl rfl rfl (by omega) (by omega) (fun c => ?_) (fun c => absurd (Nat.le_refl 313) c)
      refine pw_ldc tk_X3_dayBehind rfl kc_X3_40 ?_
      refine pw_i (x' := nI R) (by rw [← he, db_e hm]; rfl) ?_
      exact pw_iretp tk_X3_dayBehind rfl rfl
    | succ j ih =>
      intro k m hk hk2 hm hm2 he
      have k73 : PW G mm_X3_dayBehind (fw_qp (nI R) h) 1 0 0 h 73 [(0, .ref b), (1, .int (nI x)), (3, .int (nI m)), (4, .int (nI (x / 64))), (5, .int (nI k))] [.long (wd f k)] := by
        have hg : ∀ i, i < 64 → gb (wd f k) i = f (64 * k + i) := fun i hi => gb_wd _ _ hi
        have hc : cu (gb (wd f k)) 64 = cu (fun i => f (64 * k + i)) 64 := cu_congr hg
        iterate 2 refine pw_go tk_X3_dayBehind rfl rfl ?_
        refine pw_csp tk_X3_dayBehind rfl ca_J13_bitCount_95d88 lk_X3_30 sx_J13_bitCount_95d88 (As := [.long (wd f k)]) (rest := []) (c_bitCount) rfl rfl rfl rfl ?_
        have hc64 := cu_le (gb (wd f k)) 64
        iterate 3 refine pw_go tk_X3_dayBehind rfl rfl ?_
        refine pw_icN (cu (gb (wd f k)) 64) (m) tk_X3_dayBehind rfl rfl rfl (by omega) (by omega) (fun c => ?_) (fun c => ?_)
        · have c : cu (gb (wd f k)) 64 < m := c
          iterate 2 refine pw_go tk_X3_dayBehind rfl rfl ?_
          refine pw_subN (m) (cu (gb (wd f k)) 64) tk_X3_dayBehind rfl rfl rfl (by omega) ?_
          iterate 3 refine pw_go tk_X3_dayBehind rfl rfl ?_
          refine pw_M [(0, .ref b), (1, .int (nI x)), (3, .int (nI (m - cu (gb (wd f k)) 64))), (4, .int (nI (x / 64))), (5, .int (nI (k + 1)))] ⟨rfl, rfl, rfl, rfl, congrArg (fun z => some (Value.int z)) (nI_1 k), trivial⟩ ?_
          refine ih (k + 1) (m - cu (gb (wd f k)) 64) (by omega) (by omega) (by omega) (by omega) ?_
          rw [show 64 * (j + 1) = 64 + 64 * j by omega, db_skip _ _ _ _ (by rw [← hc]; exact c)] at he
          rw [hc, show 64 * (k + 1) = 64 * k + 64 by omega, he]
        · have c : ¬ cu (gb (wd f k)) 64 < m := c
          have eR : k * 64 + db (gb (wd f k)) m 0 64 64 = R := by
            rw [show 64 * (j + 1) = 64 + 64 * j by omega, db_found (e' := 64 * k + 64) _ _ _ _ (by rw [← hc]; omega)] at he
            rw [← he, db_congr (g := fun i => f (64 * k + i)) _ _ _ _ (fun i _ hi => hg i (by omega)), Nat.mul_comm k 64]
            exact (db_shift (f := fun i => f (64 * k + i)) (g := f) (s := 64 * k) (fun i => rfl) 64 m 0 64).symm
          iterate 2 refine pw_go tk_X3_dayBehind rfl rfl ?_
          refine pw_mulN (k) (64) tk_X3_dayBehind rfl rfl rfl ?_
          iterate 2 refine pw_go tk_X3_dayBehind rfl rfl ?_
          refine pw_csp tk_X3_dayBehind rfl ca_X3_bitBehind lk_X3_36 sx_X3_bitBehind (As := [.long (wd f k), .int (nI m)]) (rest := [.int (nI (k * 64))]) (c_bitBehind hm hm2) rfl rfl rfl rfl ?_
          refine pw_addN (k * 64) (db (gb (wd f k)) m 0 64 64) tk_X3_dayBehind rfl rfl rfl ?_
          refine pw_i (x' := nI R) (by rw [eR]) ?_
          exact pw_iretp tk_X3_dayBehind rfl rfl
      iterate 2 refine pw_go tk_X3_dayBehind rfl rfl ?_
      refine pw_get tk_X3_dayBehind rfl fl_X3_11 ho rfl ?_
      refine pw_alen tk_X3_dayBehind rfl hw (by decide) ?_
      refine pw_icN (k) (313) tk_X3_dayBehind rfl rfl rfl (by omega) (by omega) (fun c => absurd (show 313 ≤ k from c) (by omega)) (fun c => ?_)
      iterate 2 refine pw_go tk_X3_dayBehind rfl rfl ?_
      refine pw_icN (k) (x / 64) tk_X3_dayBehind rfl rfl rfl (by omega) (by omega) (fun c => ?_) (fun c => ?_)
      · have c : k ≠ x / 64 := c
        refine pw_go tk_X3_dayBehind rfl rfl ?_
        refine pw_get tk_X3_dayBehind rfl fl_X3_11 ho rfl ?_
        refine pw_go tk_X3_dayBehind rfl rfl ?_
        refine pw_laldN tk_X3_dayBehind rfl hw rfl (by omega) (by omega) ?_
        refine pw_ldc2 tk_X3_dayBehind rfl kc_X3_28 ?_
        refine pw_go tk_X3_dayBehind rfl rfl ?_
        refine pw_l (x' := wd f k) (wd_of (fun i hi => by rw [gb_not _ hi, gb_wd _ _ hi]; subst hf; show _ = (!p (64 * k + i) && decide (x ≤ 64 * k + i)); rw [decide_eq_true (by omega), Bool.and_true])) ?_
        exact k73
      · have c : k = x / 64 := Classical.not_not.mp c
        refine pw_go tk_X3_dayBehind rfl rfl ?_
        refine pw_get tk_X3_dayBehind rfl fl_X3_11 ho rfl ?_
        refine pw_go tk_X3_dayBehind rfl rfl ?_
        refine pw_laldN tk_X3_dayBehind rfl hw rfl (by omega) (by omega) ?_
        refine pw_ldc2 tk_X3_dayBehind rfl kc_X3_28 ?_
        refine pw_go tk_X3_dayBehind rfl rfl ?_
        refine pw_ldc2 tk_X3_dayBehind rfl kc_X3_28 ?_
        iterate 2 refine pw_go tk_X3_dayBehind rfl rfl ?_
        refine pw_remN (x) (64) tk_X3_dayBehind rfl rfl rfl (by omega) (by omega) (by omega) ?_
        iterate 3 refine pw_go tk_X3_dayBehind rfl rfl ?_
        refine pw_l (x' := wd f k) (wd_of (fun i hi => by rw [gb_and, gb_up _ (by omega) _ hi, gb_not _ hi, gb_wd _ _ hi]; subst hf; show _ = (!p (64 * k + i) && decide (x ≤ 64 * k + i)); congr 1; exact decide_eq_decide.mpr (by omega))) ?_
        exact k73
  iterate 4 refine pw_go tk_X3_dayBehind rfl rfl ?_
  refine pw_maxN (x) (0) tk_X3_dayBehind rfl lk_X3_21 rfl rfl (by omega) (by omega) rfl ?_
  refine pw_go tk_X3_dayBehind rfl rfl ?_
  refine pw_divN (max x 0) (64) tk_X3_dayBehind rfl rfl rfl (by omega) (by omega) (by omega) ?_
  refine pw_i (x' := nI (x / 64)) (by rw [show max x 0 = x by omega]) ?_
  iterate 3 refine pw_go tk_X3_dayBehind rfl rfl ?_
  refine pw_M [(0, .ref b), (1, .int (nI x)), (3, .int (nI n)), (4, .int (nI (x / 64))), (5, .int (nI (x / 64)))] ⟨rfl, rfl, rfl, rfl, rfl, trivial⟩ ?_
  exact loop (313 - x / 64) (x / 64) n (by omega) (Nat.le_refl _) c hn (by rw [← hR2, show 64 * (313 - x / 64) = 20032 - 64 * (x / 64) by omega])
theorem wd_none : (fun _ : Nat => (0 : Int64)) = wd (fun _ => false) := funext fun w => wd_of (fun i hi => by rw [gb_0])
theorem c_Days (ho : h b = some (.inr (6, [.null]))) : PM G 0 1 313 mm_X3_init [.ref b] h (fw_qV (fun h' => ∃ q, h q = none ∧ G.2.1 ≤ q ∧ h' = fw_up (fw_up h q (.inl (1, 313, .inr (.inl (wd (fun _ => false)))))) b (.inr (6, [.ref q]))) fw_noX) := by
  refine pm_of (by decide +kernel) rfl rfl rfl ?_
  refine pw_go tk_X3_init rfl rfl ?_
  refine pw_oinit tk_X3_init rfl lk_X3_3 oi_1 oi_2 rfl ?_
  iterate 2 refine pw_go tk_X3_init rfl rfl ?_
  refine pw_newa (kc := 0) (ks := 0) (t := 1) (N' := 313) (a0 := (313, .inr (.inl (fun _ => 0)))) tk_X3_init rfl (by decide) rfl rfl ar_long (fun _ => rfl) (by decide) (by decide) (by decide) (fun q qf qg => ?_)
  have nq : b ≠ q := fun e => by subst e; rw [qf] at ho; cases ho
  refine pw_putF tk_X3_init rfl fq_X3_11 rfl ((fw_up_n nq).trans ho) rfl rfl (Nat.le_of_ble_eq_true rfl) ?_
  exact pw_vret tk_X3_init rfl rfl ⟨rfl, q, qf, qg, by rw [wd_none]; rfl⟩
end
end CDAYS

