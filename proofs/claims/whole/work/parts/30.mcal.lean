/-! the reference's calendar -/
section MCAL
variable {G : fw_G} {h : fw_H}
def inI (v lo hi : Int32) : Bool := decide (lo ≤ v) && decide (v ≤ hi)
theorem inI_iff {v lo hi : Int32} : inI v lo hi = true ↔ (lo ≤ v ∧ v ≤ hi) := by
  unfold inI
  simp
theorem i_nlt {a b : Int32} : ¬ a < b ↔ b ≤ a := by
  rw [Int32.lt_iff_toInt_lt, Int32.le_iff_toInt_le]
  omega
theorem n_in {v lo hi : Int32} : PM G 0 0 0 mm_X17_in [.int v, .int lo, .int hi] h (fw_qp (bI (inI v lo hi)) h) := by
  refine pm_of (by decide +kernel) rfl rfl rfl ?_
  have k14 : inI v lo hi = false → PW G mm_X17_in (fw_qp (bI (inI v lo hi)) h) 0 0 0 h 14 [(0, .int v), (1, .int lo), (2, .int hi)] [] := by
    intro e
    rw [e]
    refine pw_go tk_X17_in rfl rfl ?_
    exact pw_zretp (b := false) tk_X17_in rfl rfl
  iterate 2 refine pw_go tk_X17_in rfl rfl ?_
  refine pw_br tk_X17_in rfl rfl (fun c => k14 ?_) (fun c => ?_)
  · unfold inI
    have c : v < lo := c
    have : ¬ lo ≤ v := fun z => (i_nlt.mpr z) c
    simp [this]
  iterate 2 refine pw_go tk_X17_in rfl rfl ?_
  refine pw_br tk_X17_in rfl rfl (fun c2 => k14 ?_) (fun c2 => ?_)
  · unfold inI
    have c2 : hi < v := c2
    have : ¬ v ≤ hi := fun z => (i_nlt.mpr z) c2
    simp [this]
  have e : inI v lo hi = true := inI_iff.mpr ⟨i_nlt.mp c, i_nlt.mp c2⟩
  rw [e]
  iterate 2 refine pw_go tk_X17_in rfl rfl ?_
  exact pw_zretp (b := true) tk_X17_in rfl rfl
set_option maxRecDepth 20000 in
theorem n_isLeap {n : Nat} (hn : n < 1000000) : PM G 0 0 0 mm_X17_isLeap [.int (nI n)] h (fw_qp (bI (cal_lp n)) h) := by
  refine pm_of (by decide +kernel) rfl rfl rfl ?_
  have k21 : cal_lp n = true → PW G mm_X17_isLeap (fw_qp (bI (cal_lp n)) h) 0 0 0 h 21 [(0, .int (nI n))] [] := by
    intro e
    rw [e]
    iterate 2 refine pw_go tk_X17_isLeap rfl rfl ?_
    exact pw_zretp (b := true) tk_X17_isLeap rfl rfl
  have k25 : cal_lp n = false → PW G mm_X17_isLeap (fw_qp (bI (cal_lp n)) h) 0 0 0 h 25 [(0, .int (nI n))] [] := by
    intro e
    rw [e]
    refine pw_go tk_X17_isLeap rfl rfl ?_
    exact pw_zretp (b := false) tk_X17_isLeap rfl rfl
  iterate 2 refine pw_go tk_X17_isLeap rfl rfl ?_
  refine pw_remN (n) (400) tk_X17_isLeap rfl rfl rfl (by omega) (by omega) (by omega) ?_
  refine pw_ifN (n % 400) tk_X17_isLeap rfl rfl (by omega) (fun c => k21 ?_) (fun c => ?_)
  · have c : n % 400 = 0 := c
    unfold cal_lp
    simp [c]
  have c : n % 400 ≠ 0 := c
  iterate 2 refine pw_go tk_X17_isLeap rfl rfl ?_
  refine pw_remN (n) (4) tk_X17_isLeap rfl rfl rfl (by omega) (by omega) (by omega) ?_
  refine pw_ifN (n % 4) tk_X17_isLeap rfl rfl (by omega) (fun c2 => k25 ?_) (fun c2 => ?_)
  · have c2 : n % 4 ≠ 0 := c2
    unfold cal_lp
    simp [c, c2]
  have c2 : n % 4 = 0 := Classical.not_not.mp c2
  iterate 2 refine pw_go tk_X17_isLeap rfl rfl ?_
  refine pw_remN (n) (100) tk_X17_isLeap rfl rfl rfl (by omega) (by omega) (by omega) ?_
  refine pw_ifN (n % 100) tk_X17_isLeap rfl rfl (by omega) (fun c3 => k25 ?_) (fun c3 => k21 ?_)
  · have c3 : n % 100 = 0 := c3
    unfold cal_lp
    simp [c, c3]
  · have c3 : n % 100 ≠ 0 := c3
    unfold cal_lp
    simp [c2, c3]
set_option maxRecDepth 20000 in
theorem n_daysOf {n m : Nat} (hn : n < 1000000) (hm : m < 2147483648) : PM G 1 0 0 mm_X17_daysOf [.int (nI n), .int (nI m)] h (fw_qp (nI (cal_dm (cal_lp n) m)) h) := by
  refine pm_of (by decide +kernel) rfl rfl rfl ?_
  iterate 2 refine pw_go tk_X17_daysOf rfl rfl ?_
  refine pw_icN (m) (2) tk_X17_daysOf rfl rfl rfl (by omega) (by omega) (fun c => ?_) (fun c => ?_)
  · have c : m ≠ 2 := c
    have k45 : (m = 4 ∨ m = 6 ∨ m = 9 ∨ m = 11) → PW G mm_X17_daysOf (fw_qp (nI (cal_dm (cal_lp n) m)) h) 1 0 0 h 45 [(0, .int (nI n)), (1, .int (nI m))] [] := by
      intro e
      iterate 2 refine pw_go tk_X17_daysOf rfl rfl ?_
      refine pw_i (x' := nI (cal_dm (cal_lp n) m)) (by unfold cal_dm; rw [if_neg c, if_pos e]; rfl) ?_
      exact pw_iretp tk_X17_daysOf rfl rfl
    iterate 2 refine pw_go tk_X17_daysOf rfl rfl ?_
    refine pw_icN (m) (4) tk_X17_daysOf rfl rfl rfl (by omega) (by omega) (fun c2 => k45 (Or.inl c2)) (fun c2 => ?_)
    iterate 2 refine pw_go tk_X17_daysOf rfl rfl ?_
    refine pw_icN (m) (6) tk_X17_daysOf rfl rfl rfl (by omega) (by omega) (fun c3 => k45 (Or.inr (Or.inl c3))) (fun c3 => ?_)
    iterate 2 refine pw_go tk_X17_daysOf rfl rfl ?_
    refine pw_icN (m) (9) tk_X17_daysOf rfl rfl rfl (by omega) (by omega) (fun c4 => k45 (Or.inr (Or.inr (Or.inl c4)))) (fun c4 => ?_)
    iterate 2 refine pw_go tk_X17_daysOf rfl rfl ?_
    refine pw_icN (m) (11) tk_X17_daysOf rfl rfl rfl (by omega) (by omega) (fun c5 => ?_) (fun c5 => k45 (Or.inr (Or.inr (Or.inr (Classical.not_not.mp c5)))))
    refine pw_go tk_X17_daysOf rfl rfl ?_
    refine pw_i (x' := nI (cal_dm (cal_lp n) m)) (by unfold cal_dm; rw [if_neg c, if_neg (fun z => z.elim c2 (fun z => z.elim c3 (fun z => z.elim c4 c5)))]; rfl) ?_
    exact pw_iretp tk_X17_daysOf rfl rfl
  · have c : m = 2 := Classical.not_not.mp c
    subst c
    refine pw_go tk_X17_daysOf rfl rfl ?_
    refine pw_csp tk_X17_daysOf rfl ca_X17_isLeap lk_X17_32 sx_X17_isLeap (As := [.int (nI n)]) (rest := []) (n_isLeap hn) rfl rfl rfl rfl ?_
    refine pw_ifeqB tk_X17_daysOf rfl (fun c => ?_) (fun c => ?_)
    · skip
      iterate 2 refine pw_go tk_X17_daysOf rfl rfl ?_
      refine pw_i (x' := nI (cal_dm (cal_lp n) 2)) (congrArg (fun z => nI (cal_dm z 2)) c.symm) ?_
      exact pw_iretp tk_X17_daysOf rfl rfl
    · skip
      iterate 2 refine pw_go tk_X17_daysOf rfl rfl ?_
      refine pw_i (x' := nI (cal_dm (cal_lp n) 2)) (congrArg (fun z => nI (cal_dm z 2)) c.symm) ?_
      exact pw_iretp tk_X17_daysOf rfl rfl
set_option maxRecDepth 20000 in
theorem n_firstOf {t : Nat} (ht : t < 1320) : PM G 2 0 0 mm_X17_firstOf [.int (nI t)] h (fw_qp (nI (cal_f t)) h) := by
  refine pm_of (by decide +kernel) rfl rfl rfl ?_
  obtain ⟨p, hp⟩ : ∃ p, p = t / 12 := ⟨_, rfl⟩
  obtain ⟨q, hq⟩ : ∃ q, q = t % 12 := ⟨_, rfl⟩
  have hf : cal_f t = cal_y p + cal_s (cal_lp (2000 + p)) q := by rw [hp, hq]; rfl
  iterate 2 refine pw_go tk_X17_firstOf rfl rfl ?_
  refine pw_divN (t) (12) tk_X17_firstOf rfl rfl rfl (by omega) (by omega) (by omega) ?_
  refine pw_i (x' := nI p) (by rw [hp]) ?_
  iterate 3 refine pw_go tk_X17_firstOf rfl rfl ?_
  refine pw_mulN (365) (p) tk_X17_firstOf rfl rfl rfl ?_
  iterate 2 refine pw_go tk_X17_firstOf rfl rfl ?_
  refine pw_addN (p) (3) tk_X17_firstOf rfl rfl rfl ?_
  refine pw_go tk_X17_firstOf rfl rfl ?_
  refine pw_divN (p + 3) (4) tk_X17_firstOf rfl rfl rfl (by omega) (by omega) (by omega) ?_
  refine pw_addN (365 * p) ((p + 3) / 4) tk_X17_firstOf rfl rfl rfl ?_
  iterate 2 refine pw_go tk_X17_firstOf rfl rfl ?_
  refine pw_addN (p) (99) tk_X17_firstOf rfl rfl rfl ?_
  refine pw_go tk_X17_firstOf rfl rfl ?_
  refine pw_divN (p + 99) (100) tk_X17_firstOf rfl rfl rfl (by omega) (by omega) (by omega) ?_
  refine pw_subN (365 * p + (p + 3) / 4) ((p + 99) / 100) tk_X17_firstOf rfl rfl rfl (by omega) ?_
  iterate 2 refine pw_go tk_X17_firstOf rfl rfl ?_
  refine pw_addN (p) (399) tk_X17_firstOf rfl rfl rfl ?_
  refine pw_go tk_X17_firstOf rfl rfl ?_
  refine pw_divN (p + 399) (400) tk_X17_firstOf rfl rfl rfl (by omega) (by omega) (by omega) ?_
  refine pw_addN (365 * p + (p + 3) / 4 - (p + 99) / 100) ((p + 399) / 400) tk_X17_firstOf rfl rfl rfl ?_
  refine pw_i (x' := nI (cal_y p)) (rfl) ?_
  iterate 3 refine pw_go tk_X17_firstOf rfl rfl ?_
  have loop : ∀ (n k : Nat), k + n = q → PW G mm_X17_firstOf (fw_qp (nI (cal_f t)) h) 2 0 0 h 37 [(0, .int (nI t)), (1, .int (nI p)), (2, .int (nI (cal_y p + cal_s (cal_lp (2000 + p)) k))), (3, .int (nI (k + 1)))] [] := by
    intro n
    induction n with
    | zero =>
      intro k hk
      iterate 3 refine pw_go tk_X17_firstOf rfl rfl ?_
      refine pw_remN (t) (12) tk_X17_firstOf rfl rfl rfl (by omega) (by omega) (by omega) ?_
      refine pw_icN (k + 1) (t % 12) tk_X17_firstOf rfl rfl rfl (by omega) (by omega) (fun c => ?_) (fun c => absurd (show t % 12 < k + 1 by omega) c)
      refine pw_go tk_X17_firstOf rfl rfl ?_
      refine pw_i (x' := nI (cal_f t)) (by rw [hf, show q = k by omega]) ?_
      exact pw_iretp tk_X17_firstOf rfl rfl
    | succ n ih =>
      intro k hk
      iterate 3 refine pw_go tk_X17_firstOf rfl rfl ?_
      refine pw_remN (t) (12) tk_X17_firstOf rfl rfl rfl (by omega) (by omega) (by omega) ?_
      refine pw_icN (k + 1) (t % 12) tk_X17_firstOf rfl rfl rfl (by omega) (by omega) (fun c => absurd (show t % 12 < k + 1 from c) (by omega)) (fun c => ?_)
      iterate 3 refine pw_go tk_X17_firstOf rfl rfl ?_
      refine pw_addN (2000) (p) tk_X17_firstOf rfl rfl rfl ?_
      refine pw_go tk_X17_firstOf rfl rfl ?_
      refine pw_csp tk_X17_firstOf rfl ca_X17_daysOf lk_X17_36 sx_X17_daysOf (As := [.int (nI (2000 + p)), .int (nI (k + 1))]) (rest := [.int (nI (cal_y p + cal_s (cal_lp (2000 + p)) k))]) (n_daysOf (by omega) (by omega)) rfl rfl rfl rfl ?_
      refine pw_addN (cal_y p + cal_s (cal_lp (2000 + p)) k) (cal_dm (cal_lp (2000 + p)) (k + 1)) tk_X17_firstOf rfl rfl rfl ?_
      refine pw_i (x' := nI (cal_y p + cal_s (cal_lp (2000 + p)) (k + 1))) (by rw [show cal_s (cal_lp (2000 + p)) (k + 1) = cal_s (cal_lp (2000 + p)) k + cal_dm (cal_lp (2000 + p)) (k + 1) from rfl, Nat.add_assoc]) ?_
      iterate 3 refine pw_go tk_X17_firstOf rfl rfl ?_
      refine pw_M [(0, .int (nI t)), (1, .int (nI p)), (2, .int (nI (cal_y p + cal_s (cal_lp (2000 + p)) (k + 1)))), (3, .int (nI (k + 1 + 1)))] ⟨rfl, rfl, rfl, congrArg (fun z => some (Value.int z)) (nI_1 (k + 1)), trivial⟩ ?_
      exact ih (k + 1) (by omega)
  refine pw_M [(0, .int (nI t)), (1, .int (nI p)), (2, .int (nI (cal_y p + cal_s (cal_lp (2000 + p)) 0))), (3, .int (nI (0 + 1)))] ⟨rfl, rfl, rfl, rfl, trivial⟩ ?_
  exact loop q 0 (by omega)
set_option maxRecDepth 20000 in
theorem n_monthOf {d : Nat} (hd : d < 20089) : PM G 3 0 0 mm_X17_monthOf [.int (nI d)] h (fw_qp (nI (cal_m d)) h) := by
  refine pm_of (by decide +kernel) rfl rfl rfl ?_
  obtain ⟨a1, a2, a3⟩ := cal_m_spec (d := d) (by omega)
  have hml := cal_m_lt hd
  have loop : ∀ (n k : Nat), k + n = cal_m d → PW G mm_X17_monthOf (fw_qp (nI (cal_m d)) h) 3 0 0 h 5 [(0, .int (nI d)), (1, .int (nI k))] [] := by
    intro n
    induction n with
    | zero =>
      intro k hk
      have hk : k = cal_m d := by omega
      subst hk
      iterate 2 refine pw_go tk_X17_monthOf rfl rfl ?_
      refine pw_addN (cal_m d) (1) tk_X17_monthOf rfl rfl rfl ?_
      refine pw_csp tk_X17_monthOf rfl ca_X17_firstOf lk_X17_40 sx_X17_firstOf (As := [.int (nI (cal_m d + 1))]) (rest := []) (n_firstOf (by omega)) rfl rfl rfl rfl ?_
      have hu := cal_f_up (cal_m d + 1) (by omega)
      refine pw_go tk_X17_monthOf rfl rfl ?_
      refine pw_icN (cal_f (cal_m d + 1)) (d) tk_X17_monthOf rfl rfl rfl (by omega) (by omega) (fun c => ?_) (fun c => absurd (show d < cal_f (cal_m d + 1) from a2) c)
      refine pw_go tk_X17_monthOf rfl rfl ?_
      exact pw_iretp tk_X17_monthOf rfl rfl
    | succ n ih =>
      intro k hk
      have hle := cal_f_le (a := k + 1) (b := cal_m d) (by omega) (by omega)
      iterate 2 refine pw_go tk_X17_monthOf rfl rfl ?_
      refine pw_addN (k) (1) tk_X17_monthOf rfl rfl rfl ?_
      refine pw_csp tk_X17_monthOf rfl ca_X17_firstOf lk_X17_40 sx_X17_firstOf (As := [.int (nI (k + 1))]) (rest := []) (n_firstOf (by omega)) rfl rfl rfl rfl ?_
      refine pw_go tk_X17_monthOf rfl rfl ?_
      refine pw_icN (cal_f (k + 1)) (d) tk_X17_monthOf rfl rfl rfl (by omega) (by omega) (fun c => absurd (show d < cal_f (k + 1) from c) (by omega)) (fun c => ?_)
      iterate 2 refine pw_go tk_X17_monthOf rfl rfl ?_
      refine pw_M [(0, .int (nI d)), (1, .int (nI (k + 1)))] ⟨rfl, congrArg (fun z => some (Value.int z)) (nI_1 k), trivial⟩ ?_
      exact ih (k + 1) (by omega)
  iterate 2 refine pw_go tk_X17_monthOf rfl rfl ?_
  refine pw_divN (d) (31) tk_X17_monthOf rfl rfl rfl (by omega) (by omega) (by omega) ?_
  refine pw_go tk_X17_monthOf rfl rfl ?_
  refine pw_M [(0, .int (nI d)), (1, .int (nI (d / 31)))] ⟨rfl, rfl, trivial⟩ ?_
  refine loop (cal_m d - d / 31) (d / 31) ?_
  have hu := cal_f_up (cal_m d + 1) (by omega)
  omega
set_option maxRecDepth 20000 in
theorem n_lengthOf {d y m n : Nat} (hd : d < 20000) (hy : y ≤ 40) (hm : m ≤ 11) (hn : n ≤ 9999) : PM G 4 0 0 mm_X17_lengthOf [.int (nI d), .int (nI y), .int (nI m), .int (nI n)] h (fw_qp (nI (sp_len d y m n)) h) := by
  refine pm_of (by decide +kernel) rfl rfl rfl ?_
  obtain ⟨a1, a2, a3⟩ := cal_m_spec (d := d) (by omega)
  have hml := cal_m_lt (d := d) (by omega)
  have hol := cal_o_lt (d := d) (by omega)
  have hdl := (cal_d_lo (cal_m d)).2
  obtain ⟨t, ht⟩ : ∃ t, t = cal_m d + 12 * y + m := ⟨_, rfl⟩
  have hdt := cal_d_lo t
  have hft := cal_f_up t (by omega)
  refine pw_go tk_X17_lengthOf rfl rfl ?_
  refine pw_csp tk_X17_lengthOf rfl ca_X17_monthOf lk_X17_44 sx_X17_monthOf (As := [.int (nI d)]) (rest := []) (n_monthOf (by omega)) rfl rfl rfl rfl ?_
  iterate 3 refine pw_go tk_X17_lengthOf rfl rfl ?_
  refine pw_csp tk_X17_lengthOf rfl ca_X17_firstOf lk_X17_40 sx_X17_firstOf (As := [.int (nI (cal_m d))]) (rest := [.int (nI d)]) (n_firstOf (by omega)) rfl rfl rfl rfl ?_
  refine pw_subN (d) (cal_f (cal_m d)) tk_X17_lengthOf rfl rfl rfl (by omega) ?_
  refine pw_i (x' := nI (cal_o d)) (rfl) ?_
  iterate 4 refine pw_go tk_X17_lengthOf rfl rfl ?_
  refine pw_mulN (12) (y) tk_X17_lengthOf rfl rfl rfl ?_
  refine pw_addN (cal_m d) (12 * y) tk_X17_lengthOf rfl rfl rfl ?_
  refine pw_go tk_X17_lengthOf rfl rfl ?_
  refine pw_addN (cal_m d + 12 * y) (m) tk_X17_lengthOf rfl rfl rfl ?_
  refine pw_i (x' := nI t) (by rw [ht]) ?_
  iterate 2 refine pw_go tk_X17_lengthOf rfl rfl ?_
  refine pw_csp tk_X17_lengthOf rfl ca_X17_firstOf lk_X17_40 sx_X17_firstOf (As := [.int (nI t)]) (rest := []) (n_firstOf (by omega)) rfl rfl rfl rfl ?_
  iterate 4 refine pw_go tk_X17_lengthOf rfl rfl ?_
  refine pw_divN (t) (12) tk_X17_lengthOf rfl rfl rfl (by omega) (by omega) (by omega) ?_
  refine pw_addN (2000) (t / 12) tk_X17_lengthOf rfl rfl rfl ?_
  iterate 2 refine pw_go tk_X17_lengthOf rfl rfl ?_
  refine pw_remN (t) (12) tk_X17_lengthOf rfl rfl rfl (by omega) (by omega) (by omega) ?_
  refine pw_go tk_X17_lengthOf rfl rfl ?_
  refine pw_addN (t % 12) (1) tk_X17_lengthOf rfl rfl rfl ?_
  refine pw_csp tk_X17_lengthOf rfl ca_X17_daysOf lk_X17_36 sx_X17_daysOf (As := [.int (nI (2000 + t / 12)), .int (nI (t % 12 + 1))]) (rest := [.int (nI (cal_o d)), .int (nI (cal_f t))]) (n_daysOf (by omega) (by omega)) rfl rfl rfl rfl ?_
  refine pw_i (x' := nI (cal_d t)) (rfl) ?_
  refine pw_go tk_X17_lengthOf rfl rfl ?_
  refine pw_subN (cal_d t) (1) tk_X17_lengthOf rfl rfl rfl (by omega) ?_
  refine pw_minN (cal_o d) (cal_d t - 1) tk_X17_lengthOf rfl lk_X17_47 rfl rfl (by omega) (by omega) rfl ?_
  refine pw_addN (cal_f t) (min (cal_o d) (cal_d t - 1)) tk_X17_lengthOf rfl rfl rfl ?_
  refine pw_go tk_X17_lengthOf rfl rfl ?_
  refine pw_addN (cal_f t + min (cal_o d) (cal_d t - 1)) (n) tk_X17_lengthOf rfl rfl rfl ?_
  refine pw_go tk_X17_lengthOf rfl rfl ?_
  have hge := sp_to_ge (d := d) (y := y) (m := m) (n := n) (by omega) hy hm
  have he : cal_f t + min (cal_o d) (cal_d t - 1) + n = sp_to d y m n := by
    unfold sp_to
    rw [← ht]
  refine pw_subN (cal_f t + min (cal_o d) (cal_d t - 1) + n) (d) tk_X17_lengthOf rfl rfl rfl (by omega) ?_
  refine pw_i (x' := nI (sp_len d y m n)) (by unfold sp_len; rw [he]) ?_
  exact pw_iretp tk_X17_lengthOf rfl rfl
end MCAL

