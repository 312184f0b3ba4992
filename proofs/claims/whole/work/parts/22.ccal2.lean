/-! the class's calendar: dateAt, spanFrom -/
section CCAL2
variable {G : fw_G} {h : fw_H}
theorem sp_date_of {d p k : Nat} (hp : p ≤ 54) (hk : k < 12) (h1 : cal_f (12 * p + k) ≤ d) (h2 : d < cal_f (12 * p + k + 1)) : sp_date d = 10000 * (2000 + p) + 100 * (k + 1) + (d - cal_f (12 * p + k)) + 1 := by
  have e : cal_m d = 12 * p + k := cal_m_is (by omega) h1 h2
  unfold sp_date cal_o
  rw [e, show (12 * p + k) / 12 = p by omega, show (12 * p + k) % 12 = k by omega]
set_option maxRecDepth 20000 in
theorem c_dateAt {d : Nat} (hd : d < 20000) : PM G 1 0 0 mm_X1_dateAt [.int (nI d)] h (fw_qp (nI (sp_date d)) h) := by
  refine pm_of (by decide +kernel) rfl rfl rfl ?_
  have k97 : ∀ p k : Nat, p ≤ 54 → k < 12 → cal_f (12 * p + k) ≤ d → d < cal_f (12 * p + k + 1) → PW G mm_X1_dateAt (fw_qp (nI (sp_date d)) h) 1 0 0 h 97 [(1, .int (nI (d - cal_f (12 * p + k)))), (2, .int (nI (2000 + p))), (3, .int (bI (cal_lp (2000 + p)))), (4, .int (nI (k + 1)))] [] := by
    intro p k hp hk h1 h2
    rw [sp_date_of hp hk h1 h2]
    iterate 2 refine pw_go tk_X1_dateAt rfl rfl ?_
    refine pw_mulN 10000 (2000 + p) tk_X1_dateAt rfl rfl rfl ?_
    iterate 2 refine pw_go tk_X1_dateAt rfl rfl ?_
    refine pw_mulN 100 (k + 1) tk_X1_dateAt rfl rfl rfl ?_
    refine pw_addN _ _ tk_X1_dateAt rfl rfl rfl ?_
    refine pw_go tk_X1_dateAt rfl rfl ?_
    refine pw_addN _ _ tk_X1_dateAt rfl rfl rfl ?_
    refine pw_go tk_X1_dateAt rfl rfl ?_
    refine pw_addN _ 1 tk_X1_dateAt rfl rfl rfl ?_
    exact pw_iretp tk_X1_dateAt rfl rfl
  have loop2 : ∀ (p : Nat), p ≤ 54 → d < cal_y (p + 1) → ∀ (n k : Nat), k + n = 11 → cal_f (12 * p + k) ≤ d → PW G mm_X1_dateAt (fw_qp (nI (sp_date d)) h) 1 0 0 h 65 [(1, .int (nI (d - cal_f (12 * p + k)))), (2, .int (nI (2000 + p))), (3, .int (bI (cal_lp (2000 + p)))), (4, .int (nI (k + 1)))] [] := by
    intro p hp hd2 n
    induction n with
    | zero =>
      intro k hk h1
      iterate 2 refine pw_go tk_X1_dateAt rfl rfl ?_
      refine pw_icN (k + 1) 12 tk_X1_dateAt rfl rfl rfl (by omega) (by omega) (fun c => ?_) (fun c => absurd (show 12 ≤ k + 1 by omega) c)
      refine k97 p k hp (by omega) h1 ?_
      rw [cal_y_f, show 12 * (p + 1) = 12 * p + k + 1 by omega] at hd2
      exact hd2
    | succ n ih =>
      intro k hk h1
      have hs := cal_f_succ (12 * p + k) (by omega)
      have hdm : cal_d (12 * p + k) = cal_dm (cal_lp (2000 + p)) (k + 1) := by
        unfold cal_d
        rw [show (12 * p + k) / 12 = p by omega, show (12 * p + k) % 12 = k by omega]
      iterate 2 refine pw_go tk_X1_dateAt rfl rfl ?_
      refine pw_icN (k + 1) 12 tk_X1_dateAt rfl rfl rfl (by omega) (by omega) (fun c => absurd (show 12 ≤ k + 1 from c) (by omega)) (fun c => ?_)
      iterate 3 refine pw_go tk_X1_dateAt rfl rfl ?_
      refine pw_csp tk_X1_dateAt rfl ca_X1_daysOfMonth lk_X1_17 sx_X1_daysOfMonth (As := [.int (bI (cal_lp (2000 + p))), .int (nI (k + 1))]) (rest := [.int (nI (d - cal_f (12 * p + k)))]) c_daysOfMonth rfl rfl rfl rfl ?_
      have hlo := cal_dm_lo (cal_lp (2000 + p)) (k + 1)
      refine pw_icN (d - cal_f (12 * p + k)) (cal_dm (cal_lp (2000 + p)) (k + 1)) tk_X1_dateAt rfl rfl (md_n _ (by omega) (by omega)) (by omega) (by omega) (fun c => ?_) (fun c => ?_)
      · have c : d - cal_f (12 * p + k) < cal_dm (cal_lp (2000 + p)) (k + 1) := c
        exact k97 p k hp (by omega) h1 (by omega)
      · have c : cal_dm (cal_lp (2000 + p)) (k + 1) ≤ d - cal_f (12 * p + k) := Nat.le_of_not_lt c
        iterate 3 refine pw_go tk_X1_dateAt rfl rfl ?_
        refine pw_csp tk_X1_dateAt rfl ca_X1_daysOfMonth lk_X1_17 sx_X1_daysOfMonth (As := [.int (bI (cal_lp (2000 + p))), .int (nI (k + 1))]) (rest := [.int (nI (d - cal_f (12 * p + k)))]) c_daysOfMonth rfl rfl rfl rfl ?_
        refine pw_subN (d - cal_f (12 * p + k)) (cal_dm (cal_lp (2000 + p)) (k + 1)) tk_X1_dateAt rfl rfl (md_n _ (by omega) (by omega)) c ?_
        refine pw_i (x' := nI (d - cal_f (12 * p + (k + 1)))) (by congr 1; rw [show 12 * p + (k + 1) = 12 * p + k + 1 by omega]; omega) ?_
        iterate 3 refine pw_go tk_X1_dateAt rfl rfl ?_
        refine pw_M [(1, .int (nI (d - cal_f (12 * p + (k + 1))))), (2, .int (nI (2000 + p))), (3, .int (bI (cal_lp (2000 + p)))), (4, .int (nI (k + 1 + 1)))] ⟨rfl, rfl, rfl, congrArg (fun z => some (Value.int z)) (nI_1 (k + 1)), trivial⟩ ?_
        exact ih (k + 1) (by omega) (by rw [show 12 * p + (k + 1) = 12 * p + k + 1 by omega]; omega)
  have k62 : ∀ p : Nat, p ≤ 54 → cal_y p ≤ d → d < cal_y (p + 1) → PW G mm_X1_dateAt (fw_qp (nI (sp_date d)) h) 1 0 0 h 62 [(1, .int (nI (d - cal_y p))), (2, .int (nI (2000 + p))), (3, .int (bI (cal_lp (2000 + p))))] [] := by
    intro p hp h1 h2
    iterate 2 refine pw_go tk_X1_dateAt rfl rfl ?_
    have e : cal_y p = cal_f (12 * p + 0) := cal_y_f p
    refine pw_M [(1, .int (nI (d - cal_f (12 * p + 0)))), (2, .int (nI (2000 + p))), (3, .int (bI (cal_lp (2000 + p)))), (4, .int (nI (0 + 1)))] ⟨e ▸ rfl, rfl, rfl, rfl, trivial⟩ ?_
    exact loop2 p hp h2 11 0 rfl (e ▸ h1)
  have loop1 : ∀ (n p : Nat), p + n = 54 → cal_y p ≤ d → PW G mm_X1_dateAt (fw_qp (nI (sp_date d)) h) 1 0 0 h 11 [(1, .int (nI (d - cal_y p))), (2, .int (nI (2000 + p))), (3, .int (bI (cal_lp (2000 + p))))] [] := by
    intro n
    induction n with
    | zero =>
      intro p hp h1
      iterate 2 refine pw_go tk_X1_dateAt rfl rfl ?_
      refine pw_icN (2000 + p) 2054 tk_X1_dateAt rfl rfl rfl (by omega) (by omega) (fun c => ?_) (fun c => absurd (show 2054 ≤ 2000 + p by omega) c)
      refine k62 p (by omega) h1 ?_
      have e : p = 54 := by omega
      subst e
      have : cal_y (54 + 1) = 20089 := by decide +kernel
      omega
    | succ n ih =>
      intro p hp h1
      have hy := cal_y_succ p (by omega)
      iterate 2 refine pw_go tk_X1_dateAt rfl rfl ?_
      refine pw_icN (2000 + p) 2054 tk_X1_dateAt rfl rfl rfl (by omega) (by omega) (fun c => absurd (show 2054 ≤ 2000 + p from c) (by omega)) (fun c => ?_)
      iterate 2 refine pw_go tk_X1_dateAt rfl rfl ?_
      have k54 : cal_y (p + 1) ≤ d → PW G mm_X1_dateAt (fw_qp (nI (sp_date d)) h) 1 0 0 h 50 [(1, .int (nI (d - cal_y p))), (2, .int (nI (2000 + p))), (3, .int (bI (cal_lp (2000 + p))))] [.int (nI (d - cal_y (p + 1)))] := by
        intro h2
        iterate 3 refine pw_go tk_X1_dateAt rfl rfl ?_
        refine pw_M [(1, .int (nI (d - cal_y (p + 1)))), (2, .int (nI (2000 + (p + 1))))] ⟨rfl, congrArg (fun z => some (Value.int z)) (nI_1 (2000 + p)), trivial⟩ ?_
        refine pw_csp tk_X1_dateAt rfl ca_X1_isLeap lk_X1_13 sx_X1_isLeap (As := [.int (nI (2000 + (p + 1)))]) (rest := []) (c_isLeap (by omega)) (congrArg (fun z => [Value.int z]) (nI_1 (2000 + p))) rfl rfl rfl ?_
        iterate 2 refine pw_go tk_X1_dateAt rfl rfl ?_
        refine pw_M [(1, .int (nI (d - cal_y (p + 1)))), (2, .int (nI (2000 + (p + 1)))), (3, .int (bI (cal_lp (2000 + (p + 1)))))] ⟨rfl, rfl, rfl, trivial⟩ ?_
        exact ih (p + 1) (by omega) h2
      refine pw_ifeqB tk_X1_dateAt rfl (fun c4 => ?_) (fun c4 => ?_)
      · rw [c4] at hy
        have hy : cal_y (p + 1) = cal_y p + 365 := hy
        refine pw_go tk_X1_dateAt rfl rfl ?_
        refine pw_icN (d - cal_y p) 365 tk_X1_dateAt rfl rfl rfl (by omega) (by omega) (fun c5 => ?_) (fun c5 => ?_)
        · have c5 : d - cal_y p < 365 := c5
          exact k62 p (by omega) h1 (by omega)
        · have c5 : 365 ≤ d - cal_y p := Nat.le_of_not_lt c5
          iterate 2 refine pw_go tk_X1_dateAt rfl rfl ?_
          refine pw_ifeqB tk_X1_dateAt rfl (fun _ => ?_) (fun c6 => absurd (c4.symm.trans c6) (by decide))
          refine pw_go tk_X1_dateAt rfl rfl ?_
          refine pw_subN (d - cal_y p) 365 tk_X1_dateAt rfl rfl rfl c5 ?_
          refine pw_i (x' := nI (d - cal_y (p + 1))) (by congr 1; omega) ?_
          exact k54 (by omega)
      · rw [c4] at hy
        have hy : cal_y (p + 1) = cal_y p + 366 := hy
        iterate 2 refine pw_go tk_X1_dateAt rfl rfl ?_
        refine pw_icN (d - cal_y p) 366 tk_X1_dateAt rfl rfl rfl (by omega) (by omega) (fun c5 => ?_) (fun c5 => ?_)
        · have c5 : d - cal_y p < 366 := c5
          exact k62 p (by omega) h1 (by omega)
        · have c5 : 366 ≤ d - cal_y p := Nat.le_of_not_lt c5
          iterate 2 refine pw_go tk_X1_dateAt rfl rfl ?_
          refine pw_ifeqB tk_X1_dateAt rfl (fun c6 => absurd (c4.symm.trans c6) (by decide)) (fun _ => ?_)
          iterate 2 refine pw_go tk_X1_dateAt rfl rfl ?_
          refine pw_subN (d - cal_y p) 366 tk_X1_dateAt rfl rfl rfl c5 ?_
          refine pw_i (x' := nI (d - cal_y (p + 1))) (by congr 1; omega) ?_
          exact k54 (by omega)
  iterate 5 refine pw_go tk_X1_dateAt rfl rfl ?_
  refine pw_csp tk_X1_dateAt rfl ca_X1_isLeap lk_X1_13 sx_X1_isLeap (As := [.int (nI (2000 + 0))]) (rest := []) (c_isLeap (by omega)) rfl rfl rfl rfl ?_
  refine pw_go tk_X1_dateAt rfl rfl ?_
  have e0 : cal_y 0 = 0 := by decide +kernel
  refine pw_M [(1, .int (nI (d - cal_y 0))), (2, .int (nI (2000 + 0))), (3, .int (bI (cal_lp (2000 + 0))))] ⟨by rw [e0]; rfl, rfl, rfl, trivial⟩ ?_
  exact loop1 54 0 rfl (by rw [e0]; exact Nat.zero_le d)
end CCAL2
