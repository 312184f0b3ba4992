/-! Term.spanFrom -/
section CSPAN
variable {G : fw_G} {h : fw_H}
set_option maxRecDepth 20000 in
theorem c_spanFrom {a d y m n : Nat} (ho : h a = some (.inr (11, [.int (nI y), .int (nI m), .int (nI n)]))) (hd : d < 20000) (hy : y ≤ 40) (hm : m ≤ 11) (hn : n ≤ 9999) : PM G 2 0 0 mm_X8_spanFrom [.ref a, .int (nI d)] h (fw_qp (nI (sp_len d y m n)) h) := by
  refine pm_of (by decide +kernel) rfl rfl rfl ?_
  have hml := cal_m_lt (d := d) (by omega)
  have hol := cal_o_lt (d := d) (by omega)
  have hdl := (cal_d_lo (cal_m d)).2
  have hY : cal_m d / 12 < 55 := by omega
  have hD : sp_date d = 10000 * (2000 + cal_m d / 12) + 100 * (cal_m d % 12 + 1) + cal_o d + 1 := rfl
  refine pw_go tk_X8_spanFrom rfl rfl ?_
  refine pw_csp tk_X8_spanFrom rfl ca_X1_dateAt lk_X8_19 sx_X1_dateAt (As := [.int (nI d)]) (rest := []) (c_dateAt hd) rfl rfl rfl rfl ?_
  iterate 3 refine pw_go tk_X8_spanFrom rfl rfl ?_
  refine pw_divN (sp_date d) 100 tk_X8_spanFrom rfl rfl rfl (by omega) (by omega) (by omega) ?_
  refine pw_go tk_X8_spanFrom rfl rfl ?_
  refine pw_remN (sp_date d / 100) 100 tk_X8_spanFrom rfl rfl rfl (by omega) (by omega) (by omega) ?_
  refine pw_go tk_X8_spanFrom rfl rfl ?_
  refine pw_subN (sp_date d / 100 % 100) 1 tk_X8_spanFrom rfl rfl rfl (by omega) ?_
  refine pw_i (x' := nI (cal_m d % 12)) (by congr 1; omega) ?_
  refine pw_go tk_X8_spanFrom rfl rfl ?_
  refine pw_get tk_X8_spanFrom rfl fl_X8_13 ho rfl ?_
  refine pw_addN (cal_m d % 12) m tk_X8_spanFrom rfl rfl rfl ?_
  iterate 3 refine pw_go tk_X8_spanFrom rfl rfl ?_
  refine pw_divN (sp_date d) 10000 tk_X8_spanFrom rfl rfl rfl (by omega) (by omega) (by omega) ?_
  refine pw_go tk_X8_spanFrom rfl rfl ?_
  refine pw_get tk_X8_spanFrom rfl fl_X8_7 ho rfl ?_
  refine pw_addN (sp_date d / 10000) y tk_X8_spanFrom rfl rfl rfl ?_
  iterate 2 refine pw_go tk_X8_spanFrom rfl rfl ?_
  refine pw_divN (cal_m d % 12 + m) 12 tk_X8_spanFrom rfl rfl rfl (by omega) (by omega) (by omega) ?_
  refine pw_addN (sp_date d / 10000 + y) ((cal_m d % 12 + m) / 12) tk_X8_spanFrom rfl rfl rfl ?_
  obtain ⟨t, ht⟩ : ∃ t, t = cal_m d + 12 * y + m := ⟨_, rfl⟩
  refine pw_i (x' := nI (2000 + t / 12)) (by congr 1; omega) ?_
  iterate 3 refine pw_go tk_X8_spanFrom rfl rfl ?_
  refine pw_remN (cal_m d % 12 + m) 12 tk_X8_spanFrom rfl rfl rfl (by omega) (by omega) (by omega) ?_
  refine pw_go tk_X8_spanFrom rfl rfl ?_
  refine pw_addN ((cal_m d % 12 + m) % 12) 1 tk_X8_spanFrom rfl rfl rfl ?_
  refine pw_i (x' := nI (t % 12 + 1)) (by congr 1; omega) ?_
  iterate 3 refine pw_go tk_X8_spanFrom rfl rfl ?_
  refine pw_remN (sp_date d) 100 tk_X8_spanFrom rfl rfl rfl (by omega) (by omega) (by omega) ?_
  refine pw_i (x' := nI (cal_o d + 1)) (by congr 1; omega) ?_
  refine pw_go tk_X8_spanFrom rfl rfl ?_
  refine pw_csp tk_X8_spanFrom rfl ca_X1_isLeap lk_X8_25 sx_X1_isLeap (As := [.int (nI (2000 + t / 12))]) (rest := [.int (nI (cal_o d + 1))]) (c_isLeap (by omega)) rfl rfl rfl rfl ?_
  refine pw_go tk_X8_spanFrom rfl rfl ?_
  refine pw_csp tk_X8_spanFrom rfl ca_X1_daysOfMonth lk_X8_29 sx_X1_daysOfMonth (As := [.int (bI (cal_lp (2000 + t / 12))), .int (nI (t % 12 + 1))]) (rest := [.int (nI (cal_o d + 1))]) c_daysOfMonth rfl rfl rfl rfl ?_
  have ed : cal_dm (cal_lp (2000 + t / 12)) (t % 12 + 1) = cal_d t := rfl
  have hdt := cal_d_lo t
  refine pw_i (x' := nI (cal_d t)) (md_n _ (by omega) (by omega)) ?_
  refine pw_minN (cal_o d + 1) (cal_d t) tk_X8_spanFrom rfl lk_X8_33 rfl rfl (by omega) (by omega) rfl ?_
  iterate 4 refine pw_go tk_X8_spanFrom rfl rfl ?_
  refine pw_csp tk_X8_spanFrom rfl ca_X1_numberOf lk_X8_39 sx_X1_numberOf (As := [.int (nI (2000 + t / 12)), .int (nI (t % 12 + 1)), .int (nI (min (cal_o d + 1) (cal_d t)))]) (rest := []) (c_numberOf (by omega) (by omega) (by omega) (by omega) (by omega)) rfl rfl rfl rfl ?_
  refine pw_i (x' := nI (cal_f t + (min (cal_o d + 1) (cal_d t) - 1))) (by rw [show 12 * (t / 12) + (t % 12 + 1 - 1) = t by omega]) ?_
  refine pw_go tk_X8_spanFrom rfl rfl ?_
  refine pw_get tk_X8_spanFrom rfl fl_X8_16 ho rfl ?_
  refine pw_addN (cal_f t + (min (cal_o d + 1) (cal_d t) - 1)) n tk_X8_spanFrom rfl rfl rfl ?_
  refine pw_go tk_X8_spanFrom rfl rfl ?_
  have hge := sp_to_ge (d := d) (y := y) (m := m) (n := n) (by omega) hy hm
  have he : cal_f t + (min (cal_o d + 1) (cal_d t) - 1) + n = sp_to d y m n := by
    unfold sp_to
    rw [← ht]
    omega
  refine pw_subN (cal_f t + (min (cal_o d + 1) (cal_d t) - 1) + n) d tk_X8_spanFrom rfl rfl rfl (by omega) ?_
  refine pw_i (x' := nI (sp_len d y m n)) (by unfold sp_len; rw [he]) ?_
  exact pw_iretp tk_X8_spanFrom rfl rfl
end CSPAN
