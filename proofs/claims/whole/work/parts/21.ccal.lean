/-! the class's calendar -/
def md (lp : Bool) (x : Int32) : Int32 := if 1 ≤ x ∧ x ≤ 12 then nI (cal_dm lp x.toNatClampNeg) else 0
theorem md_n (lp : Bool) {m : Nat} (h1 : 1 ≤ m) (h2 : m ≤ 12) : md lp (nI m) = nI (cal_dm lp m) := by
  unfold md
  rw [if_pos ⟨(nI_leI (a := 1) (by decide) (by omega)).mpr h1, (nI_leI (b := 12) (by omega) (by decide)).mpr h2⟩, nI_clamp (by omega)]
section CCAL
variable {G : fw_G} {h : fw_H}
set_option maxRecDepth 20000 in
theorem c_isLeap {n : Nat} (hn : n < 1000000) : PM G 0 0 0 mm_X1_isLeap [.int (nI n)] h (fw_qp (bI (cal_lp n)) h) := by
  refine pm_of (by decide +kernel) rfl rfl rfl ?_
  have k21 : cal_lp n = true → PW G mm_X1_isLeap (fw_qp (bI (cal_lp n)) h) 0 0 0 h 21 [(0, .int (nI n))] [] := by
    intro e
    rw [e]
    iterate 2 refine pw_go tk_X1_isLeap rfl rfl ?_
    exact pw_zretp (b := true) tk_X1_isLeap rfl rfl
  have k13 : ¬ (n % 4 = 0 ∧ n % 100 ≠ 0) → PW G mm_X1_isLeap (fw_qp (bI (cal_lp n)) h) 0 0 0 h 13 [(0, .int (nI n))] [] := by
    intro e
    iterate 2 refine pw_go tk_X1_isLeap rfl rfl ?_
    refine pw_remN n 400 tk_X1_isLeap rfl rfl rfl (by omega) (by omega) (by omega) ?_
    refine pw_ifN (n % 400) tk_X1_isLeap rfl rfl (by omega) (fun c => ?_) (fun c => ?_)
    · have c : n % 400 ≠ 0 := c
      have e2 : cal_lp n = false := by
        unfold cal_lp
        have : (n % 4 == 0 && n % 100 != 0) = false := by
          rw [Bool.eq_false_iff]
          intro z
          simp at z
          exact e z
        rw [this]
        simpa using c
      rw [e2]
      refine pw_go tk_X1_isLeap rfl rfl ?_
      exact pw_zretp (b := false) tk_X1_isLeap rfl rfl
    · refine k21 ?_
      have c : n % 400 = 0 := Classical.not_not.mp c
      unfold cal_lp
      simp [c]
  iterate 2 refine pw_go tk_X1_isLeap rfl rfl ?_
  refine pw_remN n 4 tk_X1_isLeap rfl rfl rfl (by omega) (by omega) (by omega) ?_
  refine pw_ifN (n % 4) tk_X1_isLeap rfl rfl (by omega) (fun c => k13 (fun z => c z.1)) (fun c => ?_)
  have c : n % 4 = 0 := Classical.not_not.mp c
  iterate 2 refine pw_go tk_X1_isLeap rfl rfl ?_
  refine pw_remN n 100 tk_X1_isLeap rfl rfl rfl (by omega) (by omega) (by omega) ?_
  refine pw_ifN (n % 100) tk_X1_isLeap rfl rfl (by omega) (fun c2 => k21 ?_) (fun c2 => k13 (fun z => z.2 (Classical.not_not.mp c2)))
  have c2 : n % 100 ≠ 0 := c2
  unfold cal_lp
  simp [c, c2]
theorem pw_mdlen {y : fw_M} {Q : fw_Q} {d kc ks pc n1 n2 a1 a2 : Nat} {v1 v2 : Int32} {L : List (Nat × Value)} {st : List Value} {tb : List fw_R} (hT : fw_tok y tb) (hown : y.1.cls = RX1) (r0 : fw_at tb pc = some (.getstatic 7, n1, a1, v1)) (r1 : fw_at tb n1 = some (.arraylength, n2, a2, v2)) (k : PW G y Q d kc ks h n2 L (.int 12 :: st)) : PW G y Q d kc ks h pc L st := by
  have e1 : n1 = pc + 3 := (fw_row hT r0).2.1
  subst e1
  have e2 : n2 = pc + 3 + 1 := (fw_row hT r1).2.1
  subst e2
  intro p e R s m args below meth c H locs cells slots ls C X
  have hK := C.2.2.2.2.2.2.2.2.2.1
  obtain ⟨t, hz, ht⟩ := hK.2.1
  refine va_gets C.1 C.2.1 hz X.2.1 (hown ▸ C.2.2.2.2.2.1) (C.2.2.2.2.2.2.2.1 _ (fw_gw 197 (by decide +kernel) (by decide +kernel))) (fun _ z => z) (fw_row hT r0).1 ?_
  exact va_tlen C.1 C.2.1 ht X.2.1 rfl (fw_row hT r1).1 (k p e R s m args below meth c H locs cells slots ls C X)
theorem pw_mdget {y : fw_M} {Q : fw_Q} {d kc ks pc n1 n2 n3 n4 n5 : Nat} {p0 p1 p2 p3 p4 : Nat × Int32} {x w : Int32} {L : List (Nat × Value)} {st : List Value} {tb : List fw_R} (hT : fw_tok y tb) (hown : y.1.cls = RX1) (r0 : fw_at tb pc = some (.getstatic 7, n1, p0)) (r1 : fw_at tb n1 = some (.iload_n 1, n2, p1)) (r2 : fw_at tb n2 = some (.iconst 1, n3, p2)) (r3 : fw_at tb n3 = some (.isub, n4, p3)) (r4 : fw_at tb n4 = some (.iaload, n5, p4)) (hx : fw_lk L 1 = some (.int x)) (hin : vp_in (x - 1) 12) (hw : fw_md (x - 1).toNatClampNeg = .int w) (k : PW G y Q d kc ks h n5 L (.int w :: st)) : PW G y Q d kc ks h pc L st := by
  have e1 : n1 = pc + 3 := (fw_row hT r0).2.1
  subst e1
  have e2 : n2 = pc + 3 + 1 := (fw_row hT r1).2.1
  subst e2
  have e3 : n3 = pc + 3 + 1 + 1 := (fw_row hT r2).2.1
  subst e3
  have e4 : n4 = pc + 3 + 1 + 1 + 1 := (fw_row hT r3).2.1
  subst e4
  have e5 : n5 = pc + 3 + 1 + 1 + 1 + 1 := (fw_row hT r4).2.1
  subst e5
  intro p e R s m args below meth c H locs cells slots ls C X
  have hK := C.2.2.2.2.2.2.2.2.2.1
  obtain ⟨t, hz, ht⟩ := hK.2.1
  refine va_gets C.1 C.2.1 hz X.2.1 (hown ▸ C.2.2.2.2.2.1) (C.2.2.2.2.2.2.2.1 _ (fw_gw 197 (by decide +kernel) (by decide +kernel))) (fun _ z => z) (fw_row hT r0).1 ?_
  refine lv_iload_n C.1 C.2.1 (fw_row hT r1).1 rfl (X.2.2.2.2.2 1 _ hx) ?_
  refine lv_iconst C.1 C.2.1 (fw_row hT r2).1 (v := 1) (by decide) ?_
  refine lv_isub C.1 C.2.1 (fw_row hT r3).1 ?_
  exact va_ti C.1 C.2.1 ht X.2.1 hin hw (fw_row hT r4).1 (k p e R s m args below meth c H locs cells slots ls C X)
theorem md_tab : ∀ m, m < 12 → fw_md m = .int (nI (cal_dm false (m + 1))) := by decide +kernel
set_option maxRecDepth 20000 in
theorem c_daysOfMonth {lp : Bool} {x : Int32} : PM G 0 0 0 mm_X1_daysOfMonth [.int (bI lp), .int x] h (fw_qp (md lp x) h) := by
  refine pm_of (by decide +kernel) rfl rfl rfl ?_
  have k13 : ¬ (1 ≤ x ∧ x ≤ 12) → PW G mm_X1_daysOfMonth (fw_qp (md lp x) h) 0 0 0 h 13 [(0, .int (bI lp)), (1, .int x)] [] := by
    intro e
    have e1 : md lp x = 0 := if_neg e
    rw [e1]
    refine pw_go tk_X1_daysOfMonth rfl rfl ?_
    exact pw_iretp tk_X1_daysOfMonth rfl rfl
  iterate 2 refine pw_go tk_X1_daysOfMonth rfl rfl ?_
  refine pw_br tk_X1_daysOfMonth rfl rfl (fun c => k13 (fun z => ?_)) (fun c => ?_)
  · rw [Int32.lt_iff_toInt_lt] at c
    have z1 := z.1
    rw [Int32.le_iff_toInt_le] at z1
    omega
  refine pw_go tk_X1_daysOfMonth rfl rfl ?_
  refine pw_mdlen tk_X1_daysOfMonth rfl rfl rfl ?_
  refine pw_br tk_X1_daysOfMonth rfl rfl (fun c2 => ?_) (fun c2 => k13 (fun z => c2 z.2))
  have c2 : x ≤ 12 := c2
  have hx0 : ¬ x < 0 := fun z => c (by
    rw [Int32.lt_iff_toInt_lt] at z ⊢
    have e0 : (0 : Int32).toInt = 0 := by decide
    have e1 : (1 : Int32).toInt = 1 := by decide
    omega)
  obtain ⟨m, hm, rfl⟩ := nI_of2 (x := x) (M := 12) (n := 12) (by decide) hx0 c2
  have hm1 : 1 ≤ m := by
    rcases Nat.eq_zero_or_pos m with q | q
    · subst q
      exact absurd (by decide) c
    · exact q
  rw [md_n lp hm1 hm]
  have k29 : (m = 2 → lp = false) → PW G mm_X1_daysOfMonth (fw_qp (nI (cal_dm lp m)) h) 0 0 0 h 29 [(0, .int (bI lp)), (1, .int (nI m))] [] := by
    intro e
    have e1 : nI m - 1 = nI (m - 1) := by rw [show (1 : Int32) = nI 1 from rfl, pk_sub hm1]
    have e2 : cal_dm lp m = cal_dm false m := by
      unfold cal_dm
      by_cases q : m = 2
      · rw [e q]
      · simp only [q, if_false]
    refine pw_mdget tk_X1_daysOfMonth rfl rfl rfl rfl rfl rfl rfl (by rw [e1]; exact vp_in_nI (by omega) (by decide)) (w := nI (cal_dm lp m)) (by rw [e1, nI_clamp (by omega), md_tab _ (by omega), e2, show m - 1 + 1 = m by omega]) ?_
    exact pw_iretp tk_X1_daysOfMonth rfl rfl
  iterate 2 refine pw_go tk_X1_daysOfMonth rfl rfl ?_
  refine pw_icN m 2 tk_X1_daysOfMonth rfl rfl rfl (by omega) (by omega) (fun c3 => k29 (fun z => absurd z c3)) (fun c3 => ?_)
  have c3 : m = 2 := Classical.not_not.mp c3
  refine pw_go tk_X1_daysOfMonth rfl rfl ?_
  refine pw_ifeqB tk_X1_daysOfMonth rfl (fun c4 => k29 (fun _ => c4)) (fun c4 => ?_)
  iterate 2 refine pw_go tk_X1_daysOfMonth rfl rfl ?_
  subst c3; subst c4
  exact pw_iretp tk_X1_daysOfMonth rfl rfl
set_option maxRecDepth 20000 in
theorem c_numberOf {p m t : Nat} (hp : p < 100) (hm : 1 ≤ m) (hm2 : m ≤ 12) (ht : 1 ≤ t) (ht2 : t ≤ 100) : PM G 1 0 0 mm_X1_numberOf [.int (nI (2000 + p)), .int (nI m), .int (nI t)] h (fw_qp (nI (cal_f (12 * p + (m - 1)) + (t - 1))) h) := by
  refine pm_of (by decide +kernel) rfl rfl rfl ?_
  iterate 2 refine pw_go tk_X1_numberOf rfl rfl ?_
  refine pw_subN (2000 + p) 2000 tk_X1_numberOf rfl rfl rfl (by omega) ?_
  refine pw_i (x' := nI p) (by congr 1; omega) ?_
  iterate 3 refine pw_go tk_X1_numberOf rfl rfl ?_
  refine pw_addN p 3 tk_X1_numberOf rfl rfl rfl ?_
  refine pw_go tk_X1_numberOf rfl rfl ?_
  refine pw_divN (p + 3) 4 tk_X1_numberOf rfl rfl rfl (by omega) (by omega) (by omega) ?_
  iterate 2 refine pw_go tk_X1_numberOf rfl rfl ?_
  refine pw_addN p 99 tk_X1_numberOf rfl rfl rfl ?_
  refine pw_go tk_X1_numberOf rfl rfl ?_
  refine pw_divN (p + 99) 100 tk_X1_numberOf rfl rfl rfl (by omega) (by omega) (by omega) ?_
  refine pw_subN ((p + 3) / 4) ((p + 99) / 100) tk_X1_numberOf rfl rfl rfl (by omega) ?_
  iterate 2 refine pw_go tk_X1_numberOf rfl rfl ?_
  refine pw_addN p 399 tk_X1_numberOf rfl rfl rfl ?_
  refine pw_go tk_X1_numberOf rfl rfl ?_
  refine pw_divN (p + 399) 400 tk_X1_numberOf rfl rfl rfl (by omega) (by omega) (by omega) ?_
  refine pw_addN ((p + 3) / 4 - (p + 99) / 100) ((p + 399) / 400) tk_X1_numberOf rfl rfl rfl ?_
  iterate 3 refine pw_go tk_X1_numberOf rfl rfl ?_
  refine pw_mulN 365 p tk_X1_numberOf rfl rfl rfl ?_
  refine pw_go tk_X1_numberOf rfl rfl ?_
  refine pw_addN (365 * p) ((p + 3) / 4 - (p + 99) / 100 + (p + 399) / 400) tk_X1_numberOf rfl rfl rfl ?_
  refine pw_go tk_X1_numberOf rfl rfl ?_
  refine pw_addN _ t tk_X1_numberOf rfl rfl rfl ?_
  refine pw_go tk_X1_numberOf rfl rfl ?_
  refine pw_subN (365 * p + ((p + 3) / 4 - (p + 99) / 100 + (p + 399) / 400) + t) 1 tk_X1_numberOf rfl rfl rfl (by omega) ?_
  refine pw_i (x' := nI (cal_y p + (t - 1))) (by congr 1; unfold cal_y; omega) ?_
  iterate 2 refine pw_go tk_X1_numberOf rfl rfl ?_
  refine pw_csp tk_X1_numberOf rfl ca_X1_isLeap lk_X1_13 sx_X1_isLeap (As := [.int (nI (2000 + p))]) (c_isLeap (by omega)) rfl rfl rfl rfl ?_
  iterate 3 refine pw_go tk_X1_numberOf rfl rfl ?_
  have loop : ∀ (n k : Nat), k + n = m - 1 → PW G mm_X1_numberOf (fw_qp (nI (cal_f (12 * p + (m - 1)) + (t - 1))) h) 1 0 0 h 54 [(1, .int (nI m)), (5, .int (nI (cal_y p + cal_s (cal_lp (2000 + p)) k + (t - 1)))), (6, .int (bI (cal_lp (2000 + p)))), (7, .int (nI (k + 1)))] [] := by
    intro n
    induction n with
    | zero =>
      intro k hk
      iterate 2 refine pw_go tk_X1_numberOf rfl rfl ?_
      refine pw_icN (k + 1) m tk_X1_numberOf rfl rfl rfl (by omega) (by omega) (fun c => ?_) (fun c => absurd (show m ≤ k + 1 by omega) c)
      refine pw_go tk_X1_numberOf rfl rfl ?_
      refine pw_i (x' := nI (cal_f (12 * p + (m - 1)) + (t - 1))) (by rw [cal_fs (by omega), show m - 1 = k by omega]) ?_
      exact pw_iretp tk_X1_numberOf rfl rfl
    | succ n ih =>
      intro k hk
      iterate 2 refine pw_go tk_X1_numberOf rfl rfl ?_
      refine pw_icN (k + 1) m tk_X1_numberOf rfl rfl rfl (by omega) (by omega) (fun c => absurd (show m ≤ k + 1 from c) (by omega)) (fun c => ?_)
      iterate 2 refine pw_go tk_X1_numberOf rfl rfl ?_
      refine pw_icN (k + 1) 12 tk_X1_numberOf rfl rfl rfl (by omega) (by omega) (fun c => absurd (show 12 < k + 1 from c) (by omega)) (fun c => ?_)
      iterate 3 refine pw_go tk_X1_numberOf rfl rfl ?_
      refine pw_csp tk_X1_numberOf rfl ca_X1_daysOfMonth lk_X1_17 sx_X1_daysOfMonth (As := [.int (bI (cal_lp (2000 + p))), .int (nI (k + 1))]) c_daysOfMonth rfl rfl rfl rfl ?_
      refine pw_addN (cal_y p + cal_s (cal_lp (2000 + p)) k + (t - 1)) (cal_dm (cal_lp (2000 + p)) (k + 1)) tk_X1_numberOf rfl rfl (md_n _ (by omega) (by omega)) ?_
      refine pw_i (x' := nI (cal_y p + cal_s (cal_lp (2000 + p)) (k + 1) + (t - 1))) (by congr 1; show _ = cal_y p + (cal_s (cal_lp (2000 + p)) k + cal_dm (cal_lp (2000 + p)) (k + 1)) + (t - 1); omega) ?_
      iterate 3 refine pw_go tk_X1_numberOf rfl rfl ?_
      refine pw_M [(1, .int (nI m)), (5, .int (nI (cal_y p + cal_s (cal_lp (2000 + p)) (k + 1) + (t - 1)))), (6, .int (bI (cal_lp (2000 + p)))), (7, .int (nI (k + 1 + 1)))] ⟨rfl, rfl, rfl, congrArg (fun z => some (Value.int z)) (nI_1 (k + 1)), trivial⟩ ?_
      exact ih (k + 1) (by omega)
  refine pw_M [(1, .int (nI m)), (5, .int (nI (cal_y p + cal_s (cal_lp (2000 + p)) 0 + (t - 1)))), (6, .int (bI (cal_lp (2000 + p)))), (7, .int (nI (0 + 1)))] ⟨rfl, rfl, rfl, rfl, trivial⟩ ?_
  exact loop (m - 1) 0 (by omega)
end CCAL
