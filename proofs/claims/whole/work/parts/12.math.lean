/-! Math.max, Math.min -/
section PWMM
variable {G : fw_G} {y : fw_M} {Q : fw_Q} {d kc ks : Nat} {h : fw_H} {pc nx tg idx : Nat} {v : Int32} {L : List (Nat × Value)} {rest : List Value} {tb : List fw_R}
theorem pw_max {x1 x2 : Int32} (hT : fw_tok y tb) (hr : fw_at tb pc = some (.invokestatic idx, nx, tg, v)) (hw : Cond.methodLink y.1.cls idx yJ9_max_7cf53 ∈ fw_GW) (h8 : Nat.ble ((rest.map fun v => v.category).sum) 8 = true) (k : PW G y Q d kc ks h nx L (.int (if x1 < x2 then x2 else x1) :: rest)) : PW G y Q d kc ks h pc L (.int x2 :: .int x1 :: rest) := by
  have hd9 := fw_row hT hr
  have en : nx = pc + 3 := hd9.2.1
  subst en
  have h8 := Nat.le_of_ble_eq_true h8
  intro p e R s m args below meth c H locs cells slots ls C X
  obtain ⟨x3, x4, x5, x6⟩ := X.2.2.1
  have hts := C.2.2.2.2.2.2.2.1
  exact va_mmax C.1 C.2.1 (C.2.2.2.2.1.trans X.2.2.2.1.symm) C.2.2.2.2.2.1 (hts _ hw) (hts _ (fw_gw 182 (by decide +kernel) (by decide +kernel))) (hts _ (fw_gw 50 (by decide +kernel) (by decide +kernel))) (hts _ (fw_gw 183 (by decide +kernel) (by decide +kernel))) (by omega) (by omega) (by omega) (by omega) hd9.1 (k p e R s m args below meth c H locs cells slots ls C X)
theorem pw_min {x1 x2 : Int32} (hT : fw_tok y tb) (hr : fw_at tb pc = some (.invokestatic idx, nx, tg, v)) (hw : Cond.methodLink y.1.cls idx yJ9_min_7cf53 ∈ fw_GW) (h8 : Nat.ble ((rest.map fun v => v.category).sum) 8 = true) (k : PW G y Q d kc ks h nx L (.int (if x2 < x1 then x2 else x1) :: rest)) : PW G y Q d kc ks h pc L (.int x2 :: .int x1 :: rest) := by
  have hd9 := fw_row hT hr
  have en : nx = pc + 3 := hd9.2.1
  subst en
  have h8 := Nat.le_of_ble_eq_true h8
  intro p e R s m args below meth c H locs cells slots ls C X
  obtain ⟨x3, x4, x5, x6⟩ := X.2.2.1
  have hts := C.2.2.2.2.2.2.2.1
  exact va_mmin C.1 C.2.1 (C.2.2.2.2.1.trans X.2.2.2.1.symm) C.2.2.2.2.2.1 (hts _ hw) (hts _ (fw_gw 202 (by decide +kernel) (by decide +kernel))) (hts _ (fw_gw 50 (by decide +kernel) (by decide +kernel))) (hts _ (fw_gw 203 (by decide +kernel) (by decide +kernel))) (by omega) (by omega) (by omega) (by omega) hd9.1 (k p e R s m args below meth c H locs cells slots ls C X)
theorem pw_maxN {x1 x2 : Int32} (a b : Nat) (hT : fw_tok y tb) (hr : fw_at tb pc = some (.invokestatic idx, nx, tg, v)) (hw : Cond.methodLink y.1.cls idx yJ9_max_7cf53 ∈ fw_GW) (h1 : x1 = nI a) (h2 : x2 = nI b) (ha : a < 2147483648) (hb : b < 2147483648) (h8 : Nat.ble ((rest.map fun v => v.category).sum) 8 = true) (k : PW G y Q d kc ks h nx L (.int (nI (max a b)) :: rest)) : PW G y Q d kc ks h pc L (.int x2 :: .int x1 :: rest) := by
  subst h1; subst h2
  refine pw_max hT hr hw h8 ?_
  have e : (if nI a < nI b then nI b else nI a) = nI (max a b) := by
    by_cases q : a < b
    · rw [if_pos ((nI_ltI ha hb).mpr q), Nat.max_eq_right (by omega)]
    · rw [if_neg (fun z => q ((nI_ltI ha hb).mp z)), Nat.max_eq_left (by omega)]
  rw [e]
  exact k
theorem pw_minN {x1 x2 : Int32} (a b : Nat) (hT : fw_tok y tb) (hr : fw_at tb pc = some (.invokestatic idx, nx, tg, v)) (hw : Cond.methodLink y.1.cls idx yJ9_min_7cf53 ∈ fw_GW) (h1 : x1 = nI a) (h2 : x2 = nI b) (ha : a < 2147483648) (hb : b < 2147483648) (h8 : Nat.ble ((rest.map fun v => v.category).sum) 8 = true) (k : PW G y Q d kc ks h nx L (.int (nI (min a b)) :: rest)) : PW G y Q d kc ks h pc L (.int x2 :: .int x1 :: rest) := by
  subst h1; subst h2
  refine pw_min hT hr hw h8 ?_
  have e : (if nI b < nI a then nI b else nI a) = nI (min a b) := by
    by_cases q : b < a
    · rw [if_pos ((nI_ltI hb ha).mpr q), Nat.min_eq_right (by omega)]
    · rw [if_neg (fun z => q ((nI_ltI hb ha).mp z)), Nat.min_eq_left (by omega)]
  rw [e]
  exact k
end PWMM
