/-! NUMBERS: rules over small numbers, answers' forms, short calls -/
def fw_noX : String → fw_H → Prop := fun _ _ => False
def fw_qI (post : Int32 → fw_H → Prop) (px : String → fw_H → Prop) : fw_Q := (fun r h => ∃ x : Int32, r = some (.int x) ∧ post x h, px)
def fw_qL (post : Int64 → fw_H → Prop) (px : String → fw_H → Prop) : fw_Q := (fun r h => ∃ x : Int64, r = some (.long x) ∧ post x h, px)
def fw_qV (post : fw_H → Prop) (px : String → fw_H → Prop) : fw_Q := (fun r h => r = none ∧ post h, px)
def fw_qQ (post : Option Nat → fw_H → Prop) (px : String → fw_H → Prop) : fw_Q := (fun r h => ∃ x : Option Nat, r = some (va_rf x) ∧ post x h, px)
def fw_qF (post : UInt32 → fw_H → Prop) (px : String → fw_H → Prop) : fw_Q := (fun r h => ∃ x : UInt32, r = some (.float x) ∧ post x h, px)
def fw_qD (post : UInt64 → fw_H → Prop) (px : String → fw_H → Prop) : fw_Q := (fun r h => ∃ x : UInt64, r = some (.double x) ∧ post x h, px)
/-- an answer, nothing else -/
def fw_qp (v : Int32) (h : fw_H) : fw_Q := fw_qI (fun x h' => x = v ∧ h' = h) fw_noX
def fw_qpL (v : Int64) (h : fw_H) : fw_Q := fw_qL (fun x h' => x = v ∧ h' = h) fw_noX
def fw_qpQ (v : Option Nat) (h : fw_H) : fw_Q := fw_qQ (fun x h' => x = v ∧ h' = h) fw_noX
/-- fewer locals, in another order: by their places -/
def fw_sL (L : List (Nat × Value)) : List (Nat × Value) → Prop
  | [] => True
  | q :: L' => fw_lk L q.1 = some q.2 ∧ fw_sL L L'
theorem fw_sL_mem {L : List (Nat × Value)} : ∀ {L' : List (Nat × Value)}, fw_sL L L' → ∀ q ∈ L', fw_lk L q.1 = some q.2
  | [], _, q, hq => nomatch hq
  | r :: L', h, q, hq => (List.mem_cons.mp hq).elim (fun e => by rw [e]; exact h.1) (fun z => fw_sL_mem h.2 q z)
theorem pw_M {G : fw_G} {y : fw_M} {Q : fw_Q} {d kc ks : Nat} {h : fw_H} {pc : Nat} {L : List (Nat × Value)} {st : List Value} (L' : List (Nat × Value)) (hs : fw_sL L L') (k : PW G y Q d kc ks h pc L' st) : PW G y Q d kc ks h pc L st := pw_L (fw_sL_mem hs) k
def bI (b : Bool) : Int32 := if b then 1 else 0
theorem bI_z (b : Bool) : narrow .boolean (.int (bI b)) = .int (bI b) := by cases b <;> rfl
theorem bI_0 {b : Bool} : bI b = 0 ↔ b = false := by cases b <;> decide
def fw_cN (c : ClassFile.Cond) (a b : Nat) : Prop := match c with
  | .eq => a = b
  | .ne => a ≠ b
  | .lt => a < b
  | .ge => b ≤ a
  | .gt => b < a
  | .le => a ≤ b
section PWX
variable {G : fw_G} {y : fw_M} {Q : fw_Q} {d kc ks : Nat} {h : fw_H} {pc nx tg : Nat} {v : Int32} {L : List (Nat × Value)} {rest : List Value} {tb : List fw_R}
theorem pw_add {x1 x2 x3 : Int32} (hT : fw_tok y tb) (hr : fw_at tb pc = some (.iadd, nx, tg, v)) (e : x1 + x2 = x3) (k : PW G y Q d kc ks h nx L (.int x3 :: rest)) : PW G y Q d kc ks h pc L (.int x2 :: .int x1 :: rest) := by
  subst e
  exact pw_go hT hr rfl k
theorem pw_addN {x1 x2 : Int32} (a b : Nat) (hT : fw_tok y tb) (hr : fw_at tb pc = some (.iadd, nx, tg, v)) (h1 : x1 = nI a) (h2 : x2 = nI b) (k : PW G y Q d kc ks h nx L (.int (nI (a + b)) :: rest)) : PW G y Q d kc ks h pc L (.int x2 :: .int x1 :: rest) := by
  subst h1; subst h2
  exact pw_add hT hr (nI_add a b) k
theorem pw_subN {x1 x2 : Int32} (a b : Nat) (hT : fw_tok y tb) (hr : fw_at tb pc = some (.isub, nx, tg, v)) (h1 : x1 = nI a) (h2 : x2 = nI b) (hab : b ≤ a) (k : PW G y Q d kc ks h nx L (.int (nI (a - b)) :: rest)) : PW G y Q d kc ks h pc L (.int x2 :: .int x1 :: rest) := by
  subst h1; subst h2
  refine pw_go hT hr rfl ?_
  rw [pk_sub hab]
  exact k
theorem pw_mulN {x1 x2 : Int32} (a b : Nat) (hT : fw_tok y tb) (hr : fw_at tb pc = some (.imul, nx, tg, v)) (h1 : x1 = nI a) (h2 : x2 = nI b) (k : PW G y Q d kc ks h nx L (.int (nI (a * b)) :: rest)) : PW G y Q d kc ks h pc L (.int x2 :: .int x1 :: rest) := by
  subst h1; subst h2
  refine pw_go hT hr rfl ?_
  rw [pk_mul]
  exact k
theorem pw_divN {x1 x2 : Int32} (a b : Nat) (hT : fw_tok y tb) (hr : fw_at tb pc = some (.idiv, nx, tg, v)) (h1 : x1 = nI a) (h2 : x2 = nI b) (ha : a < 2147483648) (h0 : 0 < b) (hb : b < 2147483648) (k : PW G y Q d kc ks h nx L (.int (nI (a / b)) :: rest)) : PW G y Q d kc ks h pc L (.int x2 :: .int x1 :: rest) := by
  subst h1; subst h2
  refine pw_div hT hr (nI_ne0 h0 hb) ?_
  rw [pk_div ha h0 hb]
  exact k
theorem pw_remN {x1 x2 : Int32} (a b : Nat) (hT : fw_tok y tb) (hr : fw_at tb pc = some (.irem, nx, tg, v)) (h1 : x1 = nI a) (h2 : x2 = nI b) (ha : a < 2147483648) (h0 : 0 < b) (hb : b < 2147483648) (k : PW G y Q d kc ks h nx L (.int (nI (a % b)) :: rest)) : PW G y Q d kc ks h pc L (.int x2 :: .int x1 :: rest) := by
  subst h1; subst h2
  refine pw_rem hT hr (nI_ne0 h0 hb) ?_
  rw [pk_rem ha h0 hb]
  exact k
theorem pw_icN {x1 x2 : Int32} {cc : ClassFile.Cond} {off : Int} (a b : Nat) (hT : fw_tok y tb) (hr : fw_at tb pc = some (.if_icmp cc off, nx, tg, v)) (h1 : x1 = nI a) (h2 : x2 = nI b) (ha : a < 2147483648) (hb : b < 2147483648) (kt : fw_cN cc a b → PW G y Q d kc ks h tg L rest) (kf : ¬ fw_cN cc a b → PW G y Q d kc ks h nx L rest) : PW G y Q d kc ks h pc L (.int x2 :: .int x1 :: rest) := by
  subst h1; subst h2
  cases cc
  · exact pw_br hT hr rfl (fun c => kt ((nI_eq ha hb).mp c)) (fun c => kf (fun z => c ((nI_eq ha hb).mpr z)))
  · exact pw_br hT hr rfl (fun c => kt (fun z => c ((nI_eq ha hb).mpr z))) (fun c => kf (fun z => c (fun w => z ((nI_eq ha hb).mp w))))
  · exact pw_br hT hr rfl (fun c => kt ((nI_ltI ha hb).mp c)) (fun c => kf (fun z => c ((nI_ltI ha hb).mpr z)))
  · exact pw_br hT hr rfl (fun c => kt ((nI_leI hb ha).mp c)) (fun c => kf (fun z => c ((nI_leI hb ha).mpr z)))
  · exact pw_br hT hr rfl (fun c => kt ((nI_ltI hb ha).mp c)) (fun c => kf (fun z => c ((nI_ltI hb ha).mpr z)))
  · exact pw_br hT hr rfl (fun c => kt ((nI_leI ha hb).mp c)) (fun c => kf (fun z => c ((nI_leI ha hb).mpr z)))
theorem pw_ifN {x1 : Int32} {cc : ClassFile.Cond} {off : Int} (a : Nat) (hT : fw_tok y tb) (hr : fw_at tb pc = some (.ifCond cc off, nx, tg, v)) (h1 : x1 = nI a) (ha : a < 2147483648) (kt : fw_cN cc a 0 → PW G y Q d kc ks h tg L rest) (kf : ¬ fw_cN cc a 0 → PW G y Q d kc ks h nx L rest) : PW G y Q d kc ks h pc L (.int x1 :: rest) := by
  subst h1
  have hb : 0 < 2147483648 := by decide
  have e0 : (0 : Int32) = nI 0 := nI_0.symm
  cases cc
  · exact pw_br hT hr rfl (fun c => kt ((nI_eq ha hb).mp (e0 ▸ c))) (fun c => kf (fun z => c (e0 ▸ (nI_eq ha hb).mpr z)))
  · exact pw_br hT hr rfl (fun c => kt (fun z => c (e0 ▸ (nI_eq ha hb).mpr z))) (fun c => kf (fun z => c (fun w => z ((nI_eq ha hb).mp (e0 ▸ w)))))
  · exact pw_br hT hr rfl (fun c => kt ((nI_ltI ha hb).mp (e0 ▸ c))) (fun c => kf (fun z => c (e0 ▸ (nI_ltI ha hb).mpr z)))
  · exact pw_br hT hr rfl (fun c => kt ((nI_leI hb ha).mp (e0 ▸ c))) (fun c => kf (fun z => c (e0 ▸ (nI_leI hb ha).mpr z)))
  · exact pw_br hT hr rfl (fun c => kt ((nI_ltI hb ha).mp (e0 ▸ c))) (fun c => kf (fun z => c (e0 ▸ (nI_ltI hb ha).mpr z)))
  · exact pw_br hT hr rfl (fun c => kt ((nI_leI ha hb).mp (e0 ▸ c))) (fun c => kf (fun z => c (e0 ▸ (nI_leI ha hb).mpr z)))
theorem pw_ifeqB {off : Int} {b : Bool} (hT : fw_tok y tb) (hr : fw_at tb pc = some (.ifCond .eq off, nx, tg, v)) (kt : b = false → PW G y Q d kc ks h tg L rest) (kf : b = true → PW G y Q d kc ks h nx L rest) : PW G y Q d kc ks h pc L (.int (bI b) :: rest) :=
  pw_br hT hr rfl (fun c => kt (bI_0.mp c)) (fun c => kf (by cases b with | false => exact absurd rfl c | true => rfl))
theorem pw_ifneB {off : Int} {b : Bool} (hT : fw_tok y tb) (hr : fw_at tb pc = some (.ifCond .ne off, nx, tg, v)) (kt : b = true → PW G y Q d kc ks h tg L rest) (kf : b = false → PW G y Q d kc ks h nx L rest) : PW G y Q d kc ks h pc L (.int (bI b) :: rest) :=
  pw_br hT hr rfl (fun c => kt (by cases b with | false => exact absurd rfl c | true => rfl)) (fun c => kf (by cases b with | false => rfl | true => exact absurd (by decide) c))
theorem pw_i {x x' : Int32} (e : x = x') (k : PW G y Q d kc ks h pc L (.int x' :: rest)) : PW G y Q d kc ks h pc L (.int x :: rest) := e ▸ k
section
variable {y' : fw_M} {n idx d' : Nat} {As st : List Value} {w : Int32} {w8 : Int64} {wq : Option Nat}
/-- a call that answers and changes nothing -/
theorem pw_csp (hT : fw_tok y tb) (hr : fw_at tb pc = some (.invokestatic idx, nx, tg, v)) (hc : fw_cal y' n) (hw : Cond.methodLink y.1.cls idx y'.1 ∈ fw_GW) (hw2 : Cond.static y'.1 ∈ fw_GW) (hM : PM G d' 0 0 y' As h (fw_qp w h)) (hst : st = As.reverse ++ rest) (hn : As.length = n) (h8 : Nat.ble ((rest.map fun v => v.category).sum) 8 = true) (hd : Nat.blt d' d = true) (k : PW G y Q d kc ks h nx L (.int w :: rest)) : PW G y Q d kc ks h pc L st :=
  pw_cs (kc' := kc) (ks' := ks) hT hr hc hw hw2 hM hst hn h8 (Nat.le_of_ble_eq_true hd) (by omega) (by omega) (fun r h' ⟨x, e1, e2, e3⟩ => by subst e1; subst e2; subst e3; exact k) (fun E h' z => z.elim)
theorem pw_cspL (hT : fw_tok y tb) (hr : fw_at tb pc = some (.invokestatic idx, nx, tg, v)) (hc : fw_cal y' n) (hw : Cond.methodLink y.1.cls idx y'.1 ∈ fw_GW) (hw2 : Cond.static y'.1 ∈ fw_GW) (hM : PM G d' 0 0 y' As h (fw_qpL w8 h)) (hst : st = As.reverse ++ rest) (hn : As.length = n) (h8 : Nat.ble ((rest.map fun v => v.category).sum) 8 = true) (hd : Nat.blt d' d = true) (k : PW G y Q d kc ks h nx L (.long w8 :: rest)) : PW G y Q d kc ks h pc L st :=
  pw_cs (kc' := kc) (ks' := ks) hT hr hc hw hw2 hM hst hn h8 (Nat.le_of_ble_eq_true hd) (by omega) (by omega) (fun r h' ⟨x, e1, e2, e3⟩ => by subst e1; subst e2; subst e3; exact k) (fun E h' z => z.elim)
theorem pw_cvp {b ci : Nat} {fs : List Value} {r9 : vw_C} (hT : fw_tok y tb) (hr : fw_at tb pc = some (.invokevirtual idx, nx, tg, v)) (hc : fw_cal y' n) (hw : Cond.methodLink y.1.cls idx y'.1 ∈ fw_GW) (hw2 : Cond.instanceMethod y'.1 ∈ fw_GW) (hw3 : Cond.selects y'.1.cls y'.1 y'.1 ∈ fw_GW) (ho : h b = some (.inr (ci, fs))) (hci : vwCl[ci]? = some r9) (hr9 : r9.1 = y'.1.cls) (hM : PM G d' 0 0 y' (.ref b :: As) h (fw_qp w h)) (hst : st = As.reverse ++ .ref b :: rest) (hn : As.length = n) (h8 : Nat.ble ((rest.map fun v => v.category).sum) 8 = true) (hd : Nat.blt d' d = true) (k : PW G y Q d kc ks h nx L (.int w :: rest)) : PW G y Q d kc ks h pc L st :=
  pw_cv (kc' := kc) (ks' := ks) hT hr hc hw hw2 hw3 ho hci hr9 hM hst hn h8 (Nat.le_of_ble_eq_true hd) (by omega) (by omega) (fun r h' ⟨x, e1, e2, e3⟩ => by subst e1; subst e2; subst e3; exact k) (fun E h' z => z.elim)
theorem pw_cvpQ {b ci : Nat} {fs : List Value} {r9 : vw_C} (hT : fw_tok y tb) (hr : fw_at tb pc = some (.invokevirtual idx, nx, tg, v)) (hc : fw_cal y' n) (hw : Cond.methodLink y.1.cls idx y'.1 ∈ fw_GW) (hw2 : Cond.instanceMethod y'.1 ∈ fw_GW) (hw3 : Cond.selects y'.1.cls y'.1 y'.1 ∈ fw_GW) (ho : h b = some (.inr (ci, fs))) (hci : vwCl[ci]? = some r9) (hr9 : r9.1 = y'.1.cls) (hM : PM G d' 0 0 y' (.ref b :: As) h (fw_qpQ wq h)) (hst : st = As.reverse ++ .ref b :: rest) (hn : As.length = n) (h8 : Nat.ble ((rest.map fun v => v.category).sum) 8 = true) (hd : Nat.blt d' d = true) (k : PW G y Q d kc ks h nx L (va_rf wq :: rest)) : PW G y Q d kc ks h pc L st :=
  pw_cv (kc' := kc) (ks' := ks) hT hr hc hw hw2 hw3 ho hci hr9 hM hst hn h8 (Nat.le_of_ble_eq_true hd) (by omega) (by omega) (fun r h' ⟨x, e1, e2, e3⟩ => by subst e1; subst e2; subst e3; exact k) (fun E h' z => z.elim)
end
theorem pw_iretp {r : Int32} (hT : fw_tok y tb) (hr : fw_at tb pc = some (.ireturn, nx, tg, v)) (hy : y.2.2.2.1 = some .int) : PW G y (fw_qp r h) d kc ks h pc L [.int r] :=
  pw_iret hT hr hy rfl ⟨r, rfl, rfl, rfl⟩
theorem pw_zretp {b : Bool} (hT : fw_tok y tb) (hr : fw_at tb pc = some (.ireturn, nx, tg, v)) (hy : y.2.2.2.1 = some .boolean) : PW G y (fw_qp (bI b) h) d kc ks h pc L [.int (bI b)] :=
  pw_iret hT hr hy (bI_z b) ⟨_, rfl, rfl, rfl⟩
end PWX
