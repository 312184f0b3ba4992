/-! WORDS, ROWS: what the tables are made of -/
/-- the words of the tables that stay good from state to state -/
def fw_GW : List Cond := lw_tbl.filter goodWord
theorem fw_gw (i : Nat) {w : Cond} (h : lw_tbl[i]? = some w) (hg : goodWord w = true) : w ∈ fw_GW := List.mem_filter.mpr ⟨List.mem_of_getElem? h, hg⟩
theorem fw_good {w : Cond} (h : w ∈ fw_GW) : (w.onTables && w.keeps) = true ∨ ∃ ty, w = .arrayClass ty := good_of_word (List.mem_filter.mp h).2
/-- words that stay true while the tables grow warmer, by laws of their own -/
def fw_ww : Cond → Bool
  | .fieldLinkNest .. | .methodLinkNest .. | .declares _ | .castable .. | .publicMethod _ | .unhidden .. => true
  | .interfaceMethod r o n d => (Cond.interfaceMethod r o n d).faceAtom
  | _ => false
theorem fw_ww_on {w : Cond} (h : fw_ww w = true) : w.onTables = true := by cases w <;> first | rfl | (simp [fw_ww] at h)
def fw_NW : List Cond := lw_tbl.filter fw_ww
theorem fw_nw (i : Nat) {w : Cond} (h : lw_tbl[i]? = some w) (hg : fw_ww w = true) : w ∈ fw_NW := List.mem_filter.mpr ⟨List.mem_of_getElem? h, hg⟩
theorem fw_Nw_warm {s U : State} {w : Cond} (hW : s.WarmedH U.vm) (h : fw_ww w = true) (hZ : va_Nw w s) : va_Nw w U := by
  cases w with
  | fieldLinkNest a i b n d x => exact va_Nw.warmF hW hZ
  | methodLinkNest a i x y => exact va_Nw.warmM hW hZ
  | declares x => exact va_Nw.warmD hW hZ
  | castable a b => exact va_Nw.warmC hW hZ
  | publicMethod x => exact va_tabs rfl (rfl : (s.setVm U.vm).vm = U.vm) (Cond.before_warmed hW (.publicMethod x) trivial hZ)
  | unhidden a b c => exact va_tabs rfl (rfl : (s.setVm U.vm).vm = U.vm) (Cond.before_warmed hW (.unhidden a b c) trivial hZ)
  | interfaceMethod r o n d => exact va_tabs rfl (rfl : (s.setVm U.vm).vm = U.vm) (Cond.before_warmed hW (.interfaceMethod r o n d) h hZ)
  | _ => exact absurd h (by simp [fw_ww])
/-- a method: its name, bytes, locals, answer's type, handlers -/
abbrev fw_M : Type := MethodName × ByteArray × Nat × Option FieldType × List (Nat × Nat × Nat × Nat)
def fw_cw (y : fw_M) : Cond := match y.2.2.2.2 with
  | [] => .code y.1 y.2.1 y.2.2.1 y.2.2.2.1
  | hh => .codeWith y.1 y.2.1 y.2.2.1 y.2.2.2.1 hh
/-- a row of a method's table: place, instruction, the next place, its target or local, its number -/
abbrev fw_R : Type := Nat × Instr × Nat × Nat × Int32
def fw_len (i : Instr) : Nat := match i with
  | .aload _ | .astore _ | .iload _ | .istore _ | .lload _ | .lstore _ | .fload _ | .fstore _ | .dload _ | .dstore _ | .bipush _ | .ldc _ | .newarray _ => 2
  | .anewarray _ | .checkcast _ | .getfield _ | .getstatic _ | .goto _ | .if_acmp _ _ | .if_icmp _ _ | .ifCond _ _ | .ifnonnull _ | .ifnull _ | .iinc _ _ | .instanceof _ | .invokespecial _ | .invokestatic _ | .invokevirtual _ | .ldc_w _ | .ldc2_w _ | .new _ | .putfield _ | .putstatic _ | .sipush _ => 3
  | .invokeinterface _ _ => 5
  | _ => 1
def fw_xk (maxL : Nat) (i : Instr) (pc a : Nat) (v : Int32) : Bool := match i with
  | .iload j | .lload j | .aload j | .fload j | .dload j => Nat.beq a j
  | .iload_n j | .lload_n j | .aload_n j | .fload_n j | .dload_n j => Nat.beq a j.val
  | .istore j | .astore j | .fstore j => Nat.beq a j && Nat.blt a maxL
  | .istore_n j | .astore_n j | .fstore_n j => Nat.beq a j.val && Nat.blt a maxL
  | .lstore j | .dstore j => Nat.beq a j && Nat.blt (a + 1) maxL
  | .lstore_n j | .dstore_n j => Nat.beq a j.val && Nat.blt (a + 1) maxL
  | .iinc j n => Nat.beq a j && Nat.blt a maxL && decide (Int32.ofInt n = v)
  | .iconst n => decide (Int32.ofInt n = v)
  | .bipush n => decide ((Int8.ofInt n).toInt32 = v)
  | .sipush n => decide ((Int16.ofInt n).toInt32 = v)
  | .goto off | .if_acmp _ off | .if_icmp _ off | .ifCond _ off | .ifnonnull off | .ifnull off => decide ((pc : Int) + off = (a : Int))
  | _ => true
def fw_rok (y : fw_M) (r : fw_R) : Prop := decode y.2.1 r.1 = .ok (r.2.1, fw_len r.2.1) ∧ r.2.2.1 = r.1 + fw_len r.2.1 ∧ fw_xk y.2.2.1 r.2.1 r.1 r.2.2.2.1 r.2.2.2.2 = true
def fw_tok (y : fw_M) (tb : List fw_R) : Prop := ∀ r ∈ tb, decode y.2.1 r.1 = .ok (r.2.1, fw_len r.2.1) ∧ r.2.2.1 = r.1 + fw_len r.2.1 ∧ fw_xk y.2.2.1 r.2.1 r.1 r.2.2.2.1 r.2.2.2.2 = true
def fw_at : List fw_R → Nat → Option (Instr × Nat × Nat × Int32)
  | [], _ => none
  | r :: tb, pc => bif Nat.beq r.1 pc then some r.2 else fw_at tb pc
theorem fw_row {y : fw_M} {tb : List fw_R} (hT : fw_tok y tb) {pc : Nat} {q : Instr × Nat × Nat × Int32} (h : fw_at tb pc = some q) : fw_rok y (pc, q) := by
  induction tb with
  | nil => cases h
  | cons r tb ih =>
    unfold fw_at at h
    cases hb : Nat.beq r.1 pc with
    | true =>
      rw [hb] at h
      have e : r.1 = pc := Nat.eq_of_beq_eq_true hb
      cases h
      subst e
      exact hT r List.mem_cons_self
    | false =>
      rw [hb] at h
      exact ih (fun r hr => hT r (List.mem_cons_of_mem _ hr)) h

theorem fw_sub {ws : List Cond} (ps : List Nat) (hp : ws = ps.filterMap (fun i => lw_tbl[i]?)) (hg : ws.all goodWord = true) : ∀ w ∈ ws, w ∈ fw_GW := by
  intro w hw
  have h1 := List.all_eq_true.mp hg w hw
  rw [hp] at hw
  obtain ⟨i, -, hi⟩ := List.mem_filterMap.mp hw
  exact fw_gw i hi h1
/-- the class number ci, its fields, their words -/
def fw_cls (ci : Nat) (C : String) (T : u_T) (N : Nat) (ty : Nat → FieldType) : Prop :=
  vwCl[ci]? = some (C, T, N) ∧ (∀ w ∈ u_ws C T N, w ∈ fw_GW) ∧ (∀ k, k < N → parseFieldDescriptor (T k).2.2.1 = some (ty k)) ∧ ∀ a, a < N → ∀ b, b < N → a ≠ b → (T a).2.1 ≠ (T b).2.1
/-- the pool's entry idx of the class own is the field k of the class ci -/
def fw_fld (own : String) (idx ci k : Nat) : Prop := ∃ (C : String) (T : u_T) (N : Nat) (ty : Nat → FieldType), fw_cls ci C T N ty ∧ k < N ∧
  (Cond.fieldLink own idx (T k).1 (T k).2.1 (T k).2.2.1 ∈ fw_GW ∨ (∃ host, Cond.fieldLinkNest own idx (T k).1 (T k).2.1 (T k).2.2.1 host ∈ fw_NW) ∨ ∃ ref, Cond.fieldLink own idx ref (T k).2.1 (T k).2.2.1 ∈ fw_GW ∧ Cond.sameField ref (T k).1 (T k).2.1 (T k).2.2.1 ∈ fw_GW)
/-- and it may be written, with the type tt -/
def fw_fldW (own : String) (idx ci k : Nat) (tt : FieldType) : Prop := ∃ (C : String) (T : u_T) (N : Nat) (ty : Nat → FieldType), fw_cls ci C T N ty ∧ k < N ∧
  (Cond.fieldLink own idx (T k).1 (T k).2.1 (T k).2.2.1 ∈ fw_GW ∨ (∃ host, Cond.fieldLinkNest own idx (T k).1 (T k).2.1 (T k).2.2.1 host ∈ fw_NW) ∨ ∃ ref, Cond.fieldLink own idx ref (T k).2.1 (T k).2.2.1 ∈ fw_GW ∧ Cond.sameField ref (T k).1 (T k).2.1 (T k).2.2.1 ∈ fw_GW) ∧
  (T k).2.2.2 = false ∧ parseFieldDescriptor (T k).2.2.1 = some tt
/-- a final field, written by its class's own constructor -/
def fw_fldF (own : String) (idx ci k : Nat) (tt : FieldType) : Prop := ∃ (C : String) (T : u_T) (N : Nat) (ty : Nat → FieldType), fw_cls ci C T N ty ∧ k < N ∧
  Cond.fieldLink own idx (T k).1 (T k).2.1 (T k).2.2.1 ∈ fw_GW ∧ (T k).2.2.2 = true ∧ (T k).1 = own ∧ parseFieldDescriptor (T k).2.2.1 = some tt
/-- 'new' of the class number ci, N fields -/
def fw_new (own : String) (idx ci N : Nat) (fs : List Value) : Prop := ∃ (C : String) (T : u_T) (ty : Nat → FieldType), fw_cls ci C T N ty ∧ Cond.classLink own idx C ∈ fw_GW ∧ Cond.instantiable C N ∈ fw_GW ∧ Cond.initialized C ∈ fw_GW ∧ ∀ j, j < N → defaultValue (ty j) = vp_V fs j
/-- what a call's words say: the callee's own, n parameters -/
def fw_cal (y' : fw_M) (n : Nat) : Prop := fw_cw y' ∈ fw_GW ∧ Cond.initialized y'.1.cls ∈ fw_GW ∧ (y'.1.cls ≠ "java/lang/invoke/MethodHandle" ∧ y'.1.cls ≠ "java/lang/invoke/VarHandle" ∧ (parseMethodDescriptor y'.1.desc).map (fun d => d.parameters.length) = some n) ∧ y'.2.2.2.2 = [] ∧ Nat.ble y'.2.2.1 30 = true
theorem fw_goodc {y' : fw_M} (hw : fw_cw y' ∈ fw_GW) : GoodIn fw_GW (fw_cw y' :: fw_GW) := fun w h => (List.mem_cons.mp h).elim (fun e => by rw [e]; exact ⟨hw, fw_good hw⟩) (fun h => ⟨h, fw_good h⟩)
theorem fw_code {y' : fw_M} (h : y'.2.2.2.2 = []) : fw_cw y' = Cond.code y'.1 y'.2.1 y'.2.2.1 y'.2.2.2.1 := by
  unfold fw_cw
  rw [h]
