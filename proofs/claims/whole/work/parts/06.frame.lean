/-! FRAME: one judgement over an abstract heap, a rule an instruction kind -/
/-- an object: an array of the type number t, or an object of the class number ci -/
abbrev fw_O : Type := (Nat × vp_A) ⊕ (Nat × List Value)
abbrev fw_H : Type := Nat → Option fw_O
def fw_up (h : fw_H) (a : Nat) (o : fw_O) : fw_H := fun b => if b = a then some o else h b
theorem fw_up_s {h : fw_H} {a : Nat} {o : fw_O} : fw_up h a o a = some o := if_pos rfl
theorem fw_up_n {h : fw_H} {a b : Nat} {o : fw_O} (n : b ≠ a) : fw_up h a o b = h b := if_neg n
/-- launch, first address of the run's own, classes' numbers, array classes, the script: its cell, its length, its numbers; the shared empty array, the mirror of Object[], the strings of the model and their bytes -/
abbrev fw_G : Type := Launch × Nat × va_G × (Nat → ClassId) × (Nat × Nat × (Nat → Int32) × Nat × Nat × (Nat → Nat) × (Nat → Nat))
def fw_E (cT : Nat → ClassId) (o : fw_O) : va_E := match o with
  | .inl x => .inl (cT x.1, x.2)
  | .inr x => .inr x
def fw_ty : Nat → FieldType := fun t => match t with
  | 0 => .int
  | 1 => .long
  | 2 => .boolean
  | 3 => .double
  | 4 => .byte
  | 5 => .object "Termreckonry$Law"
  | 6 => .object "Termreckonry$Person"
  | 7 => .object "Termreckonry$Warrant"
  | 8 => .object "Termreckonry$Added"
  | 9 => .object "TermreckonryModel$Fact"
  | _ => .object "java/lang/Object"
def fw_tys (cT : Nat → ClassId) : List (ClassId × FieldType) := (List.range 11).map (fun t => (cT t, fw_ty t))
theorem fw_tys_at (cT : Nat → ClassId) {t : Nat} (h : t < 11) : (fw_tys cT)[t]? = some (cT t, fw_ty t) := by
  unfold fw_tys
  rw [List.getElem?_map, List.getElem?_range h]
  rfl
/-- the heap holds the abstract heap -/
def fw_P (G : fw_G) (h : fw_H) (H : Heap) : Prop := ∃ ws : va_W, va_P G.2.2.1 vwCl ws H ∧ va_D (fun q => G.2.1 ≤ q) ws ∧ ∀ (a : Nat) (o : fw_O), h a = some o → (a, fw_E G.2.2.2.1 o) ∈ ws
theorem fw_P.get {G : fw_G} {h : fw_H} {H : Heap} (hP : fw_P G h H) {a : Nat} {o : fw_O} (ho : h a = some o) : ∃ (ws : va_W) (k : Nat), va_P G.2.2.1 vwCl ws H ∧ va_D (fun q => G.2.1 ≤ q) ws ∧ (∀ (a : Nat) (o : fw_O), h a = some o → (a, fw_E G.2.2.2.1 o) ∈ ws) ∧ ws[k]? = some (a, fw_E G.2.2.2.1 o) := by
  obtain ⟨ws, h1, h2, h3⟩ := hP
  obtain ⟨k, hk⟩ := List.getElem?_of_mem (h3 a o ho)
  exact ⟨ws, k, h1, h2, h3, hk⟩
theorem fw_P.set {G : fw_G} {h : fw_H} {H1 : Heap} {ws : va_W} {k a : Nat} {o o' : fw_O} (h3 : ∀ (a : Nat) (o : fw_O), h a = some o → (a, fw_E G.2.2.2.1 o) ∈ ws) (hk : ws[k]? = some (a, fw_E G.2.2.2.1 o)) (h1 : va_P G.2.2.1 vwCl (ws.set k (a, fw_E G.2.2.2.1 o')) H1) (h2 : va_D (fun q => G.2.1 ≤ q) (ws.set k (a, fw_E G.2.2.2.1 o'))) : fw_P G (fw_up h a o') H1 := by
  refine ⟨_, h1, h2, fun b x hb => ?_⟩
  have hl := (List.getElem?_eq_some_iff.mp hk).1
  by_cases e : b = a
  · subst e
    rw [fw_up_s] at hb
    cases hb
    exact List.mem_of_getElem? (i := k) (List.getElem?_set_self hl)
  · rw [fw_up_n e] at hb
    obtain ⟨j, hj⟩ := List.getElem?_of_mem (h3 b x hb)
    have hjk : k ≠ j := fun z => by subst z; rw [hk] at hj; exact e (congrArg Prod.fst (Option.some.inj hj)).symm
    exact List.mem_of_getElem? (i := j) (by rw [List.getElem?_set_ne hjk]; exact hj)
theorem fw_P.push {G : fw_G} {h : fw_H} {H1 : Heap} {ws : va_W} {a : Nat} {o : fw_O} (h3 : ∀ (a : Nat) (o : fw_O), h a = some o → (a, fw_E G.2.2.2.1 o) ∈ ws) (h1 : va_P G.2.2.1 vwCl (ws ++ [(a, fw_E G.2.2.2.1 o)]) H1) (h2 : va_D (fun q => G.2.1 ≤ q) (ws ++ [(a, fw_E G.2.2.2.1 o)])) : h a = none ∧ G.2.1 ≤ a ∧ fw_P G (fw_up h a o) H1 := by
  have hlast : (ws ++ [(a, fw_E G.2.2.2.1 o)])[ws.length]? = some (a, fw_E G.2.2.2.1 o) := by
    rw [List.getElem?_append_right (Nat.le_refl _), Nat.sub_self]; rfl
  refine ⟨?_, h2.2 _ _ hlast, _, h1, h2, fun b x hb => ?_⟩
  · cases hx : h a with
    | none => rfl
    | some x =>
      obtain ⟨j, hj⟩ := List.getElem?_of_mem (h3 a x hx)
      have hl := (List.getElem?_eq_some_iff.mp hj).1
      have hj2 : (ws ++ [(a, fw_E G.2.2.2.1 o)])[j]? = some (a, fw_E G.2.2.2.1 x) := by rw [List.getElem?_append_left hl]; exact hj
      have := h2.1 _ _ _ _ hj2 hlast rfl
      omega
  · by_cases e : b = a
    · subst e
      rw [fw_up_s] at hb
      cases hb
      exact List.mem_of_getElem? hlast
    · rw [fw_up_n e] at hb
      exact List.mem_append_left _ (h3 b x hb)
theorem fw_P.lt {G : fw_G} {h : fw_H} {H : Heap} (hP : fw_P G h H) {a : Nat} {o : fw_O} (ho : h a = some o) : a < H.size ∧ G.2.1 ≤ a := by
  obtain ⟨ws, k, h1, h2, -, hk⟩ := hP.get ho
  exact ⟨(h1 k _ hk).lt, h2.2 k _ hk⟩
/-- array classes are told by their names -/
theorem fw_RA1 {U : State} {c1 c2 : ClassId} {ty : FieldType} (h1 : va_RA U c1 ty) (h2 : va_RA U c2 ty) : c1 = c2 := by
  cases ty with
  | object C =>
    obtain ⟨_, _, _, _, _, e1⟩ := h1
    obtain ⟨_, _, _, _, _, e2⟩ := h2
    exact Option.some.inj (e1.symm.trans e2)
  | _ => exact Option.some.inj (Eq.trans (Eq.symm h1) h2)
def fw_md : Nat → Value := fun j => .int (([31, 28, 31, 30, 31, 30, 31, 31, 30, 31, 30, 31] : List Int32).getD j 0)
/-- the messages of the exceptions, by their places in the class's pool -/
def fw_strs : List (Nat × String) := [(44, "no such year"), (57, "no such date"), (342, "a number is out of range"), (82, "no such way"), (93, "no more laws"), (336, "no such warrant"), (116, "no law for this kind"), (125, "no law counts"), (131, "no more persons"), (333, "no such person"), (346, "no such kind of warrant"), (344, "the term is nothing"), (149, "another person's warrant"), (154, "no more warrants"), (180, "not suspended, or it runs"), (202, "no more added days"), (338, "no such added days"), (231, "no such kind of recall"), (240, "not on licence"), (245, "no more recalls"), (260, "no recall goes on"), (340, "it counts for nothing, or never begins"), (281, "no release"), (286, "no licence, or one for ever"), (297, "no warrant keeps"), (322, "no persons"), (325, "no warrant has begun")]
def fw_exs : List String := ["java/lang/IllegalArgumentException", "java/lang/IllegalStateException", "java/lang/IndexOutOfBoundsException", "java/lang/UnsupportedOperationException", "java/util/NoSuchElementException", "java/lang/ArithmeticException"]
def fw_aos : List String := ["Termreckonry$Law", "Termreckonry$Person", "Termreckonry$Warrant", "Termreckonry$Added", "TermreckonryModel$Fact", "java/lang/Object"]
def fw_A (N0 : Nat) : Nat → Prop := fun q => N0 ≤ q
/-- what lies in the heap from the start on and is only read -/
def fw_F (N0 : Nat) (sc : Nat × Nat × (Nat → Int32) × Nat × Nat × (Nat → Nat) × (Nat → Nat)) (U : State) (H : Heap) : Prop :=
  (∃ t, va_Z "Termreckonry$Calendar" "MONTH_DAYS" "[I" (.ref t) (fw_A N0) U H ∧ va_T .int t 12 fw_md (fw_A N0) U H) ∧
  (vx_Zq Bundle.tN "UNASSIGNED_STACK" Bundle.steD (fw_A N0) U H ∧ vx_Zq Bundle.tN "SUPPRESSED_SENTINEL" Bundle.listD (fw_A N0) U H) ∧
  (∀ q ∈ fw_strs, ∃ a, vk_R "Termreckonry" q.1 q.2 a U) ∧
  (va_Z "java/util/ArrayList" "DEFAULTCAPACITY_EMPTY_ELEMENTDATA" "[Ljava/lang/Object;" (.ref sc.2.2.2.1) (fw_A N0) U H ∧ va_T (.object "java/lang/Object") sc.2.2.2.1 0 (fun _ => .null) (fw_A N0) U H) ∧
  (va_Z "java/lang/String" "COMPACT_STRINGS" "Z" (.int 1) (fw_A N0) U H) ∧
  (vk_R "TermreckonryModel" 121 "flds" (sc.2.2.2.2.2.1 0) U ∧ vk_R "TermreckonryModel" 324 "lo" (sc.2.2.2.2.2.1 1) U ∧ vk_R "TermreckonryModel" 329 "pr" (sc.2.2.2.2.2.1 2) U ∧ vk_S 3 [4, 2, 2] [[102, 108, 100, 115], [108, 111], [112, 114]] sc.2.2.2.2.2.1 sc.2.2.2.2.2.2 (fw_A N0) U H) ∧
  (va_Mi "[Ljava/lang/Object;" sc.2.2.2.2.1 U) ∧
  ((∀ w ∈ fw_NW, va_Nw w U) ∧ (∀ a ∈ fw_exs, ∀ b ∈ fw_exs, a ≠ b → va_Nc a b U) ∧ (∀ C ∈ fw_aos, va_AO C U) ∧ va_T .int sc.1 sc.2.1 (fun j => .int (sc.2.2.1 j)) (fw_A N0) U H)
theorem fw_F.kept {N0 : Nat} {sc : Nat × Nat × (Nat → Int32) × Nat × Nat × (Nat → Nat) × (Nat → Nat)} {U : State} {H H1 : Heap} (h : fw_F N0 sc U H) (hq : ∀ a : Nat, a < H.size → ¬ fw_A N0 a → H1[a]? = H[a]?) : fw_F N0 sc U H1 := by
  obtain ⟨⟨t, a1, a2⟩, ⟨b1, b2⟩, c1, ⟨d1, d2⟩, e1, ⟨f1, f2, f3, f4⟩, g, i1, i2, i3, i4⟩ := h
  exact ⟨⟨t, a1.kept hq, a2.kept hq⟩, ⟨b1.kept hq, b2.kept hq⟩, c1, ⟨d1.kept hq, d2.kept hq⟩, e1.kept hq, ⟨f1, f2, f3, f4.kept hq⟩, g, i1, i2, i3, i4.kept hq⟩
theorem fw_F.warm {N0 : Nat} {sc : Nat × Nat × (Nat → Int32) × Nat × Nat × (Nat → Nat) × (Nat → Nat)} {s U : State} {H : Heap} (hW : s.WarmedH U.vm) (h : fw_F N0 sc s H) : fw_F N0 sc U H := by
  obtain ⟨⟨t, a1, a2⟩, ⟨b1, b2⟩, c1, ⟨d1, d2⟩, e1, ⟨f1, f2, f3, f4⟩, g, i1, i2, i3, i4⟩ := h
  have hA : s.vm.Alike U.vm := hW.alike
  exact ⟨⟨t, va_Z.moved hA a1, va_T.moved hA a2⟩, ⟨vx_Zq.moved hA b1, vx_Zq.moved hA b2⟩, fun q hq => (c1 q hq).imp fun a ha => vk_R.warm hW ha, ⟨va_Z.moved hA d1, va_T.moved hA d2⟩, va_Z.moved hA e1, ⟨vk_R.warm hW f1, vk_R.warm hW f2, vk_R.warm hW f3, vk_S.moved hA f4⟩, va_Mi.moved hA g, fun w hw => fw_Nw_warm hW (List.mem_filter.mp hw).2 (i1 w hw), fun a ha b hb n => va_Nc.moved hA (i2 a ha b hb n), fun C hC => va_AO.moved hA (i3 C hC), va_T.moved hA i4⟩
theorem fw_F.same {N0 : Nat} {sc : Nat × Nat × (Nat → Int32) × Nat × Nat × (Nat → Nat) × (Nat → Nat)} {u U : State} {H : Heap} (hv : U.vm = u.vm) (h : fw_F N0 sc u H) : fw_F N0 sc U H := by
  obtain ⟨⟨t, a1, a2⟩, ⟨b1, b2⟩, c1, ⟨d1, d2⟩, e1, ⟨f1, f2, f3, f4⟩, g, i1, i2, i3, i4⟩ := h
  have hA : u.vm.Alike U.vm := by rw [hv]; exact Vm.Alike.refl u.vm
  exact ⟨⟨t, va_Z.moved hA a1, va_T.moved hA a2⟩, ⟨vx_Zq.moved hA b1, vx_Zq.moved hA b2⟩, fun q hq => (c1 q hq).imp fun a ha => vk_R.same hv ha, ⟨va_Z.moved hA d1, va_T.moved hA d2⟩, va_Z.moved hA e1, ⟨vk_R.same hv f1, vk_R.same hv f2, vk_R.same hv f3, vk_S.moved hA f4⟩, va_Mi.moved hA g, fun w hw => va_tabs (fw_ww_on (List.mem_filter.mp hw).2) hv.symm (i1 w hw), fun a ha b hb n => va_Nc.moved hA (i2 a ha b hb n), fun C hC => va_AO.moved hA (i3 C hC), va_T.moved hA i4⟩
/-- what every method's start holds: tables, statics -/
def fw_K (G : fw_G) (U : State) (H : Heap) : Prop := va_K G.2.2.1 vwCl (fw_tys G.2.2.2.1) U ∧ fw_F G.2.1 G.2.2.2.2 U H
/-- locals, a later store before an older one -/
def fw_lk : List (Nat × Value) → Nat → Option Value
  | [], _ => none
  | q :: L, i => bif Nat.beq q.1 i then some q.2 else fw_lk L i
theorem fw_lk_c (i j : Nat) (v : Value) (L : List (Nat × Value)) : fw_lk ((i, v) :: L) j = if i = j then some v else fw_lk L j := by
  show (bif Nat.beq i j then some v else fw_lk L j) = _
  by_cases h : i = j
  · subst h; simp
  · rw [if_neg h]
    have : Nat.beq i j = false := by
      cases hb : Nat.beq i j with
      | false => rfl
      | true => exact absurd (Nat.eq_of_beq_eq_true hb) h
    rw [this]; rfl
def fw_has (ls : Array Slot) (n : Nat) (L : List (Nat × Value)) : Prop := ls.size = n ∧ lv_wf ls ∧ ∀ (i : Nat) (v : Value), fw_lk L i = some v → ls[i]? = some (.val v)
def fw_all (n : Nat) (L : List (Nat × Value)) : List (Nat × Value) := (List.range n).filterMap (fun i => (fw_lk L i).map (fun v => (i, v)))
theorem fw_has.lv {ls : Array Slot} {n : Nat} {L : List (Nat × Value)} (h : fw_has ls n L) : lv_has ls n (fw_all n L) := by
  refine ⟨h.1, h.2.1, fun q hq => ?_⟩
  obtain ⟨i, -, hi⟩ := List.mem_filterMap.mp hq
  cases hv : fw_lk L i with
  | none => rw [hv] at hi; cases hi
  | some v =>
    rw [hv] at hi
    cases hi
    exact h.2.2 i v hv
theorem fw_all_mem {ls : Array Slot} {n : Nat} {L : List (Nat × Value)} (h : fw_has ls n L) {i : Nat} {v : Value} (hv : fw_lk L i = some v) : (i, v) ∈ fw_all n L := by
  have hl := h.2.2 i v hv
  have hi : i < n := by rw [← h.1]; exact lv_lt hl
  refine List.mem_filterMap.mpr ⟨i, List.mem_range.mpr hi, ?_⟩
  rw [hv]; rfl
def fw_c2 (o : Option Value) : Bool := match o with
  | some v => Nat.beq v.category 2
  | none => false
/-- a store at i harms no long below -/
def fw_ok1 (L : List (Nat × Value)) (i : Nat) : Bool := match i with
  | 0 => true
  | j + 1 => !fw_c2 (fw_lk L j)
def fw_ok2 (L : List (Nat × Value)) (i : Nat) : Bool := fw_ok1 L i && (match fw_lk L (i + 1) with | none => true | some _ => false)
theorem fw_cat2 {v : Value} (h : Nat.beq v.category 2 = false) : (v.category == 2) = false := by
  cases hc : (v.category == 2) with
  | false => rfl
  | true =>
    have e : v.category = 2 := by simpa using hc
    rw [e] at h; cases h
theorem fw_store1 {ls ls' : Array Slot} {n : Nat} {L : List (Nat × Value)} {i : Nat} {v : Value} (h : fw_has ls n L) (ho : fw_ok1 L i = true)
    (h' : lv_has ls' n ((i, v) :: (fw_all n L).filter (fun q => !(q.1 == i) && !(q.1 + 1 == i && q.2.category == 2)))) : fw_has ls' n ((i, v) :: L) := by
  refine ⟨h'.1, h'.2.1, fun j w hj => ?_⟩
  rw [fw_lk_c] at hj
  by_cases e : i = j
  · rw [if_pos e] at hj
    cases hj
    subst e
    exact h'.2.2 (i, v) List.mem_cons_self
  · rw [if_neg e] at hj
    refine h'.2.2 (j, w) (List.mem_cons_of_mem _ (List.mem_filter.mpr ⟨fw_all_mem h hj, ?_⟩))
    have e1 : (j == i) = false := by simpa using fun z => e (Eq.symm z)
    by_cases e2 : j + 1 = i
    · subst e2
      have e3 : fw_c2 (fw_lk L j) = false := by simpa [fw_ok1] using ho
      rw [hj] at e3
      simp only [e1, fw_cat2 e3, Bool.and_false, Bool.not_false, Bool.and_self]
    · have e3 : (j + 1 == i) = false := by simpa using e2
      simp only [e1, e3, Bool.false_and, Bool.not_false, Bool.and_self]
theorem fw_store2 {ls ls' : Array Slot} {n : Nat} {L : List (Nat × Value)} {i : Nat} {v : Value} (h : fw_has ls n L) (ho : fw_ok2 L i = true)
    (h' : lv_has ls' n ((i, v) :: (fw_all n L).filter (fun q => !(q.1 == i) && (!(q.1 == i + 1) && !(q.1 + 1 == i && q.2.category == 2))))) : fw_has ls' n ((i, v) :: L) := by
  unfold fw_ok2 at ho
  obtain ⟨ho1, ho2⟩ := Bool.and_eq_true_iff.mp ho
  refine ⟨h'.1, h'.2.1, fun j w hj => ?_⟩
  rw [fw_lk_c] at hj
  by_cases e : i = j
  · rw [if_pos e] at hj
    cases hj
    subst e
    exact h'.2.2 (i, v) List.mem_cons_self
  · rw [if_neg e] at hj
    refine h'.2.2 (j, w) (List.mem_cons_of_mem _ (List.mem_filter.mpr ⟨fw_all_mem h hj, ?_⟩))
    have e1 : (j == i) = false := by simpa using fun z => e (Eq.symm z)
    have e4 : (j == i + 1) = false := by
      cases hb : (j == i + 1) with
      | false => rfl
      | true =>
        have hz : j = i + 1 := by simpa using hb
        subst hz
        rw [hj] at ho2
        cases ho2
    by_cases e2 : j + 1 = i
    · subst e2
      have e3 : fw_c2 (fw_lk L j) = false := by simpa [fw_ok1] using ho1
      rw [hj] at e3
      simp only [e1, e4, fw_cat2 e3, Bool.and_false, Bool.not_false, Bool.and_self]
    · have e3 : (j + 1 == i) = false := by simpa using e2
      simp only [e1, e4, e3, Bool.false_and, Bool.not_false, Bool.and_self]
theorem fw_has.sub {ls : Array Slot} {n : Nat} {L L' : List (Nat × Value)} (h : fw_has ls n L) (hs : ∀ q ∈ L', fw_lk L q.1 = some q.2) : fw_has ls n L' := by
  refine ⟨h.1, h.2.1, fun i v hi => h.2.2 i v ?_⟩
  induction L' with
  | nil => cases hi
  | cons q L' ih =>
    obtain ⟨j, w⟩ := q
    rw [fw_lk_c] at hi
    by_cases e : j = i
    · rw [if_pos e] at hi
      cases hi
      subst e
      exact hs (j, _) List.mem_cons_self
    · rw [if_neg e] at hi
      exact ih (fun q hq => hs q (List.mem_cons_of_mem _ hq)) hi
/-- what is to hold at its end: by an answer, by a throw -/
abbrev fw_Q : Type := (Option Value → fw_H → Prop) × (String → fw_H → Prop)
def fw_Qc (G : fw_G) (Q : fw_Q) : Array Value → State → Outcome → State → Prop := fun _ _ o t => ∃ (r : Option Value) (h : fw_H), o = .returned r ∧ Q.1 r h ∧ fw_P G h t.heap
def fw_XC (G : fw_G) (Q : fw_Q) : String → State → State → Prop := fun E _ t => ∃ h : fw_H, Q.2 E h ∧ fw_P G h t.heap
/-- the frame's surroundings -/
def fw_C (G : fw_G) (y : fw_M) (p : Program) (R : Room) (s : State) (m : MethodId) (args : Array Value) (meth : Method) (c : Code) : Prop :=
  p.tables.exec = Jvm.exec ∧ c.code = y.2.1 ∧ meth.sig.returnType = y.2.2.2.1 ∧ meth.locks = false ∧ c.maxLocals = y.2.2.1 ∧ s.vm.findClass y.1.cls = some m.cls ∧ meth.name = y.1.name ∧ (∀ w ∈ fw_GW, w.before args s = true) ∧ c.exceptionTable.toList = tableOf y.2.2.2.2 ∧ fw_K G s s.heap ∧ G.2.1 ≤ s.heap.size
def fw_D (G : fw_G) (y : fw_M) (d kc ks : Nat) (h : fw_H) (L : List (Nat × Value)) (R : Room) (s : State) (H : Heap) (locs : List Loc) (cells slots : Nat) (ls : Array Slot) : Prop :=
  fw_P G h H ∧ va_S (fw_A G.2.1) s.heap H locs ∧ (d + 20 ≤ R.frames ∧ 60 * d + 400 ≤ R.locals ∧ cells + kc ≤ R.cells ∧ slots + ks ≤ R.slots) ∧ fw_has ls y.2.2.1 L
/-- from this frame on, the method comes to its end, with Q; d: how deep it may call, kc, ks: cells and slots that it may make -/
def PW (G : fw_G) (y : fw_M) (Q : fw_Q) (d kc ks : Nat) (h : fw_H) (pc : Nat) (L : List (Nat × Value)) (st : List Value) : Prop :=
  ∀ (p : Program) (e : Env) (R : Room) (s : State) (m : MethodId) (args : Array Value) (below : List Frame) (meth : Method) (c : Code) (H : Heap) (locs : List Loc) (cells slots : Nat) (ls : Array Slot),
    fw_C G y p R s m args meth c → fw_D G y d kc ks h L R s H locs cells slots ls →
    W p G.1 e R s m args below meth c H locs cells slots (vx_MQ below (fw_Qc G Q) (fw_XC G Q) args s R.cells R.slots (fw_A G.2.1)) (F0 m pc ls st)
/-- a method's contract -/
def fw_pre (G : fw_G) (h : fw_H) (U : State) : Prop := G.2.1 ≤ U.heap.size ∧ fw_P G h U.heap ∧ fw_K G U U.heap
def fw_rm (d mc ms : Nat) : Room := { frames := d + 20, cells := mc, slots := ms, locals := 60 * d + 400 }
def PM (G : fw_G) (d mc ms : Nat) (y : fw_M) (av : List Value) (h : fw_H) (Q : fw_Q) : Prop :=
  vx_Met G.1 y.1 (fw_cw y :: fw_GW) (fw_rm d mc ms) (va_Pc av (fw_pre G h)) (fw_Qc G Q) (fw_XC G Q) mc ms (fw_A G.2.1)
