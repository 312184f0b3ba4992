/-! CALLS: new cells, calls, throws, contracts -/
section PWN
variable {G : fw_G} {y : fw_M} {Q : fw_Q} {d kc ks : Nat} {h : fw_H} {pc nx a : Nat} {v : Int32} {L : List (Nat × Value)} {st : List Value} {tb : List fw_R}
theorem pw_dast {b n : Nat} {f : Nat → UInt64} {i : Int32} {x : UInt64} (hT : fw_tok y tb) (hr : fw_at tb pc = some (.dastore, nx, a, v)) (ho : h b = some (.inl (3, n, .inr (.inr (.inr (.inl f)))))) (hin : vp_in i n) (kk : ∀ f', f' = vf_upd f i.toNatClampNeg x → PW G y Q d kc ks (fw_up h b (.inl (3, n, .inr (.inr (.inr (.inl f')))))) nx L st) : PW G y Q d kc ks h pc L (.double x :: .int i :: .ref b :: st) := by
  have hd := fw_row hT hr
  have en : nx = pc + 1 := hd.2.1
  intro p e R s m args below meth c H locs cells slots ls C X
  obtain ⟨ws, q0, hP, hD, h3, hq⟩ := X.1.get ho
  exact va_dast C.1 C.2.1 C.2.2.2.2.2.2.2.2.2.1.1 hP hD X.2.1 q0 3 hq (fw_tys_at _ (by decide)) hin hd.1 (fun H1 locs1 g1 g2 g3 => en ▸ kk _ rfl p e R s m args below meth c H1 locs1 cells slots ls C ⟨fw_P.set (o' := .inl (3, n, .inr (.inr (.inr (.inl _))))) h3 hq g1 g2, g3, X.2.2⟩)
/-- an object of a class of ours into an array of that class -/
theorem pw_aast {b n t ci w : Nat} {f : Nat → Option Nat} {i : Int32} {r : vw_C} {fs : List Value} (hT : fw_tok y tb) (hr : fw_at tb pc = some (.aastore, nx, a, v)) (ho : h b = some (.inl (t, n, .inr (.inr (.inr (.inr f)))))) (ht : t < 11) (hw : h w = some (.inr (ci, fs))) (hc : vwCl[ci]? = some r) (hty : fw_ty t = .object r.1) (hin : vp_in i n) (kk : PW G y Q d kc ks (fw_up h b (.inl (t, n, .inr (.inr (.inr (.inr (va_up f i.toNatClampNeg (some w)))))))) nx L st) : PW G y Q d kc ks h pc L (.ref w :: .int i :: .ref b :: st) := by
  have hd := fw_row hT hr
  have en : nx = pc + 1 := hd.2.1
  intro p e R s m args below meth c H locs cells slots ls C X
  obtain ⟨ws, q0, hP, hD, h3, hq⟩ := X.1.get ho
  obtain ⟨qk, hqk⟩ := List.getElem?_of_mem (h3 w _ hw)
  exact va_astq C.1 C.2.1 C.2.2.2.2.2.2.2.2.2.1.1 hP hD X.2.1 q0 t qk ci hq (hty ▸ fw_tys_at _ ht) hqk hc hin hd.1 (fun H1 locs1 g1 g2 g3 => en ▸ kk p e R s m args below meth c H1 locs1 cells slots ls C ⟨fw_P.set (o' := .inl (t, n, .inr (.inr (.inr (.inr (va_up f i.toNatClampNeg (some w))))))) h3 hq g1 g2, g3, X.2.2⟩)
theorem pw_new {idx ci N : Nat} {fs : List Value} (hT : fw_tok y tb) (hr : fw_at tb pc = some (.new idx, nx, a, v)) (hn : fw_new y.1.cls idx ci N fs) (kk : ∀ q, h q = none → G.2.1 ≤ q → PW G y Q d kc ks (fw_up h q (.inr (ci, fs))) nx L (.ref q :: st)) : PW G y Q d (kc + 1) (ks + N) h pc L st := by
  have hd := fw_row hT hr
  have en : nx = pc + 3 := hd.2.1
  obtain ⟨Cn, T, ty, ⟨c1, c2, c3, c4⟩, w1, w2, w3, hfs⟩ := hn
  intro p e R s m args below meth c H locs cells slots ls C X
  have C0 := C
  obtain ⟨hx, hb, hre, hlk, hml, hown, hnm, hts, htab, hK, hN⟩ := C
  obtain ⟨⟨ws, hP, hD, h3⟩, x2, ⟨x3, x4, x5, x6⟩, x7⟩ := X
  refine va_new hx hb hts c2 ty c3 hown (hts _ w1) (hts _ w2) (hts _ w3) hK.1 hP hD x2 (fun q hq => Nat.le_trans hN hq) c1 hfs (by omega) (by omega) hd.1 (fun q H1 g1 g2 g3 => ?_)
  obtain ⟨e1, e2, e3⟩ := fw_P.push (o := .inr (ci, fs)) h3 g1 g2
  exact en ▸ kk q e1 e2 p e R s m args below meth c H1 locs (cells + 1) (slots + N) ls C0 ⟨e3, g3, ⟨x3, x4, by omega, by omega⟩, x7⟩
/-- a new array of a primitive type -/
theorem pw_newa {t N' : Nat} {n : Int32} {a0 : vp_A} {atype : ArrayType} {ty : FieldType} (hT : fw_tok y tb) (hr : fw_at tb pc = some (.newarray atype, nx, a, v)) (ht : t < 11) (hty : newarray.typeOf atype = ty) (hty2 : fw_ty t = ty) (hw : Cond.arrayClass ty ∈ fw_GW) (ha : ∀ cA : ClassId, vp_cell cA a0 = arrV cA N' (fun _ => defaultValue ty)) (hn : ¬ n < 0) (hN9 : n.toNatClampNeg = N') (hbytes : N' * componentBytes ty ≤ 536870912) (kk : ∀ q, h q = none → G.2.1 ≤ q → PW G y Q d kc ks (fw_up h q (.inl (t, a0))) nx L (.ref q :: st)) : PW G y Q d (kc + 1) (ks + N') h pc L (.int n :: st) := by
  have hd := fw_row hT hr
  have en : nx = pc + 2 := hd.2.1
  intro p e R s m args below meth c H locs cells slots ls C X
  have C0 := C
  obtain ⟨hx, hb, hre, hlk, hml, hown, hnm, hts, htab, hK, hN⟩ := C
  obtain ⟨⟨ws, hP, hD, h3⟩, x2, ⟨x3, x4, x5, x6⟩, x7⟩ := X
  refine va_newa hx hb (by rw [hty]; exact hts _ hw) hty hK.1 hP hD x2 (fun q hq => Nat.le_trans hN hq) ha hn hN9 hbytes (by omega) (by omega) hd.1 (fun q cA H1 g0 g1 g2 g3 => ?_)
  have e9 : cA = G.2.2.2.1 t := by
    have r1 := (g0.2 (fw_tys G.2.2.2.1).length (cA, ty) (by rw [List.getElem?_append_right (Nat.le_refl _), Nat.sub_self]; rfl)).2
    have r2 := (hK.1.2 t _ (fw_tys_at G.2.2.2.1 ht)).2
    rw [hty2] at r2
    exact fw_RA1 r1 r2
  subst e9
  obtain ⟨e1, e2, e3⟩ := fw_P.push (o := .inl (t, a0)) h3 g1 g2
  exact en ▸ kk q e1 e2 p e R s m args below meth c H1 locs (cells + 1) (slots + N') ls C0 ⟨e3, g3, ⟨x3, x4, by omega, by omega⟩, x7⟩
/-- a new array of references -/
theorem pw_newq {t N' idx : Nat} {n : Int32} {Cn : String} (hT : fw_tok y tb) (hr : fw_at tb pc = some (.anewarray idx, nx, a, v)) (ht : t < 11) (hty : fw_ty t = .object Cn) (hao : Cn ∈ fw_aos) (hw : Cond.classLink y.1.cls idx Cn ∈ fw_GW) (hn : ¬ n < 0) (hN9 : n.toNatClampNeg = N') (hbytes : N' * 4 ≤ 536870912) (kk : ∀ q, h q = none → G.2.1 ≤ q → PW G y Q d kc ks (fw_up h q (.inl (t, N', .inr (.inr (.inr (.inr (fun _ => none))))))) nx L (.ref q :: st)) : PW G y Q d (kc + 1) (ks + N') h pc L (.int n :: st) := by
  have hd := fw_row hT hr
  have en : nx = pc + 3 := hd.2.1
  intro p e R s m args below meth c H locs cells slots ls C X
  have C0 := C
  obtain ⟨hx, hb, hre, hlk, hml, hown, hnm, hts, htab, hK, hN⟩ := C
  obtain ⟨⟨ws, hP, hD, h3⟩, x2, ⟨x3, x4, x5, x6⟩, x7⟩ := X
  refine va_newq hx hb hown (hts _ hw) (hK.2.2.2.2.2.2.2.2.2.2.1 _ hao) hK.1 hP hD x2 (fun q hq => Nat.le_trans hN hq) hn hN9 hbytes (by omega) (by omega) hd.1 (fun q cA H1 g0 g1 g2 g3 => ?_)
  have e9 : cA = G.2.2.2.1 t := by
    have r1 := (g0.2 (fw_tys G.2.2.2.1).length (cA, .object Cn) (by rw [List.getElem?_append_right (Nat.le_refl _), Nat.sub_self]; rfl)).2
    have r2 := (hK.1.2 t _ (fw_tys_at G.2.2.2.1 ht)).2
    rw [hty] at r2
    exact fw_RA1 r1 r2
  subst e9
  obtain ⟨e1, e2, e3⟩ := fw_P.push (o := .inl (t, N', .inr (.inr (.inr (.inr (fun _ => none)))))) h3 g1 g2
  exact en ▸ kk q e1 e2 p e R s m args below meth c H1 locs (cells + 1) (slots + N') ls C0 ⟨e3, g3, ⟨x3, x4, by omega, by omega⟩, x7⟩
theorem pw_ldc {idx : Nat} {n : Int32} (hT : fw_tok y tb) (hr : fw_at tb pc = some (.ldc idx, nx, a, v)) (hw : Cond.constant y.1.cls idx n ∈ fw_GW) (kk : PW G y Q d kc ks h nx L (.int n :: st)) : PW G y Q d kc ks h pc L st := by
  have hd := fw_row hT hr
  have en : nx = pc + 2 := hd.2.1
  intro p e R s m args below meth c H locs cells slots ls C X
  exact lv_ldc C.1 C.2.1 C.2.2.2.2.2.1 (C.2.2.2.2.2.2.2.1 _ hw) hd.1 (en ▸ kk p e R s m args below meth c H locs cells slots ls C X)
theorem pw_ldc2 {idx : Nat} {n : Int64} (hT : fw_tok y tb) (hr : fw_at tb pc = some (.ldc2_w idx, nx, a, v)) (hw : Cond.constantLong y.1.cls idx n ∈ fw_GW) (kk : PW G y Q d kc ks h nx L (.long n :: st)) : PW G y Q d kc ks h pc L st := by
  have hd := fw_row hT hr
  have en : nx = pc + 3 := hd.2.1
  intro p e R s m args below meth c H locs cells slots ls C X
  exact lv_ldc2 C.1 C.2.1 C.2.2.2.2.2.1 (C.2.2.2.2.2.2.2.1 _ hw) hd.1 (en ▸ kk p e R s m args below meth c H locs cells slots ls C X)
/-- Object.<init> -/
theorem pw_oinit {idx b : Nat} (hT : fw_tok y tb) (hr : fw_at tb pc = some (.invokespecial idx, nx, a, v)) (hw : Cond.methodLink y.1.cls idx Lib.objectInit ∈ fw_GW) (hw2 : Cond.instanceMethod Lib.objectInit ∈ fw_GW) (hw3 : Cond.code Lib.objectInit ⟨#[0xb1]⟩ 1 none ∈ fw_GW) (hst : Nat.ble ((st.map fun v => v.category).sum) 8 = true) (kk : PW G y Q d kc ks h nx L st) : PW G y Q d kc ks h pc L (.ref b :: st) := by
  have hd := fw_row hT hr
  have en : nx = pc + 3 := hd.2.1
  intro p e R s m args below meth c H locs cells slots ls C X
  have h8 : (st.map fun v => v.category).sum ≤ 8 := Nat.le_of_ble_eq_true hst
  obtain ⟨x3, x4, x5, x6⟩ := X.2.2.1
  refine W.objInit C.1 C.2.1 C.2.2.2.2.2.1 (C.2.2.2.2.2.2.2.1 _ hw) (C.2.2.2.2.2.2.2.1 _ hw2) (C.2.2.2.2.2.2.2.1 _ hw3) rfl (by rw [C.2.2.2.2.1]; exact X.2.2.2.1) rfl hd.1 (by omega) (by have := lv_room (m := m) (pc := pc) (ls := ls) (rest := .ref b :: st) h8; omega) ?_
  exact W.eq (g2 := F0 m (pc + 3) ls st) rfl (en ▸ kk p e R s m args below meth c H locs cells slots ls C X)
end PWN
/-! contracts -/
theorem fw_has_of {ls : Array Slot} {n : Nat} {L : List (Nat × Value)} (h : lv_has ls n L) : fw_has ls n L := by
  refine ⟨h.1, h.2.1, fun i v hi => h.2.2 (i, v) ?_⟩
  clear h
  induction L with
  | nil => cases hi
  | cons q L ih =>
    obtain ⟨j, w⟩ := q
    rw [fw_lk_c] at hi
    by_cases e : j = i
    · rw [if_pos e] at hi
      cases hi
      subst e
      exact List.mem_cons_self
    · rw [if_neg e] at hi
      exact List.mem_cons_of_mem _ (ih hi)
theorem fw_blind (G : fw_G) (av : List Value) (h : fw_H) : FrameBlind (va_Pc av (fw_pre G h)) := fun a U g mk q => ⟨q.1, q.2.1, q.2.2.1, va_K.moved (u := U) (U := U.calling g mk a) (Vm.Alike.refl U.vm) q.2.2.2.1, fw_F.same (u := U) (U := U.calling g mk a) rfl q.2.2.2.2⟩
theorem pm_of {G : fw_G} {y : fw_M} {Q : fw_Q} {d mc ms : Nat} {av : List Value} {h : fw_H} {L : List (Nat × Value)} (hn : plainName y.1.cls = true) (hh : y.2.2.2.2 = []) (hL : lv_args 0 av = L) (hlen : Nat.ble (lg_sl av).length y.2.2.1 = true) (k : PW G y Q d mc ms h 0 L []) : PM G d mc ms y av h Q := by
  obtain ⟨y1, y2, y3, y4, y5⟩ := y
  cases hh
  refine vx_ofW (cc := y2) (maxL := y3) (ret := y4) hn rfl ?_
  intro p e s m args below meth c s₁ B hml htab hv
  obtain ⟨rfl, hN, hP, hK⟩ := hv
  have hts := atoms_spec (ws := Cond.code y1 y2 y3 y4 :: fw_GW) B.pre
  have hown : s.vm.findClass y1.cls = some m.cls := findClass_of_methodNamed B.named
  have hin : meth.name = y1.name := (name_of_methodNamed B.named B.method).1
  have hl := lv_entry av (n := y3) (Nat.le_of_ble_eq_true hlen)
  rw [lg_entry_eq]
  rw [hL] at hl
  refine k p e (fw_rm d mc ms) s m _ below meth c s.heap [] 0 0 _ ⟨B.exec, B.bytes, B.returns, B.notSynchronized, hml, hown, hin, fun w hw => hts w (List.mem_cons_of_mem _ hw), ?_, hK, hN⟩ ⟨hP, va_S.rf, ⟨Nat.le_refl _, Nat.le_refl _, by show 0 + mc ≤ mc; omega, by show 0 + ms ≤ ms; omega⟩, fw_has_of hl⟩
  show c.exceptionTable.toList = []
  exact List.eq_nil_iff_forall_not_mem.mpr (fun x hx => htab x hx)
/-- a throw stands over the frame -/
def PX (G : fw_G) (y : fw_M) (Q : fw_Q) (d kc ks : Nat) (h : fw_H) (pc : Nat) (L : List (Nat × Value)) (E : String) : Prop :=
  ∀ (p : Program) (e : Env) (R : Room) (s : State) (m : MethodId) (args : Array Value) (below : List Frame) (meth : Method) (c : Code) (H : Heap) (locs : List Loc) (cells slots : Nat) (ls : Array Slot) (rest : List Value) (q : Addr) (ce : Cell),
    fw_C G y p R s m args meth c → fw_D G y d kc ks h L R s H locs cells slots ls → H[q]? = some ce → ce.vm = .none → s.vm.findClass E = some ce.cls →
    vx_W p G.1 e R s m args below meth c H locs cells slots (vx_MQ below (fw_Qc G Q) (fw_XC G Q) args s R.cells R.slots (fw_A G.2.1)) (F0 m pc ls rest) q
theorem px_out {G : fw_G} {y : fw_M} {Q : fw_Q} {d kc ks : Nat} {h : fw_H} {pc : Nat} {L : List (Nat × Value)} {E : String} (hh : y.2.2.2.2 = []) (hq : Q.2 E h) : PX G y Q d kc ks h pc L E := by
  intro p e R s m args below meth c H locs cells slots ls rest q ce C X h1 h2 h3
  obtain ⟨hx, hb, hre, hlk, hml, hown, hnm, hts, htab, hK, hN⟩ := C
  obtain ⟨x1, x2, ⟨x3, x4, x5, x6⟩, x7⟩ := X
  rw [hh] at htab
  refine vx_out (fun x hx => ?_) hlk h1 h2 h3 (fun t ht _ => ⟨h, hq, by rw [ht]; exact x1⟩) (fun z hz => x2.2.2 z hz) (by omega) (by omega)
  rw [htab] at hx
  cases hx
section PWC
variable {p : Program} {l : Launch} {e : Env} {R : Room} {s : State} {m : MethodId} {args : Array Value} {below : List Frame} {meth : Method} {c : Code} {H : Heap} {locs : List Loc} {cells slots : Nat}
theorem fw_S9 {N0 : Nat} {T' : State} {L : List Loc} {k n : Nat} (X : Stand p l e R s m args below meth c T' (locs ++ L) k n) (h1 : ∀ q ∈ locs, fw_A N0 q.base) (h2 : ∀ q ∈ L, fw_A N0 q.base) : va_S (fw_A N0) s.heap T'.heap (locs ++ L) := by
  have hall : ∀ q ∈ locs ++ L, fw_A N0 q.base := fun q hq => (List.mem_append.mp hq).elim (h1 q) (h2 q)
  obtain ⟨f1, f2⟩ := vx_frame (U := T') X.same
  exact ⟨f1, fun q hq hn => f2 q hq (fun z hz e => hn (e ▸ hall z hz)), hall⟩
/-- behind a call -/
theorem fw_after {G : fw_G} {y : fw_M} {Q Q' : fw_Q} {d kc ks kc' ks' mc ms pc : Nat} {h : fw_H} {L : List (Nat × Value)} {ls : Array Slot} {st rest : List Value} {a : Array Value}
    (hr : vx_Run p G.1 e R s m args below meth c H locs cells slots mc ms (F0 m pc ls st) rest (fw_Qc G Q' a) (fw_XC G Q') (fw_A G.2.1)) (C : fw_C G y p R s m args meth c) (X : fw_D G y d kc ks h L R s H locs cells slots ls) (hc : mc + kc' ≤ kc) (hs : ms + ks' ≤ ks)
    (kr : ∀ r h', Q'.1 r h' → PW G y Q d kc' ks' h' (pc + 3) L (r.toList ++ rest)) (kx : ∀ E h', Q'.2 E h' → PX G y Q d kc' ks' h' pc L E) : W p G.1 e R s m args below meth c H locs cells slots (vx_MQ below (fw_Qc G Q) (fw_XC G Q) args s R.cells R.slots (fw_A G.2.1)) (F0 m pc ls st) := by
  intro T hT XS
  obtain ⟨x1, x2, ⟨x3, x4, x5, x6⟩, x7⟩ := X
  rcases hr T hT XS with ⟨r0, st₀, t, T', L9, e0, X', hL, e1, e2, ⟨r, h', e3, hq, hP⟩, st9⟩ | ⟨q, st₀, t, T', L9, E, ce, e0, X', hL, e1, e2, ⟨h', hq, hP⟩, hce, hcv, hcl, st9⟩
  · cases e3
    have hS := fw_S9 X' x2.2.2 hL
    obtain ⟨t2, a1, b1⟩ := kr _ h' hq p e R s m args below meth c T'.heap (locs ++ L9) (cells + mc) (slots + ms) ls C ⟨by rw [e1]; exact hP, hS, ⟨x3, x4, by omega, by omega⟩, x7⟩ T' rfl X'
    exact ⟨t2, st9 t2 a1, b1⟩
  · have hS := fw_S9 X' x2.2.2 hL
    obtain ⟨t2, a1, b1⟩ := kx E h' hq p e R s m args below meth c T'.heap (locs ++ L9) (cells + mc) (slots + ms) ls rest q ce C ⟨by rw [e1]; exact hP, hS, ⟨x3, x4, by omega, by omega⟩, x7⟩ (by rw [e1]; exact hce) hcv hcl T' rfl X'
    exact ⟨t2, st9.trans a1, b1⟩
theorem fw_pre_at {G : fw_G} {y : fw_M} {d kc ks : Nat} {h : fw_H} {L : List (Nat × Value)} {ls : Array Slot} {av : List Value} (C : fw_C G y p R s m args meth c) (X : fw_D G y d kc ks h L R s H locs cells slots ls) : ∀ U : State, U.heap = H → s.WarmedH U.vm → va_Pc av (fw_pre G h) av.toArray U := by
  intro U hU hW
  obtain ⟨hx, hb, hre, hlk, hml, hown, hnm, hts, htab, hK, hN⟩ := C
  refine ⟨rfl, by rw [hU]; exact Nat.le_trans hN X.2.1.1, by rw [hU]; exact X.1, va_K.moved hW.alike hK.1, ?_⟩
  rw [hU]
  exact fw_F.warm hW (fw_F.kept hK.2 (fun a ha hn => X.2.1.2.1 a ha hn))
end PWC
theorem fw_met {l : Launch} {y : MethodName} {ws : List Cond} {rm : Room} {Pc : Array Value → State → Prop} {Qc : Array Value → State → Outcome → State → Prop} {XC : String → State → State → Prop} {mc ms : Nat} {free : Addr → Prop} (h : vx_Met l y ws rm Pc Qc XC mc ms free) (hX : ∀ E s t, ¬ XC E s t) : Met l y ws rm Pc Qc mc ms free := by
  intro p e h1 h2 h3 s m args below h4 h5 h6 h7
  obtain ⟨n, o, a, b, c, d⟩ := h p e h1 h2 h3 s m args below h4 h5 h6 h7
  refine ⟨n, o, a, b, c, ?_⟩
  rcases d with d | ⟨q, -, E, ce, L, hx, -⟩
  · exact d
  · exact absurd hx (hX E _ _)
theorem fw_run_x {p : Program} {l : Launch} {e : Env} {R : Room} {s : State} {m : MethodId} {args : Array Value} {below : List Frame} {meth : Method} {c : Code} {H : Heap} {locs : List Loc} {cells slots mc ms : Nat} {g : JFrame} {rest : List Value} {Qa : State → Outcome → State → Prop} {XC : String → State → State → Prop} {free : Addr → Prop} (h : va_Run p l e R s m args below meth c H locs cells slots mc ms g rest Qa free) : vx_Run p l e R s m args below meth c H locs cells slots mc ms g rest Qa XC free := fun T hT X => by
  obtain ⟨v, st₀, t, T', L, h1, h2, h3, h4, h5, h6, h7⟩ := h T hT X
  exact Or.inl ⟨v, st₀, t, T', L, h1, h2, h3, h4, h5, h6, h7⟩
set_option maxRecDepth 20000 in
theorem fw_fr {R : Room} {d d' mc ms maxL : Nat} (h1 : d + 20 ≤ R.frames) (h2 : 60 * d + 400 ≤ R.locals) (h3 : d' < d) (h4 : maxL ≤ 30) : (fw_rm d' mc ms).frames + 1 ≤ R.frames ∧ 8 + (maxL + 11) + (fw_rm d' mc ms).locals ≤ R.locals := by
  refine ⟨?_, ?_⟩
  · simp only [fw_rm]; omega
  · simp only [fw_rm]; omega
section PWC2
variable {G : fw_G} {y : fw_M} {Q Q' : fw_Q} {d d' kc ks kc' ks' mc ms : Nat} {h : fw_H} {pc nx a idx n : Nat} {v : Int32} {L : List (Nat × Value)} {st rest As : List Value} {tb : List fw_R} {y' : fw_M}
/-- invokestatic -/
theorem pw_cs (hT : fw_tok y tb) (hr : fw_at tb pc = some (.invokestatic idx, nx, a, v)) (hc : fw_cal y' n) (hw : Cond.methodLink y.1.cls idx y'.1 ∈ fw_GW) (hw2 : Cond.static y'.1 ∈ fw_GW) (hM : PM G d' mc ms y' As h Q') (hst : st = As.reverse ++ rest) (hn : As.length = n) (h8 : Nat.ble ((rest.map fun v => v.category).sum) 8 = true) (hd : d' < d) (hmc : mc + kc' ≤ kc) (hms : ms + ks' ≤ ks)
    (kr : ∀ r h', Q'.1 r h' → PW G y Q d kc' ks' h' nx L (r.toList ++ rest)) (kx : ∀ E h', Q'.2 E h' → PX G y Q d kc' ks' h' pc L E) : PW G y Q d kc ks h pc L st := by
  have hd9 := fw_row hT hr
  have en : nx = pc + 3 := hd9.2.1
  subst en
  obtain ⟨c1, c2, c3, c4, c5⟩ := hc
  have c5 := Nat.le_of_ble_eq_true c5
  intro p e R s m args below meth c H locs cells slots ls C X
  obtain ⟨x3, x4, x5, x6⟩ := X.2.2.1
  have hts := C.2.2.2.2.2.2.2.1
  have hfr : (fw_rm d' mc ms).frames + 1 ≤ R.frames ∧ 8 + (y'.2.2.1 + 11) + (fw_rm d' mc ms).locals ≤ R.locals := fw_fr x3 x4 hd c5
  refine fw_after (st := st) (vx_runS (As := As) (rest := rest) ⟨C.1, C.2.1, C.2.2.2.2.1, C.2.2.2.2.2.1, hts⟩ hM ⟨callB_of n hts (fw_goodc c1) (by rw [fw_code c4]) rfl rfl (hts _ c2) (hts _ hw) c3 hfr, hts _ hw2⟩ ⟨fw_blind G As h, fw_pre_at C X⟩ rfl hn X.2.2.2.1 hst (lv_room (Nat.le_of_ble_eq_true h8)) hd9.1 ⟨by omega, by omega⟩) C X hmc hms kr kx
/-- invokevirtual, the receiver of the method's own class -/
theorem pw_cv {b ci : Nat} {fs : List Value} {r9 : vw_C} (hT : fw_tok y tb) (hr : fw_at tb pc = some (.invokevirtual idx, nx, a, v)) (hc : fw_cal y' n) (hw : Cond.methodLink y.1.cls idx y'.1 ∈ fw_GW) (hw2 : Cond.instanceMethod y'.1 ∈ fw_GW) (hw3 : Cond.selects y'.1.cls y'.1 y'.1 ∈ fw_GW) (ho : h b = some (.inr (ci, fs))) (hci : vwCl[ci]? = some r9) (hr9 : r9.1 = y'.1.cls) (hM : PM G d' mc ms y' (.ref b :: As) h Q') (hst : st = As.reverse ++ .ref b :: rest) (hn : As.length = n) (h8 : Nat.ble ((rest.map fun v => v.category).sum) 8 = true) (hd : d' < d) (hmc : mc + kc' ≤ kc) (hms : ms + ks' ≤ ks)
    (kr : ∀ r h', Q'.1 r h' → PW G y Q d kc' ks' h' nx L (r.toList ++ rest)) (kx : ∀ E h', Q'.2 E h' → PX G y Q d kc' ks' h' pc L E) : PW G y Q d kc ks h pc L st := by
  have hd9 := fw_row hT hr
  have en : nx = pc + 3 := hd9.2.1
  subst en
  obtain ⟨c1, c2, c3, c4, c5⟩ := hc
  have c5 := Nat.le_of_ble_eq_true c5
  intro p e R s m args below meth c H locs cells slots ls C X
  obtain ⟨x3, x4, x5, x6⟩ := X.2.2.1
  have hts := C.2.2.2.2.2.2.2.1
  have hK := C.2.2.2.2.2.2.2.2.2.1
  have hfr : (fw_rm d' mc ms).frames + 1 ≤ R.frames ∧ 8 + (y'.2.2.1 + 11) + (fw_rm d' mc ms).locals ≤ R.locals := fw_fr x3 x4 hd c5
  obtain ⟨ws, q0, hP, hD, h3, hq⟩ := X.1.get ho
  refine fw_after (st := st) (vx_runV (C := y'.1.cls) (b := b) (As := As) (rest := rest) ⟨C.1, C.2.1, C.2.2.2.2.1, C.2.2.2.2.2.1, hts⟩ hM ⟨callB_of n hts (fw_goodc c1) (by rw [fw_code c4]) rfl rfl (hts _ c2) (hts _ hw) c3 hfr, hts _ hw2, hts _ hw3⟩ ⟨fw_blind G (.ref b :: As) h, hr9 ▸ va_recv hK.1 hP hci hq, fw_pre_at C X⟩ rfl hn X.2.2.2.1 hst (lv_room (Nat.le_of_ble_eq_true h8)) hd9.1 ⟨by omega, by omega⟩) C X hmc hms kr kx
/-- a constructor (it throws nothing), of a class or of a nest mate -/
theorem pw_ci {b : Nat} (hT : fw_tok y tb) (hr : fw_at tb pc = some (.invokespecial idx, nx, a, v)) (hc : fw_cal y' n) (hw : Cond.methodLink y.1.cls idx y'.1 ∈ fw_GW ∨ ∃ host, Cond.methodLinkNest y.1.cls idx y'.1 host ∈ fw_NW) (hw2 : Cond.instanceMethod y'.1 ∈ fw_GW) (hi : y'.1.name = "<init>") (hret : y'.2.2.2.1 = none) (hM : PM G d' mc ms y' (.ref b :: As) h Q') (hX : ∀ E h', ¬ Q'.2 E h') (hst : st = As.reverse ++ .ref b :: rest) (hn : As.length = n) (h8 : Nat.ble ((rest.map fun v => v.category).sum) 8 = true) (hd : d' < d) (hmc : mc + kc' ≤ kc) (hms : ms + ks' ≤ ks)
    (kr : ∀ r h', Q'.1 r h' → PW G y Q d kc' ks' h' nx L (r.toList ++ rest)) : PW G y Q d kc ks h pc L st := by
  have hd9 := fw_row hT hr
  have en : nx = pc + 3 := hd9.2.1
  subst en
  obtain ⟨c1, c2, c3, c4, c5⟩ := hc
  have c5 := Nat.le_of_ble_eq_true c5
  obtain ⟨y1, y2, y3, y4, y5⟩ := y'
  cases hret
  cases c4
  intro p e R s m args below meth c H locs cells slots ls C X
  obtain ⟨x3, x4, x5, x6⟩ := X.2.2.1
  have hts := C.2.2.2.2.2.2.2.1
  have hK := C.2.2.2.2.2.2.2.2.2.1
  have c5 : y3 ≤ 30 := c5
  have hfr : (fw_rm d' mc ms).frames + 1 ≤ R.frames ∧ 8 + (y3 + 11) + (fw_rm d' mc ms).locals ≤ R.locals := fw_fr x3 x4 hd c5
  have hMet := fw_met hM (fun E s t hx => hX E _ hx.choose_spec.1)
  rcases hw with hw | ⟨host, hw⟩
  · exact fw_after (st := st) (fw_run_x (va_runI (b := b) (As := As) (rest := rest) ⟨C.1, C.2.1, C.2.2.2.2.1, C.2.2.2.2.2.1, hts⟩ hMet (cwI n hts (fw_goodc c1) rfl rfl rfl (hts _ c2) (hts _ hw) (hts _ hw2) hi c3 hfr) ⟨fw_blind G (.ref b :: As) h, fw_pre_at C X⟩ rfl hn X.2.2.2.1 hst (lv_room (Nat.le_of_ble_eq_true h8)) hd9.1 ⟨by omega, by omega⟩)) C X hmc hms kr (fun E h' hx => absurd hx (hX E h'))
  · exact fw_after (st := st) (fw_run_x (va_runIN (b := b) (As := As) (rest := rest) ⟨C.1, C.2.1, C.2.2.2.2.1, C.2.2.2.2.2.1, hts⟩ hMet ⟨va_cnB n hts (fw_goodc c1) rfl rfl rfl (hK.2.2.2.2.2.2.2.2.1 _ hw) (hts _ c2) c3 hfr, hi, hts _ hw2⟩ ⟨fw_blind G (.ref b :: As) h, fw_pre_at C X⟩ rfl hn X.2.2.2.1 hst (lv_room (Nat.le_of_ble_eq_true h8)) hd9.1 ⟨by omega, by omega⟩)) C X hmc hms kr (fun E h' hx => absurd hx (hX E h'))
/-- invokestatic of a nest mate's private method (it throws nothing) -/
theorem pw_csN {host : String} (hT : fw_tok y tb) (hr : fw_at tb pc = some (.invokestatic idx, nx, a, v)) (hc : fw_cal y' n) (hw : Cond.methodLinkNest y.1.cls idx y'.1 host ∈ fw_NW) (hw2 : Cond.static y'.1 ∈ fw_GW) (hM : PM G d' mc ms y' As h Q') (hX : ∀ E h', ¬ Q'.2 E h') (hst : st = As.reverse ++ rest) (hn : As.length = n) (h8 : Nat.ble ((rest.map fun v => v.category).sum) 8 = true) (hd : d' < d) (hmc : mc + kc' ≤ kc) (hms : ms + ks' ≤ ks)
    (kr : ∀ r h', Q'.1 r h' → PW G y Q d kc' ks' h' nx L (r.toList ++ rest)) : PW G y Q d kc ks h pc L st := by
  have hd9 := fw_row hT hr
  have en : nx = pc + 3 := hd9.2.1
  subst en
  obtain ⟨c1, c2, c3, c4, c5⟩ := hc
  have c5 := Nat.le_of_ble_eq_true c5
  intro p e R s m args below meth c H locs cells slots ls C X
  obtain ⟨x3, x4, x5, x6⟩ := X.2.2.1
  have hts := C.2.2.2.2.2.2.2.1
  have hK := C.2.2.2.2.2.2.2.2.2.1
  have hfr : (fw_rm d' mc ms).frames + 1 ≤ R.frames ∧ 8 + (y'.2.2.1 + 11) + (fw_rm d' mc ms).locals ≤ R.locals := fw_fr x3 x4 hd c5
  have hMet := fw_met hM (fun E s t hx => hX E _ hx.choose_spec.1)
  exact fw_after (st := st) (fw_run_x (va_runSN (As := As) (rest := rest) ⟨C.1, C.2.1, C.2.2.2.2.1, C.2.2.2.2.2.1, hts⟩ hMet ⟨va_cnB n hts (fw_goodc c1) (by rw [fw_code c4]) rfl rfl (hK.2.2.2.2.2.2.2.2.1 _ hw) (hts _ c2) c3 hfr, hts _ hw2, trivial⟩ ⟨fw_blind G As h, fw_pre_at C X⟩ rfl hn X.2.2.2.1 hst (lv_room (Nat.le_of_ble_eq_true h8)) hd9.1 ⟨by omega, by omega⟩)) C X hmc hms kr (fun E h' hx => absurd hx (hX E h'))
end PWC2
