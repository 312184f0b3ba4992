/-! THROWS: new X(text) thrown; handlers; methods with handlers -/
theorem fw_P.kept {G : fw_G} {h : fw_H} {H H1 : Heap} (hP : fw_P G h H) (hq : ∀ q : Nat, q < H.size → H1[q]? = H[q]?) : fw_P G h H1 := by
  obtain ⟨ws, h1, h2, h3⟩ := hP
  exact ⟨ws, h1.kept (fun k q hk => hq q.1 (h1 k q hk).lt), h2, h3⟩
theorem fw_sub2 {ws : List Cond} (ps : List Nat) (hp : ws = ps.filterMap (fun i => lw_tbl[i]?)) (hg : ws.all (fun w => goodWord w || fw_ww w) = true) : ∀ w ∈ ws, w ∈ fw_GW ∨ w ∈ fw_NW := by
  intro w hw
  have h1 := List.all_eq_true.mp hg w hw
  rw [hp] at hw
  obtain ⟨i, -, hi⟩ := List.mem_filterMap.mp hw
  rcases Bool.or_eq_true_iff.mp h1 with g | g
  · exact Or.inl (fw_gw i hi g)
  · exact Or.inr (fw_nw i hi g)
/-- a throw of a new cls with a text -/
def fw_thr (own : String) (ik ic is : Nat) (text cls : String) (names : List String) : Prop :=
  own = "Termreckonry" ∧ Bundle.fit cls = true ∧ (∀ n ∈ names, Bundle.fit n = true) ∧ Cond.classLink own ik cls ∈ fw_GW ∧ Cond.initialized cls ∈ fw_GW ∧ (is, text) ∈ fw_strs ∧ (∀ w ∈ vx_atS own ic cls names, w ∈ fw_GW ∨ w ∈ fw_NW) ∧ names.length = 2
theorem fw_ot1 {w : Cond} (h : w ∈ fw_GW) : vx_ot w = true := by
  unfold vx_ot
  rw [(List.mem_filter.mp h).2, Bool.or_true]
theorem fw_ot2 {w : Cond} (h : w ∈ fw_NW) : vx_ot w = true := by
  unfold vx_ot
  rw [fw_ww_on (List.mem_filter.mp h).2, Bool.true_or]
section PWT
variable {G : fw_G} {y : fw_M} {Q : fw_Q} {d kc ks : Nat} {h : fw_H} {pc : Nat} {L : List (Nat × Value)} {st : List Value} {tb : List fw_R} {ik ic is : Nat} {text cls : String} {names : List String} {p3 p4 p5 p6 p7 : Nat × Nat × Int32}
theorem pw_throw (hl : G.1.stackTraces = false) (hh : y.2.2.2.2 = []) (ht : fw_thr y.1.cls ik ic is text cls names) (hT : fw_tok y tb) (r0 : fw_at tb pc = some (.new ik, p3)) (r3 : fw_at tb (pc + 3) = some (.dup, p4)) (r4 : fw_at tb (pc + 4) = some (.ldc is, p5)) (r6 : fw_at tb (pc + 6) = some (.invokespecial ic, p6)) (r9 : fw_at tb (pc + 9) = some (.athrow, p7)) (h8 : Nat.ble ((st.map fun v => v.category).sum) 8 = true) (hQ : Q.2 cls h) : PW G y Q d (kc + 1) (ks + 6) h pc L st := by
  obtain ⟨t0, t1, t2, t3, t4, t5, t6, t7⟩ := ht
  have h8 := Nat.le_of_ble_eq_true h8
  intro p e R s m args below meth c H locs cells slots ls C X
  obtain ⟨hx, hb, hre, hlk, hml, hown, hnm, hts, htab, hK, hN⟩ := C
  obtain ⟨x1, x2, ⟨x3, x4, x5, x6⟩, x7⟩ := X
  obtain ⟨sa, hsa⟩ := hK.2.2.2.1 _ t5
  rw [hh] at htab
  refine vx_throwS hx hb hl hown t1 t2 (hts _ t3) (hts _ t4) (text := text) (is := is) (sa := sa) (t0 ▸ hsa) (ic := ic) (fun w hw => (t6 w hw).elim (hts w) (fun z => va_Nw.use (fw_ww_on (List.mem_filter.mp z).2) (hK.2.2.2.2.2.2.2.2.1 _ z))) (fun w hw => ?_) hK.2.2.1.1 hK.2.2.1.2 x2 (x7.1.trans hml.symm) (fw_row hT r0).1 (fw_row hT r3).1 (fw_row hT r4).1 (fw_row hT r6).1 (fw_row hT r9).1 (fun x hx => ?_) (by omega) (by rw [t7]; omega) (by omega) (by omega) hlk (fun t _ z1 z2 => ⟨h, hQ, x1.kept z2⟩) (fun z hz => x2.2.2 z hz) (by omega) (by omega)
  · rcases List.mem_cons.mp hw with e1 | hw
    · rw [e1]; exact fw_ot1 t3
    · rcases List.mem_cons.mp hw with e1 | hw
      · rw [e1]; exact fw_ot1 t4
      · exact (t6 w hw).elim fw_ot1 fw_ot2
  · rw [htab] at hx
    cases hx
theorem pw_throwW (hl : G.1.stackTraces = false) (hh : y.2.2.2.2 = []) (ht : fw_thr y.1.cls ik ic is text cls names) (hT : fw_tok y tb) (r0 : fw_at tb pc = some (.new ik, p3)) (r3 : fw_at tb (pc + 3) = some (.dup, p4)) (r4 : fw_at tb (pc + 4) = some (.ldc_w is, p5)) (r7 : fw_at tb (pc + 7) = some (.invokespecial ic, p6)) (r10 : fw_at tb (pc + 10) = some (.athrow, p7)) (h8 : Nat.ble ((st.map fun v => v.category).sum) 8 = true) (hQ : Q.2 cls h) : PW G y Q d (kc + 1) (ks + 6) h pc L st := by
  obtain ⟨t0, t1, t2, t3, t4, t5, t6, t7⟩ := ht
  have h8 := Nat.le_of_ble_eq_true h8
  intro p e R s m args below meth c H locs cells slots ls C X
  obtain ⟨hx, hb, hre, hlk, hml, hown, hnm, hts, htab, hK, hN⟩ := C
  obtain ⟨x1, x2, ⟨x3, x4, x5, x6⟩, x7⟩ := X
  obtain ⟨sa, hsa⟩ := hK.2.2.2.1 _ t5
  rw [hh] at htab
  refine vx_throwSW hx hb hl hown t1 t2 (hts _ t3) (hts _ t4) (text := text) (is := is) (sa := sa) (t0 ▸ hsa) (ic := ic) (fun w hw => (t6 w hw).elim (hts w) (fun z => va_Nw.use (fw_ww_on (List.mem_filter.mp z).2) (hK.2.2.2.2.2.2.2.2.1 _ z))) (fun w hw => ?_) hK.2.2.1.1 hK.2.2.1.2 x2 (x7.1.trans hml.symm) (fw_row hT r0).1 (fw_row hT r3).1 (fw_row hT r4).1 (fw_row hT r7).1 (fw_row hT r10).1 (fun x hx => ?_) (by omega) (by rw [t7]; omega) (by omega) (by omega) hlk (fun t _ z1 z2 => ⟨h, hQ, x1.kept z2⟩) (fun z hz => x2.2.2 z hz) (by omega) (by omega)
  · rcases List.mem_cons.mp hw with e1 | hw
    · rw [e1]; exact fw_ot1 t3
    · rcases List.mem_cons.mp hw with e1 | hw
      · rw [e1]; exact fw_ot1 t4
      · exact (t6 w hw).elim fw_ot1 fw_ot2
  · rw [htab] at hx
    cases hx
theorem pw_ldcw {idx nx a : Nat} {v n : Int32} (hT : fw_tok y tb) (hr : fw_at tb pc = some (.ldc_w idx, nx, a, v)) (hw : Cond.constant y.1.cls idx n ∈ fw_GW) (kk : PW G y Q d kc ks h nx L (.int n :: st)) : PW G y Q d kc ks h pc L st := by
  have hd := fw_row hT hr
  have en : nx = pc + 3 := hd.2.1
  intro p e R s m args below meth c H locs cells slots ls C X
  exact lv_ldcw C.1 C.2.1 C.2.2.2.2.2.1 (C.2.2.2.2.2.2.2.1 _ hw) hd.1 (en ▸ kk p e R s m args below meth c H locs cells slots ls C X)
/-- caught here: past rows that name other classes -/
theorem px_catch {E : String} (pre : List ExceptionTableEntry) (x : ExceptionTableEntry) (suf : List ExceptionTableEntry) (hsplit : tableOf y.2.2.2.2 = pre ++ x :: suf) (hE : E ∈ fw_exs) (hpass : ∀ z ∈ pre, covers z pc = false ∨ (z.catchType ≠ 0 ∧ ∃ nm ∈ fw_exs, E ≠ nm ∧ Cond.classLink y.1.cls z.catchType nm ∈ fw_GW)) (hx : covers x pc = true) (h0 : x.catchType ≠ 0) (hw : Cond.classLink y.1.cls x.catchType E ∈ fw_GW) (hc : Cond.castable E E ∈ fw_NW) (kk : ∀ q, PW G y Q d kc ks h x.handlerPc L [.ref q]) : PX G y Q d kc ks h pc L E := by
  intro p e R s m args below meth c H locs cells slots ls rest q ce C X h1 h2 h3
  have C0 := C
  obtain ⟨hx0, hb, hre, hlk, hml, hown, hnm, hts, htab, hK, hN⟩ := C
  refine vx_catch hown pre x suf (htab.trans hsplit) (fun z hz => (hpass z hz).imp id (fun ⟨z0, nm, n1, n2, n3⟩ => ⟨z0, nm, hts _ n3, hK.2.2.2.2.2.2.2.2.2.1 _ hE _ n1 n2⟩)) hx h0 (hts _ hw) (va_Nw.use (fw_ww_on (List.mem_filter.mp hc).2) (hK.2.2.2.2.2.2.2.2.1 _ hc)) h1 h2 h3 (kk q p e R s m args below meth c H locs cells slots ls C0 X)
end PWT
theorem fw_codeH {y' : fw_M} {q : Nat × Nat × Nat × Nat} {r : List (Nat × Nat × Nat × Nat)} (h : y'.2.2.2.2 = q :: r) : fw_cw y' = Cond.codeWith y'.1 y'.2.1 y'.2.2.1 y'.2.2.2.1 y'.2.2.2.2 := by
  unfold fw_cw
  rw [h]
theorem pm_ofH {G : fw_G} {y : fw_M} {Q : fw_Q} {d mc ms : Nat} {av : List Value} {h : fw_H} {L : List (Nat × Value)} {q : Nat × Nat × Nat × Nat} {r : List (Nat × Nat × Nat × Nat)} (hn : plainName y.1.cls = true) (hh : y.2.2.2.2 = q :: r) (hL : lv_args 0 av = L) (hlen : Nat.ble (lg_sl av).length y.2.2.1 = true) (k : PW G y Q d mc ms h 0 L []) : PM G d mc ms y av h Q := by
  obtain ⟨y1, y2, y3, y4, y5⟩ := y
  cases hh
  refine vx_ofWH (cc := y2) (maxL := y3) (ret := y4) (hh := q :: r) hn rfl ?_
  intro p e s m args below meth c s₁ B hml hv
  obtain ⟨rfl, hN, hP, hK⟩ := hv
  have hts := atoms_spec (ws := Cond.codeWith y1 y2 y3 y4 (q :: r) :: fw_GW) B.pre
  have hown : s.vm.findClass y1.cls = some m.cls := findClass_of_methodNamed B.named
  have hin : meth.name = y1.name := (name_of_methodNamed B.named B.method).1
  have hl := lv_entry av (n := y3) (Nat.le_of_ble_eq_true hlen)
  rw [lg_entry_eq]
  rw [hL] at hl
  exact k p e (fw_rm d mc ms) s m _ below meth c s.heap [] 0 0 _ ⟨B.exec, B.bytes, B.returns, B.notSynchronized, hml, hown, hin, fun w hw => hts w (List.mem_cons_of_mem _ hw), vx_table (x := y1) B (hts _ List.mem_cons_self), hK, hN⟩ ⟨hP, va_S.rf, ⟨Nat.le_refl _, Nat.le_refl _, by show 0 + mc ≤ mc; omega, by show 0 + ms ≤ ms; omega⟩, fw_has_of hl⟩
/-- invokestatic of a method with handlers (it throws nothing) -/
def fw_calH (y' : fw_M) (n : Nat) : Prop := fw_cw y' ∈ fw_GW ∧ Cond.initialized y'.1.cls ∈ fw_GW ∧ (y'.1.cls ≠ "java/lang/invoke/MethodHandle" ∧ y'.1.cls ≠ "java/lang/invoke/VarHandle" ∧ (parseMethodDescriptor y'.1.desc).map (fun d => d.parameters.length) = some n) ∧ (∃ q r, y'.2.2.2.2 = q :: r) ∧ Nat.ble y'.2.2.1 30 = true
theorem pw_csH {G : fw_G} {y : fw_M} {Q Q' : fw_Q} {d d' kc ks kc' ks' mc ms : Nat} {h : fw_H} {pc nx a idx n : Nat} {v : Int32} {L : List (Nat × Value)} {st rest As : List Value} {tb : List fw_R} {y' : fw_M} (hT : fw_tok y tb) (hr : fw_at tb pc = some (.invokestatic idx, nx, a, v)) (hc : fw_calH y' n) (hw : Cond.methodLink y.1.cls idx y'.1 ∈ fw_GW) (hw2 : Cond.static y'.1 ∈ fw_GW) (hM : PM G d' mc ms y' As h Q') (hX : ∀ E h', ¬ Q'.2 E h') (hst : st = As.reverse ++ rest) (hn : As.length = n) (h8 : Nat.ble ((rest.map fun v => v.category).sum) 8 = true) (hd : d' < d) (hmc : mc + kc' ≤ kc) (hms : ms + ks' ≤ ks)
    (kr : ∀ r h', Q'.1 r h' → PW G y Q d kc' ks' h' nx L (r.toList ++ rest)) : PW G y Q d kc ks h pc L st := by
  have hd9 := fw_row hT hr
  have en : nx = pc + 3 := hd9.2.1
  subst en
  obtain ⟨c1, c2, c3, ⟨q9, r9, c4⟩, c5⟩ := hc
  have c5 := Nat.le_of_ble_eq_true c5
  intro p e R s m args below meth c H locs cells slots ls C X
  obtain ⟨x3, x4, x5, x6⟩ := X.2.2.1
  have hts := C.2.2.2.2.2.2.2.1
  have hfr : (fw_rm d' mc ms).frames + 1 ≤ R.frames ∧ 8 + (y'.2.2.1 + 11) + (fw_rm d' mc ms).locals ≤ R.locals := fw_fr x3 x4 hd c5
  have hMet := fw_met hM (fun E s t hx => hX E _ hx.choose_spec.1)
  refine fw_after (st := st) (fw_run_x (vx_runSW (As := As) (rest := rest) ⟨C.1, C.2.1, C.2.2.2.2.1, C.2.2.2.2.2.1, hts⟩ hMet ⟨⟨rfl, rfl, hfr.1, hfr.2, pay_in hts (fw_goodc c1), by rw [fw_codeH c4]; exact List.mem_cons_self⟩, fw_codeH c4 ▸ hts _ c1, hts _ c2, ⟨c3.1, c3.2.1⟩, fun sig h9 => ?_, hts _ hw, hts _ hw2⟩ ⟨fw_blind G As h, fw_pre_at C X⟩ rfl hn X.2.2.2.1 hst (lv_room (Nat.le_of_ble_eq_true h8)) hd9.1 ⟨by omega, by omega⟩)) C X hmc hms kr (fun E h' hx => absurd hx (hX E h'))
  have h2 := c3.2.2
  rw [h9] at h2
  exact (Option.some.inj h2).symm
