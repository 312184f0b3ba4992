/-! the library's rules: the shared empty array, casts, copies, mirrors, iterators, strings -/
def tE (G : fw_G) : Nat := G.2.2.2.2.2.2.2.1
def mI9 (G : fw_G) : Nat := G.2.2.2.2.2.2.2.2.1
def sK (G : fw_G) : Nat → Nat := G.2.2.2.2.2.2.2.2.2.1
def sV (G : fw_G) : Nat → Nat := G.2.2.2.2.2.2.2.2.2.2
abbrev oA (n : Nat) (f : Nat → Option Nat) : fw_O := .inl (10, n, .inr (.inr (.inr (.inr f))))
section JR
variable {G : fw_G} {y : fw_M} {Q : fw_Q} {d kc ks : Nat} {h : fw_H} {pc nx a : Nat} {v : Int32} {L : List (Nat × Value)} {st : List Value} {tb : List fw_R}
theorem pw_gete (hT : fw_tok y tb) (hr : fw_at tb pc = some (.getstatic 39, nx, a, v)) (hy : y.1.cls = "java/util/ArrayList") (kk : PW G y Q d kc ks h nx L (.ref (tE G) :: st)) : PW G y Q d kc ks h pc L st := by
  have hd := fw_row hT hr
  have en : nx = pc + 3 := hd.2.1
  intro p e R s m args below meth c H locs cells slots ls C X
  have C0 := C
  obtain ⟨hx, hb, hre, hlk, hml, hown, hnm, hts, htab, hK, hN⟩ := C
  rw [hy] at hown
  exact va_gets hx hb hK.2.2.2.2.1.1 X.2.1 hown (hts _ (fw_gw 1161 (by decide +kernel) (by decide +kernel))) (fun _ z => z) hd.1 (en ▸ kk p e R s m args below meth c H locs cells slots ls C0 X)
theorem pw_elen (hT : fw_tok y tb) (hr : fw_at tb pc = some (.arraylength, nx, a, v)) (kk : PW G y Q d kc ks h nx L (.int 0 :: st)) : PW G y Q d kc ks h pc L (.ref (tE G) :: st) := by
  have hd := fw_row hT hr
  have en : nx = pc + 1 := hd.2.1
  intro p e R s m args below meth c H locs cells slots ls C X
  have C0 := C
  obtain ⟨hx, hb, hre, hlk, hml, hown, hnm, hts, htab, hK, hN⟩ := C
  exact va_tlen hx hb hK.2.2.2.2.1.2 X.2.1 rfl hd.1 (en ▸ kk p e R s m args below meth c H locs cells slots ls C0 X)
theorem pw_aastO {b n k ci w : Nat} {f : Nat → Option Nat} {i : Int32} {r : vw_C} {fs : List Value} (hT : fw_tok y tb) (hr : fw_at tb pc = some (.aastore, nx, a, v)) (ho : h b = some (oA n f)) (hw : h w = some (.inr (ci, fs))) (hc : vwCl[ci]? = some r) (hca : Cond.castable r.1 "java/lang/Object" ∈ fw_NW) (hi : i = nI k) (hk : k < n) (hn : n < 2147483648) (kk : PW G y Q d kc ks (fw_up h b (oA n (va_up f k (some w)))) nx L st) : PW G y Q d kc ks h pc L (.ref w :: .int i :: .ref b :: st) := by
  subst hi
  have hd := fw_row hT hr
  have en : nx = pc + 1 := hd.2.1
  intro p e R s m args below meth c H locs cells slots ls C X
  obtain ⟨ws, q0, hP, hD, h3, hq⟩ := X.1.get ho
  obtain ⟨qk, hqk⟩ := List.getElem?_of_mem (h3 w _ hw)
  have hK := C.2.2.2.2.2.2.2.2.2.1
  refine va_astqO C.1 C.2.1 hK.1 hP hD X.2.1 q0 10 qk ci hq (E := "java/lang/Object") (fw_tys_at _ (by decide)) (hK.2.2.2.2.2.2.2.2.1 _ hca) hqk hc (vp_in_nI hk hn) hd.1 (fun H1 locs1 g1 g2 g3 => ?_)
  rw [nI_clamp (show k < 2 ^ 31 by omega)] at g1 g2
  exact en ▸ kk p e R s m args below meth c H1 locs1 cells slots ls C ⟨fw_P.set (o' := oA n (va_up f k (some w))) h3 hq g1 g2, g3, X.2.2⟩
theorem pw_cast {b ci idx : Nat} {r : vw_C} {fs : List Value} (hT : fw_tok y tb) (hr : fw_at tb pc = some (.checkcast idx, nx, a, v)) (ho : h b = some (.inr (ci, fs))) (hc : vwCl[ci]? = some r) (hw : Cond.classLink y.1.cls idx r.1 ∈ fw_GW) (kk : PW G y Q d kc ks h nx L (.ref b :: st)) : PW G y Q d kc ks h pc L (.ref b :: st) := by
  have hd := fw_row hT hr
  have en : nx = pc + 3 := hd.2.1
  intro p e R s m args below meth c H locs cells slots ls C X
  obtain ⟨ws, q0, hP, hD, h3, hq⟩ := X.1.get ho
  have hK := C.2.2.2.2.2.2.2.2.2.1
  exact va_castE C.1 C.2.1 C.2.2.2.2.2.1 (C.2.2.2.2.2.2.2.1 _ hw) (va_recv hK.1 hP hc hq) hd.1 (en ▸ kk p e R s m args below meth c H locs cells slots ls C X)
theorem pw_castA {b idx n : Nat} {f : Nat → Option Nat} (hT : fw_tok y tb) (hr : fw_at tb pc = some (.checkcast idx, nx, a, v)) (ho : h b = some (oA n f)) (hw : Cond.classLink y.1.cls idx "[Ljava/lang/Object;" ∈ fw_GW) (kk : PW G y Q d kc ks h nx L (.ref b :: st)) : PW G y Q d kc ks h pc L (.ref b :: st) := by
  have hd := fw_row hT hr
  have en : nx = pc + 3 := hd.2.1
  intro p e R s m args below meth c H locs cells slots ls C X
  obtain ⟨ws, q0, hP, hD, h3, hq⟩ := X.1.get ho
  have hK := C.2.2.2.2.2.2.2.2.2.1
  have hRA := (hK.1.2 10 _ (fw_tys_at G.2.2.2.1 (by decide))).2
  exact va_castA C.1 C.2.1 C.2.2.2.2.2.1 (C.2.2.2.2.2.2.2.1 _ hw) hP q0 hq (va_nmO (C := "java/lang/Object") hRA (by decide +kernel)) hd.1 (en ▸ kk p e R s m args below meth c H locs cells slots ls C X)
theorem pw_ldcM {idx : Nat} (hT : fw_tok y tb) (hr : fw_at tb pc = some (.ldc idx, nx, a, v)) (hw : Cond.classLink y.1.cls idx "[Ljava/lang/Object;" ∈ fw_GW) (kk : PW G y Q d kc ks h nx L (.ref (mI9 G) :: st)) : PW G y Q d kc ks h pc L st := by
  have hd := fw_row hT hr
  have en : nx = pc + 2 := hd.2.1
  intro p e R s m args below meth c H locs cells slots ls C X
  have hK := C.2.2.2.2.2.2.2.2.2.1
  exact va_ldcM C.1 C.2.1 C.2.2.2.2.2.1 (C.2.2.2.2.2.2.2.1 _ hw) hK.2.2.2.2.2.2.2.1 hd.1 (en ▸ kk p e R s m args below meth c H locs cells slots ls C X)
theorem va_objA {b n : Nat} {f : Nat → Option Nat} {H : Heap} {s : State} (hK : fw_K G s s.heap) (hP : fw_P G h H) (ho : h b = some (oA n f)) : ∃ cell : Cell, H[b]? = some cell ∧ cell.vm.isStatics = false ∧ s.vm.findClass "[Ljava/lang/Object;" = some cell.cls := by
  obtain ⟨ws, q0, hP, hD, h3, hq⟩ := hP.get ho
  have hRA := (hK.1.2 10 _ (fw_tys_at G.2.2.2.1 (by decide))).2
  exact ⟨_, hP q0 _ hq, rfl, va_nmO (C := "java/lang/Object") hRA (by decide +kernel)⟩
theorem pw_getC {idx b n : Nat} {f : Nat → Option Nat} (hT : fw_tok y tb) (hr : fw_at tb pc = some (.invokevirtual idx, nx, a, v)) (ho : h b = some (oA n f)) (hw : Cond.methodLink y.1.cls idx ⟨"java/lang/Object", "getClass", "()Ljava/lang/Class;"⟩ ∈ fw_GW) (h8 : Nat.ble ((st.map fun v => v.category).sum) 8 = true) (kk : PW G y Q d kc ks h nx L (.ref (mI9 G) :: st)) : PW G y Q d kc ks h pc L (.ref b :: st) := by
  have hd := fw_row hT hr
  have en : nx = pc + 3 := hd.2.1
  have h8 := Nat.le_of_ble_eq_true h8
  intro p e R s m args below meth c H locs cells slots ls C X
  obtain ⟨x3, x4, x5, x6⟩ := X.2.2.1
  have hts := C.2.2.2.2.2.2.2.1
  have hK := C.2.2.2.2.2.2.2.2.2.1
  have hdc : (Cond.declares ⟨"java/lang/Object", "getClass", "()Ljava/lang/Class;"⟩).before args s = true := va_Nw.use rfl (hK.2.2.2.2.2.2.2.2.1 _ (fw_nw 2125 (by decide +kernel) (by decide +kernel)))
  exact va_getC C.1 C.2.1 (C.2.2.2.2.1.trans X.2.2.2.1.symm) C.2.2.2.2.2.1 (hts _ hw) hdc (hts _ (fw_gw 2124 (by decide +kernel) (by decide +kernel))) (hts _ (fw_gw 1298 (by decide +kernel) (by decide +kernel))) (hts _ (fw_gw 1327 (by decide +kernel) (by decide +kernel))) hK.2.2.2.2.2.2.2.1 (va_objA hK X.1 ho) (by omega) (by omega) hd.1 (en ▸ kk p e R s m args below meth c H locs cells slots ls C X)
theorem pw_copyq {idx b b2 n n2 sp dp k ci : Nat} {f g : Nat → Option Nat} {r : vw_C} {i1 i2 i3 : Int32} (hT : fw_tok y tb) (hr : fw_at tb pc = some (.invokestatic idx, nx, a, v)) (hw : Cond.methodLink y.1.cls idx arraycopyName ∈ fw_GW) (ho : h b = some (oA n f)) (ho2 : h b2 = some (oA n2 g)) (e1 : i1 = nI sp) (e2 : i2 = nI dp) (e3 : i3 = nI k) (h4 : sp + k ≤ n) (h5 : dp + k ≤ n2) (hn : n < 2147483648) (hn2 : n2 < 2147483648) (hc : vwCl[ci]? = some r) (hca : Cond.castable r.1 "java/lang/Object" ∈ fw_NW) (hel : ∀ i, i < k → ∀ q, f (sp + i) = some q → ∃ fs, h q = some (.inr (ci, fs))) (h8 : Nat.ble ((st.map fun v => v.category).sum) 8 = true)
    (kk : PW G y Q d kc ks (fw_up h b2 (oA n2 (va_cpy f g sp dp k))) nx L st) : PW G y Q d kc ks h pc L (.int i3 :: .int i2 :: .ref b2 :: .int i1 :: .ref b :: st) := by
  subst e1
  subst e2
  subst e3
  have hd := fw_row hT hr
  have en : nx = pc + 3 := hd.2.1
  have h8 := Nat.le_of_ble_eq_true h8
  intro p e R s m args below meth c H locs cells slots ls C X
  obtain ⟨x3, x4, x5, x6⟩ := X.2.2.1
  have hts := C.2.2.2.2.2.2.2.1
  have hK := C.2.2.2.2.2.2.2.2.2.1
  obtain ⟨ws, q0, hP, hD, h3, hq⟩ := X.1.get ho
  obtain ⟨q1, hq1⟩ := List.getElem?_of_mem (h3 b2 _ ho2)
  have ks1 := nI_clamp (show sp < 2 ^ 31 by omega)
  have ks2 := nI_clamp (show dp < 2 ^ 31 by omega)
  have ks3 := nI_clamp (show k < 2 ^ 31 by omega)
  have ng : ∀ j : Nat, j < 2147483648 → ¬ nI j < 0 := fun j hj z => by
    have := (nI_ltI (a := j) (b := 0) hj (by omega)).mp z
    omega
  refine va_copyq C.1 C.2.1 (C.2.2.2.2.1.trans X.2.2.2.1.symm) C.2.2.2.2.2.1 (hts _ hw) (hts _ (fw_gw 1337 (by decide +kernel) (by decide +kernel))) (hts _ (fw_gw 1336 (by decide +kernel) (by decide +kernel))) (hts _ (fw_gw 56 (by decide +kernel) (by decide +kernel))) hK.1 hP hD X.2.1 q0 q1 10 10 (E0 := "java/lang/Object") (E1 := "java/lang/Object") (C := r.1) hq hq1 (fw_tys_at _ (by decide)) (fw_tys_at _ (by decide)) (ng sp (by omega)) (ng dp (by omega)) (ng k (by omega)) (by rw [ks1, ks3]; exact h4) (by rw [ks2, ks3]; exact h5) (fun i hi q hfq => ?_) (fun comp c0 hc1 hc2 => ?_) (by omega) (by have hw9 : nativeFrameWords "java/lang/System" "arraycopy" 5 ≤ 20 := (by decide); omega) hd.1 (fun H1 locs1 g1 g2 g3 => ?_)
  · rw [ks1] at hfq
    rw [ks3] at hi
    obtain ⟨fs, hfs⟩ := hel i hi q hfq
    obtain ⟨qj, hqj⟩ := List.getElem?_of_mem (h3 q _ hfs)
    exact va_recv hK.1 hP hc hqj
  · obtain ⟨c9, t1, f1, f2, f3⟩ := Cond.castable_spec (va_Nw.use (A := args) rfl (hK.2.2.2.2.2.2.2.2.1 _ hca))
    cases hc2.symm.trans f1
    cases hc1.symm.trans f2
    exact f3
  · rw [ks1, ks2, ks3] at g1 g2
    exact en ▸ kk p e R s m args below meth c H1 locs1 cells slots ls C ⟨fw_P.set (o' := oA n2 (va_cpy f g sp dp k)) h3 hq1 g1 g2, g3, X.2.2⟩
end JR
section JR5
variable {p : Program} {e : Env} {R : Room} {s : State} {m : MethodId} {args : Array Value} {below : List Frame} {meth : Method} {c : Code} {H : Heap} {locs : List Loc} {cells slots : Nat}
theorem fw_after5 {G : fw_G} {y : fw_M} {Q Q' : fw_Q} {d kc ks kc' ks' mc ms pc : Nat} {h : fw_H} {L : List (Nat × Value)} {ls : Array Slot} {st rest : List Value} {a : Array Value}
    (hr : va_Run5 p G.1 e R s m args below meth c H locs cells slots mc ms (F0 m pc ls st) rest (fw_Qc G Q' a) (fw_A G.2.1)) (C : fw_C G y p R s m args meth c) (X : fw_D G y d kc ks h L R s H locs cells slots ls) (hc : mc + kc' ≤ kc) (hs : ms + ks' ≤ ks)
    (kr : ∀ r h', Q'.1 r h' → PW G y Q d kc' ks' h' (pc + 5) L (r.toList ++ rest)) : W p G.1 e R s m args below meth c H locs cells slots (vx_MQ below (fw_Qc G Q) (fw_XC G Q) args s R.cells R.slots (fw_A G.2.1)) (F0 m pc ls st) := by
  intro T hT XS
  obtain ⟨x1, x2, ⟨x3, x4, x5, x6⟩, x7⟩ := X
  obtain ⟨r0, st₀, t, T', L9, e0, X', hL, e1, e2, ⟨r, h', e3, hq, hP⟩, st9⟩ := hr T hT XS
  cases e3
  have hS := fw_S9 X' x2.2.2 hL
  obtain ⟨t2, a1, b1⟩ := kr _ h' hq p e R s m args below meth c T'.heap (locs ++ L9) (cells + mc) (slots + ms) ls C ⟨by rw [e1]; exact hP, hS, ⟨x3, x4, by omega, by omega⟩, x7⟩ T' rfl X'
  exact ⟨t2, st9 t2 a1, b1⟩
end JR5
section JRF
variable {G : fw_G} {y : fw_M} {Q Q' : fw_Q} {d d' kc ks kc' ks' mc ms : Nat} {h : fw_H} {pc nx a idx n cnt : Nat} {v : Int32} {L : List (Nat × Value)} {st rest As : List Value} {tb : List fw_R} {y' : fw_M}
/-- invokeinterface (it throws nothing) -/
theorem pw_cif {b ci : Nat} {fs : List Value} {r9 : vw_C} {x : MethodName} (hT : fw_tok y tb) (hr : fw_at tb pc = some (.invokeinterface idx cnt, nx, a, v)) (hc : fw_cal y' n) (hw : Cond.methodLink y.1.cls idx x ∈ fw_GW) (hw2 : Cond.instanceMethod y'.1 ∈ fw_GW) (hw3 : Cond.selects r9.1 x y'.1 ∈ fw_GW) (n1 : Cond.declares x ∈ fw_NW) (n2 : Cond.interfaceMethod x.cls x.cls x.name x.desc ∈ fw_NW) (n3 : Cond.publicMethod y'.1 ∈ fw_NW) (n4 : Cond.unhidden r9.1 x.name x.desc ∈ fw_NW) (n5 : Cond.castable r9.1 x.cls ∈ fw_NW) (hx : x.cls ≠ "java/lang/invoke/MethodHandle" ∧ x.cls ≠ "java/lang/invoke/VarHandle" ∧ (parseMethodDescriptor x.desc).map (fun d => d.parameters.length) = some n) (ho : h b = some (.inr (ci, fs))) (hci : vwCl[ci]? = some r9) (hM : PM G d' mc ms y' (.ref b :: As) h Q') (hX : ∀ E h', ¬ Q'.2 E h') (hst : st = As.reverse ++ .ref b :: rest) (hn : As.length = n) (h8 : Nat.ble ((rest.map fun v => v.category).sum) 8 = true) (hd : d' < d) (hmc : mc + kc' ≤ kc) (hms : ms + ks' ≤ ks)
    (kr : ∀ r h', Q'.1 r h' → PW G y Q d kc' ks' h' nx L (r.toList ++ rest)) : PW G y Q d kc ks h pc L st := by
  have hd9 := fw_row hT hr
  have en : nx = pc + 5 := hd9.2.1
  subst en
  obtain ⟨c1, c2, c3, c4, c5⟩ := hc
  have c5 := Nat.le_of_ble_eq_true c5
  intro p e R s m args below meth c H locs cells slots ls C X
  obtain ⟨x3, x4, x5, x6⟩ := X.2.2.1
  have hts := C.2.2.2.2.2.2.2.1
  have hK := C.2.2.2.2.2.2.2.2.2.1
  have hfr : (fw_rm d' mc ms).frames + 1 ≤ R.frames ∧ 8 + (y'.2.2.1 + 11) + (fw_rm d' mc ms).locals ≤ R.locals := fw_fr x3 x4 hd c5
  obtain ⟨ws, q0, hP, hD, h3, hq⟩ := X.1.get ho
  have hMet := fw_met hM (fun E s t hx => hX E _ hx.choose_spec.1)
  have hNw := hK.2.2.2.2.2.2.2.2.1
  have us : ∀ {w : Cond}, w ∈ fw_NW → w.before #[] s = true := fun {w} hw => va_Nw.use (fw_ww_on (List.mem_filter.mp hw).2) (hNw _ hw)
  have cw : va_CI R s args y.1.cls r9.1 idx x y'.1 y'.2.1 y'.2.2.1 y'.2.2.2.1 (fw_cw y' :: fw_GW) (fw_rm d' mc ms) mc ms n := va_cwF (Ts := fw_GW) n hts (fun w hw => by
    unfold va_wsF at hw
    rcases List.mem_append.mp hw with hw | hw
    · have hmem : w ∈ fw_GW := by
        simp only [List.mem_cons, List.not_mem_nil, or_false] at hw
        rcases hw with rfl | rfl | rfl | rfl
        · assumption
        · assumption
        · assumption
        · exact c2
      exact ⟨hmem, fw_good hmem⟩
    · exact fw_goodc c1 w hw) (by rw [fw_code c4]) rfl rfl ⟨us n1, us n2, us n3, us n4, us n5⟩ hx hfr
  exact fw_after5 (st := st) (va_runF (b := b) (As := As) (rest := rest) (hK.1.1 ci r9 hci).2 ⟨C.1, C.2.1, C.2.2.2.2.1, C.2.2.2.2.2.1, hts⟩ hMet cw ⟨fw_blind G (.ref b :: As) h, va_recv hK.1 hP hci hq, fw_pre_at C X⟩ rfl hn X.2.2.2.1 hst (lv_room (Nat.le_of_ble_eq_true h8)) hd9.1 ⟨by omega, by omega⟩) C X hmc hms kr
end JRF
/-! strings -/
section JRS
variable {G : fw_G} {y : fw_M} {Q Q' : fw_Q} {d d' kc ks kc' ks' mc ms : Nat} {h : fw_H} {pc nx a idx n : Nat} {v : Int32} {L : List (Nat × Value)} {st rest As : List Value} {tb : List fw_R} {y' : fw_M}
def sLn : List Nat := [4, 2, 2]
def sBy : List (List Int32) := [[102, 108, 100, 115], [108, 111], [112, 114]]
theorem pw_cvs {i : Nat} (hi : i < 3) (hT : fw_tok y tb) (hr : fw_at tb pc = some (.invokevirtual idx, nx, a, v)) (hc : fw_cal y' n) (hw : Cond.methodLink y.1.cls idx y'.1 ∈ fw_GW) (hw2 : Cond.instanceMethod y'.1 ∈ fw_GW) (hw3 : Cond.selects y'.1.cls y'.1 y'.1 ∈ fw_GW) (hcl : y'.1.cls = "java/lang/String") (hM : PM G d' mc ms y' (.ref (sK G i) :: As) h Q') (hX : ∀ E h', ¬ Q'.2 E h') (hst : st = As.reverse ++ .ref (sK G i) :: rest) (hn : As.length = n) (h8 : Nat.ble ((rest.map fun v => v.category).sum) 8 = true) (hd : d' < d) (hmc : mc + kc' ≤ kc) (hms : ms + ks' ≤ ks)
    (kr : ∀ r h', Q'.1 r h' → PW G y Q d kc' ks' h' nx L (r.toList ++ rest)) : PW G y Q d kc ks h pc L st := by
  have hd9 := fw_row hT hr
  have en : nx = pc + 3 := hd9.2.1
  subst en
  obtain ⟨c1, c2, c3, c4, c5⟩ := hc
  have c5 := Nat.le_of_ble_eq_true c5
  intro p e R s m args below meth c H locs cells slots ls C X
  obtain ⟨x3, x4, x5, x6⟩ := X.2.2.1
  have hts := C.2.2.2.2.2.2.2.1
  have hK := C.2.2.2.2.2.2.2.2.2.1
  have hfr : (fw_rm d' mc ms).frames + 1 ≤ R.frames ∧ 8 + (y'.2.2.1 + 11) + (fw_rm d' mc ms).locals ≤ R.locals := fw_fr x3 x4 hd c5
  exact fw_after (st := st) (vx_runV (C := y'.1.cls) (b := sK G i) (As := As) (rest := rest) ⟨C.1, C.2.1, C.2.2.2.2.1, C.2.2.2.2.2.1, hts⟩ hM ⟨callB_of n hts (fw_goodc c1) (by rw [fw_code c4]) rfl rfl (hts _ c2) (hts _ hw) c3 hfr, hts _ hw2, hts _ hw3⟩ ⟨fw_blind G (.ref (sK G i) :: As) h, hcl ▸ vk_recv hK.2.2.2.2.2.2.1.2.2.2 hi X.2.1, fw_pre_at C X⟩ rfl hn X.2.2.2.1 hst (lv_room (Nat.le_of_ble_eq_true h8)) hd9.1 ⟨by omega, by omega⟩) C X hmc hms kr (fun E h' hx => absurd hx (hX E h'))
theorem pw_sget {i : Nat} {w : Value} {nm ds : String} (hi : i < 3) (hw : (nm = "coder" ∧ ds = "B" ∧ w = .int 0) ∨ (nm = "value" ∧ ds = "[B" ∧ w = .ref (sV G i))) (hT : fw_tok y tb) (hr : fw_at tb pc = some (.getfield idx, nx, a, v)) (hl : Cond.fieldLink y.1.cls idx "java/lang/String" nm ds ∈ fw_GW) (kk : PW G y Q d kc ks h nx L (w :: st)) : PW G y Q d kc ks h pc L (.ref (sK G i) :: st) := by
  have hd := fw_row hT hr
  have en : nx = pc + 3 := hd.2.1
  intro p e R s m args below meth c H locs cells slots ls C X
  have hK := C.2.2.2.2.2.2.2.2.2.1
  have hS := hK.2.2.2.2.2.2.1.2.2.2.1 i hi
  rcases hw with ⟨rfl, rfl, rfl⟩ | ⟨rfl, rfl, rfl⟩
  · exact vk_getf C.1 C.2.1 hS.2.1 X.2.1 C.2.2.2.2.2.1 (C.2.2.2.2.2.2.2.1 _ hl) (fun _ z => z) hd.1 (en ▸ kk p e R s m args below meth c H locs cells slots ls C X)
  · exact vk_getf C.1 C.2.1 hS.2.2.1 X.2.1 C.2.2.2.2.2.1 (C.2.2.2.2.2.2.2.1 _ hl) (fun _ z => z) hd.1 (en ▸ kk p e R s m args below meth c H locs cells slots ls C X)
theorem pw_slen {i : Nat} (hi : i < 3) (hT : fw_tok y tb) (hr : fw_at tb pc = some (.arraylength, nx, a, v)) (kk : PW G y Q d kc ks h nx L (.int (nI (sLn.getD i 0)) :: st)) : PW G y Q d kc ks h pc L (.ref (sV G i) :: st) := by
  have hd := fw_row hT hr
  have en : nx = pc + 1 := hd.2.1
  intro p e R s m args below meth c H locs cells slots ls C X
  have hK := C.2.2.2.2.2.2.2.2.2.1
  have hS := hK.2.2.2.2.2.2.1.2.2.2.1 i hi
  exact va_tlen C.1 C.2.1 hS.2.2.2 X.2.1 rfl hd.1 (en ▸ kk p e R s m args below meth c H locs cells slots ls C X)
end JRS
section JRS2
variable {G : fw_G} {y : fw_M} {Q : fw_Q} {d kc ks : Nat} {h : fw_H} {pc nx a : Nat} {v : Int32} {L : List (Nat × Value)} {st : List Value} {tb : List fw_R}
theorem pw_sbald {i k : Nat} {x : Int32} (hi : i < 3) (hT : fw_tok y tb) (hr : fw_at tb pc = some (.baload, nx, a, v)) (hx : x = nI k) (hk : k < sLn.getD i 0) (kk : PW G y Q d kc ks h nx L (.int ((sBy.getD i []).getD k 0) :: st)) : PW G y Q d kc ks h pc L (.int x :: .ref (sV G i) :: st) := by
  subst hx
  have hd := fw_row hT hr
  have en : nx = pc + 1 := hd.2.1
  have hk9 : k < 10 := by
    have : sLn.getD i 0 < 10 := by
      rcases (show i = 0 ∨ i = 1 ∨ i = 2 by omega) with rfl | rfl | rfl <;> decide
    omega
  intro p e R s m args below meth c H locs cells slots ls C X
  have hK := C.2.2.2.2.2.2.2.2.2.1
  have hS := hK.2.2.2.2.2.2.1.2.2.2.1 i hi
  exact va_tb C.1 C.2.1 hS.2.2.2 X.2.1 (vp_in_nI hk (show sLn.getD i 0 < 2147483648 by rcases (show i = 0 ∨ i = 1 ∨ i = 2 by omega) with rfl | rfl | rfl <;> decide)) (by rw [nI_clamp (show k < 2 ^ 31 by omega)]; rfl) hd.1 (en ▸ kk p e R s m args below meth c H locs cells slots ls C X)
end JRS2
section JRS3
variable {G : fw_G} {y : fw_M} {Q : fw_Q} {d kc ks : Nat} {h : fw_H} {pc nx a : Nat} {v : Int32} {L : List (Nat × Value)} {st : List Value} {tb : List fw_R}
theorem pw_ldcS (hT : fw_tok y tb) (hr : fw_at tb pc = some (.ldc 121, nx, a, v)) (hy : y.1.cls = "TermreckonryModel") (kk : PW G y Q d kc ks h nx L (.ref (sK G 0) :: st)) : PW G y Q d kc ks h pc L st := by
  have hd := fw_row hT hr
  have en : nx = pc + 2 := hd.2.1
  intro p e R s m args below meth c H locs cells slots ls C X
  have hK := C.2.2.2.2.2.2.2.2.2.1
  have hown := C.2.2.2.2.2.1
  rw [hy] at hown
  exact va_ldcS C.1 C.2.1 hown hK.2.2.2.2.2.2.1.1 hd.1 (en ▸ kk p e R s m args below meth c H locs cells slots ls C X)
theorem pw_ldcSW {i idx : Nat} (hi : (i = 1 ∧ idx = 324) ∨ (i = 2 ∧ idx = 329)) (hT : fw_tok y tb) (hr : fw_at tb pc = some (.ldc_w idx, nx, a, v)) (hy : y.1.cls = "TermreckonryModel") (kk : PW G y Q d kc ks h nx L (.ref (sK G i) :: st)) : PW G y Q d kc ks h pc L st := by
  have hd := fw_row hT hr
  have en : nx = pc + 3 := hd.2.1
  intro p e R s m args below meth c H locs cells slots ls C X
  have hK := C.2.2.2.2.2.2.2.2.2.1
  have hown := C.2.2.2.2.2.1
  rw [hy] at hown
  have k := kk p e R s m args below meth c H locs cells slots ls C X
  rw [en] at k
  intro T hT2 XS
  obtain ⟨t, a1, b1⟩ := k T hT2 XS
  rcases hi with ⟨rfl, rfl⟩ | ⟨rfl, rfl⟩
  · exact ⟨t, XS.ldcStringW C.1 hown (text := "lo") (a := sK G 1) hK.2.2.2.2.2.2.1.2.1.1 hK.2.2.2.2.2.2.1.2.1.2 (g := F0 m pc ls st) rfl (by rw [C.2.1]; exact hd.1) t a1, b1⟩
  · exact ⟨t, XS.ldcStringW C.1 hown (text := "pr") (a := sK G 2) hK.2.2.2.2.2.2.1.2.2.1.1 hK.2.2.2.2.2.2.1.2.2.1.2 (g := F0 m pc ls st) rfl (by rw [C.2.1]; exact hd.1) t a1, b1⟩
end JRS3
