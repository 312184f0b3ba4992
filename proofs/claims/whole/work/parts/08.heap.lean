/-! HEAP: what touches the heap, calls, contracts -/
section PWH
variable {G : fw_G} {y : fw_M} {Q : fw_Q} {d kc ks : Nat} {h : fw_H} {pc nx a : Nat} {v : Int32} {L : List (Nat × Value)} {st : List Value} {tb : List fw_R}
theorem pw_get {b idx ci k : Nat} {fs : List Value} {w : Value} (hT : fw_tok y tb) (hr : fw_at tb pc = some (.getfield idx, nx, a, v)) (hf : fw_fld y.1.cls idx ci k) (ho : h b = some (.inr (ci, fs))) (hv : fs[k]? = some w) (kk : PW G y Q d kc ks h nx L (w :: st)) : PW G y Q d kc ks h pc L (.ref b :: st) := by
  have hd := fw_row hT hr
  have en : nx = pc + 3 := hd.2.1
  obtain ⟨Cn, T, N, ty, ⟨c1, c2, c3, c4⟩, hk, hl⟩ := hf
  intro p e R s m args below meth c H locs cells slots ls C X
  have C0 := C
  obtain ⟨hx, hb, hre, hlk, hml, hown, hnm, hts, htab, hK, hN⟩ := C
  obtain ⟨ws, q0, hP, hD, h3, hq⟩ := X.1.get ho
  have kk' := kk p e R s m args below meth c H locs cells slots ls C0 X
  rw [en] at kk'
  rcases hl with hl | ⟨host, hl⟩ | ⟨ref, hl, hs⟩
  · exact va_get hx hb hts c2 hown hK.1 hP q0 hq c1 k hk (hts _ hl) (fun _ z => z) hv hd.1 kk'
  · exact va_getN hx hb hts c2 hown hK.1 hP q0 hq c1 k hk (va_Nw.use (fw_ww_on (List.mem_filter.mp hl).2) (hK.2.2.2.2.2.2.2.2.1 _ hl)) (fun _ z => z) hv hd.1 kk'
  · exact va_get hx hb hts c2 hown hK.1 hP q0 hq c1 k hk (hts _ hl) (u_same (hts _ hs)) hv hd.1 kk'
theorem pw_put {b idx ci k : Nat} {fs : List Value} {w : Value} {tt : FieldType} (hT : fw_tok y tb) (hr : fw_at tb pc = some (.putfield idx, nx, a, v)) (hf : fw_fldW y.1.cls idx ci k tt) (ho : h b = some (.inr (ci, fs))) (hn : narrow tt w = w) (hfit : fits tt w = true) (hlen : k < fs.length) (kk : PW G y Q d kc ks (fw_up h b (.inr (ci, fs.set k w))) nx L st) : PW G y Q d kc ks h pc L (w :: .ref b :: st) := by
  have hd := fw_row hT hr
  have en : nx = pc + 3 := hd.2.1
  obtain ⟨Cn, T, N, ty, ⟨c1, c2, c3, c4⟩, hk, hl, hfin, hdt⟩ := hf
  intro p e R s m args below meth c H locs cells slots ls C X
  have C0 := C
  obtain ⟨hx, hb, hre, hlk, hml, hown, hnm, hts, htab, hK, hN⟩ := C
  obtain ⟨ws, q0, hP, hD, h3, hq⟩ := X.1.get ho
  have kk' : ∀ (H1 : Heap) (locs1 : List Loc), va_P G.2.2.1 vwCl (ws.set q0 (b, .inr (ci, fs.set k w))) H1 → va_D (fun q => G.2.1 ≤ q) (ws.set q0 (b, .inr (ci, fs.set k w))) → va_S (fw_A G.2.1) s.heap H1 locs1 → W p G.1 e R s m args below meth c H1 locs1 cells slots (vx_MQ below (fw_Qc G Q) (fw_XC G Q) args s R.cells R.slots (fw_A G.2.1)) (F0 m (pc + 3) ls st) := fun H1 locs1 g1 g2 g3 => en ▸ kk p e R s m args below meth c H1 locs1 cells slots ls C0 ⟨fw_P.set (o' := .inr (ci, fs.set k w)) h3 hq g1 g2, g3, X.2.2⟩
  rcases hl with hl | ⟨host, hl⟩ | ⟨ref, hl, hs⟩
  · exact va_put hx hb hts c2 ty c3 c4 hown hK.1 hP hD X.2.1 q0 hq c1 k hk (hts _ hl) (fun _ z => z) hfin hdt hn hfit hlen hd.1 kk'
  · exact va_putN hx hb hts c2 ty c3 c4 hown hK.1 hP hD X.2.1 q0 hq c1 k hk (va_Nw.use (fw_ww_on (List.mem_filter.mp hl).2) (hK.2.2.2.2.2.2.2.2.1 _ hl)) (fun _ z => z) hfin hdt hn hfit hlen hd.1 kk'
  · exact va_put hx hb hts c2 ty c3 c4 hown hK.1 hP hD X.2.1 q0 hq c1 k hk (hts _ hl) (u_same (hts _ hs)) hfin hdt hn hfit hlen hd.1 kk'
theorem pw_putF {b idx ci k : Nat} {fs : List Value} {w : Value} {tt : FieldType} (hT : fw_tok y tb) (hr : fw_at tb pc = some (.putfield idx, nx, a, v)) (hf : fw_fldF y.1.cls idx ci k tt) (hi : y.1.name = "<init>") (ho : h b = some (.inr (ci, fs))) (hn : narrow tt w = w) (hfit : fits tt w = true) (hlen : k < fs.length) (kk : PW G y Q d kc ks (fw_up h b (.inr (ci, fs.set k w))) nx L st) : PW G y Q d kc ks h pc L (w :: .ref b :: st) := by
  have hd := fw_row hT hr
  have en : nx = pc + 3 := hd.2.1
  obtain ⟨Cn, T, N, ty, ⟨c1, c2, c3, c4⟩, hk, hl, hfin, hdecl, hdt⟩ := hf
  intro p e R s m args below meth c H locs cells slots ls C X
  have C0 := C
  obtain ⟨hx, hb, hre, hlk, hml, hown, hnm, hts, htab, hK, hN⟩ := C
  obtain ⟨ws, q0, hP, hD, h3, hq⟩ := X.1.get ho
  exact va_putF hx hb hts c2 ty c3 c4 hown hK.1 hP hD X.2.1 q0 hq c1 k hk (hts _ hl) (fun _ z => z) hfin (hnm.trans hi) hdecl hdt hn hfit hlen hd.1 (fun H1 locs1 g1 g2 g3 => en ▸ kk p e R s m args below meth c H1 locs1 cells slots ls C0 ⟨fw_P.set (o' := .inr (ci, fs.set k w)) h3 hq g1 g2, g3, X.2.2⟩)
theorem pw_iald {b n : Nat} {f : Nat → Int32} {i : Int32} (hT : fw_tok y tb) (hr : fw_at tb pc = some (.iaload, nx, a, v)) (ho : h b = some (.inl (0, n, .inl f))) (hin : vp_in i n) (kk : PW G y Q d kc ks h nx L (.int (f i.toNatClampNeg) :: st)) : PW G y Q d kc ks h pc L (.int i :: .ref b :: st) := by
  have hd := fw_row hT hr
  have en : nx = pc + 1 := hd.2.1
  intro p e R s m args below meth c H locs cells slots ls C X
  obtain ⟨ws, q0, hP, hD, h3, hq⟩ := X.1.get ho
  exact va_iald C.1 C.2.1 C.2.2.2.2.2.2.2.2.2.1.1 hP q0 0 hq (fw_tys_at _ (by decide)) hin hd.1 (en ▸ kk p e R s m args below meth c H locs cells slots ls C X)
theorem pw_zald {b n : Nat} {f : Nat → Int32} {i : Int32} (hT : fw_tok y tb) (hr : fw_at tb pc = some (.baload, nx, a, v)) (ho : h b = some (.inl (2, n, .inl f))) (hin : vp_in i n) (kk : PW G y Q d kc ks h nx L (.int (f i.toNatClampNeg) :: st)) : PW G y Q d kc ks h pc L (.int i :: .ref b :: st) := by
  have hd := fw_row hT hr
  have en : nx = pc + 1 := hd.2.1
  intro p e R s m args below meth c H locs cells slots ls C X
  obtain ⟨ws, q0, hP, hD, h3, hq⟩ := X.1.get ho
  exact va_zald C.1 C.2.1 C.2.2.2.2.2.2.2.2.2.1.1 hP q0 2 hq (fw_tys_at _ (by decide)) hin hd.1 (en ▸ kk p e R s m args below meth c H locs cells slots ls C X)
theorem pw_lald {b n : Nat} {f : Nat → Int64} {i : Int32} (hT : fw_tok y tb) (hr : fw_at tb pc = some (.laload, nx, a, v)) (ho : h b = some (.inl (1, n, .inr (.inl f)))) (hin : vp_in i n) (kk : PW G y Q d kc ks h nx L (.long (f i.toNatClampNeg) :: st)) : PW G y Q d kc ks h pc L (.int i :: .ref b :: st) := by
  have hd := fw_row hT hr
  have en : nx = pc + 1 := hd.2.1
  intro p e R s m args below meth c H locs cells slots ls C X
  obtain ⟨ws, q0, hP, hD, h3, hq⟩ := X.1.get ho
  exact va_lald C.1 C.2.1 C.2.2.2.2.2.2.2.2.2.1.1 hP q0 1 hq (fw_tys_at _ (by decide)) hin hd.1 (en ▸ kk p e R s m args below meth c H locs cells slots ls C X)
theorem pw_dald {b n : Nat} {f : Nat → UInt64} {i : Int32} (hT : fw_tok y tb) (hr : fw_at tb pc = some (.daload, nx, a, v)) (ho : h b = some (.inl (3, n, .inr (.inr (.inr (.inl f)))))) (hin : vp_in i n) (kk : PW G y Q d kc ks h nx L (.double (f i.toNatClampNeg) :: st)) : PW G y Q d kc ks h pc L (.int i :: .ref b :: st) := by
  have hd := fw_row hT hr
  have en : nx = pc + 1 := hd.2.1
  intro p e R s m args below meth c H locs cells slots ls C X
  obtain ⟨ws, q0, hP, hD, h3, hq⟩ := X.1.get ho
  exact va_dald C.1 C.2.1 C.2.2.2.2.2.2.2.2.2.1.1 hP q0 3 hq (fw_tys_at _ (by decide)) hin hd.1 (en ▸ kk p e R s m args below meth c H locs cells slots ls C X)
theorem pw_aald {b n t : Nat} {f : Nat → Option Nat} {Cn : String} {i : Int32} (hT : fw_tok y tb) (hr : fw_at tb pc = some (.aaload, nx, a, v)) (ho : h b = some (.inl (t, n, .inr (.inr (.inr (.inr f)))))) (ht : t < 11) (hc : fw_ty t = .object Cn) (hin : vp_in i n) (kk : PW G y Q d kc ks h nx L (va_rf (f i.toNatClampNeg) :: st)) : PW G y Q d kc ks h pc L (.int i :: .ref b :: st) := by
  have hd := fw_row hT hr
  have en : nx = pc + 1 := hd.2.1
  intro p e R s m args below meth c H locs cells slots ls C X
  obtain ⟨ws, q0, hP, hD, h3, hq⟩ := X.1.get ho
  exact va_aldq C.1 C.2.1 C.2.2.2.2.2.2.2.2.2.1.1 hP q0 t hq (hc ▸ fw_tys_at _ ht) hin hd.1 (en ▸ kk p e R s m args below meth c H locs cells slots ls C X)
theorem pw_alen {b t : Nat} {x : vp_A} (hT : fw_tok y tb) (hr : fw_at tb pc = some (.arraylength, nx, a, v)) (ho : h b = some (.inl (t, x))) (ht : t < 11) (kk : PW G y Q d kc ks h nx L (.int (nI x.1) :: st)) : PW G y Q d kc ks h pc L (.ref b :: st) := by
  have hd := fw_row hT hr
  have en : nx = pc + 1 := hd.2.1
  intro p e R s m args below meth c H locs cells slots ls C X
  obtain ⟨ws, q0, hP, hD, h3, hq⟩ := X.1.get ho
  exact va_alen C.1 C.2.1 C.2.2.2.2.2.2.2.2.2.1.1 hP q0 t hq (fw_tys_at _ ht) rfl hd.1 (en ▸ kk p e R s m args below meth c H locs cells slots ls C X)
theorem pw_iast {b n : Nat} {f : Nat → Int32} {i x : Int32} (hT : fw_tok y tb) (hr : fw_at tb pc = some (.iastore, nx, a, v)) (ho : h b = some (.inl (0, n, .inl f))) (hin : vp_in i n) (kk : PW G y Q d kc ks (fw_up h b (.inl (0, n, .inl (upd f i.toNatClampNeg x)))) nx L st) : PW G y Q d kc ks h pc L (.int x :: .int i :: .ref b :: st) := by
  have hd := fw_row hT hr
  have en : nx = pc + 1 := hd.2.1
  intro p e R s m args below meth c H locs cells slots ls C X
  obtain ⟨ws, q0, hP, hD, h3, hq⟩ := X.1.get ho
  exact va_iast C.1 C.2.1 C.2.2.2.2.2.2.2.2.2.1.1 hP hD X.2.1 q0 0 hq (fw_tys_at _ (by decide)) hin hd.1 (fun H1 locs1 g1 g2 g3 => en ▸ kk p e R s m args below meth c H1 locs1 cells slots ls C ⟨fw_P.set (o' := .inl (0, n, .inl (upd f i.toNatClampNeg x))) h3 hq g1 g2, g3, X.2.2⟩)
theorem pw_zast {b n : Nat} {f : Nat → Int32} {i x : Int32} (hT : fw_tok y tb) (hr : fw_at tb pc = some (.bastore, nx, a, v)) (ho : h b = some (.inl (2, n, .inl f))) (hin : vp_in i n) (kk : PW G y Q d kc ks (fw_up h b (.inl (2, n, .inl (upd f i.toNatClampNeg (vp_nar .boolean x))))) nx L st) : PW G y Q d kc ks h pc L (.int x :: .int i :: .ref b :: st) := by
  have hd := fw_row hT hr
  have en : nx = pc + 1 := hd.2.1
  intro p e R s m args below meth c H locs cells slots ls C X
  obtain ⟨ws, q0, hP, hD, h3, hq⟩ := X.1.get ho
  exact va_zast C.1 C.2.1 C.2.2.2.2.2.2.2.2.2.1.1 hP hD X.2.1 q0 2 hq (fw_tys_at _ (by decide)) hin hd.1 (fun H1 locs1 g1 g2 g3 => en ▸ kk p e R s m args below meth c H1 locs1 cells slots ls C ⟨fw_P.set (o' := .inl (2, n, .inl (upd f i.toNatClampNeg (vp_nar .boolean x)))) h3 hq g1 g2, g3, X.2.2⟩)
theorem pw_last {b n : Nat} {f : Nat → Int64} {i : Int32} {x : Int64} (hT : fw_tok y tb) (hr : fw_at tb pc = some (.lastore, nx, a, v)) (ho : h b = some (.inl (1, n, .inr (.inl f)))) (hin : vp_in i n) (kk : PW G y Q d kc ks (fw_up h b (.inl (1, n, .inr (.inl (vp_updL f i.toNatClampNeg x))))) nx L st) : PW G y Q d kc ks h pc L (.long x :: .int i :: .ref b :: st) := by
  have hd := fw_row hT hr
  have en : nx = pc + 1 := hd.2.1
  intro p e R s m args below meth c H locs cells slots ls C X
  obtain ⟨ws, q0, hP, hD, h3, hq⟩ := X.1.get ho
  exact va_last C.1 C.2.1 C.2.2.2.2.2.2.2.2.2.1.1 hP hD X.2.1 q0 1 hq (fw_tys_at _ (by decide)) hin hd.1 (fun H1 locs1 g1 g2 g3 => en ▸ kk p e R s m args below meth c H1 locs1 cells slots ls C ⟨fw_P.set (o' := .inl (1, n, .inr (.inl (vp_updL f i.toNatClampNeg x)))) h3 hq g1 g2, g3, X.2.2⟩)
end PWH
