/-! THE LAW: its ways to the class, with what they catch -/
theorem cw_eIA : Cond.classLink RL 13 eIA ∈ fw_GW := fw_gw 384 (by decide +kernel) (by decide +kernel)
theorem cw_eIS : Cond.classLink RL 27 eIS ∈ fw_GW := fw_gw 510 (by decide +kernel) (by decide +kernel)
theorem cw_eIO : Cond.classLink RL 32 eIO ∈ fw_GW := fw_gw 565 (by decide +kernel) (by decide +kernel)
theorem cw_eUO : Cond.classLink RL 34 eUO ∈ fw_GW := fw_gw 589 (by decide +kernel) (by decide +kernel)
theorem cw_eNS : Cond.classLink RL 36 eNS ∈ fw_GW := fw_gw 590 (by decide +kernel) (by decide +kernel)
theorem cw_eAR : Cond.classLink RL 115 eAR ∈ fw_GW := fw_gw 1114 (by decide +kernel) (by decide +kernel)
theorem cc_eIA : Cond.castable eIA eIA ∈ fw_NW := fw_nw 391 (by decide +kernel) (by decide +kernel)
theorem cc_eIS : Cond.castable eIS eIS ∈ fw_NW := fw_nw 518 (by decide +kernel) (by decide +kernel)
theorem cc_eIO : Cond.castable eIO eIO ∈ fw_NW := fw_nw 601 (by decide +kernel) (by decide +kernel)
theorem cc_eUO : Cond.castable eUO eUO ∈ fw_NW := fw_nw 615 (by decide +kernel) (by decide +kernel)
theorem cc_eNS : Cond.castable eNS eNS ∈ fw_NW := fw_nw 631 (by decide +kernel) (by decide +kernel)
theorem cc_eAR : Cond.castable eAR eAR ∈ fw_NW := fw_nw 1126 (by decide +kernel) (by decide +kernel)
def outL (x : Int64) : Nat := x.toBitVec.toNat
theorem lN_out (x : Int64) : lN (outL x) = x := by
  apply wb_inj
  rw [wb_tb]
  show BitVec.ofNat 64 x.toBitVec.toNat = _
  rw [BitVec.ofNat_toNat, BitVec.setWidth_eq]
def uN (x : UInt64) : Nat := x.toNat
theorem uN_out (x : UInt64) : UInt64.ofNat (uN x) = x := UInt64.ofNat_toNat
def outG (x : Nat) : Nat → Nat := fun f => if f = 0 then x else 0
/-- what a way to the class leaves behind -/
def lwo (G : fw_G) (n : Nat) (D : fw_DB) (A : fw_AD) (S' : fw_DB) (K k X : Nat) (r : Int32) (h' : fw_H) : Prop := r = nI K ∧ ∃ S1 D1 A1 M1, (K = 0 → S1 = S') ∧ (K ≠ 0 → S1 = D) ∧ h' = hp M1 A1 D1 ∧ LM G n D S1 D1 A A1 M1 ∧ (K = 0 → D1 k 0 0 = X)
section WR
variable {G : fw_G} {n : Nat} {D S1 D1 : fw_DB} {A A1 : fw_AD} {M M1 : fw_MP} {h : fw_H}
theorem lwo_0 {S' : fw_DB} {K k X : Nat} (e : K = 0) (m : LM G n D S' D1 A A1 M1) (o : D1 k 0 0 = X) : lwo G n D A S' K k X 0 (hp M1 A1 D1) := ⟨by rw [e]; rfl, _, D1, A1, M1, fun _ => rfl, fun z => absurd e z, rfl, m, fun _ => o⟩
theorem lwo_1 {S' : fw_DB} {K k X t : Nat} (e : K = t) (ht : t ≠ 0) (m : LM G n D D D1 A A1 M1) : lwo G n D A S' K k X (nI t) (hp M1 A1 D1) := ⟨by rw [e], _, D1, A1, M1, fun z => absurd (e.symm.trans z) ht, fun _ => rfl, rfl, m, fun z => absurd (e.symm.trans z) ht⟩
theorem lm_of {h1 : fw_H} (d : done n D A S1 h1) : ∃ D1 A1 M1, h1 = hp M1 A1 D1 ∧ LM G n D S1 D1 A A1 M1 := by
  obtain ⟨D1, A1, M1, e, I, q, k, a⟩ := d
  exact ⟨D1, A1, M1, e, I, q, ⟨fun f a b => k.1 f a (by omega), k.2⟩, a⟩
theorem LM_out {k x : Nat} (L : LI G n D A M) (m : LM G n D S1 D1 A A1 M1) (hk : k = 70 ∨ k = 71) : LM G n D S1 (dp D1 k 0 (outG x)) A A1 M1 ∧ M1 (A1 k 0) = some (k, 0) ∧ D1 99 0 k = 1 := by
  have hN : D1 99 0 k = 1 := by
    rw [m.2.2.1.2 k (by omega)]
    rcases hk with z | z <;> rw [z]
    · exact L.2.2.1.1
    · exact L.2.2.1.2
  have W := m.1.1.1
  refine ⟨⟨IC_of (ICd_lo (IC_d m.1) (fun j hj => funext fun i => dp_k (by omega)) (fun f hf => by rw [dp_k (by omega)])) (W.put (by omega) (by rcases hk with z | z <;> rw [z] <;> trivial)), fun j i f h => ?_, ⟨fun j a b => ?_, fun f a => ?_⟩, m.2.2.2⟩, W.lv (by omega) (by omega), hN⟩
  · rw [dp_k (by rintro rfl; rcases hk with z | z <;> subst z <;> cases h)]
    exact m.2.1 j i f h
  · rw [← m.2.2.1.1 j a b]
    exact funext fun i => dp_k (by omega)
  · rw [dp_k (by omega)]
    exact m.2.2.1.2 f a
variable {y : fw_M} {Q : fw_Q} {d kc ks pc nx a : Nat} {v : Int32} {Lc : List (Nat × Value)} {st rest : List Value} {tb : List fw_R}
theorem pw_outL {x : Int64} (L : LI G n D A M) (m : LM G n D S1 D1 A A1 M1) (hT : fw_tok y tb) (hr : fw_at tb pc = some (.lastore, nx, a, v)) (hst : st = .long x :: .int 0 :: .ref (A1 70 0) :: rest) (kk : ∀ D2, LM G n D S1 D2 A A1 M1 → D2 70 0 0 = outL x → PW G y Q d kc ks (hp M1 A1 D2) nx Lc rest) : PW G y Q d kc ks (hp M1 A1 D1) pc Lc st := by
  subst hst
  obtain ⟨m2, l, -⟩ := LM_out (x := outL x) L m (Or.inl rfl)
  refine pw_lastN (k := 0) hT hr (hget l) nI_0.symm (by decide) (by decide) ?_
  refine pw_h ?_ (kk _ m2 (by rw [dp_s]; rfl))
  rw [← hset (outG (outL x)) m.1.1.1 l]
  congr 1
  show (Sum.inl (1, 1, .inr (.inl (vp_updL (fun j => if j = 0 then lN (D1 70 0 0) else 0) 0 x))) : fw_O) = Sum.inl (1, 1, .inr (.inl (fun j => if j = 0 then lN (outL x) else 0)))
  congr 5
  funext j
  unfold vp_updL
  rw [lN_out]
  by_cases z : j = 0
  · rw [if_pos z, if_pos z]
  · rw [if_neg z, if_neg z]
    exact if_neg z
theorem pw_outD {x : UInt64} (L : LI G n D A M) (m : LM G n D S1 D1 A A1 M1) (hT : fw_tok y tb) (hr : fw_at tb pc = some (.dastore, nx, a, v)) (hst : st = .double x :: .int 0 :: .ref (A1 71 0) :: rest) (kk : ∀ D2, LM G n D S1 D2 A A1 M1 → D2 71 0 0 = uN x → PW G y Q d kc ks (hp M1 A1 D2) nx Lc rest) : PW G y Q d kc ks (hp M1 A1 D1) pc Lc st := by
  subst hst
  obtain ⟨m2, l, -⟩ := LM_out (x := uN x) L m (Or.inr rfl)
  refine pw_dast hT hr (hget l) (show vp_in (nI 0) 1 from vp_in_nI (by decide) (by decide)) (fun f' hf => ?_)
  subst hf
  refine pw_h ?_ (kk _ m2 (by rw [dp_s]; rfl))
  rw [← hset (outG (uN x)) m.1.1.1 l]
  congr 1
  show (Sum.inl (3, 1, .inr (.inr (.inr (.inl (vf_upd (fun j => if j = 0 then UInt64.ofNat (D1 71 0 0) else 0) 0 x))))) : fw_O) = Sum.inl (3, 1, .inr (.inr (.inr (.inl (fun j => if j = 0 then UInt64.ofNat (uN x) else 0)))))
  congr 7
  funext j
  unfold vf_upd
  rw [uN_out]
  by_cases z : j = 0
  · rw [if_pos z, if_pos z]
  · rw [if_neg z, if_neg z]
    exact if_neg z
theorem f2d_n {a : UInt32} (h : FP.Core.fIsNaN a = false) : FP.Core.dIsNaN (FP.f2d a) = false := by
  unfold FP.f2d
  rw [if_neg (by rw [h]; decide)]
  exact FP.Core.f2d_out h
theorem shV_n {x : Int32} {e : Nat} (h6 : D 99 0 8 ≤ 6) (h : shK D x = 0) : FP.Core.fIsNaN (shV D e) = false := by
  refine fl_div (fun z => ?_)
  unfold shK at h
  split at h
  · cases h
  · split at h
    · cases h
    · rename_i h8
      have z : nI (D 99 0 8) = nI 0 := z
      exact h8 (nI_inj (by omega) (by omega) z)

theorem wx_dayOf {y m t : Int32} (hl : G.1.stackTraces = false) (L : LI G n D A M) : PM G 3 3 18 mm_L_dayOf [.ref (A 0 0), .int y, .int m, .int t, .ref (A 70 0)] (hp M A D) (fw_qI (fun r h' => lwo G n D A D (dyK y m t) 70 (outL (nI (doD y m t)).toInt64) r h') fw_noX) := by
  refine pm_ofH (by decide +kernel) rfl rfl rfl ?_
  obtain ⟨Q, hQ⟩ : ∃ Q, Q = (fw_qI (fun r h' => lwo G n D A D (dyK y m t) 70 (outL (nI (doD y m t)).toInt64) r h') fw_noX) := ⟨_, rfl⟩
  rw [← hQ]
  iterate 6 refine pw_go tk_L_dayOf rfl rfl ?_
  refine pw_cv tk_L_dayOf rfl ca_X10_dayOf lk_L_7 iv_X10_dayOf sv_X10_dayOf (hget (L.1.1.1.lv (k := 0) (i := 0) (by have := L.1.2.1.1.1; omega))) rfl rfl (As := [.int y, .int m, .int t]) (rest := [.int 0, .ref (A 70 0)]) (kc' := 0) (ks' := 0) ((f_dayOf hl)) rfl rfl rfl (Nat.le_of_ble_eq_true rfl) (Nat.le_refl _) (Nat.le_refl _) ?_ ?_
  · rintro _ h1 ⟨v, rfl, rfl, hc, rfl⟩
    have hd := done_0 L.1
    have hK : dyK y m t = 0 := if_pos hc
    obtain ⟨D1, A1, M1, e9, m1⟩ := lm_of (G := G) hd
    rw [e9]
    have e70 : A1 70 0 = A 70 0 := m1.2.2.2.2.2.2.1
    refine pw_go tk_L_dayOf rfl rfl ?_
    refine pw_outL (x := (nI (doD y m t)).toInt64) (rest := []) L m1 tk_L_dayOf rfl (by rw [e70]; rfl) (fun D2 m2 e2 => ?_)
    iterate 2 refine pw_go tk_L_dayOf rfl rfl ?_
    rw [hQ]
    exact pw_iret tk_L_dayOf rfl rfl rfl ⟨_, rfl, lwo_0 hK m2 e2⟩
  · rintro E h1 ⟨rE, rfl, hc⟩
    have hd := done_0 L.1
    have hx : exI (dyK y m t) E [(1, eIA)] := by
      rw [rE, show dyK y m t = 1 from if_neg hc]
      exact List.mem_cons_self
    obtain ⟨D1, A1, M1, e9, m1⟩ := lm_of (G := G) hd
    rw [e9]
    obtain ⟨hK, rfl⟩ := Prod.mk.inj (List.mem_singleton.mp hx)
    refine px_catch [] ⟨0, 12, 15, 13⟩ [] rfl (by decide) (fun _ h => absurd h List.not_mem_nil) rfl (by decide) cw_eIA cc_eIA (fun q => ?_)
    iterate 2 refine pw_go tk_L_dayOf rfl rfl ?_
    rw [hQ]
    exact pw_iret tk_L_dayOf rfl rfl rfl ⟨_, rfl, lwo_1 (t := 1) hK (by decide) m1⟩
theorem wx_dateOf {x : Int32} (hl : G.1.stackTraces = false) (L : LI G n D A M) : PM G 3 1 6 mm_L_dateOf [.ref (A 0 0), .int x, .ref (A 70 0)] (hp M A D) (fw_qI (fun r h' => lwo G n D A D (ndK x) 70 (outL (nI (sp_date x.toNatClampNeg)).toInt64) r h') fw_noX) := by
  refine pm_ofH (by decide +kernel) rfl rfl rfl ?_
  obtain ⟨Q, hQ⟩ : ∃ Q, Q = (fw_qI (fun r h' => lwo G n D A D (ndK x) 70 (outL (nI (sp_date x.toNatClampNeg)).toInt64) r h') fw_noX) := ⟨_, rfl⟩
  rw [← hQ]
  iterate 4 refine pw_go tk_L_dateOf rfl rfl ?_
  refine pw_cv tk_L_dateOf rfl ca_X10_dateOf lk_L_15 iv_X10_dateOf sv_X10_dateOf (hget (L.1.1.1.lv (k := 0) (i := 0) (by have := L.1.2.1.1.1; omega))) rfl rfl (As := [.int x]) (rest := [.int 0, .ref (A 70 0)]) (kc' := 0) (ks' := 0) ((f_dateOf hl)) rfl rfl rfl (Nat.le_of_ble_eq_true rfl) (Nat.le_refl _) (Nat.le_refl _) ?_ ?_
  · rintro _ h1 ⟨v, rfl, rfl, hc, rfl⟩
    have hd := done_0 L.1
    have hK : ndK x = 0 := if_pos hc
    obtain ⟨D1, A1, M1, e9, m1⟩ := lm_of (G := G) hd
    rw [e9]
    have e70 : A1 70 0 = A 70 0 := m1.2.2.2.2.2.2.1
    refine pw_go tk_L_dateOf rfl rfl ?_
    refine pw_outL (x := (nI (sp_date x.toNatClampNeg)).toInt64) (rest := []) L m1 tk_L_dateOf rfl (by rw [e70]; rfl) (fun D2 m2 e2 => ?_)
    iterate 2 refine pw_go tk_L_dateOf rfl rfl ?_
    rw [hQ]
    exact pw_iret tk_L_dateOf rfl rfl rfl ⟨_, rfl, lwo_0 hK m2 e2⟩
  · rintro E h1 ⟨rE, rfl, hc⟩
    have hd := done_0 L.1
    have hx : exI (ndK x) E [(1, eIA)] := by
      rw [rE, show ndK x = 1 from if_neg (by rw [hc]; decide)]
      exact List.mem_cons_self
    obtain ⟨D1, A1, M1, e9, m1⟩ := lm_of (G := G) hd
    rw [e9]
    obtain ⟨hK, rfl⟩ := Prod.mk.inj (List.mem_singleton.mp hx)
    refine px_catch [] ⟨0, 9, 12, 13⟩ [] rfl (by decide) (fun _ h => absurd h List.not_mem_nil) rfl (by decide) cw_eIA cc_eIA (fun q => ?_)
    iterate 2 refine pw_go tk_L_dateOf rfl rfl ?_
    rw [hQ]
    exact pw_iret tk_L_dateOf rfl rfl rfl ⟨_, rfl, lwo_1 (t := 1) hK (by decide) m1⟩
theorem wx_length {x y m t : Int32} (hl : G.1.stackTraces = false) (L : LI G n D A M) : PM G 4 5 27 mm_L_length [.ref (A 0 0), .int x, .int y, .int m, .int t, .ref (A 70 0)] (hp M A D) (fw_qI (fun r h' => lwo G n D A D (leK x y m t) 70 (outL (nI (sp_len x.toNatClampNeg y.toNatClampNeg m.toNatClampNeg t.toNatClampNeg)).toInt64) r h') fw_noX) := by
  refine pm_ofH (by decide +kernel) rfl rfl rfl ?_
  obtain ⟨Q, hQ⟩ : ∃ Q, Q = (fw_qI (fun r h' => lwo G n D A D (leK x y m t) 70 (outL (nI (sp_len x.toNatClampNeg y.toNatClampNeg m.toNatClampNeg t.toNatClampNeg)).toInt64) r h') fw_noX) := ⟨_, rfl⟩
  rw [← hQ]
  iterate 7 refine pw_go tk_L_length rfl rfl ?_
  refine pw_cv tk_L_length rfl ca_X10_length lk_L_19 iv_X10_length sv_X10_length (hget (L.1.1.1.lv (k := 0) (i := 0) (by have := L.1.2.1.1.1; omega))) rfl rfl (As := [.int x, .int y, .int m, .int t]) (rest := [.int 0, .ref (A 70 0)]) (kc' := 0) (ks' := 0) ((f_length hl)) rfl rfl rfl (Nat.le_of_ble_eq_true rfl) (Nat.le_refl _) (Nat.le_refl _) ?_ ?_
  · rintro _ h1 ⟨v, rfl, rfl, hc, rfl⟩
    have hd := done_0 L.1
    have hK : leK x y m t = 0 := if_pos hc
    obtain ⟨D1, A1, M1, e9, m1⟩ := lm_of (G := G) hd
    rw [e9]
    have e70 : A1 70 0 = A 70 0 := m1.2.2.2.2.2.2.1
    refine pw_go tk_L_length rfl rfl ?_
    refine pw_outL (x := (nI (sp_len x.toNatClampNeg y.toNatClampNeg m.toNatClampNeg t.toNatClampNeg)).toInt64) (rest := []) L m1 tk_L_length rfl (by rw [e70]; rfl) (fun D2 m2 e2 => ?_)
    iterate 2 refine pw_go tk_L_length rfl rfl ?_
    rw [hQ]
    exact pw_iret tk_L_length rfl rfl rfl ⟨_, rfl, lwo_0 hK m2 e2⟩
  · rintro E h1 ⟨rE, rfl, hc⟩
    have hd := done_0 L.1
    have hx : exI (leK x y m t) E [(1, eIA)] := by
      rw [rE, show leK x y m t = 1 from if_neg (by rw [hc]; decide)]
      exact List.mem_cons_self
    obtain ⟨D1, A1, M1, e9, m1⟩ := lm_of (G := G) hd
    rw [e9]
    obtain ⟨hK, rfl⟩ := Prod.mk.inj (List.mem_singleton.mp hx)
    refine px_catch [] ⟨0, 14, 17, 13⟩ [] rfl (by decide) (fun _ h => absurd h List.not_mem_nil) rfl (by decide) cw_eIA cc_eIA (fun q => ?_)
    iterate 2 refine pw_go tk_L_length rfl rfl ?_
    rw [hQ]
    exact pw_iret tk_L_length rfl rfl rfl ⟨_, rfl, lwo_1 (t := 1) hK (by decide) m1⟩
theorem wx_law {x y z : Int32} {b : Bool} (hl : G.1.stackTraces = false) (L : LI G n D A M) : PM G 3 4 23 mm_L_law [.ref (A 0 0), .int x, .int y, .int z, .int (bI b), .ref (A 70 0)] (hp M A D) (fw_qI (fun r h' => lwo G n D A (lwS D (if decide (x = nI 111) = true then 1 else 0) y.toNatClampNeg z.toNatClampNeg (if b = true then 1 else 0)) (lwK D x y z) 70 (outL (nI (D 99 0 7)).toInt64) r h') fw_noX) := by
  refine pm_ofH (by decide +kernel) rfl rfl rfl ?_
  obtain ⟨Q, hQ⟩ : ∃ Q, Q = (fw_qI (fun r h' => lwo G n D A (lwS D (if decide (x = nI 111) = true then 1 else 0) y.toNatClampNeg z.toNatClampNeg (if b = true then 1 else 0)) (lwK D x y z) 70 (outL (nI (D 99 0 7)).toInt64) r h') fw_noX) := ⟨_, rfl⟩
  rw [← hQ]
  iterate 7 refine pw_go tk_L_law rfl rfl ?_
  refine pw_cv tk_L_law rfl ca_X10_law lk_L_23 iv_X10_law sv_X10_law (hget (L.1.1.1.lv (k := 0) (i := 0) (by have := L.1.2.1.1.1; omega))) rfl rfl (As := [.int x, .int y, .int z, .int (bI b)]) (rest := [.int 0, .ref (A 70 0)]) (kc' := 0) (ks' := 0) ((f_law hl L.1)) rfl rfl rfl (Nat.le_of_ble_eq_true rfl) (Nat.le_refl _) (Nat.le_refl _) ?_ ?_
  · rintro _ h1 ⟨v, rfl, hd, hK, rfl⟩
    obtain ⟨D1, A1, M1, e9, m1⟩ := lm_of (G := G) hd
    rw [e9]
    have e70 : A1 70 0 = A 70 0 := m1.2.2.2.2.2.2.1
    refine pw_go tk_L_law rfl rfl ?_
    refine pw_outL (x := (nI (D 99 0 7)).toInt64) (rest := []) L m1 tk_L_law rfl (by rw [e70]; rfl) (fun D2 m2 e2 => ?_)
    iterate 2 refine pw_go tk_L_law rfl rfl ?_
    rw [hQ]
    exact pw_iret tk_L_law rfl rfl rfl ⟨_, rfl, lwo_0 hK m2 e2⟩
  · rintro E h1 ⟨hd, hx⟩
    obtain ⟨D1, A1, M1, e9, m1⟩ := lm_of (G := G) hd
    rw [e9]
    rcases List.mem_cons.mp hx with hx | hx
    · obtain ⟨hK, rfl⟩ := Prod.mk.inj hx
      refine px_catch [] ⟨0, 14, 17, 13⟩ [⟨0, 14, 21, 27⟩] rfl (by decide) (fun _ h => absurd h List.not_mem_nil) rfl (by decide) cw_eIA cc_eIA (fun q => ?_)
      iterate 2 refine pw_go tk_L_law rfl rfl ?_
      rw [hQ]
      exact pw_iret tk_L_law rfl rfl rfl ⟨_, rfl, lwo_1 (t := 1) hK (by decide) m1⟩
    obtain ⟨hK, rfl⟩ := Prod.mk.inj (List.mem_singleton.mp hx)
    refine px_catch [⟨0, 14, 17, 13⟩] ⟨0, 14, 21, 27⟩ [] rfl (by decide) (List.forall_mem_cons.mpr ⟨Or.inr ⟨by decide, eIA, by decide, by decide, cw_eIA⟩, fun _ h => absurd h List.not_mem_nil⟩) rfl (by decide) cw_eIS cc_eIS (fun q => ?_)
    iterate 2 refine pw_go tk_L_law rfl rfl ?_
    rw [hQ]
    exact pw_iret tk_L_law rfl rfl rfl ⟨_, rfl, lwo_1 (t := 2) hK (by decide) m1⟩
theorem wx_lawOf {x : Int32} (hl : G.1.stackTraces = false) (L : LI G n D A M) : PM G 2 2 12 mm_L_lawOf [.ref (A 0 0), .int x, .ref (A 70 0)] (hp M A D) (fw_qI (fun r h' => lwo G n D A D (lkK D x) 70 (outL (nI (D 13 x.toNatClampNeg 7 - 1)).toInt64) r h') fw_noX) := by
  refine pm_ofH (by decide +kernel) rfl rfl rfl ?_
  obtain ⟨Q, hQ⟩ : ∃ Q, Q = (fw_qI (fun r h' => lwo G n D A D (lkK D x) 70 (outL (nI (D 13 x.toNatClampNeg 7 - 1)).toInt64) r h') fw_noX) := ⟨_, rfl⟩
  rw [← hQ]
  iterate 4 refine pw_go tk_L_lawOf rfl rfl ?_
  refine pw_cv tk_L_lawOf rfl ca_X10_lawOf lk_L_29 iv_X10_lawOf sv_X10_lawOf (hget (L.1.1.1.lv (k := 0) (i := 0) (by have := L.1.2.1.1.1; omega))) rfl rfl (As := [.int x]) (rest := [.int 0, .ref (A 70 0)]) (kc' := 0) (ks' := 0) ((f_lawOf hl L.1)) rfl rfl rfl (Nat.le_of_ble_eq_true rfl) (Nat.le_refl _) (Nat.le_refl _) ?_ ?_
  · rintro _ h1 ⟨v, rfl, rfl, hK, rfl⟩
    have hd := done_0 L.1
    obtain ⟨D1, A1, M1, e9, m1⟩ := lm_of (G := G) hd
    rw [e9]
    have e70 : A1 70 0 = A 70 0 := m1.2.2.2.2.2.2.1
    refine pw_go tk_L_lawOf rfl rfl ?_
    refine pw_outL (x := (nI (D 13 x.toNatClampNeg 7 - 1)).toInt64) (rest := []) L m1 tk_L_lawOf rfl (by rw [e70]; rfl) (fun D2 m2 e2 => ?_)
    iterate 2 refine pw_go tk_L_lawOf rfl rfl ?_
    rw [hQ]
    exact pw_iret tk_L_lawOf rfl rfl rfl ⟨_, rfl, lwo_0 hK m2 e2⟩
  · rintro E h1 ⟨rfl, hx⟩
    have hd := done_0 L.1
    obtain ⟨D1, A1, M1, e9, m1⟩ := lm_of (G := G) hd
    rw [e9]
    rcases List.mem_cons.mp hx with hx | hx
    · obtain ⟨hK, rfl⟩ := Prod.mk.inj hx
      refine px_catch [] ⟨0, 9, 12, 32⟩ [⟨0, 9, 15, 34⟩, ⟨0, 9, 18, 36⟩] rfl (by decide) (fun _ h => absurd h List.not_mem_nil) rfl (by decide) cw_eIO cc_eIO (fun q => ?_)
      iterate 2 refine pw_go tk_L_lawOf rfl rfl ?_
      rw [hQ]
      exact pw_iret tk_L_lawOf rfl rfl rfl ⟨_, rfl, lwo_1 (t := 1) hK (by decide) m1⟩
    rcases List.mem_cons.mp hx with hx | hx
    · obtain ⟨hK, rfl⟩ := Prod.mk.inj hx
      refine px_catch [⟨0, 9, 12, 32⟩] ⟨0, 9, 15, 34⟩ [⟨0, 9, 18, 36⟩] rfl (by decide) (List.forall_mem_cons.mpr ⟨Or.inr ⟨by decide, eIO, by decide, by decide, cw_eIO⟩, fun _ h => absurd h List.not_mem_nil⟩) rfl (by decide) cw_eUO cc_eUO (fun q => ?_)
      iterate 2 refine pw_go tk_L_lawOf rfl rfl ?_
      rw [hQ]
      exact pw_iret tk_L_lawOf rfl rfl rfl ⟨_, rfl, lwo_1 (t := 2) hK (by decide) m1⟩
    obtain ⟨hK, rfl⟩ := Prod.mk.inj (List.mem_singleton.mp hx)
    refine px_catch [⟨0, 9, 12, 32⟩, ⟨0, 9, 15, 34⟩] ⟨0, 9, 18, 36⟩ [] rfl (by decide) (List.forall_mem_cons.mpr ⟨Or.inr ⟨by decide, eIO, by decide, by decide, cw_eIO⟩, List.forall_mem_cons.mpr ⟨Or.inr ⟨by decide, eUO, by decide, by decide, cw_eUO⟩, fun _ h => absurd h List.not_mem_nil⟩⟩) rfl (by decide) cw_eNS cc_eNS (fun q => ?_)
    iterate 2 refine pw_go tk_L_lawOf rfl rfl ?_
    rw [hQ]
    exact pw_iret tk_L_lawOf rfl rfl rfl ⟨_, rfl, lwo_1 (t := 3) hK (by decide) m1⟩
theorem wx_person  (hl : G.1.stackTraces = false) (L : LI G n D A M) : PM G 3 6 643 mm_L_person [.ref (A 0 0), .ref (A 70 0)] (hp M A D) (fw_qI (fun r h' => lwo G n D A (peS D) (peK D) 70 (outL (nI (D 99 0 8)).toInt64) r h') fw_noX) := by
  refine pm_ofH (by decide +kernel) rfl rfl rfl ?_
  obtain ⟨Q, hQ⟩ : ∃ Q, Q = (fw_qI (fun r h' => lwo G n D A (peS D) (peK D) 70 (outL (nI (D 99 0 8)).toInt64) r h') fw_noX) := ⟨_, rfl⟩
  rw [← hQ]
  iterate 3 refine pw_go tk_L_person rfl rfl ?_
  refine pw_cv tk_L_person rfl ca_X10_person lk_L_38 iv_X10_person sv_X10_person (hget (L.1.1.1.lv (k := 0) (i := 0) (by have := L.1.2.1.1.1; omega))) rfl rfl (As := []) (rest := [.int 0, .ref (A 70 0)]) (kc' := 0) (ks' := 0) ((f_person hl L.1)) rfl rfl rfl (Nat.le_of_ble_eq_true rfl) (Nat.le_refl _) (Nat.le_refl _) ?_ ?_
  · rintro _ h1 ⟨v, rfl, hd, hK, rfl⟩
    obtain ⟨D1, A1, M1, e9, m1⟩ := lm_of (G := G) hd
    rw [e9]
    have e70 : A1 70 0 = A 70 0 := m1.2.2.2.2.2.2.1
    refine pw_go tk_L_person rfl rfl ?_
    refine pw_outL (x := (nI (D 99 0 8)).toInt64) (rest := []) L m1 tk_L_person rfl (by rw [e70]; rfl) (fun D2 m2 e2 => ?_)
    iterate 2 refine pw_go tk_L_person rfl rfl ?_
    rw [hQ]
    exact pw_iret tk_L_person rfl rfl rfl ⟨_, rfl, lwo_0 hK m2 e2⟩
  · rintro E h1 ⟨hd, hx⟩
    obtain ⟨D1, A1, M1, e9, m1⟩ := lm_of (G := G) hd
    rw [e9]
    obtain ⟨hK, rfl⟩ := Prod.mk.inj (List.mem_singleton.mp hx)
    refine px_catch [] ⟨0, 8, 11, 27⟩ [] rfl (by decide) (fun _ h => absurd h List.not_mem_nil) rfl (by decide) cw_eIS cc_eIS (fun q => ?_)
    iterate 2 refine pw_go tk_L_person rfl rfl ?_
    rw [hQ]
    exact pw_iret tk_L_person rfl rfl rfl ⟨_, rfl, lwo_1 (t := 1) hK (by decide) m1⟩
theorem wx_warrant {x k o pa y u d b : Int32} (hl : G.1.stackTraces = false) (L : LI G n D A M) : PM G 4 12 90 mm_L_warrant [.ref (A 0 0), .int x, .int k, .int o, .int pa, .int y, .int u, .int d, .int b, .ref (A 70 0)] (hp M A D) (fw_qI (fun r h' => lwo G n D A (wrS D (trG y.toNatClampNeg u.toNatClampNeg d.toNatClampNeg) (wrG x.toNatClampNeg k.toNatClampNeg o.toNatClampNeg pa.toNatClampNeg (bhC b))) (wrK D x k o pa y u d b) 70 (outL (nI (D 99 0 13)).toInt64) r h') fw_noX) := by
  refine pm_ofH (by decide +kernel) rfl rfl rfl ?_
  obtain ⟨Q, hQ⟩ : ∃ Q, Q = (fw_qI (fun r h' => lwo G n D A (wrS D (trG y.toNatClampNeg u.toNatClampNeg d.toNatClampNeg) (wrG x.toNatClampNeg k.toNatClampNeg o.toNatClampNeg pa.toNatClampNeg (bhC b))) (wrK D x k o pa y u d b) 70 (outL (nI (D 99 0 13)).toInt64) r h') fw_noX) := ⟨_, rfl⟩
  rw [← hQ]
  iterate 11 refine pw_go tk_L_warrant rfl rfl ?_
  refine pw_cv tk_L_warrant rfl ca_X10_warrant lk_L_42 iv_X10_warrant sv_X10_warrant (hget (L.1.1.1.lv (k := 0) (i := 0) (by have := L.1.2.1.1.1; omega))) rfl rfl (As := [.int x, .int k, .int o, .int pa, .int y, .int u, .int d, .int b]) (rest := [.int 0, .ref (A 70 0)]) (kc' := 0) (ks' := 0) ((f_warrant hl L.1)) rfl rfl rfl (Nat.le_of_ble_eq_true rfl) (Nat.le_refl _) (Nat.le_refl _) ?_ ?_
  · rintro _ h1 ⟨v, rfl, hd, hK, rfl⟩
    obtain ⟨D1, A1, M1, e9, m1⟩ := lm_of (G := G) hd
    rw [e9]
    have e70 : A1 70 0 = A 70 0 := m1.2.2.2.2.2.2.1
    refine pw_go tk_L_warrant rfl rfl ?_
    refine pw_outL (x := (nI (D 99 0 13)).toInt64) (rest := []) L m1 tk_L_warrant rfl (by rw [e70]; rfl) (fun D2 m2 e2 => ?_)
    iterate 2 refine pw_go tk_L_warrant rfl rfl ?_
    rw [hQ]
    exact pw_iret tk_L_warrant rfl rfl rfl ⟨_, rfl, lwo_0 hK m2 e2⟩
  · rintro E h1 ⟨hd, hx⟩
    obtain ⟨D1, A1, M1, e9, m1⟩ := lm_of (G := G) hd
    rw [e9]
    rcases List.mem_cons.mp hx with hx | hx
    · obtain ⟨hK, rfl⟩ := Prod.mk.inj hx
      refine px_catch [] ⟨0, 22, 25, 32⟩ [⟨0, 22, 29, 13⟩, ⟨0, 22, 33, 34⟩, ⟨0, 22, 37, 27⟩] rfl (by decide) (fun _ h => absurd h List.not_mem_nil) rfl (by decide) cw_eIO cc_eIO (fun q => ?_)
      iterate 2 refine pw_go tk_L_warrant rfl rfl ?_
      rw [hQ]
      exact pw_iret tk_L_warrant rfl rfl rfl ⟨_, rfl, lwo_1 (t := 1) hK (by decide) m1⟩
    rcases List.mem_cons.mp hx with hx | hx
    · obtain ⟨hK, rfl⟩ := Prod.mk.inj hx
      refine px_catch [⟨0, 22, 25, 32⟩] ⟨0, 22, 29, 13⟩ [⟨0, 22, 33, 34⟩, ⟨0, 22, 37, 27⟩] rfl (by decide) (List.forall_mem_cons.mpr ⟨Or.inr ⟨by decide, eIO, by decide, by decide, cw_eIO⟩, fun _ h => absurd h List.not_mem_nil⟩) rfl (by decide) cw_eIA cc_eIA (fun q => ?_)
      iterate 2 refine pw_go tk_L_warrant rfl rfl ?_
      rw [hQ]
      exact pw_iret tk_L_warrant rfl rfl rfl ⟨_, rfl, lwo_1 (t := 2) hK (by decide) m1⟩
    rcases List.mem_cons.mp hx with hx | hx
    · obtain ⟨hK, rfl⟩ := Prod.mk.inj hx
      refine px_catch [⟨0, 22, 25, 32⟩, ⟨0, 22, 29, 13⟩] ⟨0, 22, 33, 34⟩ [⟨0, 22, 37, 27⟩] rfl (by decide) (List.forall_mem_cons.mpr ⟨Or.inr ⟨by decide, eIO, by decide, by decide, cw_eIO⟩, List.forall_mem_cons.mpr ⟨Or.inr ⟨by decide, eIA, by decide, by decide, cw_eIA⟩, fun _ h => absurd h List.not_mem_nil⟩⟩) rfl (by decide) cw_eUO cc_eUO (fun q => ?_)
      iterate 2 refine pw_go tk_L_warrant rfl rfl ?_
      rw [hQ]
      exact pw_iret tk_L_warrant rfl rfl rfl ⟨_, rfl, lwo_1 (t := 3) hK (by decide) m1⟩
    obtain ⟨hK, rfl⟩ := Prod.mk.inj (List.mem_singleton.mp hx)
    refine px_catch [⟨0, 22, 25, 32⟩, ⟨0, 22, 29, 13⟩, ⟨0, 22, 33, 34⟩] ⟨0, 22, 37, 27⟩ [] rfl (by decide) (List.forall_mem_cons.mpr ⟨Or.inr ⟨by decide, eIO, by decide, by decide, cw_eIO⟩, List.forall_mem_cons.mpr ⟨Or.inr ⟨by decide, eIA, by decide, by decide, cw_eIA⟩, List.forall_mem_cons.mpr ⟨Or.inr ⟨by decide, eUO, by decide, by decide, cw_eUO⟩, fun _ h => absurd h List.not_mem_nil⟩⟩⟩) rfl (by decide) cw_eIS cc_eIS (fun q => ?_)
    iterate 2 refine pw_go tk_L_warrant rfl rfl ?_
    rw [hQ]
    exact pw_iret tk_L_warrant rfl rfl rfl ⟨_, rfl, lwo_1 (t := 4) hK (by decide) m1⟩
theorem wx_count {x y : Int32} {z : Bool} (hl : G.1.stackTraces = false) (hn : n ≤ 600) (L : LI G n D A M) : PM G 2 2 12 mm_L_count [.ref (A 0 0), .int x, .int y, .int (bI z), .ref (A 70 0)] (hp M A D) (fw_qI (fun r h' => lwo G n D A (ctS D x.toNatClampNeg y.toNatClampNeg z) (pdK (D 99 0 13) x (inI y 1 (nI 999))) 70 (outL (nI (ctV D x.toNatClampNeg y.toNatClampNeg z)).toInt64) r h') fw_noX) := by
  refine pm_ofH (by decide +kernel) rfl rfl rfl ?_
  obtain ⟨Q, hQ⟩ : ∃ Q, Q = (fw_qI (fun r h' => lwo G n D A (ctS D x.toNatClampNeg y.toNatClampNeg z) (pdK (D 99 0 13) x (inI y 1 (nI 999))) 70 (outL (nI (ctV D x.toNatClampNeg y.toNatClampNeg z)).toInt64) r h') fw_noX) := ⟨_, rfl⟩
  rw [← hQ]
  iterate 6 refine pw_go tk_L_count rfl rfl ?_
  refine pw_cv tk_L_count rfl ca_X10_count lk_L_46 iv_X10_count sv_X10_count (hget (L.1.1.1.lv (k := 0) (i := 0) (by have := L.1.2.1.1.1; omega))) rfl rfl (As := [.int x, .int y, .int (bI z)]) (rest := [.int 0, .ref (A 70 0)]) (kc' := 0) (ks' := 0) ((f_count hl hn L.1)) rfl rfl rfl (Nat.le_of_ble_eq_true rfl) (Nat.le_refl _) (Nat.le_refl _) ?_ ?_
  · rintro _ h1 ⟨v, rfl, hd, hK, rfl⟩
    obtain ⟨D1, A1, M1, e9, m1⟩ := lm_of (G := G) hd
    rw [e9]
    have e70 : A1 70 0 = A 70 0 := m1.2.2.2.2.2.2.1
    refine pw_go tk_L_count rfl rfl ?_
    refine pw_outL (x := (nI (ctV D x.toNatClampNeg y.toNatClampNeg z)).toInt64) (rest := []) L m1 tk_L_count rfl (by rw [e70]; rfl) (fun D2 m2 e2 => ?_)
    iterate 2 refine pw_go tk_L_count rfl rfl ?_
    rw [hQ]
    exact pw_iret tk_L_count rfl rfl rfl ⟨_, rfl, lwo_0 hK m2 e2⟩
  · rintro E h1 ⟨hd, hx⟩
    obtain ⟨D1, A1, M1, e9, m1⟩ := lm_of (G := G) hd
    rw [e9]
    rcases List.mem_cons.mp hx with hx | hx
    · obtain ⟨hK, rfl⟩ := Prod.mk.inj hx
      refine px_catch [] ⟨0, 12, 15, 32⟩ [⟨0, 12, 19, 13⟩] rfl (by decide) (fun _ h => absurd h List.not_mem_nil) rfl (by decide) cw_eIO cc_eIO (fun q => ?_)
      iterate 2 refine pw_go tk_L_count rfl rfl ?_
      rw [hQ]
      exact pw_iret tk_L_count rfl rfl rfl ⟨_, rfl, lwo_1 (t := 1) hK (by decide) m1⟩
    obtain ⟨hK, rfl⟩ := Prod.mk.inj (List.mem_singleton.mp hx)
    refine px_catch [⟨0, 12, 15, 32⟩] ⟨0, 12, 19, 13⟩ [] rfl (by decide) (List.forall_mem_cons.mpr ⟨Or.inr ⟨by decide, eIO, by decide, by decide, cw_eIO⟩, fun _ h => absurd h List.not_mem_nil⟩) rfl (by decide) cw_eIA cc_eIA (fun q => ?_)
    iterate 2 refine pw_go tk_L_count rfl rfl ?_
    rw [hQ]
    exact pw_iret tk_L_count rfl rfl rfl ⟨_, rfl, lwo_1 (t := 2) hK (by decide) m1⟩
theorem wx_activate {x y : Int32} (hl : G.1.stackTraces = false) (hn : n ≤ 600) (L : LI G n D A M) : PM G 3 3 18 mm_L_activate [.ref (A 0 0), .int x, .int y, .ref (A 70 0)] (hp M A D) (fw_qI (fun r h' => lwo G n D A (acS D x.toNatClampNeg y.toNatClampNeg) (acK D x y) 70 (outL (nI (wtn (acS D x.toNatClampNeg y.toNatClampNeg) (wlS D (D 13 x.toNatClampNeg 1)))).toInt64) r h') fw_noX) := by
  refine pm_ofH (by decide +kernel) rfl rfl rfl ?_
  obtain ⟨Q, hQ⟩ : ∃ Q, Q = (fw_qI (fun r h' => lwo G n D A (acS D x.toNatClampNeg y.toNatClampNeg) (acK D x y) 70 (outL (nI (wtn (acS D x.toNatClampNeg y.toNatClampNeg) (wlS D (D 13 x.toNatClampNeg 1)))).toInt64) r h') fw_noX) := ⟨_, rfl⟩
  rw [← hQ]
  iterate 5 refine pw_go tk_L_activate rfl rfl ?_
  refine pw_cv tk_L_activate rfl ca_X10_activate lk_L_50 iv_X10_activate sv_X10_activate (hget (L.1.1.1.lv (k := 0) (i := 0) (by have := L.1.2.1.1.1; omega))) rfl rfl (As := [.int x, .int y]) (rest := [.int 0, .ref (A 70 0)]) (kc' := 0) (ks' := 0) ((f_activate hl hn L.1)) rfl rfl rfl (Nat.le_of_ble_eq_true rfl) (Nat.le_refl _) (Nat.le_refl _) ?_ ?_
  · rintro _ h1 ⟨v, rfl, hd, hK, rfl⟩
    obtain ⟨D1, A1, M1, e9, m1⟩ := lm_of (G := G) hd
    rw [e9]
    have e70 : A1 70 0 = A 70 0 := m1.2.2.2.2.2.2.1
    refine pw_go tk_L_activate rfl rfl ?_
    refine pw_outL (x := (nI (wtn (acS D x.toNatClampNeg y.toNatClampNeg) (wlS D (D 13 x.toNatClampNeg 1)))).toInt64) (rest := []) L m1 tk_L_activate rfl (by rw [e70]; rfl) (fun D2 m2 e2 => ?_)
    iterate 2 refine pw_go tk_L_activate rfl rfl ?_
    rw [hQ]
    exact pw_iret tk_L_activate rfl rfl rfl ⟨_, rfl, lwo_0 hK m2 e2⟩
  · rintro E h1 ⟨hd, hx⟩
    obtain ⟨D1, A1, M1, e9, m1⟩ := lm_of (G := G) hd
    rw [e9]
    rcases List.mem_cons.mp hx with hx | hx
    · obtain ⟨hK, rfl⟩ := Prod.mk.inj hx
      refine px_catch [] ⟨0, 10, 13, 32⟩ [⟨0, 10, 17, 13⟩, ⟨0, 10, 21, 34⟩] rfl (by decide) (fun _ h => absurd h List.not_mem_nil) rfl (by decide) cw_eIO cc_eIO (fun q => ?_)
      iterate 2 refine pw_go tk_L_activate rfl rfl ?_
      rw [hQ]
      exact pw_iret tk_L_activate rfl rfl rfl ⟨_, rfl, lwo_1 (t := 1) hK (by decide) m1⟩
    rcases List.mem_cons.mp hx with hx | hx
    · obtain ⟨hK, rfl⟩ := Prod.mk.inj hx
      refine px_catch [⟨0, 10, 13, 32⟩] ⟨0, 10, 17, 13⟩ [⟨0, 10, 21, 34⟩] rfl (by decide) (List.forall_mem_cons.mpr ⟨Or.inr ⟨by decide, eIO, by decide, by decide, cw_eIO⟩, fun _ h => absurd h List.not_mem_nil⟩) rfl (by decide) cw_eIA cc_eIA (fun q => ?_)
      iterate 2 refine pw_go tk_L_activate rfl rfl ?_
      rw [hQ]
      exact pw_iret tk_L_activate rfl rfl rfl ⟨_, rfl, lwo_1 (t := 2) hK (by decide) m1⟩
    obtain ⟨hK, rfl⟩ := Prod.mk.inj (List.mem_singleton.mp hx)
    refine px_catch [⟨0, 10, 13, 32⟩, ⟨0, 10, 17, 13⟩] ⟨0, 10, 21, 34⟩ [] rfl (by decide) (List.forall_mem_cons.mpr ⟨Or.inr ⟨by decide, eIO, by decide, by decide, cw_eIO⟩, List.forall_mem_cons.mpr ⟨Or.inr ⟨by decide, eIA, by decide, by decide, cw_eIA⟩, fun _ h => absurd h List.not_mem_nil⟩⟩) rfl (by decide) cw_eUO cc_eUO (fun q => ?_)
    iterate 2 refine pw_go tk_L_activate rfl rfl ?_
    rw [hQ]
    exact pw_iret tk_L_activate rfl rfl rfl ⟨_, rfl, lwo_1 (t := 3) hK (by decide) m1⟩
theorem wx_vary {x y z u : Int32} (hl : G.1.stackTraces = false) (L : LI G n D A M) : PM G 4 6 33 mm_L_vary [.ref (A 0 0), .int x, .int y, .int z, .int u, .ref (A 70 0)] (hp M A D) (fw_qI (fun r h' => lwo G n D A (vaS D x.toNatClampNeg y.toNatClampNeg z.toNatClampNeg u.toNatClampNeg) (pdK (D 99 0 13) x (smI y z u)) 70 (outL (nI (sp_len (D 13 x.toNatClampNeg 4) y.toNatClampNeg z.toNatClampNeg u.toNatClampNeg)).toInt64) r h') fw_noX) := by
  refine pm_ofH (by decide +kernel) rfl rfl rfl ?_
  obtain ⟨Q, hQ⟩ : ∃ Q, Q = (fw_qI (fun r h' => lwo G n D A (vaS D x.toNatClampNeg y.toNatClampNeg z.toNatClampNeg u.toNatClampNeg) (pdK (D 99 0 13) x (smI y z u)) 70 (outL (nI (sp_len (D 13 x.toNatClampNeg 4) y.toNatClampNeg z.toNatClampNeg u.toNatClampNeg)).toInt64) r h') fw_noX) := ⟨_, rfl⟩
  rw [← hQ]
  iterate 7 refine pw_go tk_L_vary rfl rfl ?_
  refine pw_cv tk_L_vary rfl ca_X10_vary lk_L_54 iv_X10_vary sv_X10_vary (hget (L.1.1.1.lv (k := 0) (i := 0) (by have := L.1.2.1.1.1; omega))) rfl rfl (As := [.int x, .int y, .int z, .int u]) (rest := [.int 0, .ref (A 70 0)]) (kc' := 0) (ks' := 0) ((f_vary hl L.1 (L.2.1.2.2.2.1 66 (by decide) (by decide)))) rfl rfl rfl (Nat.le_of_ble_eq_true rfl) (Nat.le_refl _) (Nat.le_refl _) ?_ ?_
  · rintro _ h1 ⟨v, rfl, hd, hK, rfl⟩
    obtain ⟨D1, A1, M1, e9, m1⟩ := lm_of (G := G) hd
    rw [e9]
    have e70 : A1 70 0 = A 70 0 := m1.2.2.2.2.2.2.1
    refine pw_go tk_L_vary rfl rfl ?_
    refine pw_outL (x := (nI (sp_len (D 13 x.toNatClampNeg 4) y.toNatClampNeg z.toNatClampNeg u.toNatClampNeg)).toInt64) (rest := []) L m1 tk_L_vary rfl (by rw [e70]; rfl) (fun D2 m2 e2 => ?_)
    iterate 2 refine pw_go tk_L_vary rfl rfl ?_
    rw [hQ]
    exact pw_iret tk_L_vary rfl rfl rfl ⟨_, rfl, lwo_0 hK m2 e2⟩
  · rintro E h1 ⟨hd, hx⟩
    obtain ⟨D1, A1, M1, e9, m1⟩ := lm_of (G := G) hd
    rw [e9]
    rcases List.mem_cons.mp hx with hx | hx
    · obtain ⟨hK, rfl⟩ := Prod.mk.inj hx
      refine px_catch [] ⟨0, 14, 17, 32⟩ [⟨0, 14, 21, 13⟩] rfl (by decide) (fun _ h => absurd h List.not_mem_nil) rfl (by decide) cw_eIO cc_eIO (fun q => ?_)
      iterate 2 refine pw_go tk_L_vary rfl rfl ?_
      rw [hQ]
      exact pw_iret tk_L_vary rfl rfl rfl ⟨_, rfl, lwo_1 (t := 1) hK (by decide) m1⟩
    obtain ⟨hK, rfl⟩ := Prod.mk.inj (List.mem_singleton.mp hx)
    refine px_catch [⟨0, 14, 17, 32⟩] ⟨0, 14, 21, 13⟩ [] rfl (by decide) (List.forall_mem_cons.mpr ⟨Or.inr ⟨by decide, eIO, by decide, by decide, cw_eIO⟩, fun _ h => absurd h List.not_mem_nil⟩) rfl (by decide) cw_eIA cc_eIA (fun q => ?_)
    iterate 2 refine pw_go tk_L_vary rfl rfl ?_
    rw [hQ]
    exact pw_iret tk_L_vary rfl rfl rfl ⟨_, rfl, lwo_1 (t := 2) hK (by decide) m1⟩
theorem wx_quash {x : Int32} (hl : G.1.stackTraces = false) (hn : n ≤ 600) (L : LI G n D A M) : PM G 2 1 6 mm_L_quash [.ref (A 0 0), .int x, .ref (A 70 0)] (hp M A D) (fw_qI (fun r h' => lwo G n D A (quS D x.toNatClampNeg) (quK D x) 70 (outL (if (!decide (0 < D 13 x.toNatClampNeg 13)) = true then 1 else 0)) r h') fw_noX) := by
  refine pm_ofH (by decide +kernel) rfl rfl rfl ?_
  obtain ⟨Q, hQ⟩ : ∃ Q, Q = (fw_qI (fun r h' => lwo G n D A (quS D x.toNatClampNeg) (quK D x) 70 (outL (if (!decide (0 < D 13 x.toNatClampNeg 13)) = true then 1 else 0)) r h') fw_noX) := ⟨_, rfl⟩
  rw [← hQ]
  iterate 4 refine pw_go tk_L_quash rfl rfl ?_
  refine pw_cv tk_L_quash rfl ca_X10_quash lk_L_57 iv_X10_quash sv_X10_quash (hget (L.1.1.1.lv (k := 0) (i := 0) (by have := L.1.2.1.1.1; omega))) rfl rfl (As := [.int x]) (rest := [.int 0, .ref (A 70 0)]) (kc' := 0) (ks' := 0) ((f_quash hl hn L.1)) rfl rfl rfl (Nat.le_of_ble_eq_true rfl) (Nat.le_refl _) (Nat.le_refl _) ?_ ?_
  · rintro _ h1 ⟨v, rfl, hd, hK, rfl⟩
    obtain ⟨D1, A1, M1, e9, m1⟩ := lm_of (G := G) hd
    rw [e9]
    have e70 : A1 70 0 = A 70 0 := m1.2.2.2.2.2.2.1
    cases hb : (!decide (0 < D 13 x.toNatClampNeg 13)) with
    | true =>
      rw [hb] at hQ
      refine pw_ifeqB (b := true) tk_L_quash rfl (fun c => ?_) (fun c => ?_)
      · exact absurd c (by decide)
      · skip
        iterate 2 refine pw_go tk_L_quash rfl rfl ?_
        refine pw_outL (x := 1) (rest := []) L m1 tk_L_quash rfl (by rw [e70]; rfl) (fun D2 m2 e2 => ?_)
        iterate 2 refine pw_go tk_L_quash rfl rfl ?_
        rw [hQ]
        exact pw_iret tk_L_quash rfl rfl rfl ⟨_, rfl, lwo_0 hK m2 e2⟩
    | false =>
      rw [hb] at hQ
      refine pw_ifeqB (b := false) tk_L_quash rfl (fun c => ?_) (fun c => ?_)
      · skip
        refine pw_go tk_L_quash rfl rfl ?_
        refine pw_outL (x := 0) (rest := []) L m1 tk_L_quash rfl (by rw [e70]; rfl) (fun D2 m2 e2 => ?_)
        iterate 2 refine pw_go tk_L_quash rfl rfl ?_
        rw [hQ]
        exact pw_iret tk_L_quash rfl rfl rfl ⟨_, rfl, lwo_0 hK m2 e2⟩
      · exact absurd c (by decide)
  · rintro E h1 ⟨hd, hx⟩
    obtain ⟨D1, A1, M1, e9, m1⟩ := lm_of (G := G) hd
    rw [e9]
    obtain ⟨hK, rfl⟩ := Prod.mk.inj (List.mem_singleton.mp hx)
    refine px_catch [] ⟨0, 16, 19, 32⟩ [] rfl (by decide) (fun _ h => absurd h List.not_mem_nil) rfl (by decide) cw_eIO cc_eIO (fun q => ?_)
    iterate 2 refine pw_go tk_L_quash rfl rfl ?_
    rw [hQ]
    exact pw_iret tk_L_quash rfl rfl rfl ⟨_, rfl, lwo_1 (t := 1) hK (by decide) m1⟩
theorem wx_approve {x y : Int32} (hl : G.1.stackTraces = false) (hn : n ≤ 600) (L : LI G n D A M) : PM G 3 2 12 mm_L_approve [.ref (A 0 0), .int x, .int y, .ref (A 70 0)] (hp M A D) (fw_qI (fun r h' => lwo G n D A (apS D x.toNatClampNeg y.toNatClampNeg) (pdK (D 99 0 13) x (inI y 0 (nI 19999))) 70 (outL (nP (D 13 x.toNatClampNeg 10)).toInt64) r h') fw_noX) := by
  refine pm_ofH (by decide +kernel) rfl rfl rfl ?_
  obtain ⟨Q, hQ⟩ : ∃ Q, Q = (fw_qI (fun r h' => lwo G n D A (apS D x.toNatClampNeg y.toNatClampNeg) (pdK (D 99 0 13) x (inI y 0 (nI 19999))) 70 (outL (nP (D 13 x.toNatClampNeg 10)).toInt64) r h') fw_noX) := ⟨_, rfl⟩
  rw [← hQ]
  iterate 5 refine pw_go tk_L_approve rfl rfl ?_
  refine pw_cv tk_L_approve rfl ca_X10_approve lk_L_61 iv_X10_approve sv_X10_approve (hget (L.1.1.1.lv (k := 0) (i := 0) (by have := L.1.2.1.1.1; omega))) rfl rfl (As := [.int x, .int y]) (rest := [.int 0, .ref (A 70 0)]) (kc' := 0) (ks' := 0) ((f_approve hl hn L.1)) rfl rfl rfl (Nat.le_of_ble_eq_true rfl) (Nat.le_refl _) (Nat.le_refl _) ?_ ?_
  · rintro _ h1 ⟨v, rfl, hd, hK, rfl⟩
    obtain ⟨D1, A1, M1, e9, m1⟩ := lm_of (G := G) hd
    rw [e9]
    have e70 : A1 70 0 = A 70 0 := m1.2.2.2.2.2.2.1
    refine pw_go tk_L_approve rfl rfl ?_
    refine pw_outL (x := (nP (D 13 x.toNatClampNeg 10)).toInt64) (rest := []) L m1 tk_L_approve rfl (by rw [e70]; rfl) (fun D2 m2 e2 => ?_)
    iterate 2 refine pw_go tk_L_approve rfl rfl ?_
    rw [hQ]
    exact pw_iret tk_L_approve rfl rfl rfl ⟨_, rfl, lwo_0 hK m2 e2⟩
  · rintro E h1 ⟨hd, hx⟩
    obtain ⟨D1, A1, M1, e9, m1⟩ := lm_of (G := G) hd
    rw [e9]
    rcases List.mem_cons.mp hx with hx | hx
    · obtain ⟨hK, rfl⟩ := Prod.mk.inj hx
      refine px_catch [] ⟨0, 10, 13, 32⟩ [⟨0, 10, 17, 13⟩] rfl (by decide) (fun _ h => absurd h List.not_mem_nil) rfl (by decide) cw_eIO cc_eIO (fun q => ?_)
      iterate 2 refine pw_go tk_L_approve rfl rfl ?_
      rw [hQ]
      exact pw_iret tk_L_approve rfl rfl rfl ⟨_, rfl, lwo_1 (t := 1) hK (by decide) m1⟩
    obtain ⟨hK, rfl⟩ := Prod.mk.inj (List.mem_singleton.mp hx)
    refine px_catch [⟨0, 10, 13, 32⟩] ⟨0, 10, 17, 13⟩ [] rfl (by decide) (List.forall_mem_cons.mpr ⟨Or.inr ⟨by decide, eIO, by decide, by decide, cw_eIO⟩, fun _ h => absurd h List.not_mem_nil⟩) rfl (by decide) cw_eIA cc_eIA (fun q => ?_)
    iterate 2 refine pw_go tk_L_approve rfl rfl ?_
    rw [hQ]
    exact pw_iret tk_L_approve rfl rfl rfl ⟨_, rfl, lwo_1 (t := 2) hK (by decide) m1⟩
theorem wx_add {x y z : Int32} (hl : G.1.stackTraces = false) (L : LI G n D A M) : PM G 3 5 27 mm_L_add [.ref (A 0 0), .int x, .int y, .int z, .ref (A 70 0)] (hp M A D) (fw_qI (fun r h' => lwo G n D A (adS D x.toNatClampNeg y.toNatClampNeg z.toNatClampNeg) (adK D x y z) 70 (outL (nI (D 99 0 16)).toInt64) r h') fw_noX) := by
  refine pm_ofH (by decide +kernel) rfl rfl rfl ?_
  obtain ⟨Q, hQ⟩ : ∃ Q, Q = (fw_qI (fun r h' => lwo G n D A (adS D x.toNatClampNeg y.toNatClampNeg z.toNatClampNeg) (adK D x y z) 70 (outL (nI (D 99 0 16)).toInt64) r h') fw_noX) := ⟨_, rfl⟩
  rw [← hQ]
  iterate 6 refine pw_go tk_L_add rfl rfl ?_
  refine pw_cv tk_L_add rfl ca_X10_add lk_L_64 iv_X10_add sv_X10_add (hget (L.1.1.1.lv (k := 0) (i := 0) (by have := L.1.2.1.1.1; omega))) rfl rfl (As := [.int x, .int y, .int z]) (rest := [.int 0, .ref (A 70 0)]) (kc' := 0) (ks' := 0) ((f_add hl L.1)) rfl rfl rfl (Nat.le_of_ble_eq_true rfl) (Nat.le_refl _) (Nat.le_refl _) ?_ ?_
  · rintro _ h1 ⟨v, rfl, hd, hK, rfl⟩
    obtain ⟨D1, A1, M1, e9, m1⟩ := lm_of (G := G) hd
    rw [e9]
    have e70 : A1 70 0 = A 70 0 := m1.2.2.2.2.2.2.1
    refine pw_go tk_L_add rfl rfl ?_
    refine pw_outL (x := (nI (D 99 0 16)).toInt64) (rest := []) L m1 tk_L_add rfl (by rw [e70]; rfl) (fun D2 m2 e2 => ?_)
    iterate 2 refine pw_go tk_L_add rfl rfl ?_
    rw [hQ]
    exact pw_iret tk_L_add rfl rfl rfl ⟨_, rfl, lwo_0 hK m2 e2⟩
  · rintro E h1 ⟨hd, hx⟩
    obtain ⟨D1, A1, M1, e9, m1⟩ := lm_of (G := G) hd
    rw [e9]
    rcases List.mem_cons.mp hx with hx | hx
    · obtain ⟨hK, rfl⟩ := Prod.mk.inj hx
      refine px_catch [] ⟨0, 12, 15, 32⟩ [⟨0, 12, 19, 13⟩, ⟨0, 12, 23, 27⟩] rfl (by decide) (fun _ h => absurd h List.not_mem_nil) rfl (by decide) cw_eIO cc_eIO (fun q => ?_)
      iterate 2 refine pw_go tk_L_add rfl rfl ?_
      rw [hQ]
      exact pw_iret tk_L_add rfl rfl rfl ⟨_, rfl, lwo_1 (t := 1) hK (by decide) m1⟩
    rcases List.mem_cons.mp hx with hx | hx
    · obtain ⟨hK, rfl⟩ := Prod.mk.inj hx
      refine px_catch [⟨0, 12, 15, 32⟩] ⟨0, 12, 19, 13⟩ [⟨0, 12, 23, 27⟩] rfl (by decide) (List.forall_mem_cons.mpr ⟨Or.inr ⟨by decide, eIO, by decide, by decide, cw_eIO⟩, fun _ h => absurd h List.not_mem_nil⟩) rfl (by decide) cw_eIA cc_eIA (fun q => ?_)
      iterate 2 refine pw_go tk_L_add rfl rfl ?_
      rw [hQ]
      exact pw_iret tk_L_add rfl rfl rfl ⟨_, rfl, lwo_1 (t := 2) hK (by decide) m1⟩
    obtain ⟨hK, rfl⟩ := Prod.mk.inj (List.mem_singleton.mp hx)
    refine px_catch [⟨0, 12, 15, 32⟩, ⟨0, 12, 19, 13⟩] ⟨0, 12, 23, 27⟩ [] rfl (by decide) (List.forall_mem_cons.mpr ⟨Or.inr ⟨by decide, eIO, by decide, by decide, cw_eIO⟩, List.forall_mem_cons.mpr ⟨Or.inr ⟨by decide, eIA, by decide, by decide, cw_eIA⟩, fun _ h => absurd h List.not_mem_nil⟩⟩) rfl (by decide) cw_eIS cc_eIS (fun q => ?_)
    iterate 2 refine pw_go tk_L_add rfl rfl ?_
    rw [hQ]
    exact pw_iret tk_L_add rfl rfl rfl ⟨_, rfl, lwo_1 (t := 3) hK (by decide) m1⟩
theorem wx_giveBack {x y : Int32} (hl : G.1.stackTraces = false) (L : LI G n D A M) : PM G 2 2 12 mm_L_giveBack [.ref (A 0 0), .int x, .int y, .ref (A 70 0)] (hp M A D) (fw_qI (fun r h' => lwo G n D A (gbS D x.toNatClampNeg y.toNatClampNeg) (gbK D x y) 70 (outL (nI (D 16 x.toNatClampNeg 1 - y.toNatClampNeg)).toInt64) r h') fw_noX) := by
  refine pm_ofH (by decide +kernel) rfl rfl rfl ?_
  obtain ⟨Q, hQ⟩ : ∃ Q, Q = (fw_qI (fun r h' => lwo G n D A (gbS D x.toNatClampNeg y.toNatClampNeg) (gbK D x y) 70 (outL (nI (D 16 x.toNatClampNeg 1 - y.toNatClampNeg)).toInt64) r h') fw_noX) := ⟨_, rfl⟩
  rw [← hQ]
  iterate 5 refine pw_go tk_L_giveBack rfl rfl ?_
  refine pw_cv tk_L_giveBack rfl ca_X10_giveBack lk_L_67 iv_X10_giveBack sv_X10_giveBack (hget (L.1.1.1.lv (k := 0) (i := 0) (by have := L.1.2.1.1.1; omega))) rfl rfl (As := [.int x, .int y]) (rest := [.int 0, .ref (A 70 0)]) (kc' := 0) (ks' := 0) ((f_giveBack hl L.1)) rfl rfl rfl (Nat.le_of_ble_eq_true rfl) (Nat.le_refl _) (Nat.le_refl _) ?_ ?_
  · rintro _ h1 ⟨v, rfl, hd, hK, rfl⟩
    obtain ⟨D1, A1, M1, e9, m1⟩ := lm_of (G := G) hd
    rw [e9]
    have e70 : A1 70 0 = A 70 0 := m1.2.2.2.2.2.2.1
    refine pw_go tk_L_giveBack rfl rfl ?_
    refine pw_outL (x := (nI (D 16 x.toNatClampNeg 1 - y.toNatClampNeg)).toInt64) (rest := []) L m1 tk_L_giveBack rfl (by rw [e70]; rfl) (fun D2 m2 e2 => ?_)
    iterate 2 refine pw_go tk_L_giveBack rfl rfl ?_
    rw [hQ]
    exact pw_iret tk_L_giveBack rfl rfl rfl ⟨_, rfl, lwo_0 hK m2 e2⟩
  · rintro E h1 ⟨hd, hx⟩
    obtain ⟨D1, A1, M1, e9, m1⟩ := lm_of (G := G) hd
    rw [e9]
    rcases List.mem_cons.mp hx with hx | hx
    · obtain ⟨hK, rfl⟩ := Prod.mk.inj hx
      refine px_catch [] ⟨0, 10, 13, 32⟩ [⟨0, 10, 17, 13⟩] rfl (by decide) (fun _ h => absurd h List.not_mem_nil) rfl (by decide) cw_eIO cc_eIO (fun q => ?_)
      iterate 2 refine pw_go tk_L_giveBack rfl rfl ?_
      rw [hQ]
      exact pw_iret tk_L_giveBack rfl rfl rfl ⟨_, rfl, lwo_1 (t := 1) hK (by decide) m1⟩
    obtain ⟨hK, rfl⟩ := Prod.mk.inj (List.mem_singleton.mp hx)
    refine px_catch [⟨0, 10, 13, 32⟩] ⟨0, 10, 17, 13⟩ [] rfl (by decide) (List.forall_mem_cons.mpr ⟨Or.inr ⟨by decide, eIO, by decide, by decide, cw_eIO⟩, fun _ h => absurd h List.not_mem_nil⟩) rfl (by decide) cw_eIA cc_eIA (fun q => ?_)
    iterate 2 refine pw_go tk_L_giveBack rfl rfl ?_
    rw [hQ]
    exact pw_iret tk_L_giveBack rfl rfl rfl ⟨_, rfl, lwo_1 (t := 2) hK (by decide) m1⟩
theorem wx_atLarge {x y z : Int32} (hl : G.1.stackTraces = false) (L : LI G n D A M) : PM G 4 3 18 mm_L_atLarge [.ref (A 0 0), .int x, .int y, .int z, .ref (A 70 0)] (hp M A D) (fw_qI (fun r h' => lwo G n D A (atS D x.toNatClampNeg y.toNatClampNeg z.toNatClampNeg) (pdK (D 99 0 8) x (spI y z)) 70 (outL (nI (atV D x.toNatClampNeg y.toNatClampNeg z.toNatClampNeg)).toInt64) r h') fw_noX) := by
  refine pm_ofH (by decide +kernel) rfl rfl rfl ?_
  obtain ⟨Q, hQ⟩ : ∃ Q, Q = (fw_qI (fun r h' => lwo G n D A (atS D x.toNatClampNeg y.toNatClampNeg z.toNatClampNeg) (pdK (D 99 0 8) x (spI y z)) 70 (outL (nI (atV D x.toNatClampNeg y.toNatClampNeg z.toNatClampNeg)).toInt64) r h') fw_noX) := ⟨_, rfl⟩
  rw [← hQ]
  iterate 6 refine pw_go tk_L_atLarge rfl rfl ?_
  refine pw_cv tk_L_atLarge rfl ca_X10_atLarge lk_L_70 iv_X10_atLarge sv_X10_atLarge (hget (L.1.1.1.lv (k := 0) (i := 0) (by have := L.1.2.1.1.1; omega))) rfl rfl (As := [.int x, .int y, .int z]) (rest := [.int 0, .ref (A 70 0)]) (kc' := 0) (ks' := 0) ((f_atLarge hl L.1)) rfl rfl rfl (Nat.le_of_ble_eq_true rfl) (Nat.le_refl _) (Nat.le_refl _) ?_ ?_
  · rintro _ h1 ⟨v, rfl, hd, hK, rfl⟩
    obtain ⟨D1, A1, M1, e9, m1⟩ := lm_of (G := G) hd
    rw [e9]
    have e70 : A1 70 0 = A 70 0 := m1.2.2.2.2.2.2.1
    refine pw_go tk_L_atLarge rfl rfl ?_
    refine pw_outL (x := (nI (atV D x.toNatClampNeg y.toNatClampNeg z.toNatClampNeg)).toInt64) (rest := []) L m1 tk_L_atLarge rfl (by rw [e70]; rfl) (fun D2 m2 e2 => ?_)
    iterate 2 refine pw_go tk_L_atLarge rfl rfl ?_
    rw [hQ]
    exact pw_iret tk_L_atLarge rfl rfl rfl ⟨_, rfl, lwo_0 hK m2 e2⟩
  · rintro E h1 ⟨hd, hx⟩
    obtain ⟨D1, A1, M1, e9, m1⟩ := lm_of (G := G) hd
    rw [e9]
    rcases List.mem_cons.mp hx with hx | hx
    · obtain ⟨hK, rfl⟩ := Prod.mk.inj hx
      refine px_catch [] ⟨0, 12, 15, 32⟩ [⟨0, 12, 19, 13⟩] rfl (by decide) (fun _ h => absurd h List.not_mem_nil) rfl (by decide) cw_eIO cc_eIO (fun q => ?_)
      iterate 2 refine pw_go tk_L_atLarge rfl rfl ?_
      rw [hQ]
      exact pw_iret tk_L_atLarge rfl rfl rfl ⟨_, rfl, lwo_1 (t := 1) hK (by decide) m1⟩
    obtain ⟨hK, rfl⟩ := Prod.mk.inj (List.mem_singleton.mp hx)
    refine px_catch [⟨0, 12, 15, 32⟩] ⟨0, 12, 19, 13⟩ [] rfl (by decide) (List.forall_mem_cons.mpr ⟨Or.inr ⟨by decide, eIO, by decide, by decide, cw_eIO⟩, fun _ h => absurd h List.not_mem_nil⟩) rfl (by decide) cw_eIA cc_eIA (fun q => ?_)
    iterate 2 refine pw_go tk_L_atLarge rfl rfl ?_
    rw [hQ]
    exact pw_iret tk_L_atLarge rfl rfl rfl ⟨_, rfl, lwo_1 (t := 2) hK (by decide) m1⟩
theorem wx_recall {x y z : Int32} (hl : G.1.stackTraces = false) (L : LI G n D A M) : PM G 6 4 27 mm_L_recall [.ref (A 0 0), .int x, .int y, .int z, .ref (A 70 0)] (hp M A D) (fw_qI (fun r h' => lwo G n D A (reS D x.toNatClampNeg y.toNatClampNeg (if decide (z = nI 102) = true then 1 else 0)) (rcK D x y z) 70 (outL (nI ((rlS D x.toNatClampNeg).length + 1)).toInt64) r h') fw_noX) := by
  refine pm_ofH (by decide +kernel) rfl rfl rfl ?_
  obtain ⟨Q, hQ⟩ : ∃ Q, Q = (fw_qI (fun r h' => lwo G n D A (reS D x.toNatClampNeg y.toNatClampNeg (if decide (z = nI 102) = true then 1 else 0)) (rcK D x y z) 70 (outL (nI ((rlS D x.toNatClampNeg).length + 1)).toInt64) r h') fw_noX) := ⟨_, rfl⟩
  rw [← hQ]
  iterate 6 refine pw_go tk_L_recall rfl rfl ?_
  refine pw_cv tk_L_recall rfl ca_X10_recall lk_L_73 iv_X10_recall sv_X10_recall (hget (L.1.1.1.lv (k := 0) (i := 0) (by have := L.1.2.1.1.1; omega))) rfl rfl (As := [.int x, .int y, .int z]) (rest := [.int 0, .ref (A 70 0)]) (kc' := 0) (ks' := 0) ((f_recall hl L.1)) rfl rfl rfl (Nat.le_of_ble_eq_true rfl) (Nat.le_refl _) (Nat.le_refl _) ?_ ?_
  · rintro _ h1 ⟨v, rfl, hd, hK, rfl⟩
    obtain ⟨D1, A1, M1, e9, m1⟩ := lm_of (G := G) hd
    rw [e9]
    have e70 : A1 70 0 = A 70 0 := m1.2.2.2.2.2.2.1
    refine pw_go tk_L_recall rfl rfl ?_
    refine pw_outL (x := (nI ((rlS D x.toNatClampNeg).length + 1)).toInt64) (rest := []) L m1 tk_L_recall rfl (by rw [e70]; rfl) (fun D2 m2 e2 => ?_)
    iterate 2 refine pw_go tk_L_recall rfl rfl ?_
    rw [hQ]
    exact pw_iret tk_L_recall rfl rfl rfl ⟨_, rfl, lwo_0 hK m2 e2⟩
  · rintro E h1 ⟨hd, hx⟩
    obtain ⟨D1, A1, M1, e9, m1⟩ := lm_of (G := G) hd
    rw [e9]
    rcases List.mem_cons.mp hx with hx | hx
    · obtain ⟨hK, rfl⟩ := Prod.mk.inj hx
      refine px_catch [] ⟨0, 12, 15, 32⟩ [⟨0, 12, 19, 13⟩, ⟨0, 12, 23, 34⟩, ⟨0, 12, 27, 27⟩] rfl (by decide) (fun _ h => absurd h List.not_mem_nil) rfl (by decide) cw_eIO cc_eIO (fun q => ?_)
      iterate 2 refine pw_go tk_L_recall rfl rfl ?_
      rw [hQ]
      exact pw_iret tk_L_recall rfl rfl rfl ⟨_, rfl, lwo_1 (t := 1) hK (by decide) m1⟩
    rcases List.mem_cons.mp hx with hx | hx
    · obtain ⟨hK, rfl⟩ := Prod.mk.inj hx
      refine px_catch [⟨0, 12, 15, 32⟩] ⟨0, 12, 19, 13⟩ [⟨0, 12, 23, 34⟩, ⟨0, 12, 27, 27⟩] rfl (by decide) (List.forall_mem_cons.mpr ⟨Or.inr ⟨by decide, eIO, by decide, by decide, cw_eIO⟩, fun _ h => absurd h List.not_mem_nil⟩) rfl (by decide) cw_eIA cc_eIA (fun q => ?_)
      iterate 2 refine pw_go tk_L_recall rfl rfl ?_
      rw [hQ]
      exact pw_iret tk_L_recall rfl rfl rfl ⟨_, rfl, lwo_1 (t := 2) hK (by decide) m1⟩
    rcases List.mem_cons.mp hx with hx | hx
    · obtain ⟨hK, rfl⟩ := Prod.mk.inj hx
      refine px_catch [⟨0, 12, 15, 32⟩, ⟨0, 12, 19, 13⟩] ⟨0, 12, 23, 34⟩ [⟨0, 12, 27, 27⟩] rfl (by decide) (List.forall_mem_cons.mpr ⟨Or.inr ⟨by decide, eIO, by decide, by decide, cw_eIO⟩, List.forall_mem_cons.mpr ⟨Or.inr ⟨by decide, eIA, by decide, by decide, cw_eIA⟩, fun _ h => absurd h List.not_mem_nil⟩⟩) rfl (by decide) cw_eUO cc_eUO (fun q => ?_)
      iterate 2 refine pw_go tk_L_recall rfl rfl ?_
      rw [hQ]
      exact pw_iret tk_L_recall rfl rfl rfl ⟨_, rfl, lwo_1 (t := 3) hK (by decide) m1⟩
    obtain ⟨hK, rfl⟩ := Prod.mk.inj (List.mem_singleton.mp hx)
    refine px_catch [⟨0, 12, 15, 32⟩, ⟨0, 12, 19, 13⟩, ⟨0, 12, 23, 34⟩] ⟨0, 12, 27, 27⟩ [] rfl (by decide) (List.forall_mem_cons.mpr ⟨Or.inr ⟨by decide, eIO, by decide, by decide, cw_eIO⟩, List.forall_mem_cons.mpr ⟨Or.inr ⟨by decide, eIA, by decide, by decide, cw_eIA⟩, List.forall_mem_cons.mpr ⟨Or.inr ⟨by decide, eUO, by decide, by decide, cw_eUO⟩, fun _ h => absurd h List.not_mem_nil⟩⟩⟩) rfl (by decide) cw_eIS cc_eIS (fun q => ?_)
    iterate 2 refine pw_go tk_L_recall rfl rfl ?_
    rw [hQ]
    exact pw_iret tk_L_recall rfl rfl rfl ⟨_, rfl, lwo_1 (t := 4) hK (by decide) m1⟩
theorem wx_letGo {x y : Int32} (hl : G.1.stackTraces = false) (L : LI G n D A M) : PM G 6 3 18 mm_L_letGo [.ref (A 0 0), .int x, .int y, .ref (A 70 0)] (hp M A D) (fw_qI (fun r h' => lwo G n D A (lgS D x.toNatClampNeg y.toNatClampNeg) (lgK D x y) 70 (outL (nI (D 17 (rcS D x.toNatClampNeg y.toNatClampNeg - 1) 1)).toInt64) r h') fw_noX) := by
  refine pm_ofH (by decide +kernel) rfl rfl rfl ?_
  obtain ⟨Q, hQ⟩ : ∃ Q, Q = (fw_qI (fun r h' => lwo G n D A (lgS D x.toNatClampNeg y.toNatClampNeg) (lgK D x y) 70 (outL (nI (D 17 (rcS D x.toNatClampNeg y.toNatClampNeg - 1) 1)).toInt64) r h') fw_noX) := ⟨_, rfl⟩
  rw [← hQ]
  iterate 5 refine pw_go tk_L_letGo rfl rfl ?_
  refine pw_cv tk_L_letGo rfl ca_X10_letGo lk_L_77 iv_X10_letGo sv_X10_letGo (hget (L.1.1.1.lv (k := 0) (i := 0) (by have := L.1.2.1.1.1; omega))) rfl rfl (As := [.int x, .int y]) (rest := [.int 0, .ref (A 70 0)]) (kc' := 0) (ks' := 0) ((f_letGo hl L.1)) rfl rfl rfl (Nat.le_of_ble_eq_true rfl) (Nat.le_refl _) (Nat.le_refl _) ?_ ?_
  · rintro _ h1 ⟨v, rfl, hd, hK, rfl⟩
    obtain ⟨D1, A1, M1, e9, m1⟩ := lm_of (G := G) hd
    rw [e9]
    have e70 : A1 70 0 = A 70 0 := m1.2.2.2.2.2.2.1
    refine pw_go tk_L_letGo rfl rfl ?_
    refine pw_outL (x := (nI (D 17 (rcS D x.toNatClampNeg y.toNatClampNeg - 1) 1)).toInt64) (rest := []) L m1 tk_L_letGo rfl (by rw [e70]; rfl) (fun D2 m2 e2 => ?_)
    iterate 2 refine pw_go tk_L_letGo rfl rfl ?_
    rw [hQ]
    exact pw_iret tk_L_letGo rfl rfl rfl ⟨_, rfl, lwo_0 hK m2 e2⟩
  · rintro E h1 ⟨hd, hx⟩
    obtain ⟨D1, A1, M1, e9, m1⟩ := lm_of (G := G) hd
    rw [e9]
    rcases List.mem_cons.mp hx with hx | hx
    · obtain ⟨hK, rfl⟩ := Prod.mk.inj hx
      refine px_catch [] ⟨0, 10, 13, 32⟩ [⟨0, 10, 17, 13⟩, ⟨0, 10, 21, 34⟩] rfl (by decide) (fun _ h => absurd h List.not_mem_nil) rfl (by decide) cw_eIO cc_eIO (fun q => ?_)
      iterate 2 refine pw_go tk_L_letGo rfl rfl ?_
      rw [hQ]
      exact pw_iret tk_L_letGo rfl rfl rfl ⟨_, rfl, lwo_1 (t := 1) hK (by decide) m1⟩
    rcases List.mem_cons.mp hx with hx | hx
    · obtain ⟨hK, rfl⟩ := Prod.mk.inj hx
      refine px_catch [⟨0, 10, 13, 32⟩] ⟨0, 10, 17, 13⟩ [⟨0, 10, 21, 34⟩] rfl (by decide) (List.forall_mem_cons.mpr ⟨Or.inr ⟨by decide, eIO, by decide, by decide, cw_eIO⟩, fun _ h => absurd h List.not_mem_nil⟩) rfl (by decide) cw_eIA cc_eIA (fun q => ?_)
      iterate 2 refine pw_go tk_L_letGo rfl rfl ?_
      rw [hQ]
      exact pw_iret tk_L_letGo rfl rfl rfl ⟨_, rfl, lwo_1 (t := 2) hK (by decide) m1⟩
    obtain ⟨hK, rfl⟩ := Prod.mk.inj (List.mem_singleton.mp hx)
    refine px_catch [⟨0, 10, 13, 32⟩, ⟨0, 10, 17, 13⟩] ⟨0, 10, 21, 34⟩ [] rfl (by decide) (List.forall_mem_cons.mpr ⟨Or.inr ⟨by decide, eIO, by decide, by decide, cw_eIO⟩, List.forall_mem_cons.mpr ⟨Or.inr ⟨by decide, eIA, by decide, by decide, cw_eIA⟩, fun _ h => absurd h List.not_mem_nil⟩⟩) rfl (by decide) cw_eUO cc_eUO (fun q => ?_)
    iterate 2 refine pw_go tk_L_letGo rfl rfl ?_
    rw [hQ]
    exact pw_iret tk_L_letGo rfl rfl rfl ⟨_, rfl, lwo_1 (t := 3) hK (by decide) m1⟩
theorem wx_begins {x : Int32} (hl : G.1.stackTraces = false) (L : LI G n D A M) : PM G 7 2 12 mm_L_begins [.ref (A 0 0), .int x, .ref (A 70 0)] (hp M A D) (fw_qI (fun r h' => lwo G n D A D (bgK D x) 70 (outL (nI (FD D 13 x.toNatClampNeg 14)).toInt64) r h') fw_noX) := by
  refine pm_ofH (by decide +kernel) rfl rfl rfl ?_
  obtain ⟨Q, hQ⟩ : ∃ Q, Q = (fw_qI (fun r h' => lwo G n D A D (bgK D x) 70 (outL (nI (FD D 13 x.toNatClampNeg 14)).toInt64) r h') fw_noX) := ⟨_, rfl⟩
  rw [← hQ]
  iterate 4 refine pw_go tk_L_begins rfl rfl ?_
  refine pw_cv tk_L_begins rfl ca_X10_begins lk_L_80 iv_X10_begins sv_X10_begins (hget (L.1.1.1.lv (k := 0) (i := 0) (by have := L.1.2.1.1.1; omega))) rfl rfl (As := [.int x]) (rest := [.int 0, .ref (A 70 0)]) (kc' := 0) (ks' := 0) ((f_begins hl L.1)) rfl rfl rfl (Nat.le_of_ble_eq_true rfl) (Nat.le_refl _) (Nat.le_refl _) ?_ ?_
  · rintro _ h1 ⟨v, rfl, hk, hK, rfl⟩
    have hd := kept_done hk
    obtain ⟨D1, A1, M1, e9, m1⟩ := lm_of (G := G) hd
    rw [e9]
    have e70 : A1 70 0 = A 70 0 := m1.2.2.2.2.2.2.1
    refine pw_go tk_L_begins rfl rfl ?_
    refine pw_outL (x := (nI (FD D 13 x.toNatClampNeg 14)).toInt64) (rest := []) L m1 tk_L_begins rfl (by rw [e70]; rfl) (fun D2 m2 e2 => ?_)
    iterate 2 refine pw_go tk_L_begins rfl rfl ?_
    rw [hQ]
    exact pw_iret tk_L_begins rfl rfl rfl ⟨_, rfl, lwo_0 hK m2 e2⟩
  · rintro E h1 ⟨hk, hx⟩
    have hd := kept_done hk
    obtain ⟨D1, A1, M1, e9, m1⟩ := lm_of (G := G) hd
    rw [e9]
    rcases List.mem_cons.mp hx with hx | hx
    · obtain ⟨hK, rfl⟩ := Prod.mk.inj hx
      refine px_catch [] ⟨0, 9, 12, 32⟩ [⟨0, 9, 15, 36⟩] rfl (by decide) (fun _ h => absurd h List.not_mem_nil) rfl (by decide) cw_eIO cc_eIO (fun q => ?_)
      iterate 2 refine pw_go tk_L_begins rfl rfl ?_
      rw [hQ]
      exact pw_iret tk_L_begins rfl rfl rfl ⟨_, rfl, lwo_1 (t := 1) hK (by decide) m1⟩
    obtain ⟨hK, rfl⟩ := Prod.mk.inj (List.mem_singleton.mp hx)
    refine px_catch [⟨0, 9, 12, 32⟩] ⟨0, 9, 15, 36⟩ [] rfl (by decide) (List.forall_mem_cons.mpr ⟨Or.inr ⟨by decide, eIO, by decide, by decide, cw_eIO⟩, fun _ h => absurd h List.not_mem_nil⟩) rfl (by decide) cw_eNS cc_eNS (fun q => ?_)
    iterate 2 refine pw_go tk_L_begins rfl rfl ?_
    rw [hQ]
    exact pw_iret tk_L_begins rfl rfl rfl ⟨_, rfl, lwo_1 (t := 2) hK (by decide) m1⟩
theorem wx_needed {x : Int32} (hl : G.1.stackTraces = false) (L : LI G n D A M) : PM G 7 2 12 mm_L_needed [.ref (A 0 0), .int x, .ref (A 70 0)] (hp M A D) (fw_qI (fun r h' => lwo G n D A D (bgK D x) 70 (outL (nI (FD D 13 x.toNatClampNeg 15)).toInt64) r h') fw_noX) := by
  refine pm_ofH (by decide +kernel) rfl rfl rfl ?_
  obtain ⟨Q, hQ⟩ : ∃ Q, Q = (fw_qI (fun r h' => lwo G n D A D (bgK D x) 70 (outL (nI (FD D 13 x.toNatClampNeg 15)).toInt64) r h') fw_noX) := ⟨_, rfl⟩
  rw [← hQ]
  iterate 4 refine pw_go tk_L_needed rfl rfl ?_
  refine pw_cv tk_L_needed rfl ca_X10_needed lk_L_83 iv_X10_needed sv_X10_needed (hget (L.1.1.1.lv (k := 0) (i := 0) (by have := L.1.2.1.1.1; omega))) rfl rfl (As := [.int x]) (rest := [.int 0, .ref (A 70 0)]) (kc' := 0) (ks' := 0) ((f_needed hl L.1)) rfl rfl rfl (Nat.le_of_ble_eq_true rfl) (Nat.le_refl _) (Nat.le_refl _) ?_ ?_
  · rintro _ h1 ⟨v, rfl, hk, hK, rfl⟩
    have hd := kept_done hk
    obtain ⟨D1, A1, M1, e9, m1⟩ := lm_of (G := G) hd
    rw [e9]
    have e70 : A1 70 0 = A 70 0 := m1.2.2.2.2.2.2.1
    refine pw_go tk_L_needed rfl rfl ?_
    refine pw_outL (x := (nI (FD D 13 x.toNatClampNeg 15)).toInt64) (rest := []) L m1 tk_L_needed rfl (by rw [e70]; rfl) (fun D2 m2 e2 => ?_)
    iterate 2 refine pw_go tk_L_needed rfl rfl ?_
    rw [hQ]
    exact pw_iret tk_L_needed rfl rfl rfl ⟨_, rfl, lwo_0 hK m2 e2⟩
  · rintro E h1 ⟨hk, hx⟩
    have hd := kept_done hk
    obtain ⟨D1, A1, M1, e9, m1⟩ := lm_of (G := G) hd
    rw [e9]
    rcases List.mem_cons.mp hx with hx | hx
    · obtain ⟨hK, rfl⟩ := Prod.mk.inj hx
      refine px_catch [] ⟨0, 9, 12, 32⟩ [⟨0, 9, 15, 36⟩] rfl (by decide) (fun _ h => absurd h List.not_mem_nil) rfl (by decide) cw_eIO cc_eIO (fun q => ?_)
      iterate 2 refine pw_go tk_L_needed rfl rfl ?_
      rw [hQ]
      exact pw_iret tk_L_needed rfl rfl rfl ⟨_, rfl, lwo_1 (t := 1) hK (by decide) m1⟩
    obtain ⟨hK, rfl⟩ := Prod.mk.inj (List.mem_singleton.mp hx)
    refine px_catch [⟨0, 9, 12, 32⟩] ⟨0, 9, 15, 36⟩ [] rfl (by decide) (List.forall_mem_cons.mpr ⟨Or.inr ⟨by decide, eIO, by decide, by decide, cw_eIO⟩, fun _ h => absurd h List.not_mem_nil⟩) rfl (by decide) cw_eNS cc_eNS (fun q => ?_)
    iterate 2 refine pw_go tk_L_needed rfl rfl ?_
    rw [hQ]
    exact pw_iret tk_L_needed rfl rfl rfl ⟨_, rfl, lwo_1 (t := 2) hK (by decide) m1⟩
theorem wx_release {x : Int32} (hl : G.1.stackTraces = false) (L : LI G n D A M) : PM G 7 3 18 mm_L_release [.ref (A 0 0), .int x, .ref (A 70 0)] (hp M A D) (fw_qI (fun r h' => lwo G n D A D (reK D x) 70 (outL (nI (FD D 13 x.toNatClampNeg 16)).toInt64) r h') fw_noX) := by
  refine pm_ofH (by decide +kernel) rfl rfl rfl ?_
  obtain ⟨Q, hQ⟩ : ∃ Q, Q = (fw_qI (fun r h' => lwo G n D A D (reK D x) 70 (outL (nI (FD D 13 x.toNatClampNeg 16)).toInt64) r h') fw_noX) := ⟨_, rfl⟩
  rw [← hQ]
  iterate 4 refine pw_go tk_L_release rfl rfl ?_
  refine pw_cv tk_L_release rfl ca_X10_release lk_L_86 iv_X10_release sv_X10_release (hget (L.1.1.1.lv (k := 0) (i := 0) (by have := L.1.2.1.1.1; omega))) rfl rfl (As := [.int x]) (rest := [.int 0, .ref (A 70 0)]) (kc' := 0) (ks' := 0) ((f_release hl L.1)) rfl rfl rfl (Nat.le_of_ble_eq_true rfl) (Nat.le_refl _) (Nat.le_refl _) ?_ ?_
  · rintro _ h1 ⟨v, rfl, hk, hK, rfl⟩
    have hd := kept_done hk
    obtain ⟨D1, A1, M1, e9, m1⟩ := lm_of (G := G) hd
    rw [e9]
    have e70 : A1 70 0 = A 70 0 := m1.2.2.2.2.2.2.1
    refine pw_go tk_L_release rfl rfl ?_
    refine pw_outL (x := (nI (FD D 13 x.toNatClampNeg 16)).toInt64) (rest := []) L m1 tk_L_release rfl (by rw [e70]; rfl) (fun D2 m2 e2 => ?_)
    iterate 2 refine pw_go tk_L_release rfl rfl ?_
    rw [hQ]
    exact pw_iret tk_L_release rfl rfl rfl ⟨_, rfl, lwo_0 hK m2 e2⟩
  · rintro E h1 ⟨hk, hx⟩
    have hd := kept_done hk
    obtain ⟨D1, A1, M1, e9, m1⟩ := lm_of (G := G) hd
    rw [e9]
    rcases List.mem_cons.mp hx with hx | hx
    · obtain ⟨hK, rfl⟩ := Prod.mk.inj hx
      refine px_catch [] ⟨0, 9, 12, 32⟩ [⟨0, 9, 15, 36⟩] rfl (by decide) (fun _ h => absurd h List.not_mem_nil) rfl (by decide) cw_eIO cc_eIO (fun q => ?_)
      iterate 2 refine pw_go tk_L_release rfl rfl ?_
      rw [hQ]
      exact pw_iret tk_L_release rfl rfl rfl ⟨_, rfl, lwo_1 (t := 1) hK (by decide) m1⟩
    obtain ⟨hK, rfl⟩ := Prod.mk.inj (List.mem_singleton.mp hx)
    refine px_catch [⟨0, 9, 12, 32⟩] ⟨0, 9, 15, 36⟩ [] rfl (by decide) (List.forall_mem_cons.mpr ⟨Or.inr ⟨by decide, eIO, by decide, by decide, cw_eIO⟩, fun _ h => absurd h List.not_mem_nil⟩) rfl (by decide) cw_eNS cc_eNS (fun q => ?_)
    iterate 2 refine pw_go tk_L_release rfl rfl ?_
    rw [hQ]
    exact pw_iret tk_L_release rfl rfl rfl ⟨_, rfl, lwo_1 (t := 2) hK (by decide) m1⟩
theorem wx_end {x : Int32} (hl : G.1.stackTraces = false) (L : LI G n D A M) : PM G 7 3 18 mm_L_end [.ref (A 0 0), .int x, .ref (A 70 0)] (hp M A D) (fw_qI (fun r h' => lwo G n D A D (enK D x) 70 (outL (nO (FD D 13 x.toNatClampNeg 17)).toInt64) r h') fw_noX) := by
  refine pm_ofH (by decide +kernel) rfl rfl rfl ?_
  obtain ⟨Q, hQ⟩ : ∃ Q, Q = (fw_qI (fun r h' => lwo G n D A D (enK D x) 70 (outL (nO (FD D 13 x.toNatClampNeg 17)).toInt64) r h') fw_noX) := ⟨_, rfl⟩
  rw [← hQ]
  iterate 4 refine pw_go tk_L_end rfl rfl ?_
  refine pw_cv tk_L_end rfl ca_X10_end lk_L_89 iv_X10_end sv_X10_end (hget (L.1.1.1.lv (k := 0) (i := 0) (by have := L.1.2.1.1.1; omega))) rfl rfl (As := [.int x]) (rest := [.int 0, .ref (A 70 0)]) (kc' := 0) (ks' := 0) ((f_end hl L.1)) rfl rfl rfl (Nat.le_of_ble_eq_true rfl) (Nat.le_refl _) (Nat.le_refl _) ?_ ?_
  · rintro _ h1 ⟨v, rfl, hk, hK, rfl⟩
    have hd := kept_done hk
    obtain ⟨D1, A1, M1, e9, m1⟩ := lm_of (G := G) hd
    rw [e9]
    have e70 : A1 70 0 = A 70 0 := m1.2.2.2.2.2.2.1
    refine pw_go tk_L_end rfl rfl ?_
    refine pw_outL (x := (nO (FD D 13 x.toNatClampNeg 17)).toInt64) (rest := []) L m1 tk_L_end rfl (by rw [e70]; rfl) (fun D2 m2 e2 => ?_)
    iterate 2 refine pw_go tk_L_end rfl rfl ?_
    rw [hQ]
    exact pw_iret tk_L_end rfl rfl rfl ⟨_, rfl, lwo_0 hK m2 e2⟩
  · rintro E h1 ⟨hk, hx⟩
    have hd := kept_done hk
    obtain ⟨D1, A1, M1, e9, m1⟩ := lm_of (G := G) hd
    rw [e9]
    rcases List.mem_cons.mp hx with hx | hx
    · obtain ⟨hK, rfl⟩ := Prod.mk.inj hx
      refine px_catch [] ⟨0, 9, 12, 32⟩ [⟨0, 9, 15, 36⟩] rfl (by decide) (fun _ h => absurd h List.not_mem_nil) rfl (by decide) cw_eIO cc_eIO (fun q => ?_)
      iterate 2 refine pw_go tk_L_end rfl rfl ?_
      rw [hQ]
      exact pw_iret tk_L_end rfl rfl rfl ⟨_, rfl, lwo_1 (t := 1) hK (by decide) m1⟩
    obtain ⟨hK, rfl⟩ := Prod.mk.inj (List.mem_singleton.mp hx)
    refine px_catch [⟨0, 9, 12, 32⟩] ⟨0, 9, 15, 36⟩ [] rfl (by decide) (List.forall_mem_cons.mpr ⟨Or.inr ⟨by decide, eIO, by decide, by decide, cw_eIO⟩, fun _ h => absurd h List.not_mem_nil⟩) rfl (by decide) cw_eNS cc_eNS (fun q => ?_)
    iterate 2 refine pw_go tk_L_end rfl rfl ?_
    rw [hQ]
    exact pw_iret tk_L_end rfl rfl rfl ⟨_, rfl, lwo_1 (t := 2) hK (by decide) m1⟩
theorem wx_stateOn {x y : Int32} (hl : G.1.stackTraces = false) (L : LI G n D A M) : PM G 6 2 12 mm_L_stateOn [.ref (A 0 0), .int x, .int y, .ref (A 70 0)] (hp M A D) (fw_qI (fun r h' => lwo G n D A D (pdK (D 99 0 8) x (inI y 0 (nI 19999))) 70 (outL (nI (stS D x.toNatClampNeg y.toNatClampNeg)).toInt64) r h') fw_noX) := by
  refine pm_ofH (by decide +kernel) rfl rfl rfl ?_
  obtain ⟨Q, hQ⟩ : ∃ Q, Q = (fw_qI (fun r h' => lwo G n D A D (pdK (D 99 0 8) x (inI y 0 (nI 19999))) 70 (outL (nI (stS D x.toNatClampNeg y.toNatClampNeg)).toInt64) r h') fw_noX) := ⟨_, rfl⟩
  rw [← hQ]
  iterate 5 refine pw_go tk_L_stateOn rfl rfl ?_
  refine pw_cv tk_L_stateOn rfl ca_X10_stateOn lk_L_92 iv_X10_stateOn sv_X10_stateOn (hget (L.1.1.1.lv (k := 0) (i := 0) (by have := L.1.2.1.1.1; omega))) rfl rfl (As := [.int x, .int y]) (rest := [.int 0, .ref (A 70 0)]) (kc' := 0) (ks' := 0) ((f_stateOn hl L.1)) rfl rfl rfl (Nat.le_of_ble_eq_true rfl) (Nat.le_refl _) (Nat.le_refl _) ?_ ?_
  · rintro _ h1 ⟨v, rfl, hk, hK, rfl⟩
    have hd := kept_done hk
    obtain ⟨D1, A1, M1, e9, m1⟩ := lm_of (G := G) hd
    rw [e9]
    have e70 : A1 70 0 = A 70 0 := m1.2.2.2.2.2.2.1
    refine pw_go tk_L_stateOn rfl rfl ?_
    refine pw_outL (x := (nI (stS D x.toNatClampNeg y.toNatClampNeg)).toInt64) (rest := []) L m1 tk_L_stateOn rfl (by rw [e70]; rfl) (fun D2 m2 e2 => ?_)
    iterate 2 refine pw_go tk_L_stateOn rfl rfl ?_
    rw [hQ]
    exact pw_iret tk_L_stateOn rfl rfl rfl ⟨_, rfl, lwo_0 hK m2 e2⟩
  · rintro E h1 ⟨hk, hx⟩
    have hd := kept_done hk
    obtain ⟨D1, A1, M1, e9, m1⟩ := lm_of (G := G) hd
    rw [e9]
    rcases List.mem_cons.mp hx with hx | hx
    · obtain ⟨hK, rfl⟩ := Prod.mk.inj hx
      refine px_catch [] ⟨0, 10, 13, 32⟩ [⟨0, 10, 17, 13⟩] rfl (by decide) (fun _ h => absurd h List.not_mem_nil) rfl (by decide) cw_eIO cc_eIO (fun q => ?_)
      iterate 2 refine pw_go tk_L_stateOn rfl rfl ?_
      rw [hQ]
      exact pw_iret tk_L_stateOn rfl rfl rfl ⟨_, rfl, lwo_1 (t := 1) hK (by decide) m1⟩
    obtain ⟨hK, rfl⟩ := Prod.mk.inj (List.mem_singleton.mp hx)
    refine px_catch [⟨0, 10, 13, 32⟩] ⟨0, 10, 17, 13⟩ [] rfl (by decide) (List.forall_mem_cons.mpr ⟨Or.inr ⟨by decide, eIO, by decide, by decide, cw_eIO⟩, fun _ h => absurd h List.not_mem_nil⟩) rfl (by decide) cw_eIA cc_eIA (fun q => ?_)
    iterate 2 refine pw_go tk_L_stateOn rfl rfl ?_
    rw [hQ]
    exact pw_iret tk_L_stateOn rfl rfl rfl ⟨_, rfl, lwo_1 (t := 2) hK (by decide) m1⟩
theorem wx_byClerk {x y : Int32} (hl : G.1.stackTraces = false) (L : LI G n D A M) : PM G 8 2 12 mm_L_byClerk [.ref (A 0 0), .int x, .int y, .ref (A 70 0)] (hp M A D) (fw_qI (fun r h' => lwo G n D A D (pdK (D 99 0 8) x (inI y 0 (nI 19999))) 70 (outL (nI (stS D x.toNatClampNeg y.toNatClampNeg)).toInt64) r h') fw_noX) := by
  refine pm_ofH (by decide +kernel) rfl rfl rfl ?_
  obtain ⟨Q, hQ⟩ : ∃ Q, Q = (fw_qI (fun r h' => lwo G n D A D (pdK (D 99 0 8) x (inI y 0 (nI 19999))) 70 (outL (nI (stS D x.toNatClampNeg y.toNatClampNeg)).toInt64) r h') fw_noX) := ⟨_, rfl⟩
  rw [← hQ]
  iterate 5 refine pw_go tk_L_byClerk rfl rfl ?_
  refine pw_cv tk_L_byClerk rfl ca_X10_byClerk lk_L_96 iv_X10_byClerk sv_X10_byClerk (hget (L.1.1.1.lv (k := 0) (i := 0) (by have := L.1.2.1.1.1; omega))) rfl rfl (As := [.int x, .int y]) (rest := [.int 0, .ref (A 70 0)]) (kc' := 0) (ks' := 0) ((f_byClerk hl L.1)) rfl rfl rfl (Nat.le_of_ble_eq_true rfl) (Nat.le_refl _) (Nat.le_refl _) ?_ ?_
  · rintro _ h1 ⟨v, rfl, hk, hK, rfl⟩
    have hd := kept_done hk
    obtain ⟨D1, A1, M1, e9, m1⟩ := lm_of (G := G) hd
    rw [e9]
    have e70 : A1 70 0 = A 70 0 := m1.2.2.2.2.2.2.1
    refine pw_go tk_L_byClerk rfl rfl ?_
    refine pw_outL (x := (nI (stS D x.toNatClampNeg y.toNatClampNeg)).toInt64) (rest := []) L m1 tk_L_byClerk rfl (by rw [e70]; rfl) (fun D2 m2 e2 => ?_)
    iterate 2 refine pw_go tk_L_byClerk rfl rfl ?_
    rw [hQ]
    exact pw_iret tk_L_byClerk rfl rfl rfl ⟨_, rfl, lwo_0 hK m2 e2⟩
  · rintro E h1 ⟨hk, hx⟩
    have hd := kept_done hk
    obtain ⟨D1, A1, M1, e9, m1⟩ := lm_of (G := G) hd
    rw [e9]
    rcases List.mem_cons.mp hx with hx | hx
    · obtain ⟨hK, rfl⟩ := Prod.mk.inj hx
      refine px_catch [] ⟨0, 10, 13, 32⟩ [⟨0, 10, 17, 13⟩] rfl (by decide) (fun _ h => absurd h List.not_mem_nil) rfl (by decide) cw_eIO cc_eIO (fun q => ?_)
      iterate 2 refine pw_go tk_L_byClerk rfl rfl ?_
      rw [hQ]
      exact pw_iret tk_L_byClerk rfl rfl rfl ⟨_, rfl, lwo_1 (t := 1) hK (by decide) m1⟩
    obtain ⟨hK, rfl⟩ := Prod.mk.inj (List.mem_singleton.mp hx)
    refine px_catch [⟨0, 10, 13, 32⟩] ⟨0, 10, 17, 13⟩ [] rfl (by decide) (List.forall_mem_cons.mpr ⟨Or.inr ⟨by decide, eIO, by decide, by decide, cw_eIO⟩, fun _ h => absurd h List.not_mem_nil⟩) rfl (by decide) cw_eIA cc_eIA (fun q => ?_)
    iterate 2 refine pw_go tk_L_byClerk rfl rfl ?_
    rw [hQ]
    exact pw_iret tk_L_byClerk rfl rfl rfl ⟨_, rfl, lwo_1 (t := 2) hK (by decide) m1⟩
theorem wx_keeper {x y : Int32} (hl : G.1.stackTraces = false) (L : LI G n D A M) : PM G 6 3 18 mm_L_keeper [.ref (A 0 0), .int x, .int y, .ref (A 70 0)] (hp M A D) (fw_qI (fun r h' => lwo G n D A D (keK D x y) 70 (outL (nI (kpS D x.toNatClampNeg y.toNatClampNeg - 1)).toInt64) r h') fw_noX) := by
  refine pm_ofH (by decide +kernel) rfl rfl rfl ?_
  obtain ⟨Q, hQ⟩ : ∃ Q, Q = (fw_qI (fun r h' => lwo G n D A D (keK D x y) 70 (outL (nI (kpS D x.toNatClampNeg y.toNatClampNeg - 1)).toInt64) r h') fw_noX) := ⟨_, rfl⟩
  rw [← hQ]
  iterate 5 refine pw_go tk_L_keeper rfl rfl ?_
  refine pw_cv tk_L_keeper rfl ca_X10_keeper lk_L_99 iv_X10_keeper sv_X10_keeper (hget (L.1.1.1.lv (k := 0) (i := 0) (by have := L.1.2.1.1.1; omega))) rfl rfl (As := [.int x, .int y]) (rest := [.int 0, .ref (A 70 0)]) (kc' := 0) (ks' := 0) ((f_keeper hl L.1)) rfl rfl rfl (Nat.le_of_ble_eq_true rfl) (Nat.le_refl _) (Nat.le_refl _) ?_ ?_
  · rintro _ h1 ⟨v, rfl, hk, hK, rfl⟩
    have hd := kept_done hk
    obtain ⟨D1, A1, M1, e9, m1⟩ := lm_of (G := G) hd
    rw [e9]
    have e70 : A1 70 0 = A 70 0 := m1.2.2.2.2.2.2.1
    refine pw_go tk_L_keeper rfl rfl ?_
    refine pw_outL (x := (nI (kpS D x.toNatClampNeg y.toNatClampNeg - 1)).toInt64) (rest := []) L m1 tk_L_keeper rfl (by rw [e70]; rfl) (fun D2 m2 e2 => ?_)
    iterate 2 refine pw_go tk_L_keeper rfl rfl ?_
    rw [hQ]
    exact pw_iret tk_L_keeper rfl rfl rfl ⟨_, rfl, lwo_0 hK m2 e2⟩
  · rintro E h1 ⟨hk, hx⟩
    have hd := kept_done hk
    obtain ⟨D1, A1, M1, e9, m1⟩ := lm_of (G := G) hd
    rw [e9]
    rcases List.mem_cons.mp hx with hx | hx
    · obtain ⟨hK, rfl⟩ := Prod.mk.inj hx
      refine px_catch [] ⟨0, 10, 13, 32⟩ [⟨0, 10, 17, 13⟩, ⟨0, 10, 21, 36⟩] rfl (by decide) (fun _ h => absurd h List.not_mem_nil) rfl (by decide) cw_eIO cc_eIO (fun q => ?_)
      iterate 2 refine pw_go tk_L_keeper rfl rfl ?_
      rw [hQ]
      exact pw_iret tk_L_keeper rfl rfl rfl ⟨_, rfl, lwo_1 (t := 1) hK (by decide) m1⟩
    rcases List.mem_cons.mp hx with hx | hx
    · obtain ⟨hK, rfl⟩ := Prod.mk.inj hx
      refine px_catch [⟨0, 10, 13, 32⟩] ⟨0, 10, 17, 13⟩ [⟨0, 10, 21, 36⟩] rfl (by decide) (List.forall_mem_cons.mpr ⟨Or.inr ⟨by decide, eIO, by decide, by decide, cw_eIO⟩, fun _ h => absurd h List.not_mem_nil⟩) rfl (by decide) cw_eIA cc_eIA (fun q => ?_)
      iterate 2 refine pw_go tk_L_keeper rfl rfl ?_
      rw [hQ]
      exact pw_iret tk_L_keeper rfl rfl rfl ⟨_, rfl, lwo_1 (t := 2) hK (by decide) m1⟩
    obtain ⟨hK, rfl⟩ := Prod.mk.inj (List.mem_singleton.mp hx)
    refine px_catch [⟨0, 10, 13, 32⟩, ⟨0, 10, 17, 13⟩] ⟨0, 10, 21, 36⟩ [] rfl (by decide) (List.forall_mem_cons.mpr ⟨Or.inr ⟨by decide, eIO, by decide, by decide, cw_eIO⟩, List.forall_mem_cons.mpr ⟨Or.inr ⟨by decide, eIA, by decide, by decide, cw_eIA⟩, fun _ h => absurd h List.not_mem_nil⟩⟩) rfl (by decide) cw_eNS cc_eNS (fun q => ?_)
    iterate 2 refine pw_go tk_L_keeper rfl rfl ?_
    rw [hQ]
    exact pw_iret tk_L_keeper rfl rfl rfl ⟨_, rfl, lwo_1 (t := 3) hK (by decide) m1⟩
theorem wx_held {x y z : Int32} (hl : G.1.stackTraces = false) (L : LI G n D A M) : PM G 4 3 18 mm_L_held [.ref (A 0 0), .int x, .int y, .int z, .ref (A 70 0)] (hp M A D) (fw_qI (fun r h' => lwo G n D A (heS D x.toNatClampNeg y.toNatClampNeg z.toNatClampNeg) (pdK (D 99 0 8) x (spI y z)) 70 (outL (nI (heV D x.toNatClampNeg y.toNatClampNeg z.toNatClampNeg)).toInt64) r h') fw_noX) := by
  refine pm_ofH (by decide +kernel) rfl rfl rfl ?_
  obtain ⟨Q, hQ⟩ : ∃ Q, Q = (fw_qI (fun r h' => lwo G n D A (heS D x.toNatClampNeg y.toNatClampNeg z.toNatClampNeg) (pdK (D 99 0 8) x (spI y z)) 70 (outL (nI (heV D x.toNatClampNeg y.toNatClampNeg z.toNatClampNeg)).toInt64) r h') fw_noX) := ⟨_, rfl⟩
  rw [← hQ]
  iterate 6 refine pw_go tk_L_held rfl rfl ?_
  refine pw_cv tk_L_held rfl ca_X10_held lk_L_102 iv_X10_held sv_X10_held (hget (L.1.1.1.lv (k := 0) (i := 0) (by have := L.1.2.1.1.1; omega))) rfl rfl (As := [.int x, .int y, .int z]) (rest := [.int 0, .ref (A 70 0)]) (kc' := 0) (ks' := 0) ((f_held hl L.1)) rfl rfl rfl (Nat.le_of_ble_eq_true rfl) (Nat.le_refl _) (Nat.le_refl _) ?_ ?_
  · rintro _ h1 ⟨v, rfl, hd, hK, rfl⟩
    obtain ⟨D1, A1, M1, e9, m1⟩ := lm_of (G := G) hd
    rw [e9]
    have e70 : A1 70 0 = A 70 0 := m1.2.2.2.2.2.2.1
    refine pw_go tk_L_held rfl rfl ?_
    refine pw_outL (x := (nI (heV D x.toNatClampNeg y.toNatClampNeg z.toNatClampNeg)).toInt64) (rest := []) L m1 tk_L_held rfl (by rw [e70]; rfl) (fun D2 m2 e2 => ?_)
    iterate 2 refine pw_go tk_L_held rfl rfl ?_
    rw [hQ]
    exact pw_iret tk_L_held rfl rfl rfl ⟨_, rfl, lwo_0 hK m2 e2⟩
  · rintro E h1 ⟨hd, hx⟩
    obtain ⟨D1, A1, M1, e9, m1⟩ := lm_of (G := G) hd
    rw [e9]
    rcases List.mem_cons.mp hx with hx | hx
    · obtain ⟨hK, rfl⟩ := Prod.mk.inj hx
      refine px_catch [] ⟨0, 12, 15, 32⟩ [⟨0, 12, 19, 13⟩] rfl (by decide) (fun _ h => absurd h List.not_mem_nil) rfl (by decide) cw_eIO cc_eIO (fun q => ?_)
      iterate 2 refine pw_go tk_L_held rfl rfl ?_
      rw [hQ]
      exact pw_iret tk_L_held rfl rfl rfl ⟨_, rfl, lwo_1 (t := 1) hK (by decide) m1⟩
    obtain ⟨hK, rfl⟩ := Prod.mk.inj (List.mem_singleton.mp hx)
    refine px_catch [⟨0, 12, 15, 32⟩] ⟨0, 12, 19, 13⟩ [] rfl (by decide) (List.forall_mem_cons.mpr ⟨Or.inr ⟨by decide, eIO, by decide, by decide, cw_eIO⟩, fun _ h => absurd h List.not_mem_nil⟩) rfl (by decide) cw_eIA cc_eIA (fun q => ?_)
    iterate 2 refine pw_go tk_L_held rfl rfl ?_
    rw [hQ]
    exact pw_iret tk_L_held rfl rfl rfl ⟨_, rfl, lwo_1 (t := 2) hK (by decide) m1⟩
theorem wx_tooLong {x y : Int32} (hl : G.1.stackTraces = false) (L : LI G n D A M) : PM G 6 2 12 mm_L_tooLong [.ref (A 0 0), .int x, .int y, .ref (A 70 0)] (hp M A D) (fw_qI (fun r h' => lwo G n D A D (pdK (D 99 0 8) x (inI y 0 (nI 20000))) 70 (outL (nI (tlV D x.toNatClampNeg y.toNatClampNeg)).toInt64) r h') fw_noX) := by
  refine pm_ofH (by decide +kernel) rfl rfl rfl ?_
  obtain ⟨Q, hQ⟩ : ∃ Q, Q = (fw_qI (fun r h' => lwo G n D A D (pdK (D 99 0 8) x (inI y 0 (nI 20000))) 70 (outL (nI (tlV D x.toNatClampNeg y.toNatClampNeg)).toInt64) r h') fw_noX) := ⟨_, rfl⟩
  rw [← hQ]
  iterate 5 refine pw_go tk_L_tooLong rfl rfl ?_
  refine pw_cv tk_L_tooLong rfl ca_X10_tooLong lk_L_105 iv_X10_tooLong sv_X10_tooLong (hget (L.1.1.1.lv (k := 0) (i := 0) (by have := L.1.2.1.1.1; omega))) rfl rfl (As := [.int x, .int y]) (rest := [.int 0, .ref (A 70 0)]) (kc' := 0) (ks' := 0) ((f_tooLong hl L.1)) rfl rfl rfl (Nat.le_of_ble_eq_true rfl) (Nat.le_refl _) (Nat.le_refl _) ?_ ?_
  · rintro _ h1 ⟨v, rfl, hk, hK, rfl⟩
    have hd := kept_done hk
    obtain ⟨D1, A1, M1, e9, m1⟩ := lm_of (G := G) hd
    rw [e9]
    have e70 : A1 70 0 = A 70 0 := m1.2.2.2.2.2.2.1
    refine pw_go tk_L_tooLong rfl rfl ?_
    refine pw_outL (x := (nI (tlV D x.toNatClampNeg y.toNatClampNeg)).toInt64) (rest := []) L m1 tk_L_tooLong rfl (by rw [e70]; rfl) (fun D2 m2 e2 => ?_)
    iterate 2 refine pw_go tk_L_tooLong rfl rfl ?_
    rw [hQ]
    exact pw_iret tk_L_tooLong rfl rfl rfl ⟨_, rfl, lwo_0 hK m2 e2⟩
  · rintro E h1 ⟨hk, hx⟩
    have hd := kept_done hk
    obtain ⟨D1, A1, M1, e9, m1⟩ := lm_of (G := G) hd
    rw [e9]
    rcases List.mem_cons.mp hx with hx | hx
    · obtain ⟨hK, rfl⟩ := Prod.mk.inj hx
      refine px_catch [] ⟨0, 10, 13, 32⟩ [⟨0, 10, 17, 13⟩] rfl (by decide) (fun _ h => absurd h List.not_mem_nil) rfl (by decide) cw_eIO cc_eIO (fun q => ?_)
      iterate 2 refine pw_go tk_L_tooLong rfl rfl ?_
      rw [hQ]
      exact pw_iret tk_L_tooLong rfl rfl rfl ⟨_, rfl, lwo_1 (t := 1) hK (by decide) m1⟩
    obtain ⟨hK, rfl⟩ := Prod.mk.inj (List.mem_singleton.mp hx)
    refine px_catch [⟨0, 10, 13, 32⟩] ⟨0, 10, 17, 13⟩ [] rfl (by decide) (List.forall_mem_cons.mpr ⟨Or.inr ⟨by decide, eIO, by decide, by decide, cw_eIO⟩, fun _ h => absurd h List.not_mem_nil⟩) rfl (by decide) cw_eIA cc_eIA (fun q => ?_)
    iterate 2 refine pw_go tk_L_tooLong rfl rfl ?_
    rw [hQ]
    exact pw_iret tk_L_tooLong rfl rfl rfl ⟨_, rfl, lwo_1 (t := 2) hK (by decide) m1⟩
theorem wx_tooShort {x y : Int32} (hl : G.1.stackTraces = false) (L : LI G n D A M) : PM G 6 2 12 mm_L_tooShort [.ref (A 0 0), .int x, .int y, .ref (A 70 0)] (hp M A D) (fw_qI (fun r h' => lwo G n D A D (pdK (D 99 0 8) x (inI y 0 (nI 20000))) 70 (outL (nI (tsV D x.toNatClampNeg y.toNatClampNeg)).toInt64) r h') fw_noX) := by
  refine pm_ofH (by decide +kernel) rfl rfl rfl ?_
  obtain ⟨Q, hQ⟩ : ∃ Q, Q = (fw_qI (fun r h' => lwo G n D A D (pdK (D 99 0 8) x (inI y 0 (nI 20000))) 70 (outL (nI (tsV D x.toNatClampNeg y.toNatClampNeg)).toInt64) r h') fw_noX) := ⟨_, rfl⟩
  rw [← hQ]
  iterate 5 refine pw_go tk_L_tooShort rfl rfl ?_
  refine pw_cv tk_L_tooShort rfl ca_X10_tooShort lk_L_108 iv_X10_tooShort sv_X10_tooShort (hget (L.1.1.1.lv (k := 0) (i := 0) (by have := L.1.2.1.1.1; omega))) rfl rfl (As := [.int x, .int y]) (rest := [.int 0, .ref (A 70 0)]) (kc' := 0) (ks' := 0) ((f_tooShort hl L.1)) rfl rfl rfl (Nat.le_of_ble_eq_true rfl) (Nat.le_refl _) (Nat.le_refl _) ?_ ?_
  · rintro _ h1 ⟨v, rfl, hk, hK, rfl⟩
    have hd := kept_done hk
    obtain ⟨D1, A1, M1, e9, m1⟩ := lm_of (G := G) hd
    rw [e9]
    have e70 : A1 70 0 = A 70 0 := m1.2.2.2.2.2.2.1
    refine pw_go tk_L_tooShort rfl rfl ?_
    refine pw_outL (x := (nI (tsV D x.toNatClampNeg y.toNatClampNeg)).toInt64) (rest := []) L m1 tk_L_tooShort rfl (by rw [e70]; rfl) (fun D2 m2 e2 => ?_)
    iterate 2 refine pw_go tk_L_tooShort rfl rfl ?_
    rw [hQ]
    exact pw_iret tk_L_tooShort rfl rfl rfl ⟨_, rfl, lwo_0 hK m2 e2⟩
  · rintro E h1 ⟨hk, hx⟩
    have hd := kept_done hk
    obtain ⟨D1, A1, M1, e9, m1⟩ := lm_of (G := G) hd
    rw [e9]
    rcases List.mem_cons.mp hx with hx | hx
    · obtain ⟨hK, rfl⟩ := Prod.mk.inj hx
      refine px_catch [] ⟨0, 10, 13, 32⟩ [⟨0, 10, 17, 13⟩] rfl (by decide) (fun _ h => absurd h List.not_mem_nil) rfl (by decide) cw_eIO cc_eIO (fun q => ?_)
      iterate 2 refine pw_go tk_L_tooShort rfl rfl ?_
      rw [hQ]
      exact pw_iret tk_L_tooShort rfl rfl rfl ⟨_, rfl, lwo_1 (t := 1) hK (by decide) m1⟩
    obtain ⟨hK, rfl⟩ := Prod.mk.inj (List.mem_singleton.mp hx)
    refine px_catch [⟨0, 10, 13, 32⟩] ⟨0, 10, 17, 13⟩ [] rfl (by decide) (List.forall_mem_cons.mpr ⟨Or.inr ⟨by decide, eIO, by decide, by decide, cw_eIO⟩, fun _ h => absurd h List.not_mem_nil⟩) rfl (by decide) cw_eIA cc_eIA (fun q => ?_)
    iterate 2 refine pw_go tk_L_tooShort rfl rfl ?_
    rw [hQ]
    exact pw_iret tk_L_tooShort rfl rfl rfl ⟨_, rfl, lwo_1 (t := 2) hK (by decide) m1⟩
theorem wx_prisonShare {x : Int32} (hl : G.1.stackTraces = false) (L : LI G n D A M) : PM G 7 2 12 mm_L_prisonShare [.ref (A 0 0), .int x, .ref (A 71 0)] (hp M A D) (fw_qI (fun r h' => lwo G n D A D (shK D x) 71 (uN (FP.f2d (shV D x.toNatClampNeg))) r h') fw_noX) := by
  refine pm_ofH (by decide +kernel) rfl rfl rfl ?_
  obtain ⟨Q, hQ⟩ : ∃ Q, Q = (fw_qI (fun r h' => lwo G n D A D (shK D x) 71 (uN (FP.f2d (shV D x.toNatClampNeg))) r h') fw_noX) := ⟨_, rfl⟩
  rw [← hQ]
  iterate 4 refine pw_go tk_L_prisonShare rfl rfl ?_
  refine pw_cv tk_L_prisonShare rfl ca_X10_prisonShare lk_L_111 iv_X10_prisonShare sv_X10_prisonShare (hget (L.1.1.1.lv (k := 0) (i := 0) (by have := L.1.2.1.1.1; omega))) rfl rfl (As := [.int x]) (rest := [.int 0, .ref (A 71 0)]) (kc' := 0) (ks' := 0) ((f_prisonShare hl L.1)) rfl rfl rfl (Nat.le_of_ble_eq_true rfl) (Nat.le_refl _) (Nat.le_refl _) ?_ ?_
  · rintro _ h1 ⟨v, rfl, hk, hK, rfl⟩
    have hd := kept_done hk
    obtain ⟨D1, A1, M1, e9, m1⟩ := lm_of (G := G) hd
    rw [e9]
    have e70 : A1 71 0 = A 71 0 := m1.2.2.2.2.2.2.2
    refine pw_f2d tk_L_prisonShare rfl (n64_of (f2d_n (shV_n (e := x.toNatClampNeg) L.1.2.1.2.2.2.2.1 hK))) ?_
    refine pw_outD (x := FP.f2d (shV D x.toNatClampNeg)) (rest := []) L m1 tk_L_prisonShare rfl (by rw [e70]; rfl) (fun D2 m2 e2 => ?_)
    iterate 2 refine pw_go tk_L_prisonShare rfl rfl ?_
    rw [hQ]
    exact pw_iret tk_L_prisonShare rfl rfl rfl ⟨_, rfl, lwo_0 hK m2 e2⟩
  · rintro E h1 ⟨hk, hx⟩
    have hd := kept_done hk
    obtain ⟨D1, A1, M1, e9, m1⟩ := lm_of (G := G) hd
    rw [e9]
    rcases List.mem_cons.mp hx with hx | hx
    · obtain ⟨hK, rfl⟩ := Prod.mk.inj hx
      refine px_catch [] ⟨0, 9, 12, 13⟩ [⟨0, 9, 15, 115⟩] rfl (by decide) (fun _ h => absurd h List.not_mem_nil) rfl (by decide) cw_eIA cc_eIA (fun q => ?_)
      iterate 2 refine pw_go tk_L_prisonShare rfl rfl ?_
      rw [hQ]
      exact pw_iret tk_L_prisonShare rfl rfl rfl ⟨_, rfl, lwo_1 (t := 1) hK (by decide) m1⟩
    obtain ⟨hK, rfl⟩ := Prod.mk.inj (List.mem_singleton.mp hx)
    refine px_catch [⟨0, 9, 12, 13⟩] ⟨0, 9, 15, 115⟩ [] rfl (by decide) (List.forall_mem_cons.mpr ⟨Or.inr ⟨by decide, eIA, by decide, by decide, cw_eIA⟩, fun _ h => absurd h List.not_mem_nil⟩) rfl (by decide) cw_eAR cc_eAR (fun q => ?_)
    iterate 2 refine pw_go tk_L_prisonShare rfl rfl ?_
    rw [hQ]
    exact pw_iret tk_L_prisonShare rfl rfl rfl ⟨_, rfl, lwo_1 (t := 2) hK (by decide) m1⟩
theorem wx_meanNeeded  (hl : G.1.stackTraces = false) (L : LI G n D A M) : PM G 7 1 6 mm_L_meanNeeded [.ref (A 0 0), .ref (A 71 0)] (hp M A D) (fw_qI (fun r h' => lwo G n D A D (mnK D) 71 (uN (mnV D)) r h') fw_noX) := by
  refine pm_ofH (by decide +kernel) rfl rfl rfl ?_
  obtain ⟨Q, hQ⟩ : ∃ Q, Q = (fw_qI (fun r h' => lwo G n D A D (mnK D) 71 (uN (mnV D)) r h') fw_noX) := ⟨_, rfl⟩
  rw [← hQ]
  iterate 3 refine pw_go tk_L_meanNeeded rfl rfl ?_
  refine pw_cv tk_L_meanNeeded rfl ca_X10_meanNeeded lk_L_117 iv_X10_meanNeeded sv_X10_meanNeeded (hget (L.1.1.1.lv (k := 0) (i := 0) (by have := L.1.2.1.1.1; omega))) rfl rfl (As := []) (rest := [.int 0, .ref (A 71 0)]) (kc' := 0) (ks' := 0) ((f_meanNeeded hl L.1)) rfl rfl rfl (Nat.le_of_ble_eq_true rfl) (Nat.le_refl _) (Nat.le_refl _) ?_ ?_
  · rintro _ h1 ⟨v, rfl, hk, hK, rfl⟩
    have hd := kept_done hk
    obtain ⟨D1, A1, M1, e9, m1⟩ := lm_of (G := G) hd
    rw [e9]
    have e70 : A1 71 0 = A 71 0 := m1.2.2.2.2.2.2.2
    refine pw_outD (x := mnV D) (rest := []) L m1 tk_L_meanNeeded rfl (by rw [e70]; rfl) (fun D2 m2 e2 => ?_)
    iterate 2 refine pw_go tk_L_meanNeeded rfl rfl ?_
    rw [hQ]
    exact pw_iret tk_L_meanNeeded rfl rfl rfl ⟨_, rfl, lwo_0 hK m2 e2⟩
  · rintro E h1 ⟨hk, hx⟩
    have hd := kept_done hk
    obtain ⟨D1, A1, M1, e9, m1⟩ := lm_of (G := G) hd
    rw [e9]
    obtain ⟨hK, rfl⟩ := Prod.mk.inj (List.mem_singleton.mp hx)
    refine px_catch [] ⟨0, 7, 10, 115⟩ [] rfl (by decide) (fun _ h => absurd h List.not_mem_nil) rfl (by decide) cw_eAR cc_eAR (fun q => ?_)
    iterate 2 refine pw_go tk_L_meanNeeded rfl rfl ?_
    rw [hQ]
    exact pw_iret tk_L_meanNeeded rfl rfl rfl ⟨_, rfl, lwo_1 (t := 1) hK (by decide) m1⟩
end WR

