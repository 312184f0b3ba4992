/-! RECALL and PERSON: reckoning -/
section CREC
variable {G : fw_G} {D : fw_DB} {A : fw_AD} {M : fw_MP}
theorem max_lic {m v : Nat} (hm : m < 1073741824) (hv : v < 1073741824) (h : 1000000 ≤ v) {f : Int32} (hf : f = nO v) : f = nI (v - 1000000) := by rw [hf, nO_p h]
set_option maxRecDepth 20000 in
theorem r_latest {r f : Nat} {l : List Nat} (W : Wf D A M) (C : cB D) (CR : ∀ r, r < D 99 0 17 → rB D r) (hr : r < D 99 0 17) (hl : ch (fun i => D 13 i 18) (D 8 (D 17 r 0) 2) l) (hin : ∀ i ∈ l, i < D 99 0 13) (hN : D 99 0 13 ≤ 24) (hf : f < 4000000) : PM G 1 0 0 mm_X6_latestLicenceEnd [.ref (A 17 r), .int (nI f)] (hp M A D) (fw_qp (nI (lte D (D 17 r 3) f f l)) (hp M A D)) := by
  refine pm_of (by decide +kernel) rfl rfl rfl ?_
  have Lr := W.lv hr
  have hk := W.ok hr
  have Lp := W.lv hk.1
  obtain ⟨c1, c3, c4, c5, c6⟩ := CR r hr
  obtain ⟨R, hR⟩ : ∃ R, R = lte D (D 17 r 3) f f l := ⟨_, rfl⟩
  rw [← hR]
  have k50 : ∀ m L9, fw_lk L9 2 = some (.int (nI m)) → m = R → PW G mm_X6_latestLicenceEnd (fw_qp (nI R) (hp M A D)) 1 0 0 (hp M A D) 50 L9 [] := by
    intro m L9 h2 e
    refine pw_M [(2, .int (nI m))] ⟨h2, trivial⟩ ?_
    refine pw_go tk_X6_latestLicenceEnd rfl rfl ?_
    rw [e]
    exact pw_iretp tk_X6_latestLicenceEnd rfl rfl
  have loop : ∀ (l' : List Nat) (v m : Nat), ch (fun i => D 13 i 18) v l' → (∀ i ∈ l', i < D 99 0 13) → m < 4000000 → lte D (D 17 r 3) f m l' = R → PW G mm_X6_latestLicenceEnd (fw_qp (nI R) (hp M A D)) 1 0 0 (hp M A D) 10 [(0, .ref (A 17 r)), (1, .int (nI f)), (2, .int (nI m)), (3, va_rf (rq (A 13) v))] [] := by
    intro l'
    induction l' with
    | nil =>
      intro v m hv hin hm he
      have hv : v = 0 := hv
      subst hv
      refine pw_M [(0, .ref (A 17 r)), (1, .int (nI f)), (2, .int (nI m)), (3, .null)] ⟨rfl, rfl, rfl, rfl, trivial⟩ ?_
      refine pw_go tk_X6_latestLicenceEnd rfl rfl ?_
      refine pw_go tk_X6_latestLicenceEnd rfl rfl ?_
      exact k50 m _ rfl he
    | cons w l' ih =>
      intro v m hv hin hm he
      obtain ⟨hv, hv2⟩ := hv
      subst hv
      have hw := hin w List.mem_cons_self
      have Lw := W.lv hw
      obtain ⟨b2, b3, b4, b9, b10, b11, b15, b14, -, b16, b17⟩ := C.1 w hw
      refine pw_M [(0, .ref (A 17 r)), (1, .int (nI f)), (2, .int (nI m)), (3, .ref (A 13 w))] ⟨rfl, rfl, rfl, rfl, trivial⟩ ?_
      have k42 : ∀ m', m' < 4000000 → lte D (D 17 r 3) f m' l' = R → PW G mm_X6_latestLicenceEnd (fw_qp (nI R) (hp M A D)) 1 0 0 (hp M A D) 42 [(0, .ref (A 17 r)), (1, .int (nI f)), (2, .int (nI m')), (3, .ref (A 13 w))] [] := by
        intro m' hm' he'
        refine pw_go tk_X6_latestLicenceEnd rfl rfl ?_
        refine pw_get tk_X6_latestLicenceEnd rfl fl_X6_77 (hget Lw) rfl ?_
        refine pw_astoreq tk_X6_latestLicenceEnd rfl rfl rfl ?_
        refine pw_go tk_X6_latestLicenceEnd rfl rfl ?_
        refine pw_M [(0, .ref (A 17 r)), (1, .int (nI f)), (2, .int (nI m')), (3, va_rf (rq (A 13) (D 13 w 18)))] ⟨rfl, rfl, rfl, rfl, trivial⟩ ?_
        exact ih _ m' hv2 (fun j hj => hin j (List.mem_cons_of_mem _ hj)) hm' he'
      unfold lte at he
      refine pw_go tk_X6_latestLicenceEnd rfl rfl ?_
      refine pw_go tk_X6_latestLicenceEnd rfl rfl ?_
      refine pw_go tk_X6_latestLicenceEnd rfl rfl ?_
      refine pw_get tk_X6_latestLicenceEnd rfl fl_X6_62 (hget Lw) rfl ?_
      refine pw_go tk_X6_latestLicenceEnd rfl rfl ?_
      refine pw_get tk_X6_latestLicenceEnd rfl fl_X6_27 (hget Lr) rfl ?_
      refine pw_icN (w) (D 17 r 3) tk_X6_latestLicenceEnd rfl rfl rfl (by omega) (by omega) (fun c => k50 m _ rfl ?_) (fun c => ?_)
      · have c : D 17 r 3 ≤ w := c
        rw [if_neg (by omega)] at he
        exact he
      have c : ¬ D 17 r 3 ≤ w := c
      rw [if_pos (by omega)] at he
      iterate 2 refine pw_go tk_X6_latestLicenceEnd rfl rfl ?_
      refine pw_cvp tk_X6_latestLicenceEnd rfl ca_X9_licensesOn lk_X6_67 iv_X9_licensesOn sv_X9_licensesOn (hget Lw) rfl rfl (As := [.int (nI f)]) (rest := []) (w_lic Lw (by omega) (by omega) (by omega)) rfl rfl rfl rfl ?_
      refine pw_ifeqB tk_X6_latestLicenceEnd rfl (fun c2 => k42 m hm ?_) (fun c2 => ?_)
      · rw [c2, if_neg (by decide)] at he
        exact he
      rw [c2, if_pos rfl] at he
      have hge : f + 1000000 < D 13 w 17 := by
        unfold wlic at c2
        exact of_decide_eq_true (Bool.and_eq_true_iff.mp c2).2
      iterate 2 refine pw_go tk_X6_latestLicenceEnd rfl rfl ?_
      refine pw_get tk_X6_latestLicenceEnd rfl fl_X6_71 (hget Lw) rfl ?_
      refine pw_i (x' := nI (D 13 w 17 - 1000000)) (nO_p (by omega)) ?_
      refine pw_maxN (m) (D 13 w 17 - 1000000) tk_X6_latestLicenceEnd rfl lk_X6_74 rfl rfl (by omega) (by omega) rfl ?_
      refine pw_go tk_X6_latestLicenceEnd rfl rfl ?_
      refine pw_M [(0, .ref (A 17 r)), (1, .int (nI f)), (2, .int (nI (max m (D 13 w 17 - 1000000)))), (3, .ref (A 13 w))] ⟨rfl, rfl, rfl, rfl, trivial⟩ ?_
      exact k42 _ (by omega) he
  iterate 3 refine pw_go tk_X6_latestLicenceEnd rfl rfl ?_
  refine pw_get tk_X6_latestLicenceEnd rfl fl_X6_16 (hget Lr) rfl ?_
  refine pw_get tk_X6_latestLicenceEnd rfl fl_X6_58 (hget Lp) rfl ?_
  refine pw_astoreq tk_X6_latestLicenceEnd rfl rfl rfl ?_
  refine pw_M [(0, .ref (A 17 r)), (1, .int (nI f)), (2, .int (nI f)), (3, va_rf (rq (A 13) (D 8 (D 17 r 0) 2)))] ⟨rfl, rfl, rfl, rfl, trivial⟩ ?_
  exact loop l _ f hl hin hf hR.symm
set_option maxRecDepth 20000 in
theorem r_first {r : Nat} {l : List Nat} (W : Wf D A M) (C : cB D) (CR : ∀ r, r < D 99 0 17 → rB D r) (hr : r < D 99 0 17) (hl : ch (fun i => D 13 i 18) (D 8 (D 17 r 0) 2) l) (hin : ∀ i ∈ l, i < D 99 0 13) (hN : D 99 0 13 ≤ 24) : PM G 2 0 0 mm_X6_firstDayUnlicensed [.ref (A 17 r)] (hp M A D) (fw_qp (nI (fdu D (D 17 r 3) l 24 (D 17 r 1))) (hp M A D)) := by
  refine pm_of (by decide +kernel) rfl rfl rfl ?_
  have Lr := W.lv hr
  have hk := W.ok hr
  obtain ⟨c1, c3, c4, c5, c6⟩ := CR r hr
  have hl17 : ∀ w ∈ l, D 13 w 17 - 1000000 < 4000000 := fun w hw => by
    have := (C.1 w (hin w hw)).2.2.2.2.2.2.2.2.2.2
    omega
  obtain ⟨R, hR⟩ : ∃ R, R = fdu D (D 17 r 3) l 24 (D 17 r 1) := ⟨_, rfl⟩
  rw [← hR]
  have loop : ∀ (k j f : Nat), j + k = 24 → f < 4000000 → fdu D (D 17 r 3) l k f = R → PW G mm_X6_firstDayUnlicensed (fw_qp (nI R) (hp M A D)) 2 0 0 (hp M A D) 7 [(0, .ref (A 17 r)), (1, .int (nI f)), (2, .int (nI j))] [] := by
    intro k
    induction k with
    | zero =>
      intro j f hj hf he
      have hj : j = 24 := by omega
      subst hj
      have he : f = R := he
      iterate 2 refine pw_go tk_X6_firstDayUnlicensed rfl rfl ?_
      refine pw_icN (24) (24) tk_X6_firstDayUnlicensed rfl rfl rfl (by omega) (by omega) (fun c => ?_) (fun c => absurd (Nat.le_refl 24) c)
      refine pw_go tk_X6_firstDayUnlicensed rfl rfl ?_
      rw [he]
      exact pw_iretp tk_X6_firstDayUnlicensed rfl rfl
    | succ k ih =>
      intro j f hj hf he
      have hlt := lte_lt (D := D) (n := D 17 r 3) (f := f) hf hl17
      iterate 2 refine pw_go tk_X6_firstDayUnlicensed rfl rfl ?_
      refine pw_icN (j) (24) tk_X6_firstDayUnlicensed rfl rfl rfl (by omega) (by omega) (fun c => absurd (show 24 ≤ j from c) (by omega)) (fun c => ?_)
      iterate 2 refine pw_go tk_X6_firstDayUnlicensed rfl rfl ?_
      refine pw_cvp tk_X6_firstDayUnlicensed rfl ca_X6_latestLicenceEnd lk_X6_54 iv_X6_latestLicenceEnd sv_X6_latestLicenceEnd (hget Lr) rfl rfl (As := [.int (nI f)]) (rest := []) (r_latest W C CR hr hl hin hN hf) rfl rfl rfl rfl ?_
      iterate 3 refine pw_go tk_X6_firstDayUnlicensed rfl rfl ?_
      unfold fdu at he
      refine pw_icN (lte D (D 17 r 3) f f l) (f) tk_X6_firstDayUnlicensed rfl rfl rfl (by omega) (by omega) (fun c => ?_) (fun c => ?_)
      · have c : lte D (D 17 r 3) f f l ≠ f := c
        rw [if_neg c] at he
        iterate 4 refine pw_go tk_X6_firstDayUnlicensed rfl rfl ?_
        refine pw_M [(0, .ref (A 17 r)), (1, .int (nI (lte D (D 17 r 3) f f l))), (2, .int (nI (j + 1)))] ⟨rfl, rfl, congrArg (fun z => some (Value.int z)) (nI_1 j), trivial⟩ ?_
        exact ih (j + 1) _ (by omega) hlt he
      · have c : lte D (D 17 r 3) f f l = f := Classical.not_not.mp c
        rw [if_pos c] at he
        refine pw_go tk_X6_firstDayUnlicensed rfl rfl ?_
        rw [he]
        exact pw_iretp tk_X6_firstDayUnlicensed rfl rfl
  refine pw_go tk_X6_firstDayUnlicensed rfl rfl ?_
  refine pw_get tk_X6_firstDayUnlicensed rfl fl_X6_20 (hget Lr) rfl ?_
  iterate 3 refine pw_go tk_X6_firstDayUnlicensed rfl rfl ?_
  refine pw_M [(0, .ref (A 17 r)), (1, .int (nI (D 17 r 1))), (2, .int (nI 0))] ⟨rfl, rfl, rfl, trivial⟩ ?_
  exact loop 24 0 _ (by omega) (by omega) hR.symm
set_option maxRecDepth 20000 in
theorem r_reckon {r : Nat} {l : List Nat} (W : Wf D A M) (C : cB D) (CR : ∀ r, r < D 99 0 17 → rB D r) (hr : r < D 99 0 17) (hl : ch (fun i => D 13 i 18) (D 8 (D 17 r 0) 2) l) (hin : ∀ i ∈ l, i < D 99 0 13) (hN : D 99 0 13 ≤ 24) : PM G 3 0 0 mm_X6_reckon [.ref (A 17 r)] (hp M A D) (fw_qV (fun h' => h' = hp M A (dp D 17 r (va_up (D 17 r) 5 (rcu D (sB (D 10 (D 17 r 0))) r l)))) fw_noX) := by
  refine pm_of (by decide +kernel) rfl rfl rfl ?_
  have Lr := W.lv hr
  have hk := W.ok hr
  have Lp := W.lv hk.1
  have hkp := W.ok hk.1
  obtain ⟨c1, c3, c4, c5, c6⟩ := CR r hr
  obtain ⟨u, hu⟩ : ∃ u, u = min (D 17 r 4) (fdu D (D 17 r 3) l 24 (D 17 r 1)) := ⟨_, rfl⟩
  have hub : u ≤ 1000000 := by omega
  have hfl : fdu D (D 17 r 3) l 24 (D 17 r 1) < 4000000 := fdu_lt (by omega) (fun w hw => by
    have := (C.1 w (hin w hw)).2.2.2.2.2.2.2.2.2.2
    omega)
  obtain ⟨t, ht⟩ : ∃ t, t = db (fun d => !sB (D 10 (D 17 r 0)) d) 28 (D 17 r 1) (20032 - D 17 r 1) 1000000 := ⟨_, rfl⟩
  have htb : t ≤ 1000000 := by rw [ht]; exact db_bound (by omega)
  have hR : rcu D (sB (D 10 (D 17 r 0))) r l = if 0 < D 17 r 2 then min u t else u := by rw [hu, ht]; rfl
  iterate 2 refine pw_go tk_X6_reckon rfl rfl ?_
  refine pw_get tk_X6_reckon rfl fl_X6_10 (hget Lr) rfl ?_
  refine pw_go tk_X6_reckon rfl rfl ?_
  refine pw_cvp tk_X6_reckon rfl ca_X6_firstDayUnlicensed lk_X6_30 iv_X6_firstDayUnlicensed sv_X6_firstDayUnlicensed (hget Lr) rfl rfl (As := []) (rest := [.int (nI (D 17 r 4)), .ref (A 17 r)]) (r_first W C CR hr hl hin hN) rfl rfl rfl rfl ?_
  refine pw_minN (D 17 r 4) (fdu D (D 17 r 3) l 24 (D 17 r 1)) tk_X6_reckon rfl lk_X6_34 rfl rfl (by omega) (by omega) rfl ?_
  refine pw_i (x' := nI u) (by rw [hu]) ?_
  refine pw_put tk_X6_reckon rfl fp_X6_40 (hget Lr) rfl rfl (Nat.le_of_ble_eq_true rfl) ?_
  refine pw_h (hset (va_up (D 17 r) 5 u) W Lr) ?_
  have W2 : Wf (dp D 17 r (va_up (D 17 r) 5 u)) A M := W.put (by decide) hk
  refine pw_go tk_X6_reckon rfl rfl ?_
  refine pw_get tk_X6_reckon rfl fl_X6_23 (hgp Lr) rfl ?_
  refine pw_ifeqB tk_X6_reckon rfl (fun c => ?_) (fun c => ?_)
  · have c : ¬ 0 < D 17 r 2 := of_decide_eq_false c
    exact pw_vret tk_X6_reckon rfl rfl ⟨rfl, by rw [hR, if_neg c]⟩
  · have c : 0 < D 17 r 2 := of_decide_eq_true c
    iterate 2 refine pw_go tk_X6_reckon rfl rfl ?_
    refine pw_get tk_X6_reckon rfl fl_X6_40 (hgp Lr) rfl ?_
    refine pw_go tk_X6_reckon rfl rfl ?_
    refine pw_get tk_X6_reckon rfl fl_X6_16 (hgp Lr) rfl ?_
    refine pw_get tk_X6_reckon rfl fl_X6_43 (hget Lp) rfl ?_
    refine pw_go tk_X6_reckon rfl rfl ?_
    refine pw_get tk_X6_reckon rfl fl_X6_20 (hgp Lr) rfl ?_
    refine pw_go tk_X6_reckon rfl rfl ?_
    refine pw_cvp tk_X6_reckon rfl ca_X3_dayBehind lk_X6_49 iv_X3_dayBehind sv_X3_dayBehind (hget (W.lv hkp.1)) rfl rfl (As := [.int (nI (D 17 r 1)), .int (nI 28)]) (rest := [.int (nI u), .ref (A 17 r)]) (c_dayBehind (dy_aw W2 hkp.1) c1 (by omega)) rfl rfl rfl rfl ?_
    refine pw_i (x' := nI t) (by rw [ht]; rfl) ?_
    refine pw_minN (u) (t) tk_X6_reckon rfl lk_X6_34 rfl rfl (by omega) (by omega) rfl ?_
    refine pw_put tk_X6_reckon rfl fp_X6_40 (hgp Lr) rfl rfl (Nat.le_of_ble_eq_true rfl) ?_
    refine pw_h (hset2 (va_up (D 17 r) 5 (min u t)) W Lr) ?_
    exact pw_vret tk_X6_reckon rfl rfl ⟨rfl, by rw [hR, if_pos c]⟩
end CREC

