/-! the face: days added -/
section FACE6
variable {G : fw_G} {D : fw_DB} {A : fw_AD} {M : fw_MP} {n : Nat}
theorem rfs_up {f : Nat → Nat} {n : Nat} : va_up (rfs n f) n (some (f n)) = rfs (n + 1) f := funext fun j => by
  show (if j = n then some (f n) else rfs n f j) = _
  unfold rfs
  by_cases c : j = n
  · rw [if_pos c, if_pos (by omega), c]
  · rw [if_neg c]
    by_cases c2 : j < n
    · rw [if_pos c2, if_pos (by omega)]
    · rw [if_neg c2, if_neg (by omega)]
theorem tkA_W {p a : Nat} {l : List Nat} (W : Wf D A M) (hp8 : p < D 99 0 8) (ha : a < D 99 0 16) (hin : ∀ i ∈ l, i < D 99 0 16) (h4 : D 8 p 4 ≤ D 99 0 16) (h2 : ∀ i ∈ l, D 16 i 2 ≤ D 99 0 16) : Wf (tkA D p a l) A M := by
  unfold tkA
  have e := List.takeWhile_append_dropWhile (p := fun i => decide (D 16 i 0 ≤ D 16 a 0)) (l := l)
  by_cases c : tkl D (D 16 a 0) 0 l = 0
  · rw [if_pos c]
    obtain ⟨q1, q2, q3, q4, q5, q6, q7, q8⟩ := W.ok hp8
    exact (W.put (k := 16) (i := a) (g := va_up (D 16 a) 2 (D 8 p 4)) (by decide) h4).put (k := 8) (i := p) (g := va_up (D 8 p) 4 (a + 1)) (by decide) ⟨q1, q2, q3, q4, (show a + 1 ≤ D 99 0 16 by omega), q6, q7, q8⟩
  · rw [if_neg c]
    have hb : tkl D (D 16 a 0) 0 l - 1 ∈ l := by
      rcases tkl_sp (D := D) (x := D 16 a 0) (l := l) (b := 0) with ⟨h1, h2⟩ | ⟨l0, h1, h2⟩
      · exact absurd h2 c
      · have q : tkl D (D 16 a 0) 0 l - 1 ∈ l.takeWhile (fun i => decide (D 16 i 0 ≤ D 16 a 0)) := by
          rw [h1]
          exact List.mem_append_right _ List.mem_cons_self
        have q2 := List.mem_append_left (l.dropWhile (fun i => decide (D 16 i 0 ≤ D 16 a 0))) q
        rw [e] at q2
        exact q2
    exact (W.put (k := 16) (i := a) (g := va_up (D 16 a) 2 (D 16 (tkl D (D 16 a 0) 0 l - 1) 2)) (by decide) (h2 _ hb)).put (k := 16) (by decide) (show a + 1 ≤ D 99 0 16 by omega)
def adK (D : fw_DB) (x y z : Int32) : Nat := if pdK (D 99 0 8) x (inI y 0 (nI 19999) && inI z 1 (nI 200)) = 0 then (if D 99 0 16 = 30 then 3 else 0) else pdK (D 99 0 8) x (inI y 0 (nI 19999) && inI z 1 (nI 200))
set_option maxRecDepth 20000 in
theorem f_add {x y z : Int32} (hl : G.1.stackTraces = false) (I : IC n D A M) : PM G 2 5 27 mm_X10_add [.ref (A 0 0), .int x, .int y, .int z] (hp M A D) (fw_qI (fun r h' => done n D A (adS D x.toNatClampNeg y.toNatClampNeg z.toNatClampNeg) h' ∧ adK D x y z = 0 ∧ r = nI (D 99 0 16)) (fun E h' => done n D A D h' ∧ exI (adK D x y z) E [(1, eIO), (2, eIA), (3, eIS)])) := by
  refine pm_of (by decide +kernel) rfl rfl rfl ?_
  have g := I.1
  have m := I.2.1
  have n8 := m.2.2.2.2.1
  have n30 := m.2.2.2.2.2.2.1
  have L0 := g.1.lv (k := 0) (i := 0) (by have := m.1.1; omega)
  have L4 := g.1.lv (k := 4) (i := 0) (by have := m.1.2.2.2.2.1; omega)
  iterate 2 refine pw_go tk_X10_add rfl rfl ?_
  refine pw_cv tk_X10_add rfl ca_X10_knownPerson lk_X10_134 iv_X10_knownPerson sv_X10_knownPerson (hget L0) rfl rfl (As := [.int x]) (rest := []) (kc' := 4) (ks' := 21) (q_person hl g m) rfl rfl rfl (Nat.le_of_ble_eq_true rfl) (by decide) (by decide) ?_ ?_
  · rintro _ _ ⟨_, rfl, rfl, p, hp8, rfl, rfl⟩
    iterate 2 refine pw_go tk_X10_add rfl rfl ?_
    refine pw_cs tk_X10_add rfl ca_X10_requireDay lk_X10_63 sx_X10_requireDay (As := [.int y]) (rest := []) (kc' := 3) (ks' := 15) (q_day hl) rfl rfl rfl (Nat.le_of_ble_eq_true rfl) (by decide) (by decide) ?_ ?_
    · rintro _ _ ⟨rfl, rfl, e⟩
      iterate 3 refine pw_go tk_X10_add rfl rfl ?_
      refine pw_cs tk_X10_add rfl ca_X10_requireRange lk_X10_84 sx_X10_requireRange (As := [.int z, .int 1, .int (nI 200)]) (rest := []) (kc' := 2) (ks' := 9) (q_range hl) rfl rfl rfl (Nat.le_of_ble_eq_true rfl) (by decide) (by decide) ?_ ?_
      · rintro _ _ ⟨rfl, rfl, e2⟩
        have eK : adK D (nI p) y z = if D 99 0 16 = 30 then 3 else 0 := by
          unfold adK
          rw [pdK_0 hp8 (by omega) (by rw [e, e2]; rfl), if_pos rfl]
        rw [eK, nI_tn (by omega)]
        obtain ⟨d, rfl, -, hd⟩ := inI_N (a := 0) e (by omega) (by omega)
        obtain ⟨k, rfl, k1, k2⟩ := inI_N (a := 1) e2 (by omega) (by omega)
        rw [nI_tn (by omega), nI_tn (by omega)]
        have e08 : D 0 0 8 = D 99 0 16 := m.2.2.1.2.2.2.1
        refine pw_go tk_X10_add rfl rfl ?_
        refine pw_get tk_X10_add rfl fl_X10_199 (hget L0) rfl ?_
        refine pw_go tk_X10_add rfl rfl ?_
        refine pw_get tk_X10_add rfl fl_X10_29 (hget L0) rfl ?_
        refine pw_alen tk_X10_add rfl (hget L4) (by decide) ?_
        refine pw_icN (D 0 0 8) (30) tk_X10_add rfl rfl rfl (by omega) (by omega) (fun c => ?_) (fun c => ?_)
        · have c : D 0 0 8 < 30 := c
          rw [if_neg (by omega)]
          refine pw_new tk_X10_add rfl nw_X10_27 (fun q qf qg => ?_)
          iterate 3 refine pw_go tk_X10_add rfl rfl ?_
          refine pw_ci tk_X10_add rfl ca_X0_init (Or.inl lk_X10_204) iv_X0_init rfl rfl (As := [.int (nI d), .int (nI k)]) (rest := [.ref q]) (kc' := 1) (ks' := 6) (n_Added fw_up_s) (fun _ _ z => z) rfl rfl rfl (Nat.le_of_ble_eq_true rfl) (by decide) (by decide) ?_
          rintro _ _ ⟨rfl, rfl⟩
          refine pw_h fw_up_2 ?_
          obtain ⟨hh, W1⟩ := hnew (g := adG p d k) (k := 16) (n := D 99 0 16) (q := q) g.1 qf rfl (by decide) (Nat.zero_le _)
          refine pw_h hh ?_
          refine pw_go tk_X10_add rfl rfl ?_
          have hq : an A 16 (D 99 0 16) q 16 (D 99 0 16) = q := an_s
          have hA : ∀ k j, k ≠ 16 → an A 16 (D 99 0 16) q k j = A k j := fun k j hk => by
            unfold an
            rw [if_neg hk]
          obtain ⟨A1, hA1⟩ : ∃ A1, A1 = an A 16 (D 99 0 16) q := ⟨_, rfl⟩
          rw [← hA1] at W1 hq hA ⊢
          generalize mn M 16 (D 99 0 16) q = M1 at *
          refine pw_M [(0, .ref (A1 0 0)), (4, .ref (A1 8 p)), (5, .ref (A1 16 (D 99 0 16)))] ⟨congrArg (fun z => some (Value.ref z)) (hA 0 0 (by decide)).symm, congrArg (fun z => some (Value.ref z)) (hA 8 p (by decide)).symm, congrArg (fun z => some (Value.ref z)) hq.symm, trivial⟩ ?_
          show PW G mm_X10_add _ 2 1 6 (hp M1 A1 (adS D p d k)) _ _ _
          have W1 : Wf (adS D p d k) A1 M1 := W1
          have N16 : adS D p d k 99 0 16 = D 99 0 16 + 1 := by
            unfold adS
            rw [dn_N, if_pos rfl]
          have N8 : adS D p d k 99 0 8 = D 99 0 8 := by
            unfold adS
            rw [dn_N, if_neg (by decide)]
          have hp1 : p < adS D p d k 99 0 8 := by rw [N8]; exact hp8
          have P := (I.2.2.2.2.1 p hp8).1
          have s16 : ∀ i, i < D 99 0 16 → adS D p d k 16 i = D 16 i := fun i hi => dn_i (by omega) (by decide)
          have s8 : adS D p d k 8 = D 8 := dn_k (by decide) (by decide)
          have hin : ∀ i ∈ alS D p, i < adS D p d k 99 0 16 := fun i hi => by have := P.2.2.2.1 i hi; omega
          have hch : ch (fun i => adS D p d k 16 i 2) (adS D p d k 8 p 4) (alS D p) := by
            rw [s8]
            exact ch_c (fun i hi => by show adS D p d k 16 i 2 = _; rw [s16 i (P.2.2.2.1 i hi)]) P.2.2.1
          have C1 : cB (adS D p d k) := by
            refine ⟨fun w hw => ?_, fun l hl => ?_, fun i hi => ?_⟩
            · exact wB_c (congrFun (dn_k (by decide) (by decide)) w) (congrFun (dn_k (by decide) (by decide)) w) (g.2.1.1 w (by unfold adS at hw; rw [dn_N, if_neg (by decide)] at hw; exact hw))
            · have := g.2.1.2.1 l (by unfold adS at hl; rw [dn_N, if_neg (by decide)] at hl; exact hl)
              unfold lB at this ⊢
              rw [show adS D p d k 7 = D 7 from dn_k (by decide) (by decide)]
              exact this
            · unfold aB
              by_cases c9 : i = D 99 0 16
              · rw [c9, show adS D p d k 16 (D 99 0 16) = adG p d k from dn_s (by decide)]
                exact ⟨(by omega : d < 20000), k2⟩
              · rw [s16 i (by omega)]
                exact g.2.1.2.2 i (by omega)
          have W2 : Wf (adT D p d k) A1 M1 := tkA_W W1 hp1 (by omega) hin (by rw [s8, N16]; have := (g.1.ok hp8).2.2.2.2.1; omega) (fun i hi => by
            have hi := P.2.2.2.1 i hi
            rw [s16 i hi, N16]
            have : D 16 i 2 ≤ D 99 0 16 := g.1.ok hi
            omega)
          have L01 := W1.lv (k := 0) (i := 0) (by unfold adS; rw [dn_N, if_neg (by decide)]; have := m.1.1; omega)
          have L41 := W1.lv (k := 4) (i := 0) (by unfold adS; rw [dn_N, if_neg (by decide)]; have := m.1.2.2.2.2.1; omega)
          have L81 := W1.lv hp1
          have L16 := W1.lv (k := 16) (i := D 99 0 16) (by omega)
          have t4 : adT D p d k 4 0 0 = D 99 0 16 := by
            have : adT D p d k 4 = D 4 := (tkA_o.1 4 (by decide) (by decide)).trans (dn_k (by decide) (by decide))
            rw [this]
            exact m.2.1.2.2.2
          have t0 : adT D p d k 0 0 8 = D 99 0 16 := by
            have : adT D p d k 0 = D 0 := (tkA_o.1 0 (by decide) (by decide)).trans (dn_k (by decide) (by decide))
            rw [this]
            exact e08
          iterate 2 refine pw_go tk_X10_add rfl rfl ?_
          refine pw_cv tk_X10_add rfl ca_X5_takeAdded lk_X10_207 iv_X5_takeAdded sv_X5_takeAdded (hget L81) rfl rfl (As := [.ref (A1 16 (D 99 0 16))]) (rest := []) (kc' := 1) (ks' := 6) (p_takeA W1 C1 hp1 (by omega : D 99 0 16 < adS D p d k 99 0 16) hch hin) rfl rfl rfl (Nat.le_of_ble_eq_true rfl) (Nat.le_of_eq (Nat.zero_add _)) (Nat.le_of_eq (Nat.zero_add _)) ?_ ?_
          · rintro _ _ ⟨rfl, rfl⟩
            refine pw_h (h' := hp M1 A1 (adT D p d k)) rfl ?_
            refine pw_go tk_X10_add rfl rfl ?_
            refine pw_get tk_X10_add rfl fl_X10_29 (hget L01) rfl ?_
            refine pw_go tk_X10_add rfl rfl ?_
            refine pw_get tk_X10_add rfl fl_X10_199 (hget L01) rfl ?_
            refine pw_go tk_X10_add rfl rfl ?_
            refine pw_aastN tk_X10_add rfl (hget L41) (by decide) (hget L16) rfl rfl (congrArg nI t0) (by omega) (by omega) ?_
            have W3 : Wf (adU D p d k) A1 M1 := W2.put (by decide) (show D 99 0 16 + 1 ≤ adT D p d k 99 0 16 by
              have : adT D p d k 99 = adS D p d k 99 := tkA_o.1 99 (by decide) (by decide)
              rw [this, N16]
              omega)
            refine pw_h (h' := hp M1 A1 (adU D p d k)) (by
              rw [t4, rfs_up]
              exact hset (va_up (adT D p d k 4 0) 0 (D 99 0 16 + 1)) W2 L41) ?_
            have u0 : adU D p d k 0 0 8 = D 99 0 16 := by
              unfold adU
              rw [dp_k (by decide)]
              exact t0
            iterate 2 refine pw_go tk_X10_add rfl rfl ?_
            refine pw_get tk_X10_add rfl fl_X10_199 (hget L01) rfl ?_
            refine pw_go tk_X10_add rfl rfl ?_
            refine pw_addN (D 99 0 16) (1) tk_X10_add rfl (congrArg nI u0) rfl ?_
            have W4 : Wf (adD D p d k) A1 M1 := W3.put (by decide) (W3.ok (k := 0) (i := 0) (by
              have : adU D p d k 99 0 0 = D 99 0 0 := by
                unfold adU
                rw [dp_k (by decide)]
                have : adT D p d k 99 = adS D p d k 99 := tkA_o.1 99 (by decide) (by decide)
                rw [this]
                unfold adS
                rw [dn_N, if_neg (by decide)]
              have := m.1.1
              omega))
            refine pw_put tk_X10_add rfl fp_X10_199 (hget L01) rfl rfl (Nat.le_of_ble_eq_true rfl) ?_
            refine pw_h (h' := hp M1 A1 (adD D p d k)) (hset (va_up (adU D p d k 0 0) 8 (D 99 0 16 + 1)) W3 L01) ?_
            have v0 : adD D p d k 0 0 8 = D 99 0 16 + 1 := by
              unfold adD
              rw [dp_s]
              rfl
            refine pw_go tk_X10_add rfl rfl ?_
            refine pw_get tk_X10_add rfl fl_X10_199 (hget L01) rfl ?_
            refine pw_go tk_X10_add rfl rfl ?_
            refine pw_subN (D 99 0 16 + 1) (1) tk_X10_add rfl (congrArg nI v0) rfl (by omega) ?_
            refine pw_iret tk_X10_add rfl rfl rfl ⟨_, rfl, ⟨_, A1, M1, rfl, ic_of W4 (icd_add (ic_d I) hp8 (by omega) k2 (by omega)), ad_es, ad_hi, hA 0 0 (by decide), hA 30 0 (by decide), hA 46 0 (by decide), hA 70 0 (by decide), hA 71 0 (by decide)⟩, rfl, rfl⟩
          · exact fun E h' z => z.elim
        · have c : ¬ D 0 0 8 < 30 := c
          rw [if_pos (by omega)]
          exact pw_throw hl rfl th_95_202 tk_X10_add rfl rfl rfl rfl rfl rfl ⟨done_0 I, List.mem_cons_of_mem _ (List.mem_cons_of_mem _ List.mem_cons_self)⟩
      · rintro E _ ⟨⟨rfl, rfl⟩, e2⟩
        refine px_out rfl ⟨done_0 I, ?_⟩
        unfold adK
        rw [pdK_2 hp8 (by omega) (by rw [e2, Bool.and_false]), if_neg (by decide)]
        exact List.mem_cons_of_mem _ List.mem_cons_self
    · rintro E _ ⟨⟨rfl, rfl⟩, e⟩
      refine px_out rfl ⟨done_0 I, ?_⟩
      unfold adK
      rw [pdK_2 hp8 (by omega) (by rw [e, Bool.false_and]), if_neg (by decide)]
      exact List.mem_cons_of_mem _ List.mem_cons_self
  · rintro E _ ⟨⟨rfl, rfl⟩, e⟩
    refine px_out rfl ⟨done_0 I, ?_⟩
    unfold adK
    rw [pdK_1 e, if_neg (by decide)]
    exact List.mem_cons_self
end FACE6

