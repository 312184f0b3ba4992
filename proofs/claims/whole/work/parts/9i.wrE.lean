/-! REFERENCE: recalls told -/
section WRE
variable {G : fw_G} {n : Nat} {S D : fw_DB} {A : fw_AD} {M : fw_MP} {h : fw_H}
set_option maxRecDepth 20000 in
theorem m_recall {x y z : Int32} (R : RD G n S D A M h) : PM G 9 197 2413 mm_X17_recall [.ref (A 30 0), .int x, .int y, .int z] h (fw_qI (fun r h' => wdn S (reS S x.toNatClampNeg y.toNatClampNeg (if decide (z = nI 102) = true then 1 else 0)) D A (rcK S x y z) (nI ((rlS S x.toNatClampNeg).length + 1)) r h') fw_noX) := by
  refine pm_of (by decide +kernel) rfl rfl rfl ?_
  have hN := R.n7
  obtain ⟨Q, hQ⟩ : ∃ Q, Q = (fw_qI (fun r h' => wdn S (reS S x.toNatClampNeg y.toNatClampNeg (if decide (z = nI 102) = true then 1 else 0)) D A (rcK S x y z) (nI ((rlS S x.toNatClampNeg).length + 1)) r h') fw_noX) := ⟨_, rfl⟩
  rw [← hQ]
  have k30 : ∀ g, g = (inI y 0 (nI 19999) && (decide (z = nI 102) || decide (z = nI 115))) → ∀ L, fw_sL L [(0, .ref (A 30 0)), (1, .int x), (2, .int y), (3, .int z)] → PW G mm_X17_recall Q 9 197 2413 h 30 L [.int (bI g), .int x, .ref (A 30 0)] := by
    intro gg hg L hL
    refine pw_M _ hL ?_
    refine pw_cv tk_X17_recall rfl ca_X17_noPerson lk_X17_181 iv_X17_noPerson sv_X17_noPerson R.m rfl rfl (As := [.int x, .int (bI gg)]) (rest := []) (kc' := 197) (ks' := 2413) (n_noPerson R) rfl rfl rfl (Nat.le_of_ble_eq_true rfl) (show 0 + 197 ≤ 197 by omega) (show 0 + 2413 ≤ 2413 by omega) ?_ ?_
    · rintro _ H ⟨_, rfl, rfl, e9⟩
      rw [e9, hg]
      have R1 := R.t (pdK (S 99 0 8) x (inI y 0 (nI 19999) && (decide (z = nI 102) || decide (z = nI 115))))
      by_cases hk : 0 < pdK (S 99 0 8) x (inI y 0 (nI 19999) && (decide (z = nI 102) || decide (z = nI 115)))
      · have eK : rcK S x y z = pdK (S 99 0 8) x (inI y 0 (nI 19999) && (decide (z = nI 102) || decide (z = nI 115))) := if_neg (by omega)
        rw [decide_eq_true hk]
        refine pw_ifeqB tk_X17_recall rfl (fun c => absurd c (by decide)) (fun _ => ?_)
        refine pw_go tk_X17_recall rfl rfl ?_
        rw [hQ]
        exact pw_iret tk_X17_recall rfl rfl rfl ⟨_, rfl, wdn_1 eK (by omega) (rdn_of R1)⟩
      · have hk0 : pdK (S 99 0 8) x (inI y 0 (nI 19999) && (decide (z = nI 102) || decide (z = nI 115))) = 0 := by omega
        have eK : rcK S x y z = if stS S x.toNatClampNeg y.toNatClampNeg = 108 then (if S 99 0 17 = 20 then 4 else 0) else 3 := if_pos hk0
        obtain ⟨h1, h2⟩ := pd0 hk0
        rw [Bool.and_eq_true] at h2
        obtain ⟨p, hp, rfl⟩ := knI_to h1 (by omega)
        obtain ⟨d, rfl, -, hd⟩ := inI_N (a := 0) h2.1 (by omega) (by omega)
        obtain ⟨cz, rfl, hcz⟩ : ∃ c : Nat, z = nI c ∧ (c = 102 ∨ c = 115) := by
          have ex := h2.2
          rw [Bool.or_eq_true, decide_eq_true_eq, decide_eq_true_eq] at ex
          rcases ex with e | e
          · exact ⟨102, e, Or.inl rfl⟩
          · exact ⟨115, e, Or.inr rfl⟩
        rw [decide_eq_false hk, hk0]
        rw [hk0] at R1
        rw [nI_tn (by omega), nI_tn (by omega)] at hQ eK
        generalize tU A D h 0 = h1 at *
        refine pw_ifeqB tk_X17_recall rfl (fun _ => ?_) (fun c => absurd c (by decide))
        iterate 5 refine pw_go tk_X17_recall rfl rfl ?_
        refine pw_cv tk_X17_recall rfl ca_X17_facts lk_X17_294 iv_X17_facts sv_X17_facts R1.m rfl rfl (As := []) (rest := [.int (nI d), .int (nI p), .ref (A 30 0), .ref (A 30 0)]) (kc' := 4) (ks' := 61) (n_facts R1) rfl rfl rfl (Nat.le_of_ble_eq_true rfl) (show 193 + 4 ≤ 197 by omega) (show 2352 + 61 ≤ 2413 by omega) ?_ ?_
        · rintro _ H2 ⟨_, rfl, q0, ad, rfl, s1, F⟩
          have R2 := R1.mono s1
          have rw1 := R2.2.1.rw
          have k75 : ∀ t, t ≠ 0 → t < 10 → rcK S (nI p) (nI d) (nI cz) = t → ∀ kc ks L, fw_sL L [(0, .ref (A 30 0))] → PW G mm_X17_recall Q 9 kc ks H2 75 L [.int (nI t), .ref (A 30 0)] := by
            intro t t0 t10 e kc ks L hL
            refine pw_M _ hL ?_
            refine pw_put tk_X17_recall rfl fp_X17_28 R2.m rfl rfl (Nat.le_of_ble_eq_true rfl) ?_
            refine pw_h (h' := tU A (sT D 0) H2 t) rfl ?_
            have R3 := R2.tt rfl t
            refine pw_go tk_X17_recall rfl rfl ?_
            refine pw_get tk_X17_recall rfl fl_X17_28 R3.m rfl ?_
            refine pw_ifN (t) tk_X17_recall rfl rfl (by omega) (fun c => absurd (show t ≤ 0 from c) (by omega)) (fun _ => ?_)
            refine pw_go tk_X17_recall rfl rfl ?_
            rw [hQ]
            exact pw_iret tk_X17_recall rfl rfl rfl ⟨_, rfl, wdn_1 e t0 (rdn_of R3)⟩
          refine pw_cv tk_X17_recall rfl ca_X17_stateOf lk_X17_298 iv_X17_stateOf sv_X17_stateOf R2.m rfl rfl (As := [.int (nI p), .int (nI d), .ref q0]) (rest := [.ref (A 30 0)]) (kc' := 3) (ks' := 57) (n_stateOf R2 F hp (by omega)) rfl rfl rfl (Nat.le_of_ble_eq_true rfl) (show 1 + 3 ≤ 4 by omega) (show 4 + 57 ≤ 61 by omega) ?_ ?_
          · rintro _ h8 ⟨_, rfl, rfl, e8⟩
            rw [e8]
            have hlt := stS_lt (S := S) (p := p) (d := d)
            refine pw_go tk_X17_recall rfl rfl ?_
            refine pw_icN (stS S p d) (108) tk_X17_recall rfl rfl rfl (by omega) (by omega) (fun c => ?_) (fun c => ?_)
            · have c : stS S p d = 108 := c
              rw [if_pos c] at eK
              refine pw_go tk_X17_recall rfl rfl ?_
              refine pw_get tk_X17_recall rfl fl_X17_25 R2.m rfl ?_
              refine pw_lsz tk_X17_recall rfl (R2.l5) rfl rfl rfl ?_
              refine pw_go tk_X17_recall rfl rfl ?_
              refine pw_icN (S 99 0 17) (20) tk_X17_recall rfl rfl rfl (by omega) (by omega) (fun c3 => ?_) (fun c3 => ?_)
              · have c3 : S 99 0 17 ≠ 20 := c3
                rw [if_neg c3] at eK
                have R3 := R2.tt rfl 0
                refine pw_go tk_X17_recall rfl rfl ?_
                refine pw_put tk_X17_recall rfl fp_X17_28 R2.m rfl rfl (Nat.le_of_ble_eq_true rfl) ?_
                refine pw_h (h' := tU A (sT D 0) H2 0) rfl ?_
                generalize tU A (sT D 0) H2 0 = h3 at *
                refine pw_go tk_X17_recall rfl rfl ?_
                refine pw_get tk_X17_recall rfl fl_X17_28 R3.m rfl ?_
                refine pw_ifN (0) tk_X17_recall rfl rfl (by omega) (fun _ => ?_) (fun c => absurd (show 0 ≤ 0 by omega) c)
                refine pw_go tk_X17_recall rfl rfl ?_
                refine pw_get tk_X17_recall rfl fl_X17_25 R3.m rfl ?_
                refine pw_mono (Q' := Q) (kc' := 2 + 1) (ks' := 52 + 5) (Nat.le_refl _) (Nat.le_refl _) (Nat.le_refl _) ?_
                refine pw_new tk_X17_recall rfl nw_X17_273 (fun q qf qg => ?_)
                have R3u := R3.up (o := .inr (18, [.int 0, .int 0, .int 0, .int 0, .int 0])) qf
                iterate 5 refine pw_go tk_X17_recall rfl rfl ?_
                refine pw_get tk_X17_recall rfl fl_X17_19 R3u.m rfl ?_
                refine pw_lsz tk_X17_recall rfl (R3u.l3) rfl rfl rfl ?_
                refine pw_ci tk_X17_recall rfl ca_X15_init (Or.inl lk_X17_302) iv_X15_init rfl rfl (As := [.int (nI p), .int (nI d), .int (nI cz), .int (nI (S 99 0 13))]) (rest := [.ref q, .ref (A 35 0)]) (kc' := 2) (ks' := 52) (n_rRec hcz fw_up_s) (fun _ _ z => z) rfl rfl rfl (Nat.le_of_ble_eq_true rfl) (show 0 + 2 ≤ 2 by omega) (show 0 + 52 ≤ 52 by omega) ?_
                rintro _ _ ⟨rfl, rfl⟩
                rw [fw_up_2]
                obtain ⟨o, ho⟩ : ∃ o, o = (if decide (nI cz = nI 102) = true then 1 else 0) := ⟨_, rfl⟩
                rw [← ho] at hQ
                have NN : ∀ f, reS S p d o 99 0 f = if f = 17 then S 99 0 17 + 1 else S 99 0 f := fun f => dn_N f
                refine pw_grow (t := 4) (N := S 99 0 17) (ci := 18) (g := rcR (rcG p d o (S 99 0 13))) (S' := reS S p d o) (by decide) tk_X17_recall rfl rfl R3.2.1 R3.2.2.1 R3.2.2.2.1 (fun _ _ => rfl) (fun _ _ => rfl) (fun f hf => ?_) R3.2.2.2.2 R3.z (lo_dp (by decide)) adk.rf qf rfl (by omega) (fun A' _ => ?_) trivial rfl (by decide) (fw_nw 2120 (by decide +kernel) (by decide +kernel)) (fun A i g => ⟨_, rfl⟩) (fun f hf _ => ?_) ?_ (fun D3 h3 => RW_rec rw1 (fun k k1 k2 => rfl) h3) rfl rfl (kc' := 1) (ks' := 4) (Nat.le_refl _) (Nat.le_refl _) (fun h' A' M' D' R4 rd e30 => ?_)
                · have I := R3.2.1.2.2.1
                  rw [NN, if_neg (by decide)]
                  rcases (show f = 56 ∨ f = 57 ∨ f = 58 by omega) with rfl | rfl | rfl
                  · exact I.1
                  · exact I.2.1
                  · exact I.2.2
                · show _ = (Sum.inr (18, [.int (nI p), .int (nI d), .int (nI (if 0 < o then 102 else 115)), .int (nI (S 99 0 13)), .int (nI 20000)]) : fw_O)
                  rcases hcz with e | e
                  · subst e
                    rw [ho]
                    rfl
                  · subst e
                    rw [ho]
                    rfl
                · rw [NN]
                  exact if_neg hf
                · exact (NN 17).trans (if_pos rfl)
                · have m4 := R4.m
                  rw [e30] at m4
                  have l5 := R4.l5
                  have N5 : reS S p d o 99 0 17 = S 99 0 17 + 1 := by rw [NN, if_pos rfl]
                  rw [N5] at l5
                  have ep : ∀ k, k < S 99 0 17 + 1 → reS S p d o 17 k 0 < 100 := fun k hk => by
                    unfold reS
                    by_cases z : k = S 99 0 17
                    · rw [z, dw_s (by decide)]
                      show p < 100
                      omega
                    · rw [dw_i (by decide) z]
                      have := (icr R.1 (show k < S 99 0 17 by omega)).2.2.2.2
                      omega
                  have eV : (rlS S p).length + 1 = (rlN (reS S p d o) p (S 99 0 17 + 1)).length := by
                    rw [rlN_s, if_pos (show reS S p d o 17 (S 99 0 17) 0 = p by unfold reS; rw [dw_s (by decide)]; rfl)]
                    congr 2
                    unfold rlS rlN
                    refine List.filter_congr (fun k hk => ?_)
                    rw [List.mem_range] at hk
                    unfold reS
                    rw [dw_i (by decide) (by omega)]
                  rw [eV] at hQ
                  have loop : ∀ it, h' it = none → ∀ j k, j + k = S 99 0 17 + 1 → ∀ lst L, fw_sL L [(1, .int (nI p)), (4, .int (nI (rlN (reS S p d o) p k).length)), (5, .ref it)] → PW G mm_X17_recall Q 9 0 0 (fw_up h' it (itO (A' 35 0) (S 99 0 17 + 1) k lst)) 124 L [] := by
                    intro it hit j
                    induction j with
                    | zero =>
                      intro k hk lst L hL
                      refine pw_M _ hL ?_
                      have hk : k = S 99 0 17 + 1 := by omega
                      subst hk
                      refine pw_go tk_X17_recall rfl rfl ?_
                      refine pw_ifh tk_X17_recall rfl (fw_up_s) (j_hasNext (l5.up hit) fw_up_s (by omega)) (rest := []) rfl rfl rfl rfl ?_
                      rw [decide_eq_false (fun z => z rfl)]
                      refine pw_forget (up_sub hit) ?_
                      refine pw_ifeqB tk_X17_recall rfl (fun _ => ?_) (fun c => absurd c (by decide))
                      refine pw_go tk_X17_recall rfl rfl ?_
                      rw [hQ]
                      exact pw_iret tk_X17_recall rfl rfl rfl ⟨_, rfl, wdn_0 eK rd⟩
                    | succ j ih =>
                      intro k hk lst L hL
                      refine pw_M _ hL ?_
                      have hr : k < S 99 0 17 + 1 := by omega
                      have es := rlN_s (S := reS S p d o) (p := p) (k := k)
                      have hep := ep k hr
                      have k162 : ∀ lst v L, fw_sL L [(1, .int (nI p)), (4, .int (nI (rlN (reS S p d o) p k).length)), (5, .ref it)] → (rlN (reS S p d o) p (k + 1)).length = (rlN (reS S p d o) p k).length + v → PW G mm_X17_recall Q 9 0 0 (fw_up h' it (itO (A' 35 0) (S 99 0 17 + 1) (k + 1) lst)) 162 L [.int (nI v), .int (nI (rlN (reS S p d o) p k).length)] := by
                        intro lst v L hL hv
                        refine pw_M _ hL ?_
                        refine pw_addN ((rlN (reS S p d o) p k).length) (v) tk_X17_recall rfl rfl rfl ?_
                        rw [← hv]
                        refine pw_go tk_X17_recall rfl rfl ?_
                        refine pw_go tk_X17_recall rfl rfl ?_
                        exact ih (k + 1) (by omega) lst _ ⟨rfl, rfl, rfl, trivial⟩
                      refine pw_go tk_X17_recall rfl rfl ?_
                      refine pw_ifh tk_X17_recall rfl (fw_up_s) (j_hasNext (l5.up hit) fw_up_s (by omega)) (rest := []) rfl rfl rfl rfl ?_
                      rw [decide_eq_true (show k ≠ S 99 0 17 + 1 by omega)]
                      refine pw_ifeqB tk_X17_recall rfl (fun c => absurd c (by decide)) (fun _ => ?_)
                      refine pw_go tk_X17_recall rfl rfl ?_
                      refine pw_ifn tk_X17_recall rfl (fw_up_s) (j_next (l5.up hit) fw_up_s hr) (rest := []) rfl rfl rfl rfl ?_
                      rw [fw_up_2]
                      have hbk := (R4.up (o := itO (A' 35 0) (S 99 0 17 + 1) (k + 1) (k + 1)) hit).rec (r := k) (by rw [N5]; exact hr)
                      refine pw_cast tk_X17_recall rfl (hbk) rfl cw_X17_273 ?_
                      iterate 3 refine pw_go tk_X17_recall rfl rfl ?_
                      refine pw_get tk_X17_recall rfl fl_X17_272 hbk rfl ?_
                      refine pw_go tk_X17_recall rfl rfl ?_
                      refine pw_icN (reS S p d o 17 k 0) (p) tk_X17_recall rfl rfl rfl (by omega) (by omega) (fun c2 => ?_) (fun c2 => ?_)
                      · have c2 : reS S p d o 17 k 0 ≠ p := c2
                        rw [if_neg c2] at es
                        refine pw_go tk_X17_recall rfl rfl ?_
                        exact k162 _ 0 _ ⟨rfl, rfl, rfl, trivial⟩ es
                      · have c2 : reS S p d o 17 k 0 = p := Decidable.not_not.mp c2
                        rw [if_pos c2] at es
                        iterate 2 refine pw_go tk_X17_recall rfl rfl ?_
                        exact k162 _ 1 _ ⟨rfl, rfl, rfl, trivial⟩ es
                  obtain ⟨e5, cap5, o5, -⟩ := id l5
                  iterate 4 refine pw_go tk_X17_recall rfl rfl ?_
                  refine pw_get tk_X17_recall rfl fl_X17_25 m4 rfl ?_
                  refine pw_cv tk_X17_recall rfl ca_Jx4a65c_iterator_32c93 lk_X17_158 iv_Jx4a65c_iterator_32c93 sv_Jx4a65c_iterator_32c93 o5 rfl rfl (As := []) (rest := []) (kc' := 0) (ks' := 0) (j_iterator l5) rfl rfl rfl (Nat.le_of_ble_eq_true rfl) (Nat.le_refl _) (Nat.le_refl _) ?_ ?_
                  · rintro _ _ ⟨_, rfl, it, rfl, hit, rfl⟩
                    refine pw_go tk_X17_recall rfl rfl ?_
                    exact loop it hit (S 99 0 17 + 1) 0 (by omega) 0 _ ⟨rfl, rfl, rfl, trivial⟩
                  · exact fun _ _ z => z.elim
              · have c3 : S 99 0 17 = 20 := Decidable.not_not.mp c3
                rw [if_pos c3] at eK
                iterate 2 refine pw_go tk_X17_recall rfl rfl ?_
                exact k75 4 (by decide) (by decide) eK _ _ _ ⟨rfl, trivial⟩
            · have c : stS S p d ≠ 108 := c
              rw [if_neg c] at eK
              iterate 2 refine pw_go tk_X17_recall rfl rfl ?_
              exact k75 3 (by decide) (by decide) eK _ _ _ ⟨rfl, trivial⟩
          · exact fun _ _ z => z.elim
        · exact fun _ _ z => z.elim
    · exact fun _ _ z => z.elim
  have k29 : (inI y 0 (nI 19999) && (decide (z = nI 102) || decide (z = nI 115))) = false → ∀ L, fw_sL L [(0, .ref (A 30 0)), (1, .int x), (2, .int y), (3, .int z)] → PW G mm_X17_recall Q 9 197 2413 h 29 L [.int x, .ref (A 30 0)] := by
    intro e L hL
    refine pw_M _ hL ?_
    refine pw_go tk_X17_recall rfl rfl ?_
    exact k30 false e.symm _ ⟨rfl, rfl, rfl, rfl, trivial⟩
  have k25 : (inI y 0 (nI 19999) && (decide (z = nI 102) || decide (z = nI 115))) = true → ∀ L, fw_sL L [(0, .ref (A 30 0)), (1, .int x), (2, .int y), (3, .int z)] → PW G mm_X17_recall Q 9 197 2413 h 25 L [.int x, .ref (A 30 0)] := by
    intro e L hL
    refine pw_M _ hL ?_
    iterate 2 refine pw_go tk_X17_recall rfl rfl ?_
    exact k30 true e.symm _ ⟨rfl, rfl, rfl, rfl, trivial⟩
  iterate 5 refine pw_go tk_X17_recall rfl rfl ?_
  refine pw_csp tk_X17_recall rfl ca_X17_in lk_X17_52 sx_X17_in (As := [.int y, .int 0, .int (nI 19999)]) (rest := [.int x, .ref (A 30 0)]) (n_in) rfl rfl rfl rfl ?_
  refine pw_ifeqB tk_X17_recall rfl (fun c => k29 (by rw [c]; rfl) _ ⟨rfl, rfl, rfl, rfl, trivial⟩) (fun c => ?_)
  iterate 2 refine pw_go tk_X17_recall rfl rfl ?_
  refine pw_br tk_X17_recall rfl rfl (fun c2 => ?_) (fun c2 => ?_)
  · have c2 : z = nI 102 := c2
    exact k25 (by rw [c, decide_eq_true c2]; rfl) _ ⟨rfl, rfl, rfl, rfl, trivial⟩
  have c2 : ¬ z = nI 102 := c2
  iterate 2 refine pw_go tk_X17_recall rfl rfl ?_
  refine pw_br tk_X17_recall rfl rfl (fun c3 => ?_) (fun c3 => ?_)
  · have c3 : z ≠ nI 115 := c3
    exact k29 (by rw [decide_eq_false c2, decide_eq_false c3, Bool.or_false, Bool.and_false]) _ ⟨rfl, rfl, rfl, rfl, trivial⟩
  · have c3 : z = nI 115 := Decidable.not_not.mp c3
    exact k25 (by rw [c, decide_eq_true c3, Bool.or_true]; rfl) _ ⟨rfl, rfl, rfl, rfl, trivial⟩
end WRE

