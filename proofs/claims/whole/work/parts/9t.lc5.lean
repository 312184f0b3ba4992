/-! THE LAW: persons, and the calls that throw nothing -/
section LC5
variable {G : fw_G} {n : Nat} {S D : fw_DB} {A : fw_AD} {M : fw_MP} {h : fw_H} {Q : fw_Q}
theorem m_person6 (h6 : S 99 0 8 = 6) (R : RD G n S D A M h) : PM G 6 0 0 mm_X17_person [.ref (A 30 0)] h (fw_qI (fun r h' => wdn S (peS S) D A (peK S) (nI (S 99 0 8)) r h') fw_noX) := by
  refine pm_of (by decide +kernel) rfl rfl rfl ?_
  have eK : peK S = 1 := if_pos h6
  have R3 := R.t 1
  iterate 2 refine pw_go tk_X17_person rfl rfl ?_
  refine pw_get tk_X17_person rfl fl_X17_16 R.m rfl ?_
  refine pw_lsz tk_X17_person rfl (R.l2) rfl rfl rfl ?_
  refine pw_go tk_X17_person rfl rfl ?_
  refine pw_icN (S 99 0 8) (6) tk_X17_person rfl rfl rfl (by omega) (by omega) (fun c => absurd h6 c) (fun _ => ?_)
  iterate 2 refine pw_go tk_X17_person rfl rfl ?_
  refine pw_put tk_X17_person rfl fp_X17_28 R.m rfl rfl (Nat.le_of_ble_eq_true rfl) ?_
  refine pw_h (h' := tU A D h 1) rfl ?_
  refine pw_go tk_X17_person rfl rfl ?_
  refine pw_get tk_X17_person rfl fl_X17_28 R3.m rfl ?_
  refine pw_ifN (1) tk_X17_person rfl rfl (by omega) (fun c => absurd (show 1 ≤ 0 from c) (by omega)) (fun _ => ?_)
  refine pw_go tk_X17_person rfl rfl ?_
  exact pw_iret tk_X17_person rfl rfl rfl ⟨_, rfl, wdn_1 eK (by decide) (rdn_of R3)⟩
def tb_lc5 : List fw_R := [(582, .aload_n 1, 583, 1, 0), (583, .aload_n 3, 584, 3, 0), (584, .invokestatic 149, 587, 0, 0), (587, .istore 6, 589, 6, 0), (589, .aload_n 2, 590, 2, 0), (590, .invokevirtual 152, 593, 0, 0), (593, .istore 7, 595, 7, 0), (595, .aload_n 2, 596, 2, 0), (596, .invokevirtual 131, 599, 0, 0), (599, .iload 6, 601, 6, 0), (601, .if_icmp .eq 5, 604, 606, 0), (604, .iconst 0, 605, 0, 0), (605, .ireturn, 606, 0, 0), (606, .iload 6, 608, 6, 0), (608, .ifCond .ne 15, 611, 623, 0), (611, .aload_n 3, 612, 3, 0), (612, .iconst 0, 613, 0, 0), (613, .laload, 614, 0, 0), (614, .iload 7, 616, 7, 0), (616, .i2l, 617, 0, 0), (617, .lcmp, 618, 0, 0), (618, .ifCond .eq 5, 621, 623, 0), (621, .iconst 0, 622, 0, 0), (622, .ireturn, 623, 0, 0), (623, .goto 1743, 626, 2366, 0)]
theorem tk_lc5 : fw_tok mm_L_law_ tb_lc5 := by unfold fw_tok; decide +kernel
set_option maxRecDepth 20000 in
theorem lc_5a {kc ks : Nat} (hl : G.1.stackTraces = false) (hn : n ≤ 600) (L : LI G n D A M) (h6 : D 99 0 8 = 6) (hs : 9 * n + 9 ≤ nS G) (hb : nS G ≤ 4608) (hE : ∀ D2 A2 M2, LI G (n + 1) D2 A2 M2 → adk A A2 → D2 99 0 8 = D 99 0 8 → PW G mm_L_law_ Q 11 kc ks (hp M2 A2 D2) 2366 (lwF G A n) []) : PW G mm_L_law_ Q 11 (kc + 210) (ks + 2500) (hp M A D) 582 (lwF G A n) [] := by
  obtain ⟨K, hK⟩ : ∃ K, K = peK D := ⟨_, rfl⟩
  have hK9 : K < 10 := by rw [hK]; exact (by unfold peK; (repeat' split) <;> omega)
  refine pw_go tk_lc5 rfl rfl ?_
  refine pw_go tk_lc5 rfl rfl ?_
  refine pw_csH tk_lc5 rfl ca_L_person lk_L_149 sx_L_person (As := [.ref (A 0 0), .ref (A 70 0)]) (rest := []) (kc' := kc + 204) (ks' := ks + 1857) (wx_person  hl L) (fun _ _ z => z) rfl rfl rfl (Nat.le_of_ble_eq_true rfl) (show 6 + (kc + 204) ≤ kc + 210 by omega) (show 643 + (ks + 1857) ≤ ks + 2500 by omega) ?_
  rintro _ h1 ⟨r, rfl, hr, S1, D1, A1, M1, c0, c1, e1, m, ou⟩
  rw [e1, hr]
  rw [← hK] at c0 c1 ou ⊢
  have R := LM.rd L m
  have e30 : A1 30 0 = A 30 0 := m.2.2.2.2.1
  have rm := R.m
  have hm := m_person6 h6 R
  rw [e30] at rm hm
  rw [← hK] at hm
  iterate 2 refine pw_go tk_lc5 rfl rfl ?_
  refine pw_cv tk_lc5 rfl ca_X17_person lk_L_152 iv_X17_person sv_X17_person rm rfl rfl (As := []) (rest := []) (kc' := kc) (ks' := ks) (hm) rfl rfl rfl (Nat.le_of_ble_eq_true rfl) (show 0 + kc ≤ kc + 204 by omega) (show 0 + ks ≤ ks + 1857 by omega) ?_ ?_
  skip
  · rintro _ h2 ⟨r2, rfl, w⟩
    have w1 : rdn S1 D1 A1 K h2 := by
      by_cases z : K = 0
      · rw [c0 z, z]
        exact (w.1 z).1
      · rw [c1 z]
        exact w.2 z
    have w2 := fun z => (w.1 z).2
    obtain ⟨D2, A2, M2, L2, s2, k2, o70, o71, ad, e8⟩ := LM.li L m w1
    have e8 : D2 99 0 8 = D 99 0 8 := by
      rw [e8]
      by_cases z : K = 0
      · rw [c0 z]
        rw [hK] at z; exact absurd z (by rw [show peK D = 1 from if_pos h6]; decide)
      · rw [c1 z]
    refine pw_forget s2 ?_
    have f30 : A2 30 0 = A 30 0 := ad.2.1
    have rm2 := L2.rd.m
    have ht := n_thrown L2.rd
    rw [f30] at rm2 ht
    rw [k2] at ht
    iterate 2 refine pw_go tk_lc5 rfl rfl ?_
    refine pw_cvp tk_lc5 rfl ca_X17_thrown lk_L_131 iv_X17_thrown sv_X17_thrown rm2 rfl rfl (As := []) (rest := []) (ht) rfl rfl rfl rfl ?_
    refine pw_go tk_lc5 rfl rfl ?_
    refine pw_br tk_lc5 rfl rfl (fun _ => ?_) (fun c => absurd rfl c)
    refine pw_go tk_lc5 rfl rfl ?_
    refine pw_ifN (K) tk_lc5 rfl rfl (by omega) (fun c => ?_) (fun c => ?_)
    · skip
      refine pw_go tk_lc5 rfl rfl ?_
      exact pw_W (hE D2 A2 M2 L2 ad e8) ⟨rfl, rfl, rfl, rfl, rfl, rfl, trivial⟩
    · have z : K = 0 := Decidable.not_not.mp c
      have w3 := w2 z
      subst w3
      iterate 2 refine pw_go tk_lc5 rfl rfl ?_
      refine pw_laldN (k := 0) tk_lc5 rfl (L2.o70 ad) nI_0.symm (by decide) (by decide) ?_
      refine pw_l (x' := (nI (D 99 0 8)).toInt64) (by show (if 0 = 0 then lN (D2 70 0 0) else 0) = _; rw [if_pos rfl, congrFun (congrFun o70 0) 0, ou z]; exact lN_out _) ?_
      iterate 3 refine pw_go tk_lc5 rfl rfl ?_
      refine pw_br tk_lc5 rfl rfl (fun _ => ?_) (fun c => absurd lcmp_s c)
      refine pw_go tk_lc5 rfl rfl ?_
      exact pw_W (hE D2 A2 M2 L2 ad e8) ⟨rfl, rfl, rfl, rfl, rfl, rfl, trivial⟩
  · exact fun _ _ z => z.elim
set_option maxRecDepth 20000 in
theorem lc_5b {kc ks : Nat} (hl : G.1.stackTraces = false) (hn : n ≤ 600) (L : LI G n D A M) (h6 : D 99 0 8 ≠ 6) (hs : 9 * n + 9 ≤ nS G) (hb : nS G ≤ 4608) (hE : ∀ D2 A2 M2, LI G (n + 1) D2 A2 M2 → adk A A2 → D2 99 0 8 = D 99 0 8 + 1 → PW G mm_L_law_ Q 11 kc ks (hp M2 A2 D2) 2366 (lwF G A n) []) : PW G mm_L_law_ Q 11 (kc + 210) (ks + 61000) (hp M A D) 582 (lwF G A n) [] := by
  obtain ⟨K, hK⟩ : ∃ K, K = peK D := ⟨_, rfl⟩
  have hK9 : K < 10 := by rw [hK]; exact (by unfold peK; (repeat' split) <;> omega)
  refine pw_go tk_lc5 rfl rfl ?_
  refine pw_go tk_lc5 rfl rfl ?_
  refine pw_csH tk_lc5 rfl ca_L_person lk_L_149 sx_L_person (As := [.ref (A 0 0), .ref (A 70 0)]) (rest := []) (kc' := kc + 204) (ks' := ks + 60357) (wx_person  hl L) (fun _ _ z => z) rfl rfl rfl (Nat.le_of_ble_eq_true rfl) (show 6 + (kc + 204) ≤ kc + 210 by omega) (show 643 + (ks + 60357) ≤ ks + 61000 by omega) ?_
  rintro _ h1 ⟨r, rfl, hr, S1, D1, A1, M1, c0, c1, e1, m, ou⟩
  rw [e1, hr]
  rw [← hK] at c0 c1 ou ⊢
  have R := LM.rd L m
  have e30 : A1 30 0 = A 30 0 := m.2.2.2.2.1
  have rm := R.m
  have hm := m_person  R
  rw [e30] at rm hm
  rw [← hK] at hm
  iterate 2 refine pw_go tk_lc5 rfl rfl ?_
  refine pw_cv tk_lc5 rfl ca_X17_person lk_L_152 iv_X17_person sv_X17_person rm rfl rfl (As := []) (rest := []) (kc' := kc) (ks' := ks) (hm) rfl rfl rfl (Nat.le_of_ble_eq_true rfl) (show 5 + kc ≤ kc + 204 by omega) (show 60052 + ks ≤ ks + 60357 by omega) ?_ ?_
  skip
  · rintro _ h2 ⟨r2, rfl, w⟩
    have w1 : rdn S1 D1 A1 K h2 := by
      by_cases z : K = 0
      · rw [c0 z, z]
        exact (w.1 z).1
      · rw [c1 z]
        exact w.2 z
    have w2 := fun z => (w.1 z).2
    obtain ⟨D2, A2, M2, L2, s2, k2, o70, o71, ad, e8⟩ := LM.li L m w1
    have e8 : D2 99 0 8 = D 99 0 8 + 1 := by
      rw [e8]
      by_cases z : K = 0
      · rw [c0 z]
        unfold peS; rw [dp_s]; rfl
      · rw [hK] at z; exact absurd (show peK D = 0 from if_neg h6) z
    refine pw_forget s2 ?_
    have f30 : A2 30 0 = A 30 0 := ad.2.1
    have rm2 := L2.rd.m
    have ht := n_thrown L2.rd
    rw [f30] at rm2 ht
    rw [k2] at ht
    iterate 2 refine pw_go tk_lc5 rfl rfl ?_
    refine pw_cvp tk_lc5 rfl ca_X17_thrown lk_L_131 iv_X17_thrown sv_X17_thrown rm2 rfl rfl (As := []) (rest := []) (ht) rfl rfl rfl rfl ?_
    refine pw_go tk_lc5 rfl rfl ?_
    refine pw_br tk_lc5 rfl rfl (fun _ => ?_) (fun c => absurd rfl c)
    refine pw_go tk_lc5 rfl rfl ?_
    refine pw_ifN (K) tk_lc5 rfl rfl (by omega) (fun c => ?_) (fun c => ?_)
    · skip
      refine pw_go tk_lc5 rfl rfl ?_
      exact pw_W (hE D2 A2 M2 L2 ad e8) ⟨rfl, rfl, rfl, rfl, rfl, rfl, trivial⟩
    · have z : K = 0 := Decidable.not_not.mp c
      have w3 := w2 z
      subst w3
      iterate 2 refine pw_go tk_lc5 rfl rfl ?_
      refine pw_laldN (k := 0) tk_lc5 rfl (L2.o70 ad) nI_0.symm (by decide) (by decide) ?_
      refine pw_l (x' := (nI (D 99 0 8)).toInt64) (by show (if 0 = 0 then lN (D2 70 0 0) else 0) = _; rw [if_pos rfl, congrFun (congrFun o70 0) 0, ou z]; exact lN_out _) ?_
      iterate 3 refine pw_go tk_lc5 rfl rfl ?_
      refine pw_br tk_lc5 rfl rfl (fun _ => ?_) (fun c => absurd lcmp_s c)
      refine pw_go tk_lc5 rfl rfl ?_
      exact pw_W (hE D2 A2 M2 L2 ad e8) ⟨rfl, rfl, rfl, rfl, rfl, rfl, trivial⟩
  · exact fun _ _ z => z.elim
def tb_lc27 : List fw_R := [(2183, .aload_n 1, 2184, 1, 0), (2184, .invokevirtual 220, 2187, 0, 0), (2187, .aload_n 2, 2188, 2, 0), (2188, .invokevirtual 223, 2191, 0, 0), (2191, .if_icmp .eq 175, 2194, 2366, 0), (2194, .iconst 0, 2195, 0, 0), (2195, .ireturn, 2196, 0, 0)]
theorem tk_lc27 : fw_tok mm_L_law_ tb_lc27 := by unfold fw_tok; decide +kernel
def tb_lc28 : List fw_R := [(2196, .aload_n 1, 2197, 1, 0), (2197, .invokevirtual 224, 2200, 0, 0), (2200, .aload_n 2, 2201, 2, 0), (2201, .invokevirtual 228, 2204, 0, 0), (2204, .lcmp, 2205, 0, 0), (2205, .ifCond .eq 161, 2208, 2366, 0), (2208, .iconst 0, 2209, 0, 0), (2209, .ireturn, 2210, 0, 0)]
theorem tk_lc28 : fw_tok mm_L_law_ tb_lc28 := by unfold fw_tok; decide +kernel
def tb_lc31 : List fw_R := [(2353, .aload_n 1, 2354, 1, 0), (2354, .invokevirtual 237, 2357, 0, 0), (2357, .aload_n 2, 2358, 2, 0), (2358, .invokevirtual 241, 2361, 0, 0), (2361, .if_icmp .eq 5, 2364, 2366, 0), (2364, .iconst 0, 2365, 0, 0), (2365, .ireturn, 2366, 0, 0)]
theorem tk_lc31 : fw_tok mm_L_law_ tb_lc31 := by unfold fw_tok; decide +kernel
theorem lm0 (L : LI G n D A M) : LM G n D D D A A M := ⟨ic_up L.1, esq.rf, ⟨fun _ _ _ => rfl, fun _ _ => rfl⟩, adk.rf⟩
theorem lc_27 {kc ks : Nat} (hl : G.1.stackTraces = false) (hn : n ≤ 600) (L : LI G n D A M) (hE : ∀ D2 A2 M2, LI G (n + 1) D2 A2 M2 → adk A A2 → D2 99 0 8 = D 99 0 8 → PW G mm_L_law_ Q 11 kc ks (hp M2 A2 D2) 2366 (lwF G A n) []) : PW G mm_L_law_ Q 11 (kc + 210) (ks + 2500) (hp M A D) 2183 (lwF G A n) [] := by
  refine pw_go tk_lc27 rfl rfl ?_
  refine pw_cvp tk_lc27 rfl ca_X10_warrants lk_L_220 iv_X10_warrants sv_X10_warrants (hget (L.1.1.1.lv (k := 0) (i := 0) (by have := L.1.2.1.1.1; omega))) rfl rfl (As := []) (rest := []) (f_warrants L.1) rfl rfl rfl rfl ?_
  refine pw_go tk_lc27 rfl rfl ?_
  refine pw_cv tk_lc27 rfl ca_X17_warrants lk_L_223 iv_X17_warrants sv_X17_warrants L.rd.m rfl rfl (As := []) (rest := [.int (nI (D 99 0 13))]) (kc' := kc) (ks' := ks) (m_warrants L.rd) rfl rfl rfl (Nat.le_of_ble_eq_true rfl) (show 0 + kc ≤ kc + 210 by omega) (show 0 + ks ≤ ks + 2500 by omega) ?_ ?_
  · rintro _ h2 ⟨r2, rfl, w1, w2⟩
    obtain ⟨D2, A2, M2, L2, s2, k2, o70, o71, ad, e8⟩ := LM.li L (lm0 L) w1
    refine pw_forget s2 ?_
    rw [w2]
    refine pw_br tk_lc27 rfl rfl (fun _ => ?_) (fun c => absurd rfl c)
    exact pw_W (hE D2 A2 M2 L2 ad e8) ⟨rfl, rfl, rfl, rfl, rfl, rfl, trivial⟩
  · exact fun _ _ z => z.elim
theorem lc_28 {kc ks : Nat} (hl : G.1.stackTraces = false) (hn : n ≤ 600) (L : LI G n D A M) (hE : ∀ D2 A2 M2, LI G (n + 1) D2 A2 M2 → adk A A2 → D2 99 0 8 = D 99 0 8 → PW G mm_L_law_ Q 11 kc ks (hp M2 A2 D2) 2366 (lwF G A n) []) : PW G mm_L_law_ Q 11 (kc + 210) (ks + 2500) (hp M A D) 2196 (lwF G A n) [] := by
  refine pw_go tk_lc28 rfl rfl ?_
  refine pw_cv tk_lc28 rfl ca_X10_owed lk_L_224 iv_X10_owed sv_X10_owed (hget (L.1.1.1.lv (k := 0) (i := 0) (by have := L.1.2.1.1.1; omega))) rfl rfl (As := []) (rest := []) (kc' := kc + 210) (ks' := ks + 2500) (f_owed L.1) rfl rfl rfl (Nat.le_of_ble_eq_true rfl) (show 0 + (kc + 210) ≤ kc + 210 by omega) (show 0 + (ks + 2500) ≤ ks + 2500 by omega) ?_ ?_
  · rintro _ h1 ⟨r1, rfl, hk, w0⟩
    obtain ⟨D1, A1, M1, e1, m⟩ := lm_of (G := G) (kept_done hk)
    rw [e1, w0]
    have R := LM.rd L m
    have e30 : A1 30 0 = A 30 0 := m.2.2.2.2.1
    have rm := R.m
    have hm := m_owed R
    rw [e30] at rm hm
    refine pw_go tk_lc28 rfl rfl ?_
    refine pw_cv tk_lc28 rfl ca_X17_owed lk_L_228 iv_X17_owed sv_X17_owed rm rfl rfl (As := []) (rest := [.long (lN (nsum (FD D) (D 99 0 13)))]) (kc' := kc) (ks' := ks) (hm) rfl rfl rfl (Nat.le_of_ble_eq_true rfl) (show 193 + kc ≤ kc + 210 by omega) (show 2352 + ks ≤ ks + 2500 by omega) ?_ ?_
    · rintro _ h2 ⟨r2, rfl, w1, w2⟩
      obtain ⟨D2, A2, M2, L2, s2, k2, o70, o71, ad, e8⟩ := LM.li L m w1
      refine pw_forget s2 ?_
      rw [w2]
      refine pw_go tk_lc28 rfl rfl ?_
      refine pw_br tk_lc28 rfl rfl (fun _ => ?_) (fun c => absurd lcmp_s c)
      exact pw_W (hE D2 A2 M2 L2 ad e8) ⟨rfl, rfl, rfl, rfl, rfl, rfl, trivial⟩
    · exact fun _ _ z => z.elim
  · exact fun _ _ z => z.elim
theorem lc_31 {kc ks : Nat} (hl : G.1.stackTraces = false) (hn : n ≤ 600) (L : LI G n D A M) (hE : ∀ D2 A2 M2, LI G (n + 1) D2 A2 M2 → adk A A2 → D2 99 0 8 = D 99 0 8 → PW G mm_L_law_ Q 11 kc ks (hp M2 A2 D2) 2366 (lwF G A n) []) : PW G mm_L_law_ Q 11 (kc + 210) (ks + 2500) (hp M A D) 2353 (lwF G A n) [] := by
  refine pw_go tk_lc31 rfl rfl ?_
  refine pw_cv tk_lc31 rfl ca_X10_isTrue lk_L_237 iv_X10_isTrue sv_X10_isTrue (hget (L.1.1.1.lv (k := 0) (i := 0) (by have := L.1.2.1.1.1; omega))) rfl rfl (As := []) (rest := []) (kc' := kc + 210) (ks' := ks + 2500) (f_isTrue L.1) rfl rfl rfl (Nat.le_of_ble_eq_true rfl) (show 0 + (kc + 210) ≤ kc + 210 by omega) (show 0 + (ks + 2500) ≤ ks + 2500 by omega) ?_ ?_
  · rintro _ h1 ⟨r1, rfl, hk, w0⟩
    obtain ⟨D1, A1, M1, e1, m⟩ := lm_of (G := G) (kept_done hk)
    rw [e1, w0]
    have R := LM.rd L m
    have e30 : A1 30 0 = A 30 0 := m.2.2.2.2.1
    have rm := R.m
    have hm := m_isTrue R
    rw [e30] at rm hm
    refine pw_go tk_lc31 rfl rfl ?_
    refine pw_cv tk_lc31 rfl ca_X17_isTrue lk_L_241 iv_X17_isTrue sv_X17_isTrue rm rfl rfl (As := []) (rest := [.int 1]) (kc' := kc) (ks' := ks) (hm) rfl rfl rfl (Nat.le_of_ble_eq_true rfl) (show 0 + kc ≤ kc + 210 by omega) (show 0 + ks ≤ ks + 2500 by omega) ?_ ?_
    · rintro _ h2 ⟨r2, rfl, w1, w2⟩
      obtain ⟨D2, A2, M2, L2, s2, k2, o70, o71, ad, e8⟩ := LM.li L m w1
      refine pw_forget s2 ?_
      rw [w2]
      refine pw_br tk_lc31 rfl rfl (fun _ => ?_) (fun c => absurd rfl c)
      exact pw_W (hE D2 A2 M2 L2 ad e8) ⟨rfl, rfl, rfl, rfl, rfl, rfl, trivial⟩
    · exact fun _ _ z => z.elim
  · exact fun _ _ z => z.elim
end LC5

