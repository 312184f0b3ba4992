/-! THE LAW: its cases -/
section LC
variable {G : fw_G} {n : Nat} {D : fw_DB} {A : fw_AD} {M : fw_MP} {Q : fw_Q}
def tb_lc0 : List fw_R := [(188, .aload_n 1, 189, 1, 0), (189, .aload_n 0, 190, 0, 0), (190, .iload 5, 192, 5, 0), (192, .iconst 1, 193, 0, 1), (193, .iadd, 194, 0, 0), (194, .iaload, 195, 0, 0), (195, .aload_n 0, 196, 0, 0), (196, .iload 5, 198, 5, 0), (198, .iconst 2, 199, 0, 2), (199, .iadd, 200, 0, 0), (200, .iaload, 201, 0, 0), (201, .aload_n 0, 202, 0, 0), (202, .iload 5, 204, 5, 0), (204, .iconst 3, 205, 0, 3), (205, .iadd, 206, 0, 0), (206, .iaload, 207, 0, 0), (207, .aload_n 3, 208, 3, 0), (208, .invokestatic 125, 211, 0, 0), (211, .istore 6, 213, 6, 0), (213, .aload_n 2, 214, 2, 0), (214, .aload_n 0, 215, 0, 0), (215, .iload 5, 217, 5, 0), (217, .iconst 1, 218, 0, 1), (218, .iadd, 219, 0, 0), (219, .iaload, 220, 0, 0), (220, .aload_n 0, 221, 0, 0), (221, .iload 5, 223, 5, 0), (223, .iconst 2, 224, 0, 2), (224, .iadd, 225, 0, 0), (225, .iaload, 226, 0, 0), (226, .aload_n 0, 227, 0, 0), (227, .iload 5, 229, 5, 0), (229, .iconst 3, 230, 0, 3), (230, .iadd, 231, 0, 0), (231, .iaload, 232, 0, 0), (232, .invokevirtual 130, 235, 0, 0), (235, .istore 7, 237, 7, 0), (237, .aload_n 2, 238, 2, 0), (238, .invokevirtual 131, 241, 0, 0), (241, .iload 6, 243, 6, 0), (243, .if_icmp .eq 5, 246, 248, 0), (246, .iconst 0, 247, 0, 0), (247, .ireturn, 248, 0, 0), (248, .iload 6, 250, 6, 0), (250, .ifCond .ne 15, 253, 265, 0), (253, .aload_n 3, 254, 3, 0), (254, .iconst 0, 255, 0, 0), (255, .laload, 256, 0, 0), (256, .iload 7, 258, 7, 0), (258, .i2l, 259, 0, 0), (259, .lcmp, 260, 0, 0), (260, .ifCond .eq 5, 263, 265, 0), (263, .iconst 0, 264, 0, 0), (264, .ireturn, 265, 0, 0), (265, .goto 2101, 268, 2366, 0)]
theorem tk_lc0 : fw_tok mm_L_law_ tb_lc0 := by unfold fw_tok; decide +kernel
set_option maxRecDepth 20000 in
theorem lc_0 {kc ks : Nat} (hl : G.1.stackTraces = false) (hn : n ≤ 600) (L : LI G n D A M) (hs : 9 * n + 9 ≤ nS G) (hb : nS G ≤ 4608) (hE : ∀ D2 A2 M2, LI G (n + 1) D2 A2 M2 → adk A A2 → D2 99 0 8 = D 99 0 8 → PW G mm_L_law_ Q 11 kc ks (hp M2 A2 D2) 2366 (lwF G A n) []) : PW G mm_L_law_ Q 11 (kc + 210) (ks + 2500) (hp M A D) 188 (lwF G A n) [] := by
  obtain ⟨K, hK⟩ : ∃ K, K = dyK (xS G (9 * n + 1)) (xS G (9 * n + 2)) (xS G (9 * n + 3)) := ⟨_, rfl⟩
  have hK9 : K < 10 := by rw [hK]; exact (by unfold dyK; (repeat' split) <;> omega)
  refine pw_go tk_lc0 rfl rfl ?_
  iterate 3 refine pw_go tk_lc0 rfl rfl ?_
  refine pw_addN (9 * n) (1) tk_lc0 rfl rfl rfl ?_
  refine pw_sci (k := 9 * n + 1) tk_lc0 rfl rfl (by omega) (by omega) ?_
  iterate 3 refine pw_go tk_lc0 rfl rfl ?_
  refine pw_addN (9 * n) (2) tk_lc0 rfl rfl rfl ?_
  refine pw_sci (k := 9 * n + 2) tk_lc0 rfl rfl (by omega) (by omega) ?_
  iterate 3 refine pw_go tk_lc0 rfl rfl ?_
  refine pw_addN (9 * n) (3) tk_lc0 rfl rfl rfl ?_
  refine pw_sci (k := 9 * n + 3) tk_lc0 rfl rfl (by omega) (by omega) ?_
  refine pw_go tk_lc0 rfl rfl ?_
  refine pw_csH tk_lc0 rfl ca_L_dayOf lk_L_125 sx_L_dayOf (As := [.ref (A 0 0), .int (xS G (9 * n + 1)), .int (xS G (9 * n + 2)), .int (xS G (9 * n + 3)), .ref (A 70 0)]) (rest := []) (kc' := kc + 207) (ks' := ks + 2482) (wx_dayOf (y := (xS G (9 * n + 1))) (m := (xS G (9 * n + 2))) (t := (xS G (9 * n + 3))) hl L) (fun _ _ z => z) rfl rfl rfl (Nat.le_of_ble_eq_true rfl) (show 3 + (kc + 207) ≤ kc + 210 by omega) (show 18 + (ks + 2482) ≤ ks + 2500 by omega) ?_
  rintro _ h1 ⟨r, rfl, hr, S1, D1, A1, M1, c0, c1, e1, m, ou⟩
  rw [e1, hr]
  rw [← hK] at c0 c1 ou ⊢
  have R := LM.rd L m
  have e30 : A1 30 0 = A 30 0 := m.2.2.2.2.1
  have rm := R.m
  have hm := m_dayOf (y := (xS G (9 * n + 1))) (m := (xS G (9 * n + 2))) (t := (xS G (9 * n + 3))) R
  rw [e30] at rm hm
  rw [← hK] at hm
  iterate 2 refine pw_go tk_lc0 rfl rfl ?_
  iterate 3 refine pw_go tk_lc0 rfl rfl ?_
  refine pw_addN (9 * n) (1) tk_lc0 rfl rfl rfl ?_
  refine pw_sci (k := 9 * n + 1) tk_lc0 rfl rfl (by omega) (by omega) ?_
  iterate 3 refine pw_go tk_lc0 rfl rfl ?_
  refine pw_addN (9 * n) (2) tk_lc0 rfl rfl rfl ?_
  refine pw_sci (k := 9 * n + 2) tk_lc0 rfl rfl (by omega) (by omega) ?_
  iterate 3 refine pw_go tk_lc0 rfl rfl ?_
  refine pw_addN (9 * n) (3) tk_lc0 rfl rfl rfl ?_
  refine pw_sci (k := 9 * n + 3) tk_lc0 rfl rfl (by omega) (by omega) ?_
  refine pw_cv tk_lc0 rfl ca_X17_dayOf lk_L_130 iv_X17_dayOf sv_X17_dayOf rm rfl rfl (As := [.int (xS G (9 * n + 1)), .int (xS G (9 * n + 2)), .int (xS G (9 * n + 3))]) (rest := []) (kc' := kc) (ks' := ks) (hm) rfl rfl rfl (Nat.le_of_ble_eq_true rfl) (show 0 + kc ≤ kc + 207 by omega) (show 0 + ks ≤ ks + 2482 by omega) ?_ ?_
  skip
  · rintro _ h2 ⟨r2, rfl, w1, w2⟩
    have es : S1 = D := by
      by_cases z : K = 0
      · exact c0 z
      · exact c1 z
    rw [es] at m
    obtain ⟨D2, A2, M2, L2, s2, k2, o70, o71, ad, e8⟩ := LM.li L m w1
    refine pw_forget s2 ?_
    have f30 : A2 30 0 = A 30 0 := ad.2.1
    have rm2 := L2.rd.m
    have ht := n_thrown L2.rd
    rw [f30] at rm2 ht
    rw [k2] at ht
    iterate 2 refine pw_go tk_lc0 rfl rfl ?_
    refine pw_cvp tk_lc0 rfl ca_X17_thrown lk_L_131 iv_X17_thrown sv_X17_thrown rm2 rfl rfl (As := []) (rest := []) (ht) rfl rfl rfl rfl ?_
    refine pw_go tk_lc0 rfl rfl ?_
    refine pw_br tk_lc0 rfl rfl (fun _ => ?_) (fun c => absurd rfl c)
    refine pw_go tk_lc0 rfl rfl ?_
    refine pw_ifN (K) tk_lc0 rfl rfl (by omega) (fun c => ?_) (fun c => ?_)
    · skip
      refine pw_go tk_lc0 rfl rfl ?_
      exact pw_W (hE D2 A2 M2 L2 ad e8) ⟨rfl, rfl, rfl, rfl, rfl, rfl, trivial⟩
    · have z : K = 0 := Decidable.not_not.mp c
      have w3 := w2 z
      subst w3
      iterate 2 refine pw_go tk_lc0 rfl rfl ?_
      refine pw_laldN (k := 0) tk_lc0 rfl (L2.o70 ad) nI_0.symm (by decide) (by decide) ?_
      refine pw_l (x' := (nI (doD (xS G (9 * n + 1)) (xS G (9 * n + 2)) (xS G (9 * n + 3)))).toInt64) (by show (if 0 = 0 then lN (D2 70 0 0) else 0) = _; rw [if_pos rfl, congrFun (congrFun o70 0) 0, ou z]; exact lN_out _) ?_
      iterate 3 refine pw_go tk_lc0 rfl rfl ?_
      refine pw_br tk_lc0 rfl rfl (fun _ => ?_) (fun c => absurd lcmp_s c)
      refine pw_go tk_lc0 rfl rfl ?_
      exact pw_W (hE D2 A2 M2 L2 ad e8) ⟨rfl, rfl, rfl, rfl, rfl, rfl, trivial⟩
  · exact fun _ _ z => z.elim
def tb_lc1 : List fw_R := [(268, .aload_n 1, 269, 1, 0), (269, .aload_n 0, 270, 0, 0), (270, .iload 5, 272, 5, 0), (272, .iconst 1, 273, 0, 1), (273, .iadd, 274, 0, 0), (274, .iaload, 275, 0, 0), (275, .aload_n 3, 276, 3, 0), (276, .invokestatic 134, 279, 0, 0), (279, .istore 6, 281, 6, 0), (281, .aload_n 2, 282, 2, 0), (282, .aload_n 0, 283, 0, 0), (283, .iload 5, 285, 5, 0), (285, .iconst 1, 286, 0, 1), (286, .iadd, 287, 0, 0), (287, .iaload, 288, 0, 0), (288, .invokevirtual 137, 291, 0, 0), (291, .istore 7, 293, 7, 0), (293, .aload_n 2, 294, 2, 0), (294, .invokevirtual 131, 297, 0, 0), (297, .iload 6, 299, 6, 0), (299, .if_icmp .eq 5, 302, 304, 0), (302, .iconst 0, 303, 0, 0), (303, .ireturn, 304, 0, 0), (304, .iload 6, 306, 6, 0), (306, .ifCond .ne 15, 309, 321, 0), (309, .aload_n 3, 310, 3, 0), (310, .iconst 0, 311, 0, 0), (311, .laload, 312, 0, 0), (312, .iload 7, 314, 7, 0), (314, .i2l, 315, 0, 0), (315, .lcmp, 316, 0, 0), (316, .ifCond .eq 5, 319, 321, 0), (319, .iconst 0, 320, 0, 0), (320, .ireturn, 321, 0, 0), (321, .goto 2045, 324, 2366, 0)]
theorem tk_lc1 : fw_tok mm_L_law_ tb_lc1 := by unfold fw_tok; decide +kernel
set_option maxRecDepth 20000 in
theorem lc_1 {kc ks : Nat} (hl : G.1.stackTraces = false) (hn : n ≤ 600) (L : LI G n D A M) (hs : 9 * n + 9 ≤ nS G) (hb : nS G ≤ 4608) (hE : ∀ D2 A2 M2, LI G (n + 1) D2 A2 M2 → adk A A2 → D2 99 0 8 = D 99 0 8 → PW G mm_L_law_ Q 11 kc ks (hp M2 A2 D2) 2366 (lwF G A n) []) : PW G mm_L_law_ Q 11 (kc + 210) (ks + 2500) (hp M A D) 268 (lwF G A n) [] := by
  obtain ⟨K, hK⟩ : ∃ K, K = ndK (xS G (9 * n + 1)) := ⟨_, rfl⟩
  have hK9 : K < 10 := by rw [hK]; exact (by unfold ndK; (repeat' split) <;> omega)
  refine pw_go tk_lc1 rfl rfl ?_
  iterate 3 refine pw_go tk_lc1 rfl rfl ?_
  refine pw_addN (9 * n) (1) tk_lc1 rfl rfl rfl ?_
  refine pw_sci (k := 9 * n + 1) tk_lc1 rfl rfl (by omega) (by omega) ?_
  refine pw_go tk_lc1 rfl rfl ?_
  refine pw_csH tk_lc1 rfl ca_L_dateOf lk_L_134 sx_L_dateOf (As := [.ref (A 0 0), .int (xS G (9 * n + 1)), .ref (A 70 0)]) (rest := []) (kc' := kc + 209) (ks' := ks + 2494) (wx_dateOf (x := (xS G (9 * n + 1))) hl L) (fun _ _ z => z) rfl rfl rfl (Nat.le_of_ble_eq_true rfl) (show 1 + (kc + 209) ≤ kc + 210 by omega) (show 6 + (ks + 2494) ≤ ks + 2500 by omega) ?_
  rintro _ h1 ⟨r, rfl, hr, S1, D1, A1, M1, c0, c1, e1, m, ou⟩
  rw [e1, hr]
  rw [← hK] at c0 c1 ou ⊢
  have R := LM.rd L m
  have e30 : A1 30 0 = A 30 0 := m.2.2.2.2.1
  have rm := R.m
  have hm := m_dateOf (x := (xS G (9 * n + 1))) R
  rw [e30] at rm hm
  rw [← hK] at hm
  iterate 2 refine pw_go tk_lc1 rfl rfl ?_
  iterate 3 refine pw_go tk_lc1 rfl rfl ?_
  refine pw_addN (9 * n) (1) tk_lc1 rfl rfl rfl ?_
  refine pw_sci (k := 9 * n + 1) tk_lc1 rfl rfl (by omega) (by omega) ?_
  refine pw_cv tk_lc1 rfl ca_X17_dateOf lk_L_137 iv_X17_dateOf sv_X17_dateOf rm rfl rfl (As := [.int (xS G (9 * n + 1))]) (rest := []) (kc' := kc) (ks' := ks) (hm) rfl rfl rfl (Nat.le_of_ble_eq_true rfl) (show 0 + kc ≤ kc + 209 by omega) (show 0 + ks ≤ ks + 2494 by omega) ?_ ?_
  skip
  · rintro _ h2 ⟨r2, rfl, w1, w2⟩
    have es : S1 = D := by
      by_cases z : K = 0
      · exact c0 z
      · exact c1 z
    rw [es] at m
    obtain ⟨D2, A2, M2, L2, s2, k2, o70, o71, ad, e8⟩ := LM.li L m w1
    refine pw_forget s2 ?_
    have f30 : A2 30 0 = A 30 0 := ad.2.1
    have rm2 := L2.rd.m
    have ht := n_thrown L2.rd
    rw [f30] at rm2 ht
    rw [k2] at ht
    iterate 2 refine pw_go tk_lc1 rfl rfl ?_
    refine pw_cvp tk_lc1 rfl ca_X17_thrown lk_L_131 iv_X17_thrown sv_X17_thrown rm2 rfl rfl (As := []) (rest := []) (ht) rfl rfl rfl rfl ?_
    refine pw_go tk_lc1 rfl rfl ?_
    refine pw_br tk_lc1 rfl rfl (fun _ => ?_) (fun c => absurd rfl c)
    refine pw_go tk_lc1 rfl rfl ?_
    refine pw_ifN (K) tk_lc1 rfl rfl (by omega) (fun c => ?_) (fun c => ?_)
    · skip
      refine pw_go tk_lc1 rfl rfl ?_
      exact pw_W (hE D2 A2 M2 L2 ad e8) ⟨rfl, rfl, rfl, rfl, rfl, rfl, trivial⟩
    · have z : K = 0 := Decidable.not_not.mp c
      have w3 := w2 z
      subst w3
      iterate 2 refine pw_go tk_lc1 rfl rfl ?_
      refine pw_laldN (k := 0) tk_lc1 rfl (L2.o70 ad) nI_0.symm (by decide) (by decide) ?_
      refine pw_l (x' := (nI (sp_date (xS G (9 * n + 1)).toNatClampNeg)).toInt64) (by show (if 0 = 0 then lN (D2 70 0 0) else 0) = _; rw [if_pos rfl, congrFun (congrFun o70 0) 0, ou z]; exact lN_out _) ?_
      iterate 3 refine pw_go tk_lc1 rfl rfl ?_
      refine pw_br tk_lc1 rfl rfl (fun _ => ?_) (fun c => absurd lcmp_s c)
      refine pw_go tk_lc1 rfl rfl ?_
      exact pw_W (hE D2 A2 M2 L2 ad e8) ⟨rfl, rfl, rfl, rfl, rfl, rfl, trivial⟩
  · exact fun _ _ z => z.elim
def tb_lc2 : List fw_R := [(324, .aload_n 1, 325, 1, 0), (325, .aload_n 0, 326, 0, 0), (326, .iload 5, 328, 5, 0), (328, .iconst 1, 329, 0, 1), (329, .iadd, 330, 0, 0), (330, .iaload, 331, 0, 0), (331, .aload_n 0, 332, 0, 0), (332, .iload 5, 334, 5, 0), (334, .iconst 2, 335, 0, 2), (335, .iadd, 336, 0, 0), (336, .iaload, 337, 0, 0), (337, .aload_n 0, 338, 0, 0), (338, .iload 5, 340, 5, 0), (340, .iconst 3, 341, 0, 3), (341, .iadd, 342, 0, 0), (342, .iaload, 343, 0, 0), (343, .aload_n 0, 344, 0, 0), (344, .iload 5, 346, 5, 0), (346, .iconst 4, 347, 0, 4), (347, .iadd, 348, 0, 0), (348, .iaload, 349, 0, 0), (349, .aload_n 3, 350, 3, 0), (350, .invokestatic 138, 353, 0, 0), (353, .istore 6, 355, 6, 0), (355, .aload_n 2, 356, 2, 0), (356, .aload_n 0, 357, 0, 0), (357, .iload 5, 359, 5, 0), (359, .iconst 1, 360, 0, 1), (360, .iadd, 361, 0, 0), (361, .iaload, 362, 0, 0), (362, .aload_n 0, 363, 0, 0), (363, .iload 5, 365, 5, 0), (365, .iconst 2, 366, 0, 2), (366, .iadd, 367, 0, 0), (367, .iaload, 368, 0, 0), (368, .aload_n 0, 369, 0, 0), (369, .iload 5, 371, 5, 0), (371, .iconst 3, 372, 0, 3), (372, .iadd, 373, 0, 0), (373, .iaload, 374, 0, 0), (374, .aload_n 0, 375, 0, 0), (375, .iload 5, 377, 5, 0), (377, .iconst 4, 378, 0, 4), (378, .iadd, 379, 0, 0), (379, .iaload, 380, 0, 0), (380, .invokevirtual 141, 383, 0, 0), (383, .istore 7, 385, 7, 0), (385, .aload_n 2, 386, 2, 0), (386, .invokevirtual 131, 389, 0, 0), (389, .iload 6, 391, 6, 0), (391, .if_icmp .eq 5, 394, 396, 0), (394, .iconst 0, 395, 0, 0), (395, .ireturn, 396, 0, 0), (396, .iload 6, 398, 6, 0), (398, .ifCond .ne 15, 401, 413, 0), (401, .aload_n 3, 402, 3, 0), (402, .iconst 0, 403, 0, 0), (403, .laload, 404, 0, 0), (404, .iload 7, 406, 7, 0), (406, .i2l, 407, 0, 0), (407, .lcmp, 408, 0, 0), (408, .ifCond .eq 5, 411, 413, 0), (411, .iconst 0, 412, 0, 0), (412, .ireturn, 413, 0, 0), (413, .goto 1953, 416, 2366, 0)]
theorem tk_lc2 : fw_tok mm_L_law_ tb_lc2 := by unfold fw_tok; decide +kernel
set_option maxRecDepth 20000 in
theorem lc_2 {kc ks : Nat} (hl : G.1.stackTraces = false) (hn : n ≤ 600) (L : LI G n D A M) (hs : 9 * n + 9 ≤ nS G) (hb : nS G ≤ 4608) (hE : ∀ D2 A2 M2, LI G (n + 1) D2 A2 M2 → adk A A2 → D2 99 0 8 = D 99 0 8 → PW G mm_L_law_ Q 11 kc ks (hp M2 A2 D2) 2366 (lwF G A n) []) : PW G mm_L_law_ Q 11 (kc + 210) (ks + 2500) (hp M A D) 324 (lwF G A n) [] := by
  obtain ⟨K, hK⟩ : ∃ K, K = leK (xS G (9 * n + 1)) (xS G (9 * n + 2)) (xS G (9 * n + 3)) (xS G (9 * n + 4)) := ⟨_, rfl⟩
  have hK9 : K < 10 := by rw [hK]; exact (by unfold leK; (repeat' split) <;> omega)
  refine pw_go tk_lc2 rfl rfl ?_
  iterate 3 refine pw_go tk_lc2 rfl rfl ?_
  refine pw_addN (9 * n) (1) tk_lc2 rfl rfl rfl ?_
  refine pw_sci (k := 9 * n + 1) tk_lc2 rfl rfl (by omega) (by omega) ?_
  iterate 3 refine pw_go tk_lc2 rfl rfl ?_
  refine pw_addN (9 * n) (2) tk_lc2 rfl rfl rfl ?_
  refine pw_sci (k := 9 * n + 2) tk_lc2 rfl rfl (by omega) (by omega) ?_
  iterate 3 refine pw_go tk_lc2 rfl rfl ?_
  refine pw_addN (9 * n) (3) tk_lc2 rfl rfl rfl ?_
  refine pw_sci (k := 9 * n + 3) tk_lc2 rfl rfl (by omega) (by omega) ?_
  iterate 3 refine pw_go tk_lc2 rfl rfl ?_
  refine pw_addN (9 * n) (4) tk_lc2 rfl rfl rfl ?_
  refine pw_sci (k := 9 * n + 4) tk_lc2 rfl rfl (by omega) (by omega) ?_
  refine pw_go tk_lc2 rfl rfl ?_
  refine pw_csH tk_lc2 rfl ca_L_length lk_L_138 sx_L_length (As := [.ref (A 0 0), .int (xS G (9 * n + 1)), .int (xS G (9 * n + 2)), .int (xS G (9 * n + 3)), .int (xS G (9 * n + 4)), .ref (A 70 0)]) (rest := []) (kc' := kc + 205) (ks' := ks + 2473) (wx_length (x := (xS G (9 * n + 1))) (y := (xS G (9 * n + 2))) (m := (xS G (9 * n + 3))) (t := (xS G (9 * n + 4))) hl L) (fun _ _ z => z) rfl rfl rfl (Nat.le_of_ble_eq_true rfl) (show 5 + (kc + 205) ≤ kc + 210 by omega) (show 27 + (ks + 2473) ≤ ks + 2500 by omega) ?_
  rintro _ h1 ⟨r, rfl, hr, S1, D1, A1, M1, c0, c1, e1, m, ou⟩
  rw [e1, hr]
  rw [← hK] at c0 c1 ou ⊢
  have R := LM.rd L m
  have e30 : A1 30 0 = A 30 0 := m.2.2.2.2.1
  have rm := R.m
  have hm := m_length (x := (xS G (9 * n + 1))) (y := (xS G (9 * n + 2))) (m := (xS G (9 * n + 3))) (t := (xS G (9 * n + 4))) R
  rw [e30] at rm hm
  rw [← hK] at hm
  iterate 2 refine pw_go tk_lc2 rfl rfl ?_
  iterate 3 refine pw_go tk_lc2 rfl rfl ?_
  refine pw_addN (9 * n) (1) tk_lc2 rfl rfl rfl ?_
  refine pw_sci (k := 9 * n + 1) tk_lc2 rfl rfl (by omega) (by omega) ?_
  iterate 3 refine pw_go tk_lc2 rfl rfl ?_
  refine pw_addN (9 * n) (2) tk_lc2 rfl rfl rfl ?_
  refine pw_sci (k := 9 * n + 2) tk_lc2 rfl rfl (by omega) (by omega) ?_
  iterate 3 refine pw_go tk_lc2 rfl rfl ?_
  refine pw_addN (9 * n) (3) tk_lc2 rfl rfl rfl ?_
  refine pw_sci (k := 9 * n + 3) tk_lc2 rfl rfl (by omega) (by omega) ?_
  iterate 3 refine pw_go tk_lc2 rfl rfl ?_
  refine pw_addN (9 * n) (4) tk_lc2 rfl rfl rfl ?_
  refine pw_sci (k := 9 * n + 4) tk_lc2 rfl rfl (by omega) (by omega) ?_
  refine pw_cv tk_lc2 rfl ca_X17_length lk_L_141 iv_X17_length sv_X17_length rm rfl rfl (As := [.int (xS G (9 * n + 1)), .int (xS G (9 * n + 2)), .int (xS G (9 * n + 3)), .int (xS G (9 * n + 4))]) (rest := []) (kc' := kc) (ks' := ks) (hm) rfl rfl rfl (Nat.le_of_ble_eq_true rfl) (show 0 + kc ≤ kc + 205 by omega) (show 0 + ks ≤ ks + 2473 by omega) ?_ ?_
  skip
  · rintro _ h2 ⟨r2, rfl, w1, w2⟩
    have es : S1 = D := by
      by_cases z : K = 0
      · exact c0 z
      · exact c1 z
    rw [es] at m
    obtain ⟨D2, A2, M2, L2, s2, k2, o70, o71, ad, e8⟩ := LM.li L m w1
    refine pw_forget s2 ?_
    have f30 : A2 30 0 = A 30 0 := ad.2.1
    have rm2 := L2.rd.m
    have ht := n_thrown L2.rd
    rw [f30] at rm2 ht
    rw [k2] at ht
    iterate 2 refine pw_go tk_lc2 rfl rfl ?_
    refine pw_cvp tk_lc2 rfl ca_X17_thrown lk_L_131 iv_X17_thrown sv_X17_thrown rm2 rfl rfl (As := []) (rest := []) (ht) rfl rfl rfl rfl ?_
    refine pw_go tk_lc2 rfl rfl ?_
    refine pw_br tk_lc2 rfl rfl (fun _ => ?_) (fun c => absurd rfl c)
    refine pw_go tk_lc2 rfl rfl ?_
    refine pw_ifN (K) tk_lc2 rfl rfl (by omega) (fun c => ?_) (fun c => ?_)
    · skip
      refine pw_go tk_lc2 rfl rfl ?_
      exact pw_W (hE D2 A2 M2 L2 ad e8) ⟨rfl, rfl, rfl, rfl, rfl, rfl, trivial⟩
    · have z : K = 0 := Decidable.not_not.mp c
      have w3 := w2 z
      subst w3
      iterate 2 refine pw_go tk_lc2 rfl rfl ?_
      refine pw_laldN (k := 0) tk_lc2 rfl (L2.o70 ad) nI_0.symm (by decide) (by decide) ?_
      refine pw_l (x' := (nI (sp_len (xS G (9 * n + 1)).toNatClampNeg (xS G (9 * n + 2)).toNatClampNeg (xS G (9 * n + 3)).toNatClampNeg (xS G (9 * n + 4)).toNatClampNeg)).toInt64) (by show (if 0 = 0 then lN (D2 70 0 0) else 0) = _; rw [if_pos rfl, congrFun (congrFun o70 0) 0, ou z]; exact lN_out _) ?_
      iterate 3 refine pw_go tk_lc2 rfl rfl ?_
      refine pw_br tk_lc2 rfl rfl (fun _ => ?_) (fun c => absurd lcmp_s c)
      refine pw_go tk_lc2 rfl rfl ?_
      exact pw_W (hE D2 A2 M2 L2 ad e8) ⟨rfl, rfl, rfl, rfl, rfl, rfl, trivial⟩
  · exact fun _ _ z => z.elim
def tb_lc3 : List fw_R := [(416, .aload_n 1, 417, 1, 0), (417, .aload_n 0, 418, 0, 0), (418, .iload 5, 420, 5, 0), (420, .iconst 1, 421, 0, 1), (421, .iadd, 422, 0, 0), (422, .iaload, 423, 0, 0), (423, .i2c, 424, 0, 0), (424, .aload_n 0, 425, 0, 0), (425, .iload 5, 427, 5, 0), (427, .iconst 2, 428, 0, 2), (428, .iadd, 429, 0, 0), (429, .iaload, 430, 0, 0), (430, .aload_n 0, 431, 0, 0), (431, .iload 5, 433, 5, 0), (433, .iconst 3, 434, 0, 3), (434, .iadd, 435, 0, 0), (435, .iaload, 436, 0, 0), (436, .aload_n 0, 437, 0, 0), (437, .iload 5, 439, 5, 0), (439, .iconst 4, 440, 0, 4), (440, .iadd, 441, 0, 0), (441, .iaload, 442, 0, 0), (442, .ifCond .eq 7, 445, 449, 0), (445, .iconst 1, 446, 0, 1), (446, .goto 4, 449, 450, 0), (449, .iconst 0, 450, 0, 0), (450, .aload_n 3, 451, 3, 0), (451, .invokestatic 142, 454, 0, 0), (454, .istore 6, 456, 6, 0), (456, .aload_n 2, 457, 2, 0), (457, .aload_n 0, 458, 0, 0), (458, .iload 5, 460, 5, 0), (460, .iconst 1, 461, 0, 1), (461, .iadd, 462, 0, 0), (462, .iaload, 463, 0, 0), (463, .i2c, 464, 0, 0), (464, .aload_n 0, 465, 0, 0), (465, .iload 5, 467, 5, 0), (467, .iconst 2, 468, 0, 2), (468, .iadd, 469, 0, 0), (469, .iaload, 470, 0, 0), (470, .aload_n 0, 471, 0, 0), (471, .iload 5, 473, 5, 0), (473, .iconst 3, 474, 0, 3), (474, .iadd, 475, 0, 0), (475, .iaload, 476, 0, 0), (476, .aload_n 0, 477, 0, 0), (477, .iload 5, 479, 5, 0), (479, .iconst 4, 480, 0, 4), (480, .iadd, 481, 0, 0), (481, .iaload, 482, 0, 0), (482, .ifCond .eq 7, 485, 489, 0), (485, .iconst 1, 486, 0, 1), (486, .goto 4, 489, 490, 0), (489, .iconst 0, 490, 0, 0), (490, .invokevirtual 145, 493, 0, 0), (493, .istore 7, 495, 7, 0), (495, .aload_n 2, 496, 2, 0), (496, .invokevirtual 131, 499, 0, 0), (499, .iload 6, 501, 6, 0), (501, .if_icmp .eq 5, 504, 506, 0), (504, .iconst 0, 505, 0, 0), (505, .ireturn, 506, 0, 0), (506, .iload 6, 508, 6, 0), (508, .ifCond .ne 15, 511, 523, 0), (511, .aload_n 3, 512, 3, 0), (512, .iconst 0, 513, 0, 0), (513, .laload, 514, 0, 0), (514, .iload 7, 516, 7, 0), (516, .i2l, 517, 0, 0), (517, .lcmp, 518, 0, 0), (518, .ifCond .eq 5, 521, 523, 0), (521, .iconst 0, 522, 0, 0), (522, .ireturn, 523, 0, 0), (523, .goto 1843, 526, 2366, 0)]
theorem tk_lc3 : fw_tok mm_L_law_ tb_lc3 := by unfold fw_tok; decide +kernel
set_option maxRecDepth 20000 in
theorem lc_3 {kc ks : Nat} (hl : G.1.stackTraces = false) (hn : n ≤ 600) (L : LI G n D A M) (hs : 9 * n + 9 ≤ nS G) (hb : nS G ≤ 4608) (hE : ∀ D2 A2 M2, LI G (n + 1) D2 A2 M2 → adk A A2 → D2 99 0 8 = D 99 0 8 → PW G mm_L_law_ Q 11 kc ks (hp M2 A2 D2) 2366 (lwF G A n) []) : PW G mm_L_law_ Q 11 (kc + 210) (ks + 2500) (hp M A D) 416 (lwF G A n) [] := by
  obtain ⟨K, hK⟩ : ∃ K, K = lwK D (iC (xS G (9 * n + 1))) (xS G (9 * n + 2)) (xS G (9 * n + 3)) := ⟨_, rfl⟩
  have hK9 : K < 10 := by rw [hK]; exact (by unfold lwK; (repeat' split) <;> omega)
  have kA : ∀ L0, fw_sL L0 (lwF G A n) → PW G mm_L_law_ Q 11 (kc + 210) (ks + 2500) (hp M A D) 450 L0 [.int (bI (!decide ((xS G (9 * n + 4)) = 0))), .int (xS G (9 * n + 3)), .int (xS G (9 * n + 2)), .int (iC (xS G (9 * n + 1))), .ref (A 0 0)] := by
    intro L0 hL0
    refine pw_M _ hL0 ?_
    refine pw_go tk_lc3 rfl rfl ?_
    refine pw_csH tk_lc3 rfl ca_L_law lk_L_142 sx_L_law (As := [.ref (A 0 0), .int (iC (xS G (9 * n + 1))), .int (xS G (9 * n + 2)), .int (xS G (9 * n + 3)), .int (bI (!decide ((xS G (9 * n + 4)) = 0))), .ref (A 70 0)]) (rest := []) (kc' := kc + 206) (ks' := ks + 2477) (wx_law (x := (iC (xS G (9 * n + 1)))) (y := (xS G (9 * n + 2))) (z := (xS G (9 * n + 3))) (b := (!decide ((xS G (9 * n + 4)) = 0))) hl L) (fun _ _ z => z) rfl rfl rfl (Nat.le_of_ble_eq_true rfl) (show 4 + (kc + 206) ≤ kc + 210 by omega) (show 23 + (ks + 2477) ≤ ks + 2500 by omega) ?_
    rintro _ h1 ⟨r, rfl, hr, S1, D1, A1, M1, c0, c1, e1, m, ou⟩
    rw [e1, hr]
    rw [← hK] at c0 c1 ou ⊢
    have R := LM.rd L m
    have e30 : A1 30 0 = A 30 0 := m.2.2.2.2.1
    have rm := R.m
    have hm := m_law (x := (iC (xS G (9 * n + 1)))) (y := (xS G (9 * n + 2))) (z := (xS G (9 * n + 3))) (b := (!decide ((xS G (9 * n + 4)) = 0))) R
    rw [e30] at rm hm
    rw [← hK] at hm
    iterate 2 refine pw_go tk_lc3 rfl rfl ?_
    have kB : ∀ L0, fw_sL L0 ((6, .int (nI K)) :: lwF G A n) → PW G mm_L_law_ Q 11 (kc + 206) (ks + 2477) (hp M1 A1 D1) 490 L0 [.int (bI (!decide ((xS G (9 * n + 4)) = 0))), .int (xS G (9 * n + 3)), .int (xS G (9 * n + 2)), .int (iC (xS G (9 * n + 1))), .ref (A 30 0)] := by
      intro L0 hL0
      refine pw_M _ hL0 ?_
      refine pw_cv tk_lc3 rfl ca_X17_law lk_L_145 iv_X17_law sv_X17_law rm rfl rfl (As := [.int (iC (xS G (9 * n + 1))), .int (xS G (9 * n + 2)), .int (xS G (9 * n + 3)), .int (bI (!decide ((xS G (9 * n + 4)) = 0)))]) (rest := []) (kc' := kc) (ks' := ks) (hm) rfl rfl rfl (Nat.le_of_ble_eq_true rfl) (show 2 + kc ≤ kc + 206 by omega) (show 52 + ks ≤ ks + 2477 by omega) ?_ ?_
      skip
      · rintro _ h2 ⟨r2, rfl, w⟩
        have w1 : rdn S1 D1 A1 K h2 := by
          by_cases z : K = 0
          · rw [c0 z, z]
            exact (w.1 z).1
          · rw [c1 z]
            exact w.2 z
        have w2 := fun z => (w.1 z).2
        obtain ⟨D2, A2, M2, L2, s2, k2, o70, o71, ad, e8⟩ := LM.li L m w1
        have e8 : D2 99 0 8 = D 99 0 8 := by
          rw [e8]
          by_cases z : K = 0
          · rw [c0 z]
            exact (by unfold lwS; rw [dn_N, if_neg (by decide)])
          · rw [c1 z]
        refine pw_forget s2 ?_
        have f30 : A2 30 0 = A 30 0 := ad.2.1
        have rm2 := L2.rd.m
        have ht := n_thrown L2.rd
        rw [f30] at rm2 ht
        rw [k2] at ht
        iterate 2 refine pw_go tk_lc3 rfl rfl ?_
        refine pw_cvp tk_lc3 rfl ca_X17_thrown lk_L_131 iv_X17_thrown sv_X17_thrown rm2 rfl rfl (As := []) (rest := []) (ht) rfl rfl rfl rfl ?_
        refine pw_go tk_lc3 rfl rfl ?_
        refine pw_br tk_lc3 rfl rfl (fun _ => ?_) (fun c => absurd rfl c)
        refine pw_go tk_lc3 rfl rfl ?_
        refine pw_ifN (K) tk_lc3 rfl rfl (by omega) (fun c => ?_) (fun c => ?_)
        · skip
          refine pw_go tk_lc3 rfl rfl ?_
          exact pw_W (hE D2 A2 M2 L2 ad e8) ⟨rfl, rfl, rfl, rfl, rfl, rfl, trivial⟩
        · have z : K = 0 := Decidable.not_not.mp c
          have w3 := w2 z
          subst w3
          iterate 2 refine pw_go tk_lc3 rfl rfl ?_
          refine pw_laldN (k := 0) tk_lc3 rfl (L2.o70 ad) nI_0.symm (by decide) (by decide) ?_
          refine pw_l (x' := (nI (D 99 0 7)).toInt64) (by show (if 0 = 0 then lN (D2 70 0 0) else 0) = _; rw [if_pos rfl, congrFun (congrFun o70 0) 0, ou z]; exact lN_out _) ?_
          iterate 3 refine pw_go tk_lc3 rfl rfl ?_
          refine pw_br tk_lc3 rfl rfl (fun _ => ?_) (fun c => absurd lcmp_s c)
          refine pw_go tk_lc3 rfl rfl ?_
          exact pw_W (hE D2 A2 M2 L2 ad e8) ⟨rfl, rfl, rfl, rfl, rfl, rfl, trivial⟩
      · exact fun _ _ z => z.elim
    iterate 3 refine pw_go tk_lc3 rfl rfl ?_
    refine pw_addN (9 * n) (1) tk_lc3 rfl rfl rfl ?_
    refine pw_sci (k := 9 * n + 1) tk_lc3 rfl rfl (by omega) (by omega) ?_
    refine pw_go tk_lc3 rfl rfl ?_
    iterate 3 refine pw_go tk_lc3 rfl rfl ?_
    refine pw_addN (9 * n) (2) tk_lc3 rfl rfl rfl ?_
    refine pw_sci (k := 9 * n + 2) tk_lc3 rfl rfl (by omega) (by omega) ?_
    iterate 3 refine pw_go tk_lc3 rfl rfl ?_
    refine pw_addN (9 * n) (3) tk_lc3 rfl rfl rfl ?_
    refine pw_sci (k := 9 * n + 3) tk_lc3 rfl rfl (by omega) (by omega) ?_
    iterate 3 refine pw_go tk_lc3 rfl rfl ?_
    refine pw_addN (9 * n) (4) tk_lc3 rfl rfl rfl ?_
    refine pw_sci (k := 9 * n + 4) tk_lc3 rfl rfl (by omega) (by omega) ?_
    refine pw_br tk_lc3 rfl rfl (fun c => ?_) (fun c => ?_)
    · have c : xS G (9 * n + 4) = 0 := c
      refine pw_go tk_lc3 rfl rfl ?_
      refine pw_i (x' := bI (!decide ((xS G (9 * n + 4)) = 0))) (by rw [decide_eq_true c]; rfl) ?_
      exact kB _ ⟨rfl, rfl, rfl, rfl, rfl, rfl, rfl, trivial⟩
    · have c : ¬ xS G (9 * n + 4) = 0 := c
      iterate 2 refine pw_go tk_lc3 rfl rfl ?_
      refine pw_i (x' := bI (!decide ((xS G (9 * n + 4)) = 0))) (by rw [decide_eq_false c]; rfl) ?_
      exact kB _ ⟨rfl, rfl, rfl, rfl, rfl, rfl, rfl, trivial⟩
  refine pw_go tk_lc3 rfl rfl ?_
  iterate 3 refine pw_go tk_lc3 rfl rfl ?_
  refine pw_addN (9 * n) (1) tk_lc3 rfl rfl rfl ?_
  refine pw_sci (k := 9 * n + 1) tk_lc3 rfl rfl (by omega) (by omega) ?_
  refine pw_go tk_lc3 rfl rfl ?_
  iterate 3 refine pw_go tk_lc3 rfl rfl ?_
  refine pw_addN (9 * n) (2) tk_lc3 rfl rfl rfl ?_
  refine pw_sci (k := 9 * n + 2) tk_lc3 rfl rfl (by omega) (by omega) ?_
  iterate 3 refine pw_go tk_lc3 rfl rfl ?_
  refine pw_addN (9 * n) (3) tk_lc3 rfl rfl rfl ?_
  refine pw_sci (k := 9 * n + 3) tk_lc3 rfl rfl (by omega) (by omega) ?_
  iterate 3 refine pw_go tk_lc3 rfl rfl ?_
  refine pw_addN (9 * n) (4) tk_lc3 rfl rfl rfl ?_
  refine pw_sci (k := 9 * n + 4) tk_lc3 rfl rfl (by omega) (by omega) ?_
  refine pw_br tk_lc3 rfl rfl (fun c => ?_) (fun c => ?_)
  · have c : xS G (9 * n + 4) = 0 := c
    refine pw_go tk_lc3 rfl rfl ?_
    refine pw_i (x' := bI (!decide ((xS G (9 * n + 4)) = 0))) (by rw [decide_eq_true c]; rfl) ?_
    exact kA _ ⟨rfl, rfl, rfl, rfl, rfl, rfl, trivial⟩
  · have c : ¬ xS G (9 * n + 4) = 0 := c
    iterate 2 refine pw_go tk_lc3 rfl rfl ?_
    refine pw_i (x' := bI (!decide ((xS G (9 * n + 4)) = 0))) (by rw [decide_eq_false c]; rfl) ?_
    exact kA _ ⟨rfl, rfl, rfl, rfl, rfl, rfl, trivial⟩
def tb_lc4 : List fw_R := [(526, .aload_n 1, 527, 1, 0), (527, .aload_n 0, 528, 0, 0), (528, .iload 5, 530, 5, 0), (530, .iconst 1, 531, 0, 1), (531, .iadd, 532, 0, 0), (532, .iaload, 533, 0, 0), (533, .aload_n 3, 534, 3, 0), (534, .invokestatic 146, 537, 0, 0), (537, .istore 6, 539, 6, 0), (539, .aload_n 2, 540, 2, 0), (540, .aload_n 0, 541, 0, 0), (541, .iload 5, 543, 5, 0), (543, .iconst 1, 544, 0, 1), (544, .iadd, 545, 0, 0), (545, .iaload, 546, 0, 0), (546, .invokevirtual 148, 549, 0, 0), (549, .istore 7, 551, 7, 0), (551, .aload_n 2, 552, 2, 0), (552, .invokevirtual 131, 555, 0, 0), (555, .iload 6, 557, 6, 0), (557, .if_icmp .eq 5, 560, 562, 0), (560, .iconst 0, 561, 0, 0), (561, .ireturn, 562, 0, 0), (562, .iload 6, 564, 6, 0), (564, .ifCond .ne 15, 567, 579, 0), (567, .aload_n 3, 568, 3, 0), (568, .iconst 0, 569, 0, 0), (569, .laload, 570, 0, 0), (570, .iload 7, 572, 7, 0), (572, .i2l, 573, 0, 0), (573, .lcmp, 574, 0, 0), (574, .ifCond .eq 5, 577, 579, 0), (577, .iconst 0, 578, 0, 0), (578, .ireturn, 579, 0, 0), (579, .goto 1787, 582, 2366, 0)]
theorem tk_lc4 : fw_tok mm_L_law_ tb_lc4 := by unfold fw_tok; decide +kernel
set_option maxRecDepth 20000 in
theorem lc_4 {kc ks : Nat} (hl : G.1.stackTraces = false) (hn : n ≤ 600) (L : LI G n D A M) (hs : 9 * n + 9 ≤ nS G) (hb : nS G ≤ 4608) (hE : ∀ D2 A2 M2, LI G (n + 1) D2 A2 M2 → adk A A2 → D2 99 0 8 = D 99 0 8 → PW G mm_L_law_ Q 11 kc ks (hp M2 A2 D2) 2366 (lwF G A n) []) : PW G mm_L_law_ Q 11 (kc + 210) (ks + 2500) (hp M A D) 526 (lwF G A n) [] := by
  obtain ⟨K, hK⟩ : ∃ K, K = lkK D (xS G (9 * n + 1)) := ⟨_, rfl⟩
  have hK9 : K < 10 := by rw [hK]; exact (by unfold lkK; (repeat' split) <;> omega)
  refine pw_go tk_lc4 rfl rfl ?_
  iterate 3 refine pw_go tk_lc4 rfl rfl ?_
  refine pw_addN (9 * n) (1) tk_lc4 rfl rfl rfl ?_
  refine pw_sci (k := 9 * n + 1) tk_lc4 rfl rfl (by omega) (by omega) ?_
  refine pw_go tk_lc4 rfl rfl ?_
  refine pw_csH tk_lc4 rfl ca_L_lawOf lk_L_146 sx_L_lawOf (As := [.ref (A 0 0), .int (xS G (9 * n + 1)), .ref (A 70 0)]) (rest := []) (kc' := kc + 208) (ks' := ks + 2488) (wx_lawOf (x := (xS G (9 * n + 1))) hl L) (fun _ _ z => z) rfl rfl rfl (Nat.le_of_ble_eq_true rfl) (show 2 + (kc + 208) ≤ kc + 210 by omega) (show 12 + (ks + 2488) ≤ ks + 2500 by omega) ?_
  rintro _ h1 ⟨r, rfl, hr, S1, D1, A1, M1, c0, c1, e1, m, ou⟩
  rw [e1, hr]
  rw [← hK] at c0 c1 ou ⊢
  have R := LM.rd L m
  have e30 : A1 30 0 = A 30 0 := m.2.2.2.2.1
  have rm := R.m
  have hm := m_lawOf (x := (xS G (9 * n + 1))) R
  rw [e30] at rm hm
  rw [← hK] at hm
  iterate 2 refine pw_go tk_lc4 rfl rfl ?_
  iterate 3 refine pw_go tk_lc4 rfl rfl ?_
  refine pw_addN (9 * n) (1) tk_lc4 rfl rfl rfl ?_
  refine pw_sci (k := 9 * n + 1) tk_lc4 rfl rfl (by omega) (by omega) ?_
  refine pw_cv tk_lc4 rfl ca_X17_lawOf lk_L_148 iv_X17_lawOf sv_X17_lawOf rm rfl rfl (As := [.int (xS G (9 * n + 1))]) (rest := []) (kc' := kc) (ks' := ks) (hm) rfl rfl rfl (Nat.le_of_ble_eq_true rfl) (show 0 + kc ≤ kc + 208 by omega) (show 0 + ks ≤ ks + 2488 by omega) ?_ ?_
  skip
  · rintro _ h2 ⟨r2, rfl, w1, w2⟩
    have es : S1 = D := by
      by_cases z : K = 0
      · exact c0 z
      · exact c1 z
    rw [es] at m
    obtain ⟨D2, A2, M2, L2, s2, k2, o70, o71, ad, e8⟩ := LM.li L m w1
    refine pw_forget s2 ?_
    have f30 : A2 30 0 = A 30 0 := ad.2.1
    have rm2 := L2.rd.m
    have ht := n_thrown L2.rd
    rw [f30] at rm2 ht
    rw [k2] at ht
    iterate 2 refine pw_go tk_lc4 rfl rfl ?_
    refine pw_cvp tk_lc4 rfl ca_X17_thrown lk_L_131 iv_X17_thrown sv_X17_thrown rm2 rfl rfl (As := []) (rest := []) (ht) rfl rfl rfl rfl ?_
    refine pw_go tk_lc4 rfl rfl ?_
    refine pw_br tk_lc4 rfl rfl (fun _ => ?_) (fun c => absurd rfl c)
    refine pw_go tk_lc4 rfl rfl ?_
    refine pw_ifN (K) tk_lc4 rfl rfl (by omega) (fun c => ?_) (fun c => ?_)
    · skip
      refine pw_go tk_lc4 rfl rfl ?_
      exact pw_W (hE D2 A2 M2 L2 ad e8) ⟨rfl, rfl, rfl, rfl, rfl, rfl, trivial⟩
    · have z : K = 0 := Decidable.not_not.mp c
      have w3 := w2 z
      subst w3
      iterate 2 refine pw_go tk_lc4 rfl rfl ?_
      refine pw_laldN (k := 0) tk_lc4 rfl (L2.o70 ad) nI_0.symm (by decide) (by decide) ?_
      refine pw_l (x' := (nI (D 13 (xS G (9 * n + 1)).toNatClampNeg 7 - 1)).toInt64) (by show (if 0 = 0 then lN (D2 70 0 0) else 0) = _; rw [if_pos rfl, congrFun (congrFun o70 0) 0, ou z]; exact lN_out _) ?_
      iterate 3 refine pw_go tk_lc4 rfl rfl ?_
      refine pw_br tk_lc4 rfl rfl (fun _ => ?_) (fun c => absurd lcmp_s c)
      refine pw_go tk_lc4 rfl rfl ?_
      exact pw_W (hE D2 A2 M2 L2 ad e8) ⟨rfl, rfl, rfl, rfl, rfl, rfl, trivial⟩
  · exact fun _ _ z => z.elim
def tb_lc6 : List fw_R := [(626, .aload_n 1, 627, 1, 0), (627, .aload_n 0, 628, 0, 0), (628, .iload 5, 630, 5, 0), (630, .iconst 1, 631, 0, 1), (631, .iadd, 632, 0, 0), (632, .iaload, 633, 0, 0), (633, .aload_n 0, 634, 0, 0), (634, .iload 5, 636, 5, 0), (636, .iconst 2, 637, 0, 2), (637, .iadd, 638, 0, 0), (638, .iaload, 639, 0, 0), (639, .i2c, 640, 0, 0), (640, .aload_n 0, 641, 0, 0), (641, .iload 5, 643, 5, 0), (643, .iconst 3, 644, 0, 3), (644, .iadd, 645, 0, 0), (645, .iaload, 646, 0, 0), (646, .aload_n 0, 647, 0, 0), (647, .iload 5, 649, 5, 0), (649, .iconst 4, 650, 0, 4), (650, .iadd, 651, 0, 0), (651, .iaload, 652, 0, 0), (652, .aload_n 0, 653, 0, 0), (653, .iload 5, 655, 5, 0), (655, .iconst 5, 656, 0, 5), (656, .iadd, 657, 0, 0), (657, .iaload, 658, 0, 0), (658, .aload_n 0, 659, 0, 0), (659, .iload 5, 661, 5, 0), (661, .bipush 6, 663, 0, 6), (663, .iadd, 664, 0, 0), (664, .iaload, 665, 0, 0), (665, .aload_n 0, 666, 0, 0), (666, .iload 5, 668, 5, 0), (668, .bipush 7, 670, 0, 7), (670, .iadd, 671, 0, 0), (671, .iaload, 672, 0, 0), (672, .aload_n 0, 673, 0, 0), (673, .iload 5, 675, 5, 0), (675, .bipush 8, 677, 0, 8), (677, .iadd, 678, 0, 0), (678, .iaload, 679, 0, 0), (679, .aload_n 3, 680, 3, 0), (680, .invokestatic 153, 683, 0, 0), (683, .istore 6, 685, 6, 0), (685, .aload_n 2, 686, 2, 0), (686, .aload_n 0, 687, 0, 0), (687, .iload 5, 689, 5, 0), (689, .iconst 1, 690, 0, 1), (690, .iadd, 691, 0, 0), (691, .iaload, 692, 0, 0), (692, .aload_n 0, 693, 0, 0), (693, .iload 5, 695, 5, 0), (695, .iconst 2, 696, 0, 2), (696, .iadd, 697, 0, 0), (697, .iaload, 698, 0, 0), (698, .i2c, 699, 0, 0), (699, .aload_n 0, 700, 0, 0), (700, .iload 5, 702, 5, 0), (702, .iconst 3, 703, 0, 3), (703, .iadd, 704, 0, 0), (704, .iaload, 705, 0, 0), (705, .aload_n 0, 706, 0, 0), (706, .iload 5, 708, 5, 0), (708, .iconst 4, 709, 0, 4), (709, .iadd, 710, 0, 0), (710, .iaload, 711, 0, 0), (711, .aload_n 0, 712, 0, 0), (712, .iload 5, 714, 5, 0), (714, .iconst 5, 715, 0, 5), (715, .iadd, 716, 0, 0), (716, .iaload, 717, 0, 0), (717, .aload_n 0, 718, 0, 0), (718, .iload 5, 720, 5, 0), (720, .bipush 6, 722, 0, 6), (722, .iadd, 723, 0, 0), (723, .iaload, 724, 0, 0), (724, .aload_n 0, 725, 0, 0), (725, .iload 5, 727, 5, 0), (727, .bipush 7, 729, 0, 7), (729, .iadd, 730, 0, 0), (730, .iaload, 731, 0, 0), (731, .aload_n 0, 732, 0, 0), (732, .iload 5, 734, 5, 0), (734, .bipush 8, 736, 0, 8), (736, .iadd, 737, 0, 0), (737, .iaload, 738, 0, 0), (738, .invokevirtual 156, 741, 0, 0), (741, .istore 7, 743, 7, 0), (743, .aload_n 2, 744, 2, 0), (744, .invokevirtual 131, 747, 0, 0), (747, .iload 6, 749, 6, 0), (749, .if_icmp .eq 5, 752, 754, 0), (752, .iconst 0, 753, 0, 0), (753, .ireturn, 754, 0, 0), (754, .iload 6, 756, 6, 0), (756, .ifCond .ne 15, 759, 771, 0), (759, .aload_n 3, 760, 3, 0), (760, .iconst 0, 761, 0, 0), (761, .laload, 762, 0, 0), (762, .iload 7, 764, 7, 0), (764, .i2l, 765, 0, 0), (765, .lcmp, 766, 0, 0), (766, .ifCond .eq 5, 769, 771, 0), (769, .iconst 0, 770, 0, 0), (770, .ireturn, 771, 0, 0), (771, .goto 1595, 774, 2366, 0)]
theorem tk_lc6 : fw_tok mm_L_law_ tb_lc6 := by unfold fw_tok; decide +kernel
set_option maxRecDepth 20000 in
theorem lc_6 {kc ks : Nat} (hl : G.1.stackTraces = false) (hn : n ≤ 600) (L : LI G n D A M) (hs : 9 * n + 9 ≤ nS G) (hb : nS G ≤ 4608) (hE : ∀ D2 A2 M2, LI G (n + 1) D2 A2 M2 → adk A A2 → D2 99 0 8 = D 99 0 8 → PW G mm_L_law_ Q 11 kc ks (hp M2 A2 D2) 2366 (lwF G A n) []) : PW G mm_L_law_ Q 11 (kc + 210) (ks + 2500) (hp M A D) 626 (lwF G A n) [] := by
  obtain ⟨K, hK⟩ : ∃ K, K = wrK D (xS G (9 * n + 1)) (iC (xS G (9 * n + 2))) (xS G (9 * n + 3)) (xS G (9 * n + 4)) (xS G (9 * n + 5)) (xS G (9 * n + 6)) (xS G (9 * n + 7)) (xS G (9 * n + 8)) := ⟨_, rfl⟩
  have hK9 : K < 10 := by rw [hK]; exact (by unfold wrK; (repeat' split) <;> omega)
  refine pw_go tk_lc6 rfl rfl ?_
  iterate 3 refine pw_go tk_lc6 rfl rfl ?_
  refine pw_addN (9 * n) (1) tk_lc6 rfl rfl rfl ?_
  refine pw_sci (k := 9 * n + 1) tk_lc6 rfl rfl (by omega) (by omega) ?_
  iterate 3 refine pw_go tk_lc6 rfl rfl ?_
  refine pw_addN (9 * n) (2) tk_lc6 rfl rfl rfl ?_
  refine pw_sci (k := 9 * n + 2) tk_lc6 rfl rfl (by omega) (by omega) ?_
  refine pw_go tk_lc6 rfl rfl ?_
  iterate 3 refine pw_go tk_lc6 rfl rfl ?_
  refine pw_addN (9 * n) (3) tk_lc6 rfl rfl rfl ?_
  refine pw_sci (k := 9 * n + 3) tk_lc6 rfl rfl (by omega) (by omega) ?_
  iterate 3 refine pw_go tk_lc6 rfl rfl ?_
  refine pw_addN (9 * n) (4) tk_lc6 rfl rfl rfl ?_
  refine pw_sci (k := 9 * n + 4) tk_lc6 rfl rfl (by omega) (by omega) ?_
  iterate 3 refine pw_go tk_lc6 rfl rfl ?_
  refine pw_addN (9 * n) (5) tk_lc6 rfl rfl rfl ?_
  refine pw_sci (k := 9 * n + 5) tk_lc6 rfl rfl (by omega) (by omega) ?_
  iterate 3 refine pw_go tk_lc6 rfl rfl ?_
  refine pw_addN (9 * n) (6) tk_lc6 rfl rfl rfl ?_
  refine pw_sci (k := 9 * n + 6) tk_lc6 rfl rfl (by omega) (by omega) ?_
  iterate 3 refine pw_go tk_lc6 rfl rfl ?_
  refine pw_addN (9 * n) (7) tk_lc6 rfl rfl rfl ?_
  refine pw_sci (k := 9 * n + 7) tk_lc6 rfl rfl (by omega) (by omega) ?_
  iterate 3 refine pw_go tk_lc6 rfl rfl ?_
  refine pw_addN (9 * n) (8) tk_lc6 rfl rfl rfl ?_
  refine pw_sci (k := 9 * n + 8) tk_lc6 rfl rfl (by omega) (by omega) ?_
  refine pw_go tk_lc6 rfl rfl ?_
  refine pw_csH tk_lc6 rfl ca_L_warrant lk_L_153 sx_L_warrant (As := [.ref (A 0 0), .int (xS G (9 * n + 1)), .int (iC (xS G (9 * n + 2))), .int (xS G (9 * n + 3)), .int (xS G (9 * n + 4)), .int (xS G (9 * n + 5)), .int (xS G (9 * n + 6)), .int (xS G (9 * n + 7)), .int (xS G (9 * n + 8)), .ref (A 70 0)]) (rest := []) (kc' := kc + 198) (ks' := ks + 2410) (wx_warrant (x := (xS G (9 * n + 1))) (k := (iC (xS G (9 * n + 2)))) (o := (xS G (9 * n + 3))) (pa := (xS G (9 * n + 4))) (y := (xS G (9 * n + 5))) (u := (xS G (9 * n + 6))) (d := (xS G (9 * n + 7))) (b := (xS G (9 * n + 8))) hl L) (fun _ _ z => z) rfl rfl rfl (Nat.le_of_ble_eq_true rfl) (show 12 + (kc + 198) ≤ kc + 210 by omega) (show 90 + (ks + 2410) ≤ ks + 2500 by omega) ?_
  rintro _ h1 ⟨r, rfl, hr, S1, D1, A1, M1, c0, c1, e1, m, ou⟩
  rw [e1, hr]
  rw [← hK] at c0 c1 ou ⊢
  have R := LM.rd L m
  have e30 : A1 30 0 = A 30 0 := m.2.2.2.2.1
  have rm := R.m
  have hm := m_warrant (x := (xS G (9 * n + 1))) (k := (iC (xS G (9 * n + 2)))) (o := (xS G (9 * n + 3))) (pa := (xS G (9 * n + 4))) (y := (xS G (9 * n + 5))) (u := (xS G (9 * n + 6))) (d := (xS G (9 * n + 7))) (b := (xS G (9 * n + 8))) R
  rw [e30] at rm hm
  rw [← hK] at hm
  iterate 2 refine pw_go tk_lc6 rfl rfl ?_
  iterate 3 refine pw_go tk_lc6 rfl rfl ?_
  refine pw_addN (9 * n) (1) tk_lc6 rfl rfl rfl ?_
  refine pw_sci (k := 9 * n + 1) tk_lc6 rfl rfl (by omega) (by omega) ?_
  iterate 3 refine pw_go tk_lc6 rfl rfl ?_
  refine pw_addN (9 * n) (2) tk_lc6 rfl rfl rfl ?_
  refine pw_sci (k := 9 * n + 2) tk_lc6 rfl rfl (by omega) (by omega) ?_
  refine pw_go tk_lc6 rfl rfl ?_
  iterate 3 refine pw_go tk_lc6 rfl rfl ?_
  refine pw_addN (9 * n) (3) tk_lc6 rfl rfl rfl ?_
  refine pw_sci (k := 9 * n + 3) tk_lc6 rfl rfl (by omega) (by omega) ?_
  iterate 3 refine pw_go tk_lc6 rfl rfl ?_
  refine pw_addN (9 * n) (4) tk_lc6 rfl rfl rfl ?_
  refine pw_sci (k := 9 * n + 4) tk_lc6 rfl rfl (by omega) (by omega) ?_
  iterate 3 refine pw_go tk_lc6 rfl rfl ?_
  refine pw_addN (9 * n) (5) tk_lc6 rfl rfl rfl ?_
  refine pw_sci (k := 9 * n + 5) tk_lc6 rfl rfl (by omega) (by omega) ?_
  iterate 3 refine pw_go tk_lc6 rfl rfl ?_
  refine pw_addN (9 * n) (6) tk_lc6 rfl rfl rfl ?_
  refine pw_sci (k := 9 * n + 6) tk_lc6 rfl rfl (by omega) (by omega) ?_
  iterate 3 refine pw_go tk_lc6 rfl rfl ?_
  refine pw_addN (9 * n) (7) tk_lc6 rfl rfl rfl ?_
  refine pw_sci (k := 9 * n + 7) tk_lc6 rfl rfl (by omega) (by omega) ?_
  iterate 3 refine pw_go tk_lc6 rfl rfl ?_
  refine pw_addN (9 * n) (8) tk_lc6 rfl rfl rfl ?_
  refine pw_sci (k := 9 * n + 8) tk_lc6 rfl rfl (by omega) (by omega) ?_
  refine pw_cv tk_lc6 rfl ca_X17_warrant lk_L_156 iv_X17_warrant sv_X17_warrant rm rfl rfl (As := [.int (xS G (9 * n + 1)), .int (iC (xS G (9 * n + 2))), .int (xS G (9 * n + 3)), .int (xS G (9 * n + 4)), .int (xS G (9 * n + 5)), .int (xS G (9 * n + 6)), .int (xS G (9 * n + 7)), .int (xS G (9 * n + 8))]) (rest := []) (kc' := kc) (ks' := ks) (hm) rfl rfl rfl (Nat.le_of_ble_eq_true rfl) (show 2 + kc ≤ kc + 198 by omega) (show 61 + ks ≤ ks + 2410 by omega) ?_ ?_
  skip
  · rintro _ h2 ⟨r2, rfl, w⟩
    have w1 : rdn S1 D1 A1 K h2 := by
      by_cases z : K = 0
      · rw [c0 z, z]
        exact (w.1 z).1
      · rw [c1 z]
        exact w.2 z
    have w2 := fun z => (w.1 z).2
    obtain ⟨D2, A2, M2, L2, s2, k2, o70, o71, ad, e8⟩ := LM.li L m w1
    have e8 : D2 99 0 8 = D 99 0 8 := by
      rw [e8]
      by_cases z : K = 0
      · rw [c0 z]
        exact (by unfold wrS; rw [dn_N, if_neg (by decide), dn_N, if_neg (by decide)])
      · rw [c1 z]
    refine pw_forget s2 ?_
    have f30 : A2 30 0 = A 30 0 := ad.2.1
    have rm2 := L2.rd.m
    have ht := n_thrown L2.rd
    rw [f30] at rm2 ht
    rw [k2] at ht
    iterate 2 refine pw_go tk_lc6 rfl rfl ?_
    refine pw_cvp tk_lc6 rfl ca_X17_thrown lk_L_131 iv_X17_thrown sv_X17_thrown rm2 rfl rfl (As := []) (rest := []) (ht) rfl rfl rfl rfl ?_
    refine pw_go tk_lc6 rfl rfl ?_
    refine pw_br tk_lc6 rfl rfl (fun _ => ?_) (fun c => absurd rfl c)
    refine pw_go tk_lc6 rfl rfl ?_
    refine pw_ifN (K) tk_lc6 rfl rfl (by omega) (fun c => ?_) (fun c => ?_)
    · skip
      refine pw_go tk_lc6 rfl rfl ?_
      exact pw_W (hE D2 A2 M2 L2 ad e8) ⟨rfl, rfl, rfl, rfl, rfl, rfl, trivial⟩
    · have z : K = 0 := Decidable.not_not.mp c
      have w3 := w2 z
      subst w3
      iterate 2 refine pw_go tk_lc6 rfl rfl ?_
      refine pw_laldN (k := 0) tk_lc6 rfl (L2.o70 ad) nI_0.symm (by decide) (by decide) ?_
      refine pw_l (x' := (nI (D 99 0 13)).toInt64) (by show (if 0 = 0 then lN (D2 70 0 0) else 0) = _; rw [if_pos rfl, congrFun (congrFun o70 0) 0, ou z]; exact lN_out _) ?_
      iterate 3 refine pw_go tk_lc6 rfl rfl ?_
      refine pw_br tk_lc6 rfl rfl (fun _ => ?_) (fun c => absurd lcmp_s c)
      refine pw_go tk_lc6 rfl rfl ?_
      exact pw_W (hE D2 A2 M2 L2 ad e8) ⟨rfl, rfl, rfl, rfl, rfl, rfl, trivial⟩
  · exact fun _ _ z => z.elim
def tb_lc7 : List fw_R := [(774, .aload_n 1, 775, 1, 0), (775, .aload_n 0, 776, 0, 0), (776, .iload 5, 778, 5, 0), (778, .iconst 1, 779, 0, 1), (779, .iadd, 780, 0, 0), (780, .iaload, 781, 0, 0), (781, .aload_n 0, 782, 0, 0), (782, .iload 5, 784, 5, 0), (784, .iconst 2, 785, 0, 2), (785, .iadd, 786, 0, 0), (786, .iaload, 787, 0, 0), (787, .aload_n 0, 788, 0, 0), (788, .iload 5, 790, 5, 0), (790, .iconst 3, 791, 0, 3), (791, .iadd, 792, 0, 0), (792, .iaload, 793, 0, 0), (793, .ifCond .eq 7, 796, 800, 0), (796, .iconst 1, 797, 0, 1), (797, .goto 4, 800, 801, 0), (800, .iconst 0, 801, 0, 0), (801, .aload_n 3, 802, 3, 0), (802, .invokestatic 157, 805, 0, 0), (805, .istore 6, 807, 6, 0), (807, .aload_n 2, 808, 2, 0), (808, .aload_n 0, 809, 0, 0), (809, .iload 5, 811, 5, 0), (811, .iconst 1, 812, 0, 1), (812, .iadd, 813, 0, 0), (813, .iaload, 814, 0, 0), (814, .aload_n 0, 815, 0, 0), (815, .iload 5, 817, 5, 0), (817, .iconst 2, 818, 0, 2), (818, .iadd, 819, 0, 0), (819, .iaload, 820, 0, 0), (820, .aload_n 0, 821, 0, 0), (821, .iload 5, 823, 5, 0), (823, .iconst 3, 824, 0, 3), (824, .iadd, 825, 0, 0), (825, .iaload, 826, 0, 0), (826, .ifCond .eq 7, 829, 833, 0), (829, .iconst 1, 830, 0, 1), (830, .goto 4, 833, 834, 0), (833, .iconst 0, 834, 0, 0), (834, .invokevirtual 160, 837, 0, 0), (837, .istore 7, 839, 7, 0), (839, .aload_n 2, 840, 2, 0), (840, .invokevirtual 131, 843, 0, 0), (843, .iload 6, 845, 6, 0), (845, .if_icmp .eq 5, 848, 850, 0), (848, .iconst 0, 849, 0, 0), (849, .ireturn, 850, 0, 0), (850, .iload 6, 852, 6, 0), (852, .ifCond .ne 15, 855, 867, 0), (855, .aload_n 3, 856, 3, 0), (856, .iconst 0, 857, 0, 0), (857, .laload, 858, 0, 0), (858, .iload 7, 860, 7, 0), (860, .i2l, 861, 0, 0), (861, .lcmp, 862, 0, 0), (862, .ifCond .eq 5, 865, 867, 0), (865, .iconst 0, 866, 0, 0), (866, .ireturn, 867, 0, 0), (867, .goto 1499, 870, 2366, 0)]
theorem tk_lc7 : fw_tok mm_L_law_ tb_lc7 := by unfold fw_tok; decide +kernel
set_option maxRecDepth 20000 in
theorem lc_7 {kc ks : Nat} (hl : G.1.stackTraces = false) (hn : n ≤ 600) (L : LI G n D A M) (hs : 9 * n + 9 ≤ nS G) (hb : nS G ≤ 4608) (hE : ∀ D2 A2 M2, LI G (n + 1) D2 A2 M2 → adk A A2 → D2 99 0 8 = D 99 0 8 → PW G mm_L_law_ Q 11 kc ks (hp M2 A2 D2) 2366 (lwF G A n) []) : PW G mm_L_law_ Q 11 (kc + 210) (ks + 2500) (hp M A D) 774 (lwF G A n) [] := by
  obtain ⟨K, hK⟩ : ∃ K, K = pdK (D 99 0 13) (xS G (9 * n + 1)) (inI (xS G (9 * n + 2)) 1 (nI 999)) := ⟨_, rfl⟩
  have hK9 : K < 10 := by rw [hK]; exact (Nat.lt_trans pdlt (by decide))
  have kA : ∀ L0, fw_sL L0 (lwF G A n) → PW G mm_L_law_ Q 11 (kc + 210) (ks + 2500) (hp M A D) 801 L0 [.int (bI (!decide ((xS G (9 * n + 3)) = 0))), .int (xS G (9 * n + 2)), .int (xS G (9 * n + 1)), .ref (A 0 0)] := by
    intro L0 hL0
    refine pw_M _ hL0 ?_
    refine pw_go tk_lc7 rfl rfl ?_
    refine pw_csH tk_lc7 rfl ca_L_count lk_L_157 sx_L_count (As := [.ref (A 0 0), .int (xS G (9 * n + 1)), .int (xS G (9 * n + 2)), .int (bI (!decide ((xS G (9 * n + 3)) = 0))), .ref (A 70 0)]) (rest := []) (kc' := kc + 208) (ks' := ks + 2488) (wx_count (x := (xS G (9 * n + 1))) (y := (xS G (9 * n + 2))) (z := (!decide ((xS G (9 * n + 3)) = 0))) hl hn L) (fun _ _ z => z) rfl rfl rfl (Nat.le_of_ble_eq_true rfl) (show 2 + (kc + 208) ≤ kc + 210 by omega) (show 12 + (ks + 2488) ≤ ks + 2500 by omega) ?_
    rintro _ h1 ⟨r, rfl, hr, S1, D1, A1, M1, c0, c1, e1, m, ou⟩
    rw [e1, hr]
    rw [← hK] at c0 c1 ou ⊢
    have R := LM.rd L m
    have e30 : A1 30 0 = A 30 0 := m.2.2.2.2.1
    have rm := R.m
    have hm := m_count (x := (xS G (9 * n + 1))) (y := (xS G (9 * n + 2))) (z := (!decide ((xS G (9 * n + 3)) = 0))) hn R
    rw [e30] at rm hm
    rw [← hK] at hm
    iterate 2 refine pw_go tk_lc7 rfl rfl ?_
    have kB : ∀ L0, fw_sL L0 ((6, .int (nI K)) :: lwF G A n) → PW G mm_L_law_ Q 11 (kc + 208) (ks + 2488) (hp M1 A1 D1) 834 L0 [.int (bI (!decide ((xS G (9 * n + 3)) = 0))), .int (xS G (9 * n + 2)), .int (xS G (9 * n + 1)), .ref (A 30 0)] := by
      intro L0 hL0
      refine pw_M _ hL0 ?_
      refine pw_cv tk_lc7 rfl ca_X17_count lk_L_160 iv_X17_count sv_X17_count rm rfl rfl (As := [.int (xS G (9 * n + 1)), .int (xS G (9 * n + 2)), .int (bI (!decide ((xS G (9 * n + 3)) = 0)))]) (rest := []) (kc' := kc) (ks' := ks) (hm) rfl rfl rfl (Nat.le_of_ble_eq_true rfl) (show 0 + kc ≤ kc + 208 by omega) (show 0 + ks ≤ ks + 2488 by omega) ?_ ?_
      skip
      · rintro _ h2 ⟨r2, rfl, w⟩
        have w1 : rdn S1 D1 A1 K h2 := by
          by_cases z : K = 0
          · rw [c0 z, z]
            exact (w.1 z).1
          · rw [c1 z]
            exact w.2 z
        have w2 := fun z => (w.1 z).2
        obtain ⟨D2, A2, M2, L2, s2, k2, o70, o71, ad, e8⟩ := LM.li L m w1
        have e8 : D2 99 0 8 = D 99 0 8 := by
          rw [e8]
          by_cases z : K = 0
          · rw [c0 z]
            exact (by unfold ctS; rw [dp_k (by decide)])
          · rw [c1 z]
        refine pw_forget s2 ?_
        have f30 : A2 30 0 = A 30 0 := ad.2.1
        have rm2 := L2.rd.m
        have ht := n_thrown L2.rd
        rw [f30] at rm2 ht
        rw [k2] at ht
        iterate 2 refine pw_go tk_lc7 rfl rfl ?_
        refine pw_cvp tk_lc7 rfl ca_X17_thrown lk_L_131 iv_X17_thrown sv_X17_thrown rm2 rfl rfl (As := []) (rest := []) (ht) rfl rfl rfl rfl ?_
        refine pw_go tk_lc7 rfl rfl ?_
        refine pw_br tk_lc7 rfl rfl (fun _ => ?_) (fun c => absurd rfl c)
        refine pw_go tk_lc7 rfl rfl ?_
        refine pw_ifN (K) tk_lc7 rfl rfl (by omega) (fun c => ?_) (fun c => ?_)
        · skip
          refine pw_go tk_lc7 rfl rfl ?_
          exact pw_W (hE D2 A2 M2 L2 ad e8) ⟨rfl, rfl, rfl, rfl, rfl, rfl, trivial⟩
        · have z : K = 0 := Decidable.not_not.mp c
          have w3 := w2 z
          subst w3
          iterate 2 refine pw_go tk_lc7 rfl rfl ?_
          refine pw_laldN (k := 0) tk_lc7 rfl (L2.o70 ad) nI_0.symm (by decide) (by decide) ?_
          refine pw_l (x' := (nI (ctV D (xS G (9 * n + 1)).toNatClampNeg (xS G (9 * n + 2)).toNatClampNeg (!decide ((xS G (9 * n + 3)) = 0)))).toInt64) (by show (if 0 = 0 then lN (D2 70 0 0) else 0) = _; rw [if_pos rfl, congrFun (congrFun o70 0) 0, ou z]; exact lN_out _) ?_
          iterate 3 refine pw_go tk_lc7 rfl rfl ?_
          refine pw_br tk_lc7 rfl rfl (fun _ => ?_) (fun c => absurd lcmp_s c)
          refine pw_go tk_lc7 rfl rfl ?_
          exact pw_W (hE D2 A2 M2 L2 ad e8) ⟨rfl, rfl, rfl, rfl, rfl, rfl, trivial⟩
      · exact fun _ _ z => z.elim
    iterate 3 refine pw_go tk_lc7 rfl rfl ?_
    refine pw_addN (9 * n) (1) tk_lc7 rfl rfl rfl ?_
    refine pw_sci (k := 9 * n + 1) tk_lc7 rfl rfl (by omega) (by omega) ?_
    iterate 3 refine pw_go tk_lc7 rfl rfl ?_
    refine pw_addN (9 * n) (2) tk_lc7 rfl rfl rfl ?_
    refine pw_sci (k := 9 * n + 2) tk_lc7 rfl rfl (by omega) (by omega) ?_
    iterate 3 refine pw_go tk_lc7 rfl rfl ?_
    refine pw_addN (9 * n) (3) tk_lc7 rfl rfl rfl ?_
    refine pw_sci (k := 9 * n + 3) tk_lc7 rfl rfl (by omega) (by omega) ?_
    refine pw_br tk_lc7 rfl rfl (fun c => ?_) (fun c => ?_)
    · have c : xS G (9 * n + 3) = 0 := c
      refine pw_go tk_lc7 rfl rfl ?_
      refine pw_i (x' := bI (!decide ((xS G (9 * n + 3)) = 0))) (by rw [decide_eq_true c]; rfl) ?_
      exact kB _ ⟨rfl, rfl, rfl, rfl, rfl, rfl, rfl, trivial⟩
    · have c : ¬ xS G (9 * n + 3) = 0 := c
      iterate 2 refine pw_go tk_lc7 rfl rfl ?_
      refine pw_i (x' := bI (!decide ((xS G (9 * n + 3)) = 0))) (by rw [decide_eq_false c]; rfl) ?_
      exact kB _ ⟨rfl, rfl, rfl, rfl, rfl, rfl, rfl, trivial⟩
  refine pw_go tk_lc7 rfl rfl ?_
  iterate 3 refine pw_go tk_lc7 rfl rfl ?_
  refine pw_addN (9 * n) (1) tk_lc7 rfl rfl rfl ?_
  refine pw_sci (k := 9 * n + 1) tk_lc7 rfl rfl (by omega) (by omega) ?_
  iterate 3 refine pw_go tk_lc7 rfl rfl ?_
  refine pw_addN (9 * n) (2) tk_lc7 rfl rfl rfl ?_
  refine pw_sci (k := 9 * n + 2) tk_lc7 rfl rfl (by omega) (by omega) ?_
  iterate 3 refine pw_go tk_lc7 rfl rfl ?_
  refine pw_addN (9 * n) (3) tk_lc7 rfl rfl rfl ?_
  refine pw_sci (k := 9 * n + 3) tk_lc7 rfl rfl (by omega) (by omega) ?_
  refine pw_br tk_lc7 rfl rfl (fun c => ?_) (fun c => ?_)
  · have c : xS G (9 * n + 3) = 0 := c
    refine pw_go tk_lc7 rfl rfl ?_
    refine pw_i (x' := bI (!decide ((xS G (9 * n + 3)) = 0))) (by rw [decide_eq_true c]; rfl) ?_
    exact kA _ ⟨rfl, rfl, rfl, rfl, rfl, rfl, trivial⟩
  · have c : ¬ xS G (9 * n + 3) = 0 := c
    iterate 2 refine pw_go tk_lc7 rfl rfl ?_
    refine pw_i (x' := bI (!decide ((xS G (9 * n + 3)) = 0))) (by rw [decide_eq_false c]; rfl) ?_
    exact kA _ ⟨rfl, rfl, rfl, rfl, rfl, rfl, trivial⟩
def tb_lc8 : List fw_R := [(870, .aload_n 1, 871, 1, 0), (871, .aload_n 0, 872, 0, 0), (872, .iload 5, 874, 5, 0), (874, .iconst 1, 875, 0, 1), (875, .iadd, 876, 0, 0), (876, .iaload, 877, 0, 0), (877, .aload_n 0, 878, 0, 0), (878, .iload 5, 880, 5, 0), (880, .iconst 2, 881, 0, 2), (881, .iadd, 882, 0, 0), (882, .iaload, 883, 0, 0), (883, .aload_n 3, 884, 3, 0), (884, .invokestatic 161, 887, 0, 0), (887, .istore 6, 889, 6, 0), (889, .aload_n 2, 890, 2, 0), (890, .aload_n 0, 891, 0, 0), (891, .iload 5, 893, 5, 0), (893, .iconst 1, 894, 0, 1), (894, .iadd, 895, 0, 0), (895, .iaload, 896, 0, 0), (896, .aload_n 0, 897, 0, 0), (897, .iload 5, 899, 5, 0), (899, .iconst 2, 900, 0, 2), (900, .iadd, 901, 0, 0), (901, .iaload, 902, 0, 0), (902, .invokevirtual 164, 905, 0, 0), (905, .istore 7, 907, 7, 0), (907, .aload_n 2, 908, 2, 0), (908, .invokevirtual 131, 911, 0, 0), (911, .iload 6, 913, 6, 0), (913, .if_icmp .eq 5, 916, 918, 0), (916, .iconst 0, 917, 0, 0), (917, .ireturn, 918, 0, 0), (918, .iload 6, 920, 6, 0), (920, .ifCond .ne 15, 923, 935, 0), (923, .aload_n 3, 924, 3, 0), (924, .iconst 0, 925, 0, 0), (925, .laload, 926, 0, 0), (926, .iload 7, 928, 7, 0), (928, .i2l, 929, 0, 0), (929, .lcmp, 930, 0, 0), (930, .ifCond .eq 5, 933, 935, 0), (933, .iconst 0, 934, 0, 0), (934, .ireturn, 935, 0, 0), (935, .goto 1431, 938, 2366, 0)]
theorem tk_lc8 : fw_tok mm_L_law_ tb_lc8 := by unfold fw_tok; decide +kernel
set_option maxRecDepth 20000 in
theorem lc_8 {kc ks : Nat} (hl : G.1.stackTraces = false) (hn : n ≤ 600) (L : LI G n D A M) (hs : 9 * n + 9 ≤ nS G) (hb : nS G ≤ 4608) (hE : ∀ D2 A2 M2, LI G (n + 1) D2 A2 M2 → adk A A2 → D2 99 0 8 = D 99 0 8 → PW G mm_L_law_ Q 11 kc ks (hp M2 A2 D2) 2366 (lwF G A n) []) : PW G mm_L_law_ Q 11 (kc + 210) (ks + 2500) (hp M A D) 870 (lwF G A n) [] := by
  obtain ⟨K, hK⟩ : ∃ K, K = acK D (xS G (9 * n + 1)) (xS G (9 * n + 2)) := ⟨_, rfl⟩
  have hK9 : K < 10 := by rw [hK]; exact (by unfold acK; (repeat' split) <;> omega)
  refine pw_go tk_lc8 rfl rfl ?_
  iterate 3 refine pw_go tk_lc8 rfl rfl ?_
  refine pw_addN (9 * n) (1) tk_lc8 rfl rfl rfl ?_
  refine pw_sci (k := 9 * n + 1) tk_lc8 rfl rfl (by omega) (by omega) ?_
  iterate 3 refine pw_go tk_lc8 rfl rfl ?_
  refine pw_addN (9 * n) (2) tk_lc8 rfl rfl rfl ?_
  refine pw_sci (k := 9 * n + 2) tk_lc8 rfl rfl (by omega) (by omega) ?_
  refine pw_go tk_lc8 rfl rfl ?_
  refine pw_csH tk_lc8 rfl ca_L_activate lk_L_161 sx_L_activate (As := [.ref (A 0 0), .int (xS G (9 * n + 1)), .int (xS G (9 * n + 2)), .ref (A 70 0)]) (rest := []) (kc' := kc + 207) (ks' := ks + 2482) (wx_activate (x := (xS G (9 * n + 1))) (y := (xS G (9 * n + 2))) hl hn L) (fun _ _ z => z) rfl rfl rfl (Nat.le_of_ble_eq_true rfl) (show 3 + (kc + 207) ≤ kc + 210 by omega) (show 18 + (ks + 2482) ≤ ks + 2500 by omega) ?_
  rintro _ h1 ⟨r, rfl, hr, S1, D1, A1, M1, c0, c1, e1, m, ou⟩
  rw [e1, hr]
  rw [← hK] at c0 c1 ou ⊢
  have R := LM.rd L m
  have e30 : A1 30 0 = A 30 0 := m.2.2.2.2.1
  have rm := R.m
  have hm := m_activate (x := (xS G (9 * n + 1))) (y := (xS G (9 * n + 2))) R
  rw [e30] at rm hm
  rw [← hK] at hm
  iterate 2 refine pw_go tk_lc8 rfl rfl ?_
  iterate 3 refine pw_go tk_lc8 rfl rfl ?_
  refine pw_addN (9 * n) (1) tk_lc8 rfl rfl rfl ?_
  refine pw_sci (k := 9 * n + 1) tk_lc8 rfl rfl (by omega) (by omega) ?_
  iterate 3 refine pw_go tk_lc8 rfl rfl ?_
  refine pw_addN (9 * n) (2) tk_lc8 rfl rfl rfl ?_
  refine pw_sci (k := 9 * n + 2) tk_lc8 rfl rfl (by omega) (by omega) ?_
  refine pw_cv tk_lc8 rfl ca_X17_activate lk_L_164 iv_X17_activate sv_X17_activate rm rfl rfl (As := [.int (xS G (9 * n + 1)), .int (xS G (9 * n + 2))]) (rest := []) (kc' := kc) (ks' := ks) (hm) rfl rfl rfl (Nat.le_of_ble_eq_true rfl) (show 1 + kc ≤ kc + 207 by omega) (show 4 + ks ≤ ks + 2482 by omega) ?_ ?_
  skip
  · rintro _ h2 ⟨r2, rfl, w⟩
    have w1 : rdn S1 D1 A1 K h2 := by
      by_cases z : K = 0
      · rw [c0 z, z]
        exact (w.1 z).1
      · rw [c1 z]
        exact w.2 z
    have w2 := fun z => (w.1 z).2
    obtain ⟨D2, A2, M2, L2, s2, k2, o70, o71, ad, e8⟩ := LM.li L m w1
    have e8 : D2 99 0 8 = D 99 0 8 := by
      rw [e8]
      by_cases z : K = 0
      · rw [c0 z]
        exact (by unfold acS; rw [dp_k (by decide)])
      · rw [c1 z]
    refine pw_forget s2 ?_
    have f30 : A2 30 0 = A 30 0 := ad.2.1
    have rm2 := L2.rd.m
    have ht := n_thrown L2.rd
    rw [f30] at rm2 ht
    rw [k2] at ht
    iterate 2 refine pw_go tk_lc8 rfl rfl ?_
    refine pw_cvp tk_lc8 rfl ca_X17_thrown lk_L_131 iv_X17_thrown sv_X17_thrown rm2 rfl rfl (As := []) (rest := []) (ht) rfl rfl rfl rfl ?_
    refine pw_go tk_lc8 rfl rfl ?_
    refine pw_br tk_lc8 rfl rfl (fun _ => ?_) (fun c => absurd rfl c)
    refine pw_go tk_lc8 rfl rfl ?_
    refine pw_ifN (K) tk_lc8 rfl rfl (by omega) (fun c => ?_) (fun c => ?_)
    · skip
      refine pw_go tk_lc8 rfl rfl ?_
      exact pw_W (hE D2 A2 M2 L2 ad e8) ⟨rfl, rfl, rfl, rfl, rfl, rfl, trivial⟩
    · have z : K = 0 := Decidable.not_not.mp c
      have w3 := w2 z
      subst w3
      iterate 2 refine pw_go tk_lc8 rfl rfl ?_
      refine pw_laldN (k := 0) tk_lc8 rfl (L2.o70 ad) nI_0.symm (by decide) (by decide) ?_
      refine pw_l (x' := (nI (wtn (acS D (xS G (9 * n + 1)).toNatClampNeg (xS G (9 * n + 2)).toNatClampNeg) (wlS D (D 13 (xS G (9 * n + 1)).toNatClampNeg 1)))).toInt64) (by show (if 0 = 0 then lN (D2 70 0 0) else 0) = _; rw [if_pos rfl, congrFun (congrFun o70 0) 0, ou z]; exact lN_out _) ?_
      iterate 3 refine pw_go tk_lc8 rfl rfl ?_
      refine pw_br tk_lc8 rfl rfl (fun _ => ?_) (fun c => absurd lcmp_s c)
      refine pw_go tk_lc8 rfl rfl ?_
      exact pw_W (hE D2 A2 M2 L2 ad e8) ⟨rfl, rfl, rfl, rfl, rfl, rfl, trivial⟩
  · exact fun _ _ z => z.elim
end LC

