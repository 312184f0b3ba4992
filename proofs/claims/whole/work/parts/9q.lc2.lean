/-! THE LAW: its cases -/
section LC
variable {G : fw_G} {n : Nat} {D : fw_DB} {A : fw_AD} {M : fw_MP} {Q : fw_Q}
def tb_lc9 : List fw_R := [(938, .aload_n 1, 939, 1, 0), (939, .aload_n 0, 940, 0, 0), (940, .iload 5, 942, 5, 0), (942, .iconst 1, 943, 0, 1), (943, .iadd, 944, 0, 0), (944, .iaload, 945, 0, 0), (945, .aload_n 0, 946, 0, 0), (946, .iload 5, 948, 5, 0), (948, .iconst 2, 949, 0, 2), (949, .iadd, 950, 0, 0), (950, .iaload, 951, 0, 0), (951, .aload_n 0, 952, 0, 0), (952, .iload 5, 954, 5, 0), (954, .iconst 3, 955, 0, 3), (955, .iadd, 956, 0, 0), (956, .iaload, 957, 0, 0), (957, .aload_n 0, 958, 0, 0), (958, .iload 5, 960, 5, 0), (960, .iconst 4, 961, 0, 4), (961, .iadd, 962, 0, 0), (962, .iaload, 963, 0, 0), (963, .aload_n 3, 964, 3, 0), (964, .invokestatic 165, 967, 0, 0), (967, .istore 6, 969, 6, 0), (969, .aload_n 2, 970, 2, 0), (970, .aload_n 0, 971, 0, 0), (971, .iload 5, 973, 5, 0), (973, .iconst 1, 974, 0, 1), (974, .iadd, 975, 0, 0), (975, .iaload, 976, 0, 0), (976, .aload_n 0, 977, 0, 0), (977, .iload 5, 979, 5, 0), (979, .iconst 2, 980, 0, 2), (980, .iadd, 981, 0, 0), (981, .iaload, 982, 0, 0), (982, .aload_n 0, 983, 0, 0), (983, .iload 5, 985, 5, 0), (985, .iconst 3, 986, 0, 3), (986, .iadd, 987, 0, 0), (987, .iaload, 988, 0, 0), (988, .aload_n 0, 989, 0, 0), (989, .iload 5, 991, 5, 0), (991, .iconst 4, 992, 0, 4), (992, .iadd, 993, 0, 0), (993, .iaload, 994, 0, 0), (994, .invokevirtual 167, 997, 0, 0), (997, .istore 7, 999, 7, 0), (999, .aload_n 2, 1000, 2, 0), (1000, .invokevirtual 131, 1003, 0, 0), (1003, .iload 6, 1005, 6, 0), (1005, .if_icmp .eq 5, 1008, 1010, 0), (1008, .iconst 0, 1009, 0, 0), (1009, .ireturn, 1010, 0, 0), (1010, .iload 6, 1012, 6, 0), (1012, .ifCond .ne 15, 1015, 1027, 0), (1015, .aload_n 3, 1016, 3, 0), (1016, .iconst 0, 1017, 0, 0), (1017, .laload, 1018, 0, 0), (1018, .iload 7, 1020, 7, 0), (1020, .i2l, 1021, 0, 0), (1021, .lcmp, 1022, 0, 0), (1022, .ifCond .eq 5, 1025, 1027, 0), (1025, .iconst 0, 1026, 0, 0), (1026, .ireturn, 1027, 0, 0), (1027, .goto 1339, 1030, 2366, 0)]
theorem tk_lc9 : fw_tok mm_L_law_ tb_lc9 := by unfold fw_tok; decide +kernel
set_option maxRecDepth 20000 in
theorem lc_9 {kc ks : Nat} (hl : G.1.stackTraces = false) (hn : n ≤ 600) (L : LI G n D A M) (hs : 9 * n + 9 ≤ nS G) (hb : nS G ≤ 4608) (hE : ∀ D2 A2 M2, LI G (n + 1) D2 A2 M2 → adk A A2 → D2 99 0 8 = D 99 0 8 → PW G mm_L_law_ Q 11 kc ks (hp M2 A2 D2) 2366 (lwF G A n) []) : PW G mm_L_law_ Q 11 (kc + 210) (ks + 2500) (hp M A D) 938 (lwF G A n) [] := by
  obtain ⟨K, hK⟩ : ∃ K, K = pdK (D 99 0 13) (xS G (9 * n + 1)) (smI (xS G (9 * n + 2)) (xS G (9 * n + 3)) (xS G (9 * n + 4))) := ⟨_, rfl⟩
  have hK9 : K < 10 := by rw [hK]; exact (Nat.lt_trans pdlt (by decide))
  refine pw_go tk_lc9 rfl rfl ?_
  iterate 3 refine pw_go tk_lc9 rfl rfl ?_
  refine pw_addN (9 * n) (1) tk_lc9 rfl rfl rfl ?_
  refine pw_sci (k := 9 * n + 1) tk_lc9 rfl rfl (by omega) (by omega) ?_
  iterate 3 refine pw_go tk_lc9 rfl rfl ?_
  refine pw_addN (9 * n) (2) tk_lc9 rfl rfl rfl ?_
  refine pw_sci (k := 9 * n + 2) tk_lc9 rfl rfl (by omega) (by omega) ?_
  iterate 3 refine pw_go tk_lc9 rfl rfl ?_
  refine pw_addN (9 * n) (3) tk_lc9 rfl rfl rfl ?_
  refine pw_sci (k := 9 * n + 3) tk_lc9 rfl rfl (by omega) (by omega) ?_
  iterate 3 refine pw_go tk_lc9 rfl rfl ?_
  refine pw_addN (9 * n) (4) tk_lc9 rfl rfl rfl ?_
  refine pw_sci (k := 9 * n + 4) tk_lc9 rfl rfl (by omega) (by omega) ?_
  refine pw_go tk_lc9 rfl rfl ?_
  refine pw_csH tk_lc9 rfl ca_L_vary lk_L_165 sx_L_vary (As := [.ref (A 0 0), .int (xS G (9 * n + 1)), .int (xS G (9 * n + 2)), .int (xS G (9 * n + 3)), .int (xS G (9 * n + 4)), .ref (A 70 0)]) (rest := []) (kc' := kc + 204) (ks' := ks + 2467) (wx_vary (x := (xS G (9 * n + 1))) (y := (xS G (9 * n + 2))) (z := (xS G (9 * n + 3))) (u := (xS G (9 * n + 4))) hl L) (fun _ _ z => z) rfl rfl rfl (Nat.le_of_ble_eq_true rfl) (show 6 + (kc + 204) ≤ kc + 210 by omega) (show 33 + (ks + 2467) ≤ ks + 2500 by omega) ?_
  rintro _ h1 ⟨r, rfl, hr, S1, D1, A1, M1, c0, c1, e1, m, ou⟩
  rw [e1, hr]
  rw [← hK] at c0 c1 ou ⊢
  have R := LM.rd L m
  have e30 : A1 30 0 = A 30 0 := m.2.2.2.2.1
  have rm := R.m
  have hm := m_vary (x := (xS G (9 * n + 1))) (y := (xS G (9 * n + 2))) (z := (xS G (9 * n + 3))) (u := (xS G (9 * n + 4))) R
  rw [e30] at rm hm
  rw [← hK] at hm
  iterate 2 refine pw_go tk_lc9 rfl rfl ?_
  iterate 3 refine pw_go tk_lc9 rfl rfl ?_
  refine pw_addN (9 * n) (1) tk_lc9 rfl rfl rfl ?_
  refine pw_sci (k := 9 * n + 1) tk_lc9 rfl rfl (by omega) (by omega) ?_
  iterate 3 refine pw_go tk_lc9 rfl rfl ?_
  refine pw_addN (9 * n) (2) tk_lc9 rfl rfl rfl ?_
  refine pw_sci (k := 9 * n + 2) tk_lc9 rfl rfl (by omega) (by omega) ?_
  iterate 3 refine pw_go tk_lc9 rfl rfl ?_
  refine pw_addN (9 * n) (3) tk_lc9 rfl rfl rfl ?_
  refine pw_sci (k := 9 * n + 3) tk_lc9 rfl rfl (by omega) (by omega) ?_
  iterate 3 refine pw_go tk_lc9 rfl rfl ?_
  refine pw_addN (9 * n) (4) tk_lc9 rfl rfl rfl ?_
  refine pw_sci (k := 9 * n + 4) tk_lc9 rfl rfl (by omega) (by omega) ?_
  refine pw_cv tk_lc9 rfl ca_X17_vary lk_L_167 iv_X17_vary sv_X17_vary rm rfl rfl (As := [.int (xS G (9 * n + 1)), .int (xS G (9 * n + 2)), .int (xS G (9 * n + 3)), .int (xS G (9 * n + 4))]) (rest := []) (kc' := kc) (ks' := ks) (hm) rfl rfl rfl (Nat.le_of_ble_eq_true rfl) (show 0 + kc ≤ kc + 204 by omega) (show 0 + ks ≤ ks + 2467 by omega) ?_ ?_
  skip
  · rintro _ h2 ⟨r2, rfl, w⟩
    have w1 : rdn S1 D1 A1 K h2 := by
      by_cases z : K = 0
      · rw [c0 z, z]
        exact (w.1 z).1
      · rw [c1 z]
        exact w.2 z
    have w2 := fun z => (w.1 z).2
    obtain ⟨D2, A2, M2, L2, s2, k2, o70, o71, ad, e8⟩ := LM.li L m w1
    have e8 : D2 99 0 8 = D 99 0 8 := by
      rw [e8]
      by_cases z : K = 0
      · rw [c0 z]
        exact (by unfold vaS; rw [dp_k (by decide)])
      · rw [c1 z]
    refine pw_forget s2 ?_
    have f30 : A2 30 0 = A 30 0 := ad.2.1
    have rm2 := L2.rd.m
    have ht := n_thrown L2.rd
    rw [f30] at rm2 ht
    rw [k2] at ht
    iterate 2 refine pw_go tk_lc9 rfl rfl ?_
    refine pw_cvp tk_lc9 rfl ca_X17_thrown lk_L_131 iv_X17_thrown sv_X17_thrown rm2 rfl rfl (As := []) (rest := []) (ht) rfl rfl rfl rfl ?_
    refine pw_go tk_lc9 rfl rfl ?_
    refine pw_br tk_lc9 rfl rfl (fun _ => ?_) (fun c => absurd rfl c)
    refine pw_go tk_lc9 rfl rfl ?_
    refine pw_ifN (K) tk_lc9 rfl rfl (by omega) (fun c => ?_) (fun c => ?_)
    · skip
      refine pw_go tk_lc9 rfl rfl ?_
      exact pw_W (hE D2 A2 M2 L2 ad e8) ⟨rfl, rfl, rfl, rfl, rfl, rfl, trivial⟩
    · have z : K = 0 := Decidable.not_not.mp c
      have w3 := w2 z
      subst w3
      iterate 2 refine pw_go tk_lc9 rfl rfl ?_
      refine pw_laldN (k := 0) tk_lc9 rfl (L2.o70 ad) nI_0.symm (by decide) (by decide) ?_
      refine pw_l (x' := (nI (sp_len (D 13 (xS G (9 * n + 1)).toNatClampNeg 4) (xS G (9 * n + 2)).toNatClampNeg (xS G (9 * n + 3)).toNatClampNeg (xS G (9 * n + 4)).toNatClampNeg)).toInt64) (by show (if 0 = 0 then lN (D2 70 0 0) else 0) = _; rw [if_pos rfl, congrFun (congrFun o70 0) 0, ou z]; exact lN_out _) ?_
      iterate 3 refine pw_go tk_lc9 rfl rfl ?_
      refine pw_br tk_lc9 rfl rfl (fun _ => ?_) (fun c => absurd lcmp_s c)
      refine pw_go tk_lc9 rfl rfl ?_
      exact pw_W (hE D2 A2 M2 L2 ad e8) ⟨rfl, rfl, rfl, rfl, rfl, rfl, trivial⟩
  · exact fun _ _ z => z.elim
def tb_lc10 : List fw_R := [(1030, .aload_n 1, 1031, 1, 0), (1031, .aload_n 0, 1032, 0, 0), (1032, .iload 5, 1034, 5, 0), (1034, .iconst 1, 1035, 0, 1), (1035, .iadd, 1036, 0, 0), (1036, .iaload, 1037, 0, 0), (1037, .aload_n 3, 1038, 3, 0), (1038, .invokestatic 168, 1041, 0, 0), (1041, .istore 6, 1043, 6, 0), (1043, .aload_n 2, 1044, 2, 0), (1044, .aload_n 0, 1045, 0, 0), (1045, .iload 5, 1047, 5, 0), (1047, .iconst 1, 1048, 0, 1), (1048, .iadd, 1049, 0, 0), (1049, .iaload, 1050, 0, 0), (1050, .invokevirtual 170, 1053, 0, 0), (1053, .istore 7, 1055, 7, 0), (1055, .aload_n 2, 1056, 2, 0), (1056, .invokevirtual 131, 1059, 0, 0), (1059, .iload 6, 1061, 6, 0), (1061, .if_icmp .eq 5, 1064, 1066, 0), (1064, .iconst 0, 1065, 0, 0), (1065, .ireturn, 1066, 0, 0), (1066, .iload 6, 1068, 6, 0), (1068, .ifCond .ne 22, 1071, 1090, 0), (1071, .aload_n 3, 1072, 3, 0), (1072, .iconst 0, 1073, 0, 0), (1073, .laload, 1074, 0, 0), (1074, .iload 7, 1076, 7, 0), (1076, .ifCond .eq 7, 1079, 1083, 0), (1079, .lconst 1, 1080, 0, 0), (1080, .goto 4, 1083, 1084, 0), (1083, .lconst 0, 1084, 0, 0), (1084, .lcmp, 1085, 0, 0), (1085, .ifCond .eq 5, 1088, 1090, 0), (1088, .iconst 0, 1089, 0, 0), (1089, .ireturn, 1090, 0, 0), (1090, .goto 1276, 1093, 2366, 0)]
theorem tk_lc10 : fw_tok mm_L_law_ tb_lc10 := by unfold fw_tok; decide +kernel
set_option maxRecDepth 20000 in
theorem lc_10 {kc ks : Nat} (hl : G.1.stackTraces = false) (hn : n ≤ 600) (L : LI G n D A M) (hs : 9 * n + 9 ≤ nS G) (hb : nS G ≤ 4608) (hE : ∀ D2 A2 M2, LI G (n + 1) D2 A2 M2 → adk A A2 → D2 99 0 8 = D 99 0 8 → PW G mm_L_law_ Q 11 kc ks (hp M2 A2 D2) 2366 (lwF G A n) []) : PW G mm_L_law_ Q 11 (kc + 210) (ks + 2500) (hp M A D) 1030 (lwF G A n) [] := by
  obtain ⟨K, hK⟩ : ∃ K, K = quK D (xS G (9 * n + 1)) := ⟨_, rfl⟩
  have hK9 : K < 10 := by rw [hK]; exact (by unfold quK; (repeat' split) <;> omega)
  refine pw_go tk_lc10 rfl rfl ?_
  iterate 3 refine pw_go tk_lc10 rfl rfl ?_
  refine pw_addN (9 * n) (1) tk_lc10 rfl rfl rfl ?_
  refine pw_sci (k := 9 * n + 1) tk_lc10 rfl rfl (by omega) (by omega) ?_
  refine pw_go tk_lc10 rfl rfl ?_
  refine pw_csH tk_lc10 rfl ca_L_quash lk_L_168 sx_L_quash (As := [.ref (A 0 0), .int (xS G (9 * n + 1)), .ref (A 70 0)]) (rest := []) (kc' := kc + 209) (ks' := ks + 2494) (wx_quash (x := (xS G (9 * n + 1))) hl hn L) (fun _ _ z => z) rfl rfl rfl (Nat.le_of_ble_eq_true rfl) (show 1 + (kc + 209) ≤ kc + 210 by omega) (show 6 + (ks + 2494) ≤ ks + 2500 by omega) ?_
  rintro _ h1 ⟨r, rfl, hr, S1, D1, A1, M1, c0, c1, e1, m, ou⟩
  rw [e1, hr]
  rw [← hK] at c0 c1 ou ⊢
  have R := LM.rd L m
  have e30 : A1 30 0 = A 30 0 := m.2.2.2.2.1
  have rm := R.m
  have hm := m_quash (x := (xS G (9 * n + 1))) R
  rw [e30] at rm hm
  rw [← hK] at hm
  iterate 2 refine pw_go tk_lc10 rfl rfl ?_
  iterate 3 refine pw_go tk_lc10 rfl rfl ?_
  refine pw_addN (9 * n) (1) tk_lc10 rfl rfl rfl ?_
  refine pw_sci (k := 9 * n + 1) tk_lc10 rfl rfl (by omega) (by omega) ?_
  refine pw_cv tk_lc10 rfl ca_X17_quash lk_L_170 iv_X17_quash sv_X17_quash rm rfl rfl (As := [.int (xS G (9 * n + 1))]) (rest := []) (kc' := kc) (ks' := ks) (hm) rfl rfl rfl (Nat.le_of_ble_eq_true rfl) (show 0 + kc ≤ kc + 209 by omega) (show 0 + ks ≤ ks + 2494 by omega) ?_ ?_
  skip
  · rintro _ h2 ⟨r2, rfl, w, -⟩
    have w1 : rdn S1 D1 A1 K h2 := by
      by_cases z : K = 0
      · rw [c0 z, z]
        exact (w.1 z).1
      · rw [c1 z]
        exact w.2 z
    have w2 := fun z => (w.1 z).2
    obtain ⟨D2, A2, M2, L2, s2, k2, o70, o71, ad, e8⟩ := LM.li L m w1
    have e8 : D2 99 0 8 = D 99 0 8 := by
      rw [e8]
      by_cases z : K = 0
      · rw [c0 z]
        exact (by unfold quS; rw [dp_k (by decide)])
      · rw [c1 z]
    refine pw_forget s2 ?_
    have f30 : A2 30 0 = A 30 0 := ad.2.1
    have rm2 := L2.rd.m
    have ht := n_thrown L2.rd
    rw [f30] at rm2 ht
    rw [k2] at ht
    iterate 2 refine pw_go tk_lc10 rfl rfl ?_
    refine pw_cvp tk_lc10 rfl ca_X17_thrown lk_L_131 iv_X17_thrown sv_X17_thrown rm2 rfl rfl (As := []) (rest := []) (ht) rfl rfl rfl rfl ?_
    refine pw_go tk_lc10 rfl rfl ?_
    refine pw_br tk_lc10 rfl rfl (fun _ => ?_) (fun c => absurd rfl c)
    refine pw_go tk_lc10 rfl rfl ?_
    refine pw_ifN (K) tk_lc10 rfl rfl (by omega) (fun c => ?_) (fun c => ?_)
    · skip
      refine pw_go tk_lc10 rfl rfl ?_
      exact pw_W (hE D2 A2 M2 L2 ad e8) ⟨rfl, rfl, rfl, rfl, rfl, rfl, trivial⟩
    · have z : K = 0 := Decidable.not_not.mp c
      have w3 := w2 z
      subst w3
      iterate 2 refine pw_go tk_lc10 rfl rfl ?_
      refine pw_laldN (k := 0) tk_lc10 rfl (L2.o70 ad) nI_0.symm (by decide) (by decide) ?_
      refine pw_l (x' := (if (!decide (0 < D 13 (xS G (9 * n + 1)).toNatClampNeg 13)) = true then (1 : Int64) else 0)) (by show (if 0 = 0 then lN (D2 70 0 0) else 0) = _; rw [if_pos rfl, congrFun (congrFun o70 0) 0, ou z]; exact lN_out _) ?_
      refine pw_go tk_lc10 rfl rfl ?_
      refine pw_ifeqB (b := !decide (0 < D 13 (xS G (9 * n + 1)).toNatClampNeg 13)) tk_lc10 rfl (fun b => ?_) (fun b => ?_)
      · rw [b]
        iterate 2 refine pw_go tk_lc10 rfl rfl ?_
        refine pw_br tk_lc10 rfl rfl (fun _ => ?_) (fun c => absurd lcmp_s c)
        refine pw_go tk_lc10 rfl rfl ?_
        exact pw_W (hE D2 A2 M2 L2 ad e8) ⟨rfl, rfl, rfl, rfl, rfl, rfl, trivial⟩
      · rw [b]
        iterate 3 refine pw_go tk_lc10 rfl rfl ?_
        refine pw_br tk_lc10 rfl rfl (fun _ => ?_) (fun c => absurd lcmp_s c)
        refine pw_go tk_lc10 rfl rfl ?_
        exact pw_W (hE D2 A2 M2 L2 ad e8) ⟨rfl, rfl, rfl, rfl, rfl, rfl, trivial⟩
  · exact fun _ _ z => z.elim
def tb_lc11 : List fw_R := [(1093, .aload_n 1, 1094, 1, 0), (1094, .aload_n 0, 1095, 0, 0), (1095, .iload 5, 1097, 5, 0), (1097, .iconst 1, 1098, 0, 1), (1098, .iadd, 1099, 0, 0), (1099, .iaload, 1100, 0, 0), (1100, .aload_n 0, 1101, 0, 0), (1101, .iload 5, 1103, 5, 0), (1103, .iconst 2, 1104, 0, 2), (1104, .iadd, 1105, 0, 0), (1105, .iaload, 1106, 0, 0), (1106, .aload_n 3, 1107, 3, 0), (1107, .invokestatic 171, 1110, 0, 0), (1110, .istore 6, 1112, 6, 0), (1112, .aload_n 2, 1113, 2, 0), (1113, .aload_n 0, 1114, 0, 0), (1114, .iload 5, 1116, 5, 0), (1116, .iconst 1, 1117, 0, 1), (1117, .iadd, 1118, 0, 0), (1118, .iaload, 1119, 0, 0), (1119, .aload_n 0, 1120, 0, 0), (1120, .iload 5, 1122, 5, 0), (1122, .iconst 2, 1123, 0, 2), (1123, .iadd, 1124, 0, 0), (1124, .iaload, 1125, 0, 0), (1125, .invokevirtual 173, 1128, 0, 0), (1128, .istore 7, 1130, 7, 0), (1130, .aload_n 2, 1131, 2, 0), (1131, .invokevirtual 131, 1134, 0, 0), (1134, .iload 6, 1136, 6, 0), (1136, .if_icmp .eq 5, 1139, 1141, 0), (1139, .iconst 0, 1140, 0, 0), (1140, .ireturn, 1141, 0, 0), (1141, .iload 6, 1143, 6, 0), (1143, .ifCond .ne 15, 1146, 1158, 0), (1146, .aload_n 3, 1147, 3, 0), (1147, .iconst 0, 1148, 0, 0), (1148, .laload, 1149, 0, 0), (1149, .iload 7, 1151, 7, 0), (1151, .i2l, 1152, 0, 0), (1152, .lcmp, 1153, 0, 0), (1153, .ifCond .eq 5, 1156, 1158, 0), (1156, .iconst 0, 1157, 0, 0), (1157, .ireturn, 1158, 0, 0), (1158, .goto 1208, 1161, 2366, 0)]
theorem tk_lc11 : fw_tok mm_L_law_ tb_lc11 := by unfold fw_tok; decide +kernel
set_option maxRecDepth 20000 in
theorem lc_11 {kc ks : Nat} (hl : G.1.stackTraces = false) (hn : n ≤ 600) (L : LI G n D A M) (hs : 9 * n + 9 ≤ nS G) (hb : nS G ≤ 4608) (hE : ∀ D2 A2 M2, LI G (n + 1) D2 A2 M2 → adk A A2 → D2 99 0 8 = D 99 0 8 → PW G mm_L_law_ Q 11 kc ks (hp M2 A2 D2) 2366 (lwF G A n) []) : PW G mm_L_law_ Q 11 (kc + 210) (ks + 2500) (hp M A D) 1093 (lwF G A n) [] := by
  obtain ⟨K, hK⟩ : ∃ K, K = pdK (D 99 0 13) (xS G (9 * n + 1)) (inI (xS G (9 * n + 2)) 0 (nI 19999)) := ⟨_, rfl⟩
  have hK9 : K < 10 := by rw [hK]; exact (Nat.lt_trans pdlt (by decide))
  refine pw_go tk_lc11 rfl rfl ?_
  iterate 3 refine pw_go tk_lc11 rfl rfl ?_
  refine pw_addN (9 * n) (1) tk_lc11 rfl rfl rfl ?_
  refine pw_sci (k := 9 * n + 1) tk_lc11 rfl rfl (by omega) (by omega) ?_
  iterate 3 refine pw_go tk_lc11 rfl rfl ?_
  refine pw_addN (9 * n) (2) tk_lc11 rfl rfl rfl ?_
  refine pw_sci (k := 9 * n + 2) tk_lc11 rfl rfl (by omega) (by omega) ?_
  refine pw_go tk_lc11 rfl rfl ?_
  refine pw_csH tk_lc11 rfl ca_L_approve lk_L_171 sx_L_approve (As := [.ref (A 0 0), .int (xS G (9 * n + 1)), .int (xS G (9 * n + 2)), .ref (A 70 0)]) (rest := []) (kc' := kc + 208) (ks' := ks + 2488) (wx_approve (x := (xS G (9 * n + 1))) (y := (xS G (9 * n + 2))) hl hn L) (fun _ _ z => z) rfl rfl rfl (Nat.le_of_ble_eq_true rfl) (show 2 + (kc + 208) ≤ kc + 210 by omega) (show 12 + (ks + 2488) ≤ ks + 2500 by omega) ?_
  rintro _ h1 ⟨r, rfl, hr, S1, D1, A1, M1, c0, c1, e1, m, ou⟩
  rw [e1, hr]
  rw [← hK] at c0 c1 ou ⊢
  have R := LM.rd L m
  have e30 : A1 30 0 = A 30 0 := m.2.2.2.2.1
  have rm := R.m
  have hm := m_approve (x := (xS G (9 * n + 1))) (y := (xS G (9 * n + 2))) R
  rw [e30] at rm hm
  rw [← hK] at hm
  iterate 2 refine pw_go tk_lc11 rfl rfl ?_
  iterate 3 refine pw_go tk_lc11 rfl rfl ?_
  refine pw_addN (9 * n) (1) tk_lc11 rfl rfl rfl ?_
  refine pw_sci (k := 9 * n + 1) tk_lc11 rfl rfl (by omega) (by omega) ?_
  iterate 3 refine pw_go tk_lc11 rfl rfl ?_
  refine pw_addN (9 * n) (2) tk_lc11 rfl rfl rfl ?_
  refine pw_sci (k := 9 * n + 2) tk_lc11 rfl rfl (by omega) (by omega) ?_
  refine pw_cv tk_lc11 rfl ca_X17_approve lk_L_173 iv_X17_approve sv_X17_approve rm rfl rfl (As := [.int (xS G (9 * n + 1)), .int (xS G (9 * n + 2))]) (rest := []) (kc' := kc) (ks' := ks) (hm) rfl rfl rfl (Nat.le_of_ble_eq_true rfl) (show 0 + kc ≤ kc + 208 by omega) (show 0 + ks ≤ ks + 2488 by omega) ?_ ?_
  skip
  · rintro _ h2 ⟨r2, rfl, w⟩
    have w1 : rdn S1 D1 A1 K h2 := by
      by_cases z : K = 0
      · rw [c0 z, z]
        exact (w.1 z).1
      · rw [c1 z]
        exact w.2 z
    have w2 := fun z => (w.1 z).2
    obtain ⟨D2, A2, M2, L2, s2, k2, o70, o71, ad, e8⟩ := LM.li L m w1
    have e8 : D2 99 0 8 = D 99 0 8 := by
      rw [e8]
      by_cases z : K = 0
      · rw [c0 z]
        exact (by unfold apS; rw [dp_k (by decide)])
      · rw [c1 z]
    refine pw_forget s2 ?_
    have f30 : A2 30 0 = A 30 0 := ad.2.1
    have rm2 := L2.rd.m
    have ht := n_thrown L2.rd
    rw [f30] at rm2 ht
    rw [k2] at ht
    iterate 2 refine pw_go tk_lc11 rfl rfl ?_
    refine pw_cvp tk_lc11 rfl ca_X17_thrown lk_L_131 iv_X17_thrown sv_X17_thrown rm2 rfl rfl (As := []) (rest := []) (ht) rfl rfl rfl rfl ?_
    refine pw_go tk_lc11 rfl rfl ?_
    refine pw_br tk_lc11 rfl rfl (fun _ => ?_) (fun c => absurd rfl c)
    refine pw_go tk_lc11 rfl rfl ?_
    refine pw_ifN (K) tk_lc11 rfl rfl (by omega) (fun c => ?_) (fun c => ?_)
    · skip
      refine pw_go tk_lc11 rfl rfl ?_
      exact pw_W (hE D2 A2 M2 L2 ad e8) ⟨rfl, rfl, rfl, rfl, rfl, rfl, trivial⟩
    · have z : K = 0 := Decidable.not_not.mp c
      have w3 := w2 z
      subst w3
      iterate 2 refine pw_go tk_lc11 rfl rfl ?_
      refine pw_laldN (k := 0) tk_lc11 rfl (L2.o70 ad) nI_0.symm (by decide) (by decide) ?_
      refine pw_l (x' := (nP (D 13 (xS G (9 * n + 1)).toNatClampNeg 10)).toInt64) (by show (if 0 = 0 then lN (D2 70 0 0) else 0) = _; rw [if_pos rfl, congrFun (congrFun o70 0) 0, ou z]; exact lN_out _) ?_
      iterate 3 refine pw_go tk_lc11 rfl rfl ?_
      refine pw_br tk_lc11 rfl rfl (fun _ => ?_) (fun c => absurd lcmp_s c)
      refine pw_go tk_lc11 rfl rfl ?_
      exact pw_W (hE D2 A2 M2 L2 ad e8) ⟨rfl, rfl, rfl, rfl, rfl, rfl, trivial⟩
  · exact fun _ _ z => z.elim
def tb_lc12 : List fw_R := [(1161, .aload_n 1, 1162, 1, 0), (1162, .aload_n 0, 1163, 0, 0), (1163, .iload 5, 1165, 5, 0), (1165, .iconst 1, 1166, 0, 1), (1166, .iadd, 1167, 0, 0), (1167, .iaload, 1168, 0, 0), (1168, .aload_n 0, 1169, 0, 0), (1169, .iload 5, 1171, 5, 0), (1171, .iconst 2, 1172, 0, 2), (1172, .iadd, 1173, 0, 0), (1173, .iaload, 1174, 0, 0), (1174, .aload_n 0, 1175, 0, 0), (1175, .iload 5, 1177, 5, 0), (1177, .iconst 3, 1178, 0, 3), (1178, .iadd, 1179, 0, 0), (1179, .iaload, 1180, 0, 0), (1180, .aload_n 3, 1181, 3, 0), (1181, .invokestatic 174, 1184, 0, 0), (1184, .istore 6, 1186, 6, 0), (1186, .aload_n 2, 1187, 2, 0), (1187, .aload_n 0, 1188, 0, 0), (1188, .iload 5, 1190, 5, 0), (1190, .iconst 1, 1191, 0, 1), (1191, .iadd, 1192, 0, 0), (1192, .iaload, 1193, 0, 0), (1193, .aload_n 0, 1194, 0, 0), (1194, .iload 5, 1196, 5, 0), (1196, .iconst 2, 1197, 0, 2), (1197, .iadd, 1198, 0, 0), (1198, .iaload, 1199, 0, 0), (1199, .aload_n 0, 1200, 0, 0), (1200, .iload 5, 1202, 5, 0), (1202, .iconst 3, 1203, 0, 3), (1203, .iadd, 1204, 0, 0), (1204, .iaload, 1205, 0, 0), (1205, .invokevirtual 176, 1208, 0, 0), (1208, .istore 7, 1210, 7, 0), (1210, .aload_n 2, 1211, 2, 0), (1211, .invokevirtual 131, 1214, 0, 0), (1214, .iload 6, 1216, 6, 0), (1216, .if_icmp .eq 5, 1219, 1221, 0), (1219, .iconst 0, 1220, 0, 0), (1220, .ireturn, 1221, 0, 0), (1221, .iload 6, 1223, 6, 0), (1223, .ifCond .ne 15, 1226, 1238, 0), (1226, .aload_n 3, 1227, 3, 0), (1227, .iconst 0, 1228, 0, 0), (1228, .laload, 1229, 0, 0), (1229, .iload 7, 1231, 7, 0), (1231, .i2l, 1232, 0, 0), (1232, .lcmp, 1233, 0, 0), (1233, .ifCond .eq 5, 1236, 1238, 0), (1236, .iconst 0, 1237, 0, 0), (1237, .ireturn, 1238, 0, 0), (1238, .goto 1128, 1241, 2366, 0)]
theorem tk_lc12 : fw_tok mm_L_law_ tb_lc12 := by unfold fw_tok; decide +kernel
set_option maxRecDepth 20000 in
theorem lc_12 {kc ks : Nat} (hl : G.1.stackTraces = false) (hn : n ≤ 600) (L : LI G n D A M) (hs : 9 * n + 9 ≤ nS G) (hb : nS G ≤ 4608) (hE : ∀ D2 A2 M2, LI G (n + 1) D2 A2 M2 → adk A A2 → D2 99 0 8 = D 99 0 8 → PW G mm_L_law_ Q 11 kc ks (hp M2 A2 D2) 2366 (lwF G A n) []) : PW G mm_L_law_ Q 11 (kc + 210) (ks + 2500) (hp M A D) 1161 (lwF G A n) [] := by
  obtain ⟨K, hK⟩ : ∃ K, K = adK D (xS G (9 * n + 1)) (xS G (9 * n + 2)) (xS G (9 * n + 3)) := ⟨_, rfl⟩
  have hK9 : K < 10 := by rw [hK]; exact (by unfold adK pdK; (repeat' split) <;> omega)
  refine pw_go tk_lc12 rfl rfl ?_
  iterate 3 refine pw_go tk_lc12 rfl rfl ?_
  refine pw_addN (9 * n) (1) tk_lc12 rfl rfl rfl ?_
  refine pw_sci (k := 9 * n + 1) tk_lc12 rfl rfl (by omega) (by omega) ?_
  iterate 3 refine pw_go tk_lc12 rfl rfl ?_
  refine pw_addN (9 * n) (2) tk_lc12 rfl rfl rfl ?_
  refine pw_sci (k := 9 * n + 2) tk_lc12 rfl rfl (by omega) (by omega) ?_
  iterate 3 refine pw_go tk_lc12 rfl rfl ?_
  refine pw_addN (9 * n) (3) tk_lc12 rfl rfl rfl ?_
  refine pw_sci (k := 9 * n + 3) tk_lc12 rfl rfl (by omega) (by omega) ?_
  refine pw_go tk_lc12 rfl rfl ?_
  refine pw_csH tk_lc12 rfl ca_L_add lk_L_174 sx_L_add (As := [.ref (A 0 0), .int (xS G (9 * n + 1)), .int (xS G (9 * n + 2)), .int (xS G (9 * n + 3)), .ref (A 70 0)]) (rest := []) (kc' := kc + 205) (ks' := ks + 2473) (wx_add (x := (xS G (9 * n + 1))) (y := (xS G (9 * n + 2))) (z := (xS G (9 * n + 3))) hl L) (fun _ _ z => z) rfl rfl rfl (Nat.le_of_ble_eq_true rfl) (show 5 + (kc + 205) ≤ kc + 210 by omega) (show 27 + (ks + 2473) ≤ ks + 2500 by omega) ?_
  rintro _ h1 ⟨r, rfl, hr, S1, D1, A1, M1, c0, c1, e1, m, ou⟩
  rw [e1, hr]
  rw [← hK] at c0 c1 ou ⊢
  have R := LM.rd L m
  have e30 : A1 30 0 = A 30 0 := m.2.2.2.2.1
  have rm := R.m
  have hm := m_add (x := (xS G (9 * n + 1))) (y := (xS G (9 * n + 2))) (z := (xS G (9 * n + 3))) R
  rw [e30] at rm hm
  rw [← hK] at hm
  iterate 2 refine pw_go tk_lc12 rfl rfl ?_
  iterate 3 refine pw_go tk_lc12 rfl rfl ?_
  refine pw_addN (9 * n) (1) tk_lc12 rfl rfl rfl ?_
  refine pw_sci (k := 9 * n + 1) tk_lc12 rfl rfl (by omega) (by omega) ?_
  iterate 3 refine pw_go tk_lc12 rfl rfl ?_
  refine pw_addN (9 * n) (2) tk_lc12 rfl rfl rfl ?_
  refine pw_sci (k := 9 * n + 2) tk_lc12 rfl rfl (by omega) (by omega) ?_
  iterate 3 refine pw_go tk_lc12 rfl rfl ?_
  refine pw_addN (9 * n) (3) tk_lc12 rfl rfl rfl ?_
  refine pw_sci (k := 9 * n + 3) tk_lc12 rfl rfl (by omega) (by omega) ?_
  refine pw_cv tk_lc12 rfl ca_X17_add lk_L_176 iv_X17_add sv_X17_add rm rfl rfl (As := [.int (xS G (9 * n + 1)), .int (xS G (9 * n + 2)), .int (xS G (9 * n + 3))]) (rest := []) (kc' := kc) (ks' := ks) (hm) rfl rfl rfl (Nat.le_of_ble_eq_true rfl) (show 2 + kc ≤ kc + 205 by omega) (show 51 + ks ≤ ks + 2473 by omega) ?_ ?_
  skip
  · rintro _ h2 ⟨r2, rfl, w⟩
    have w1 : rdn S1 D1 A1 K h2 := by
      by_cases z : K = 0
      · rw [c0 z, z]
        exact (w.1 z).1
      · rw [c1 z]
        exact w.2 z
    have w2 := fun z => (w.1 z).2
    obtain ⟨D2, A2, M2, L2, s2, k2, o70, o71, ad, e8⟩ := LM.li L m w1
    have e8 : D2 99 0 8 = D 99 0 8 := by
      rw [e8]
      by_cases z : K = 0
      · rw [c0 z]
        exact (by unfold adS; rw [dn_N, if_neg (by decide)])
      · rw [c1 z]
    refine pw_forget s2 ?_
    have f30 : A2 30 0 = A 30 0 := ad.2.1
    have rm2 := L2.rd.m
    have ht := n_thrown L2.rd
    rw [f30] at rm2 ht
    rw [k2] at ht
    iterate 2 refine pw_go tk_lc12 rfl rfl ?_
    refine pw_cvp tk_lc12 rfl ca_X17_thrown lk_L_131 iv_X17_thrown sv_X17_thrown rm2 rfl rfl (As := []) (rest := []) (ht) rfl rfl rfl rfl ?_
    refine pw_go tk_lc12 rfl rfl ?_
    refine pw_br tk_lc12 rfl rfl (fun _ => ?_) (fun c => absurd rfl c)
    refine pw_go tk_lc12 rfl rfl ?_
    refine pw_ifN (K) tk_lc12 rfl rfl (by omega) (fun c => ?_) (fun c => ?_)
    · skip
      refine pw_go tk_lc12 rfl rfl ?_
      exact pw_W (hE D2 A2 M2 L2 ad e8) ⟨rfl, rfl, rfl, rfl, rfl, rfl, trivial⟩
    · have z : K = 0 := Decidable.not_not.mp c
      have w3 := w2 z
      subst w3
      iterate 2 refine pw_go tk_lc12 rfl rfl ?_
      refine pw_laldN (k := 0) tk_lc12 rfl (L2.o70 ad) nI_0.symm (by decide) (by decide) ?_
      refine pw_l (x' := (nI (D 99 0 16)).toInt64) (by show (if 0 = 0 then lN (D2 70 0 0) else 0) = _; rw [if_pos rfl, congrFun (congrFun o70 0) 0, ou z]; exact lN_out _) ?_
      iterate 3 refine pw_go tk_lc12 rfl rfl ?_
      refine pw_br tk_lc12 rfl rfl (fun _ => ?_) (fun c => absurd lcmp_s c)
      refine pw_go tk_lc12 rfl rfl ?_
      exact pw_W (hE D2 A2 M2 L2 ad e8) ⟨rfl, rfl, rfl, rfl, rfl, rfl, trivial⟩
  · exact fun _ _ z => z.elim
def tb_lc13 : List fw_R := [(1241, .aload_n 1, 1242, 1, 0), (1242, .aload_n 0, 1243, 0, 0), (1243, .iload 5, 1245, 5, 0), (1245, .iconst 1, 1246, 0, 1), (1246, .iadd, 1247, 0, 0), (1247, .iaload, 1248, 0, 0), (1248, .aload_n 0, 1249, 0, 0), (1249, .iload 5, 1251, 5, 0), (1251, .iconst 2, 1252, 0, 2), (1252, .iadd, 1253, 0, 0), (1253, .iaload, 1254, 0, 0), (1254, .aload_n 3, 1255, 3, 0), (1255, .invokestatic 177, 1258, 0, 0), (1258, .istore 6, 1260, 6, 0), (1260, .aload_n 2, 1261, 2, 0), (1261, .aload_n 0, 1262, 0, 0), (1262, .iload 5, 1264, 5, 0), (1264, .iconst 1, 1265, 0, 1), (1265, .iadd, 1266, 0, 0), (1266, .iaload, 1267, 0, 0), (1267, .aload_n 0, 1268, 0, 0), (1268, .iload 5, 1270, 5, 0), (1270, .iconst 2, 1271, 0, 2), (1271, .iadd, 1272, 0, 0), (1272, .iaload, 1273, 0, 0), (1273, .invokevirtual 179, 1276, 0, 0), (1276, .istore 7, 1278, 7, 0), (1278, .aload_n 2, 1279, 2, 0), (1279, .invokevirtual 131, 1282, 0, 0), (1282, .iload 6, 1284, 6, 0), (1284, .if_icmp .eq 5, 1287, 1289, 0), (1287, .iconst 0, 1288, 0, 0), (1288, .ireturn, 1289, 0, 0), (1289, .iload 6, 1291, 6, 0), (1291, .ifCond .ne 15, 1294, 1306, 0), (1294, .aload_n 3, 1295, 3, 0), (1295, .iconst 0, 1296, 0, 0), (1296, .laload, 1297, 0, 0), (1297, .iload 7, 1299, 7, 0), (1299, .i2l, 1300, 0, 0), (1300, .lcmp, 1301, 0, 0), (1301, .ifCond .eq 5, 1304, 1306, 0), (1304, .iconst 0, 1305, 0, 0), (1305, .ireturn, 1306, 0, 0), (1306, .goto 1060, 1309, 2366, 0)]
theorem tk_lc13 : fw_tok mm_L_law_ tb_lc13 := by unfold fw_tok; decide +kernel
set_option maxRecDepth 20000 in
theorem lc_13 {kc ks : Nat} (hl : G.1.stackTraces = false) (hn : n ≤ 600) (L : LI G n D A M) (hs : 9 * n + 9 ≤ nS G) (hb : nS G ≤ 4608) (hE : ∀ D2 A2 M2, LI G (n + 1) D2 A2 M2 → adk A A2 → D2 99 0 8 = D 99 0 8 → PW G mm_L_law_ Q 11 kc ks (hp M2 A2 D2) 2366 (lwF G A n) []) : PW G mm_L_law_ Q 11 (kc + 210) (ks + 2500) (hp M A D) 1241 (lwF G A n) [] := by
  obtain ⟨K, hK⟩ : ∃ K, K = gbK D (xS G (9 * n + 1)) (xS G (9 * n + 2)) := ⟨_, rfl⟩
  have hK9 : K < 10 := by rw [hK]; exact (by unfold gbK; (repeat' split) <;> omega)
  refine pw_go tk_lc13 rfl rfl ?_
  iterate 3 refine pw_go tk_lc13 rfl rfl ?_
  refine pw_addN (9 * n) (1) tk_lc13 rfl rfl rfl ?_
  refine pw_sci (k := 9 * n + 1) tk_lc13 rfl rfl (by omega) (by omega) ?_
  iterate 3 refine pw_go tk_lc13 rfl rfl ?_
  refine pw_addN (9 * n) (2) tk_lc13 rfl rfl rfl ?_
  refine pw_sci (k := 9 * n + 2) tk_lc13 rfl rfl (by omega) (by omega) ?_
  refine pw_go tk_lc13 rfl rfl ?_
  refine pw_csH tk_lc13 rfl ca_L_giveBack lk_L_177 sx_L_giveBack (As := [.ref (A 0 0), .int (xS G (9 * n + 1)), .int (xS G (9 * n + 2)), .ref (A 70 0)]) (rest := []) (kc' := kc + 208) (ks' := ks + 2488) (wx_giveBack (x := (xS G (9 * n + 1))) (y := (xS G (9 * n + 2))) hl L) (fun _ _ z => z) rfl rfl rfl (Nat.le_of_ble_eq_true rfl) (show 2 + (kc + 208) ≤ kc + 210 by omega) (show 12 + (ks + 2488) ≤ ks + 2500 by omega) ?_
  rintro _ h1 ⟨r, rfl, hr, S1, D1, A1, M1, c0, c1, e1, m, ou⟩
  rw [e1, hr]
  rw [← hK] at c0 c1 ou ⊢
  have R := LM.rd L m
  have e30 : A1 30 0 = A 30 0 := m.2.2.2.2.1
  have rm := R.m
  have hm := m_giveBack (x := (xS G (9 * n + 1))) (y := (xS G (9 * n + 2))) R
  rw [e30] at rm hm
  rw [← hK] at hm
  iterate 2 refine pw_go tk_lc13 rfl rfl ?_
  iterate 3 refine pw_go tk_lc13 rfl rfl ?_
  refine pw_addN (9 * n) (1) tk_lc13 rfl rfl rfl ?_
  refine pw_sci (k := 9 * n + 1) tk_lc13 rfl rfl (by omega) (by omega) ?_
  iterate 3 refine pw_go tk_lc13 rfl rfl ?_
  refine pw_addN (9 * n) (2) tk_lc13 rfl rfl rfl ?_
  refine pw_sci (k := 9 * n + 2) tk_lc13 rfl rfl (by omega) (by omega) ?_
  refine pw_cv tk_lc13 rfl ca_X17_giveBack lk_L_179 iv_X17_giveBack sv_X17_giveBack rm rfl rfl (As := [.int (xS G (9 * n + 1)), .int (xS G (9 * n + 2))]) (rest := []) (kc' := kc) (ks' := ks) (hm) rfl rfl rfl (Nat.le_of_ble_eq_true rfl) (show 0 + kc ≤ kc + 208 by omega) (show 0 + ks ≤ ks + 2488 by omega) ?_ ?_
  skip
  · rintro _ h2 ⟨r2, rfl, w⟩
    have w1 : rdn S1 D1 A1 K h2 := by
      by_cases z : K = 0
      · rw [c0 z, z]
        exact (w.1 z).1
      · rw [c1 z]
        exact w.2 z
    have w2 := fun z => (w.1 z).2
    obtain ⟨D2, A2, M2, L2, s2, k2, o70, o71, ad, e8⟩ := LM.li L m w1
    have e8 : D2 99 0 8 = D 99 0 8 := by
      rw [e8]
      by_cases z : K = 0
      · rw [c0 z]
        exact (by unfold gbS; rw [dp_k (by decide)])
      · rw [c1 z]
    refine pw_forget s2 ?_
    have f30 : A2 30 0 = A 30 0 := ad.2.1
    have rm2 := L2.rd.m
    have ht := n_thrown L2.rd
    rw [f30] at rm2 ht
    rw [k2] at ht
    iterate 2 refine pw_go tk_lc13 rfl rfl ?_
    refine pw_cvp tk_lc13 rfl ca_X17_thrown lk_L_131 iv_X17_thrown sv_X17_thrown rm2 rfl rfl (As := []) (rest := []) (ht) rfl rfl rfl rfl ?_
    refine pw_go tk_lc13 rfl rfl ?_
    refine pw_br tk_lc13 rfl rfl (fun _ => ?_) (fun c => absurd rfl c)
    refine pw_go tk_lc13 rfl rfl ?_
    refine pw_ifN (K) tk_lc13 rfl rfl (by omega) (fun c => ?_) (fun c => ?_)
    · skip
      refine pw_go tk_lc13 rfl rfl ?_
      exact pw_W (hE D2 A2 M2 L2 ad e8) ⟨rfl, rfl, rfl, rfl, rfl, rfl, trivial⟩
    · have z : K = 0 := Decidable.not_not.mp c
      have w3 := w2 z
      subst w3
      iterate 2 refine pw_go tk_lc13 rfl rfl ?_
      refine pw_laldN (k := 0) tk_lc13 rfl (L2.o70 ad) nI_0.symm (by decide) (by decide) ?_
      refine pw_l (x' := (nI (D 16 (xS G (9 * n + 1)).toNatClampNeg 1 - (xS G (9 * n + 2)).toNatClampNeg)).toInt64) (by show (if 0 = 0 then lN (D2 70 0 0) else 0) = _; rw [if_pos rfl, congrFun (congrFun o70 0) 0, ou z]; exact lN_out _) ?_
      iterate 3 refine pw_go tk_lc13 rfl rfl ?_
      refine pw_br tk_lc13 rfl rfl (fun _ => ?_) (fun c => absurd lcmp_s c)
      refine pw_go tk_lc13 rfl rfl ?_
      exact pw_W (hE D2 A2 M2 L2 ad e8) ⟨rfl, rfl, rfl, rfl, rfl, rfl, trivial⟩
  · exact fun _ _ z => z.elim
def tb_lc14 : List fw_R := [(1309, .aload_n 1, 1310, 1, 0), (1310, .aload_n 0, 1311, 0, 0), (1311, .iload 5, 1313, 5, 0), (1313, .iconst 1, 1314, 0, 1), (1314, .iadd, 1315, 0, 0), (1315, .iaload, 1316, 0, 0), (1316, .aload_n 0, 1317, 0, 0), (1317, .iload 5, 1319, 5, 0), (1319, .iconst 2, 1320, 0, 2), (1320, .iadd, 1321, 0, 0), (1321, .iaload, 1322, 0, 0), (1322, .aload_n 0, 1323, 0, 0), (1323, .iload 5, 1325, 5, 0), (1325, .iconst 3, 1326, 0, 3), (1326, .iadd, 1327, 0, 0), (1327, .iaload, 1328, 0, 0), (1328, .aload_n 3, 1329, 3, 0), (1329, .invokestatic 180, 1332, 0, 0), (1332, .istore 6, 1334, 6, 0), (1334, .aload_n 2, 1335, 2, 0), (1335, .aload_n 0, 1336, 0, 0), (1336, .iload 5, 1338, 5, 0), (1338, .iconst 1, 1339, 0, 1), (1339, .iadd, 1340, 0, 0), (1340, .iaload, 1341, 0, 0), (1341, .aload_n 0, 1342, 0, 0), (1342, .iload 5, 1344, 5, 0), (1344, .iconst 2, 1345, 0, 2), (1345, .iadd, 1346, 0, 0), (1346, .iaload, 1347, 0, 0), (1347, .aload_n 0, 1348, 0, 0), (1348, .iload 5, 1350, 5, 0), (1350, .iconst 3, 1351, 0, 3), (1351, .iadd, 1352, 0, 0), (1352, .iaload, 1353, 0, 0), (1353, .invokevirtual 182, 1356, 0, 0), (1356, .istore 7, 1358, 7, 0), (1358, .aload_n 2, 1359, 2, 0), (1359, .invokevirtual 131, 1362, 0, 0), (1362, .iload 6, 1364, 6, 0), (1364, .if_icmp .eq 5, 1367, 1369, 0), (1367, .iconst 0, 1368, 0, 0), (1368, .ireturn, 1369, 0, 0), (1369, .iload 6, 1371, 6, 0), (1371, .ifCond .ne 15, 1374, 1386, 0), (1374, .aload_n 3, 1375, 3, 0), (1375, .iconst 0, 1376, 0, 0), (1376, .laload, 1377, 0, 0), (1377, .iload 7, 1379, 7, 0), (1379, .i2l, 1380, 0, 0), (1380, .lcmp, 1381, 0, 0), (1381, .ifCond .eq 5, 1384, 1386, 0), (1384, .iconst 0, 1385, 0, 0), (1385, .ireturn, 1386, 0, 0), (1386, .goto 980, 1389, 2366, 0)]
theorem tk_lc14 : fw_tok mm_L_law_ tb_lc14 := by unfold fw_tok; decide +kernel
set_option maxRecDepth 20000 in
theorem lc_14 {kc ks : Nat} (hl : G.1.stackTraces = false) (hn : n ≤ 600) (L : LI G n D A M) (hs : 9 * n + 9 ≤ nS G) (hb : nS G ≤ 4608) (hE : ∀ D2 A2 M2, LI G (n + 1) D2 A2 M2 → adk A A2 → D2 99 0 8 = D 99 0 8 → PW G mm_L_law_ Q 11 kc ks (hp M2 A2 D2) 2366 (lwF G A n) []) : PW G mm_L_law_ Q 11 (kc + 210) (ks + 2500) (hp M A D) 1309 (lwF G A n) [] := by
  obtain ⟨K, hK⟩ : ∃ K, K = pdK (D 99 0 8) (xS G (9 * n + 1)) (spI (xS G (9 * n + 2)) (xS G (9 * n + 3))) := ⟨_, rfl⟩
  have hK9 : K < 10 := by rw [hK]; exact (Nat.lt_trans pdlt (by decide))
  refine pw_go tk_lc14 rfl rfl ?_
  iterate 3 refine pw_go tk_lc14 rfl rfl ?_
  refine pw_addN (9 * n) (1) tk_lc14 rfl rfl rfl ?_
  refine pw_sci (k := 9 * n + 1) tk_lc14 rfl rfl (by omega) (by omega) ?_
  iterate 3 refine pw_go tk_lc14 rfl rfl ?_
  refine pw_addN (9 * n) (2) tk_lc14 rfl rfl rfl ?_
  refine pw_sci (k := 9 * n + 2) tk_lc14 rfl rfl (by omega) (by omega) ?_
  iterate 3 refine pw_go tk_lc14 rfl rfl ?_
  refine pw_addN (9 * n) (3) tk_lc14 rfl rfl rfl ?_
  refine pw_sci (k := 9 * n + 3) tk_lc14 rfl rfl (by omega) (by omega) ?_
  refine pw_go tk_lc14 rfl rfl ?_
  refine pw_csH tk_lc14 rfl ca_L_atLarge lk_L_180 sx_L_atLarge (As := [.ref (A 0 0), .int (xS G (9 * n + 1)), .int (xS G (9 * n + 2)), .int (xS G (9 * n + 3)), .ref (A 70 0)]) (rest := []) (kc' := kc + 207) (ks' := ks + 2482) (wx_atLarge (x := (xS G (9 * n + 1))) (y := (xS G (9 * n + 2))) (z := (xS G (9 * n + 3))) hl L) (fun _ _ z => z) rfl rfl rfl (Nat.le_of_ble_eq_true rfl) (show 3 + (kc + 207) ≤ kc + 210 by omega) (show 18 + (ks + 2482) ≤ ks + 2500 by omega) ?_
  rintro _ h1 ⟨r, rfl, hr, S1, D1, A1, M1, c0, c1, e1, m, ou⟩
  rw [e1, hr]
  rw [← hK] at c0 c1 ou ⊢
  have R := LM.rd L m
  have e30 : A1 30 0 = A 30 0 := m.2.2.2.2.1
  have rm := R.m
  have hm := m_atLarge (x := (xS G (9 * n + 1))) (y := (xS G (9 * n + 2))) (z := (xS G (9 * n + 3))) R
  rw [e30] at rm hm
  rw [← hK] at hm
  iterate 2 refine pw_go tk_lc14 rfl rfl ?_
  iterate 3 refine pw_go tk_lc14 rfl rfl ?_
  refine pw_addN (9 * n) (1) tk_lc14 rfl rfl rfl ?_
  refine pw_sci (k := 9 * n + 1) tk_lc14 rfl rfl (by omega) (by omega) ?_
  iterate 3 refine pw_go tk_lc14 rfl rfl ?_
  refine pw_addN (9 * n) (2) tk_lc14 rfl rfl rfl ?_
  refine pw_sci (k := 9 * n + 2) tk_lc14 rfl rfl (by omega) (by omega) ?_
  iterate 3 refine pw_go tk_lc14 rfl rfl ?_
  refine pw_addN (9 * n) (3) tk_lc14 rfl rfl rfl ?_
  refine pw_sci (k := 9 * n + 3) tk_lc14 rfl rfl (by omega) (by omega) ?_
  refine pw_cv tk_lc14 rfl ca_X17_atLarge lk_L_182 iv_X17_atLarge sv_X17_atLarge rm rfl rfl (As := [.int (xS G (9 * n + 1)), .int (xS G (9 * n + 2)), .int (xS G (9 * n + 3))]) (rest := []) (kc' := kc) (ks' := ks) (hm) rfl rfl rfl (Nat.le_of_ble_eq_true rfl) (show 0 + kc ≤ kc + 207 by omega) (show 0 + ks ≤ ks + 2482 by omega) ?_ ?_
  skip
  · rintro _ h2 ⟨r2, rfl, w⟩
    have w1 : rdn S1 D1 A1 K h2 := by
      by_cases z : K = 0
      · rw [c0 z, z]
        exact (w.1 z).1
      · rw [c1 z]
        exact w.2 z
    have w2 := fun z => (w.1 z).2
    obtain ⟨D2, A2, M2, L2, s2, k2, o70, o71, ad, e8⟩ := LM.li L m w1
    have e8 : D2 99 0 8 = D 99 0 8 := by
      rw [e8]
      by_cases z : K = 0
      · rw [c0 z]
        exact (by unfold atS; rw [dp_k (by decide)])
      · rw [c1 z]
    refine pw_forget s2 ?_
    have f30 : A2 30 0 = A 30 0 := ad.2.1
    have rm2 := L2.rd.m
    have ht := n_thrown L2.rd
    rw [f30] at rm2 ht
    rw [k2] at ht
    iterate 2 refine pw_go tk_lc14 rfl rfl ?_
    refine pw_cvp tk_lc14 rfl ca_X17_thrown lk_L_131 iv_X17_thrown sv_X17_thrown rm2 rfl rfl (As := []) (rest := []) (ht) rfl rfl rfl rfl ?_
    refine pw_go tk_lc14 rfl rfl ?_
    refine pw_br tk_lc14 rfl rfl (fun _ => ?_) (fun c => absurd rfl c)
    refine pw_go tk_lc14 rfl rfl ?_
    refine pw_ifN (K) tk_lc14 rfl rfl (by omega) (fun c => ?_) (fun c => ?_)
    · skip
      refine pw_go tk_lc14 rfl rfl ?_
      exact pw_W (hE D2 A2 M2 L2 ad e8) ⟨rfl, rfl, rfl, rfl, rfl, rfl, trivial⟩
    · have z : K = 0 := Decidable.not_not.mp c
      have w3 := w2 z
      subst w3
      iterate 2 refine pw_go tk_lc14 rfl rfl ?_
      refine pw_laldN (k := 0) tk_lc14 rfl (L2.o70 ad) nI_0.symm (by decide) (by decide) ?_
      refine pw_l (x' := (nI (atV D (xS G (9 * n + 1)).toNatClampNeg (xS G (9 * n + 2)).toNatClampNeg (xS G (9 * n + 3)).toNatClampNeg)).toInt64) (by show (if 0 = 0 then lN (D2 70 0 0) else 0) = _; rw [if_pos rfl, congrFun (congrFun o70 0) 0, ou z]; exact lN_out _) ?_
      iterate 3 refine pw_go tk_lc14 rfl rfl ?_
      refine pw_br tk_lc14 rfl rfl (fun _ => ?_) (fun c => absurd lcmp_s c)
      refine pw_go tk_lc14 rfl rfl ?_
      exact pw_W (hE D2 A2 M2 L2 ad e8) ⟨rfl, rfl, rfl, rfl, rfl, rfl, trivial⟩
  · exact fun _ _ z => z.elim
def tb_lc15 : List fw_R := [(1389, .aload_n 1, 1390, 1, 0), (1390, .aload_n 0, 1391, 0, 0), (1391, .iload 5, 1393, 5, 0), (1393, .iconst 1, 1394, 0, 1), (1394, .iadd, 1395, 0, 0), (1395, .iaload, 1396, 0, 0), (1396, .aload_n 0, 1397, 0, 0), (1397, .iload 5, 1399, 5, 0), (1399, .iconst 2, 1400, 0, 2), (1400, .iadd, 1401, 0, 0), (1401, .iaload, 1402, 0, 0), (1402, .aload_n 0, 1403, 0, 0), (1403, .iload 5, 1405, 5, 0), (1405, .iconst 3, 1406, 0, 3), (1406, .iadd, 1407, 0, 0), (1407, .iaload, 1408, 0, 0), (1408, .i2c, 1409, 0, 0), (1409, .aload_n 3, 1410, 3, 0), (1410, .invokestatic 183, 1413, 0, 0), (1413, .istore 6, 1415, 6, 0), (1415, .aload_n 2, 1416, 2, 0), (1416, .aload_n 0, 1417, 0, 0), (1417, .iload 5, 1419, 5, 0), (1419, .iconst 1, 1420, 0, 1), (1420, .iadd, 1421, 0, 0), (1421, .iaload, 1422, 0, 0), (1422, .aload_n 0, 1423, 0, 0), (1423, .iload 5, 1425, 5, 0), (1425, .iconst 2, 1426, 0, 2), (1426, .iadd, 1427, 0, 0), (1427, .iaload, 1428, 0, 0), (1428, .aload_n 0, 1429, 0, 0), (1429, .iload 5, 1431, 5, 0), (1431, .iconst 3, 1432, 0, 3), (1432, .iadd, 1433, 0, 0), (1433, .iaload, 1434, 0, 0), (1434, .i2c, 1435, 0, 0), (1435, .invokevirtual 186, 1438, 0, 0), (1438, .istore 7, 1440, 7, 0), (1440, .aload_n 2, 1441, 2, 0), (1441, .invokevirtual 131, 1444, 0, 0), (1444, .iload 6, 1446, 6, 0), (1446, .if_icmp .eq 5, 1449, 1451, 0), (1449, .iconst 0, 1450, 0, 0), (1450, .ireturn, 1451, 0, 0), (1451, .iload 6, 1453, 6, 0), (1453, .ifCond .ne 15, 1456, 1468, 0), (1456, .aload_n 3, 1457, 3, 0), (1457, .iconst 0, 1458, 0, 0), (1458, .laload, 1459, 0, 0), (1459, .iload 7, 1461, 7, 0), (1461, .i2l, 1462, 0, 0), (1462, .lcmp, 1463, 0, 0), (1463, .ifCond .eq 5, 1466, 1468, 0), (1466, .iconst 0, 1467, 0, 0), (1467, .ireturn, 1468, 0, 0), (1468, .goto 898, 1471, 2366, 0)]
theorem tk_lc15 : fw_tok mm_L_law_ tb_lc15 := by unfold fw_tok; decide +kernel
set_option maxRecDepth 20000 in
theorem lc_15 {kc ks : Nat} (hl : G.1.stackTraces = false) (hn : n ≤ 600) (L : LI G n D A M) (hs : 9 * n + 9 ≤ nS G) (hb : nS G ≤ 4608) (hE : ∀ D2 A2 M2, LI G (n + 1) D2 A2 M2 → adk A A2 → D2 99 0 8 = D 99 0 8 → PW G mm_L_law_ Q 11 kc ks (hp M2 A2 D2) 2366 (lwF G A n) []) : PW G mm_L_law_ Q 11 (kc + 210) (ks + 2500) (hp M A D) 1389 (lwF G A n) [] := by
  obtain ⟨K, hK⟩ : ∃ K, K = rcK D (xS G (9 * n + 1)) (xS G (9 * n + 2)) (iC (xS G (9 * n + 3))) := ⟨_, rfl⟩
  have hK9 : K < 10 := by rw [hK]; exact (by unfold rcK pdK; (repeat' split) <;> omega)
  refine pw_go tk_lc15 rfl rfl ?_
  iterate 3 refine pw_go tk_lc15 rfl rfl ?_
  refine pw_addN (9 * n) (1) tk_lc15 rfl rfl rfl ?_
  refine pw_sci (k := 9 * n + 1) tk_lc15 rfl rfl (by omega) (by omega) ?_
  iterate 3 refine pw_go tk_lc15 rfl rfl ?_
  refine pw_addN (9 * n) (2) tk_lc15 rfl rfl rfl ?_
  refine pw_sci (k := 9 * n + 2) tk_lc15 rfl rfl (by omega) (by omega) ?_
  iterate 3 refine pw_go tk_lc15 rfl rfl ?_
  refine pw_addN (9 * n) (3) tk_lc15 rfl rfl rfl ?_
  refine pw_sci (k := 9 * n + 3) tk_lc15 rfl rfl (by omega) (by omega) ?_
  refine pw_go tk_lc15 rfl rfl ?_
  refine pw_go tk_lc15 rfl rfl ?_
  refine pw_csH tk_lc15 rfl ca_L_recall lk_L_183 sx_L_recall (As := [.ref (A 0 0), .int (xS G (9 * n + 1)), .int (xS G (9 * n + 2)), .int (iC (xS G (9 * n + 3))), .ref (A 70 0)]) (rest := []) (kc' := kc + 206) (ks' := ks + 2473) (wx_recall (x := (xS G (9 * n + 1))) (y := (xS G (9 * n + 2))) (z := (iC (xS G (9 * n + 3)))) hl L) (fun _ _ z => z) rfl rfl rfl (Nat.le_of_ble_eq_true rfl) (show 4 + (kc + 206) ≤ kc + 210 by omega) (show 27 + (ks + 2473) ≤ ks + 2500 by omega) ?_
  rintro _ h1 ⟨r, rfl, hr, S1, D1, A1, M1, c0, c1, e1, m, ou⟩
  rw [e1, hr]
  rw [← hK] at c0 c1 ou ⊢
  have R := LM.rd L m
  have e30 : A1 30 0 = A 30 0 := m.2.2.2.2.1
  have rm := R.m
  have hm := m_recall (x := (xS G (9 * n + 1))) (y := (xS G (9 * n + 2))) (z := (iC (xS G (9 * n + 3)))) R
  rw [e30] at rm hm
  rw [← hK] at hm
  iterate 2 refine pw_go tk_lc15 rfl rfl ?_
  iterate 3 refine pw_go tk_lc15 rfl rfl ?_
  refine pw_addN (9 * n) (1) tk_lc15 rfl rfl rfl ?_
  refine pw_sci (k := 9 * n + 1) tk_lc15 rfl rfl (by omega) (by omega) ?_
  iterate 3 refine pw_go tk_lc15 rfl rfl ?_
  refine pw_addN (9 * n) (2) tk_lc15 rfl rfl rfl ?_
  refine pw_sci (k := 9 * n + 2) tk_lc15 rfl rfl (by omega) (by omega) ?_
  iterate 3 refine pw_go tk_lc15 rfl rfl ?_
  refine pw_addN (9 * n) (3) tk_lc15 rfl rfl rfl ?_
  refine pw_sci (k := 9 * n + 3) tk_lc15 rfl rfl (by omega) (by omega) ?_
  refine pw_go tk_lc15 rfl rfl ?_
  refine pw_cv tk_lc15 rfl ca_X17_recall lk_L_186 iv_X17_recall sv_X17_recall rm rfl rfl (As := [.int (xS G (9 * n + 1)), .int (xS G (9 * n + 2)), .int (iC (xS G (9 * n + 3)))]) (rest := []) (kc' := kc) (ks' := ks) (hm) rfl rfl rfl (Nat.le_of_ble_eq_true rfl) (show 197 + kc ≤ kc + 206 by omega) (show 2413 + ks ≤ ks + 2473 by omega) ?_ ?_
  skip
  · rintro _ h2 ⟨r2, rfl, w⟩
    have w1 : rdn S1 D1 A1 K h2 := by
      by_cases z : K = 0
      · rw [c0 z, z]
        exact (w.1 z).1
      · rw [c1 z]
        exact w.2 z
    have w2 := fun z => (w.1 z).2
    obtain ⟨D2, A2, M2, L2, s2, k2, o70, o71, ad, e8⟩ := LM.li L m w1
    have e8 : D2 99 0 8 = D 99 0 8 := by
      rw [e8]
      by_cases z : K = 0
      · rw [c0 z]
        exact (by unfold reS; rw [dn_N, if_neg (by decide)])
      · rw [c1 z]
    refine pw_forget s2 ?_
    have f30 : A2 30 0 = A 30 0 := ad.2.1
    have rm2 := L2.rd.m
    have ht := n_thrown L2.rd
    rw [f30] at rm2 ht
    rw [k2] at ht
    iterate 2 refine pw_go tk_lc15 rfl rfl ?_
    refine pw_cvp tk_lc15 rfl ca_X17_thrown lk_L_131 iv_X17_thrown sv_X17_thrown rm2 rfl rfl (As := []) (rest := []) (ht) rfl rfl rfl rfl ?_
    refine pw_go tk_lc15 rfl rfl ?_
    refine pw_br tk_lc15 rfl rfl (fun _ => ?_) (fun c => absurd rfl c)
    refine pw_go tk_lc15 rfl rfl ?_
    refine pw_ifN (K) tk_lc15 rfl rfl (by omega) (fun c => ?_) (fun c => ?_)
    · skip
      refine pw_go tk_lc15 rfl rfl ?_
      exact pw_W (hE D2 A2 M2 L2 ad e8) ⟨rfl, rfl, rfl, rfl, rfl, rfl, trivial⟩
    · have z : K = 0 := Decidable.not_not.mp c
      have w3 := w2 z
      subst w3
      iterate 2 refine pw_go tk_lc15 rfl rfl ?_
      refine pw_laldN (k := 0) tk_lc15 rfl (L2.o70 ad) nI_0.symm (by decide) (by decide) ?_
      refine pw_l (x' := (nI ((rlS D (xS G (9 * n + 1)).toNatClampNeg).length + 1)).toInt64) (by show (if 0 = 0 then lN (D2 70 0 0) else 0) = _; rw [if_pos rfl, congrFun (congrFun o70 0) 0, ou z]; exact lN_out _) ?_
      iterate 3 refine pw_go tk_lc15 rfl rfl ?_
      refine pw_br tk_lc15 rfl rfl (fun _ => ?_) (fun c => absurd lcmp_s c)
      refine pw_go tk_lc15 rfl rfl ?_
      exact pw_W (hE D2 A2 M2 L2 ad e8) ⟨rfl, rfl, rfl, rfl, rfl, rfl, trivial⟩
  · exact fun _ _ z => z.elim
def tb_lc16 : List fw_R := [(1471, .aload_n 1, 1472, 1, 0), (1472, .aload_n 0, 1473, 0, 0), (1473, .iload 5, 1475, 5, 0), (1475, .iconst 1, 1476, 0, 1), (1476, .iadd, 1477, 0, 0), (1477, .iaload, 1478, 0, 0), (1478, .aload_n 0, 1479, 0, 0), (1479, .iload 5, 1481, 5, 0), (1481, .iconst 2, 1482, 0, 2), (1482, .iadd, 1483, 0, 0), (1483, .iaload, 1484, 0, 0), (1484, .aload_n 3, 1485, 3, 0), (1485, .invokestatic 187, 1488, 0, 0), (1488, .istore 6, 1490, 6, 0), (1490, .aload_n 2, 1491, 2, 0), (1491, .aload_n 0, 1492, 0, 0), (1492, .iload 5, 1494, 5, 0), (1494, .iconst 1, 1495, 0, 1), (1495, .iadd, 1496, 0, 0), (1496, .iaload, 1497, 0, 0), (1497, .aload_n 0, 1498, 0, 0), (1498, .iload 5, 1500, 5, 0), (1500, .iconst 2, 1501, 0, 2), (1501, .iadd, 1502, 0, 0), (1502, .iaload, 1503, 0, 0), (1503, .invokevirtual 189, 1506, 0, 0), (1506, .istore 7, 1508, 7, 0), (1508, .aload_n 2, 1509, 2, 0), (1509, .invokevirtual 131, 1512, 0, 0), (1512, .iload 6, 1514, 6, 0), (1514, .if_icmp .eq 5, 1517, 1519, 0), (1517, .iconst 0, 1518, 0, 0), (1518, .ireturn, 1519, 0, 0), (1519, .iload 6, 1521, 6, 0), (1521, .ifCond .ne 15, 1524, 1536, 0), (1524, .aload_n 3, 1525, 3, 0), (1525, .iconst 0, 1526, 0, 0), (1526, .laload, 1527, 0, 0), (1527, .iload 7, 1529, 7, 0), (1529, .i2l, 1530, 0, 0), (1530, .lcmp, 1531, 0, 0), (1531, .ifCond .eq 5, 1534, 1536, 0), (1534, .iconst 0, 1535, 0, 0), (1535, .ireturn, 1536, 0, 0), (1536, .goto 830, 1539, 2366, 0)]
theorem tk_lc16 : fw_tok mm_L_law_ tb_lc16 := by unfold fw_tok; decide +kernel
set_option maxRecDepth 20000 in
theorem lc_16 {kc ks : Nat} (hl : G.1.stackTraces = false) (hn : n ≤ 600) (L : LI G n D A M) (hs : 9 * n + 9 ≤ nS G) (hb : nS G ≤ 4608) (hE : ∀ D2 A2 M2, LI G (n + 1) D2 A2 M2 → adk A A2 → D2 99 0 8 = D 99 0 8 → PW G mm_L_law_ Q 11 kc ks (hp M2 A2 D2) 2366 (lwF G A n) []) : PW G mm_L_law_ Q 11 (kc + 210) (ks + 2500) (hp M A D) 1471 (lwF G A n) [] := by
  obtain ⟨K, hK⟩ : ∃ K, K = lgK D (xS G (9 * n + 1)) (xS G (9 * n + 2)) := ⟨_, rfl⟩
  have hK9 : K < 10 := by rw [hK]; exact (by unfold lgK pdK; (repeat' split) <;> omega)
  refine pw_go tk_lc16 rfl rfl ?_
  iterate 3 refine pw_go tk_lc16 rfl rfl ?_
  refine pw_addN (9 * n) (1) tk_lc16 rfl rfl rfl ?_
  refine pw_sci (k := 9 * n + 1) tk_lc16 rfl rfl (by omega) (by omega) ?_
  iterate 3 refine pw_go tk_lc16 rfl rfl ?_
  refine pw_addN (9 * n) (2) tk_lc16 rfl rfl rfl ?_
  refine pw_sci (k := 9 * n + 2) tk_lc16 rfl rfl (by omega) (by omega) ?_
  refine pw_go tk_lc16 rfl rfl ?_
  refine pw_csH tk_lc16 rfl ca_L_letGo lk_L_187 sx_L_letGo (As := [.ref (A 0 0), .int (xS G (9 * n + 1)), .int (xS G (9 * n + 2)), .ref (A 70 0)]) (rest := []) (kc' := kc + 207) (ks' := ks + 2482) (wx_letGo (x := (xS G (9 * n + 1))) (y := (xS G (9 * n + 2))) hl L) (fun _ _ z => z) rfl rfl rfl (Nat.le_of_ble_eq_true rfl) (show 3 + (kc + 207) ≤ kc + 210 by omega) (show 18 + (ks + 2482) ≤ ks + 2500 by omega) ?_
  rintro _ h1 ⟨r, rfl, hr, S1, D1, A1, M1, c0, c1, e1, m, ou⟩
  rw [e1, hr]
  rw [← hK] at c0 c1 ou ⊢
  have R := LM.rd L m
  have e30 : A1 30 0 = A 30 0 := m.2.2.2.2.1
  have rm := R.m
  have hm := m_letGo (x := (xS G (9 * n + 1))) (y := (xS G (9 * n + 2))) R
  rw [e30] at rm hm
  rw [← hK] at hm
  iterate 2 refine pw_go tk_lc16 rfl rfl ?_
  iterate 3 refine pw_go tk_lc16 rfl rfl ?_
  refine pw_addN (9 * n) (1) tk_lc16 rfl rfl rfl ?_
  refine pw_sci (k := 9 * n + 1) tk_lc16 rfl rfl (by omega) (by omega) ?_
  iterate 3 refine pw_go tk_lc16 rfl rfl ?_
  refine pw_addN (9 * n) (2) tk_lc16 rfl rfl rfl ?_
  refine pw_sci (k := 9 * n + 2) tk_lc16 rfl rfl (by omega) (by omega) ?_
  refine pw_cv tk_lc16 rfl ca_X17_letGo lk_L_189 iv_X17_letGo sv_X17_letGo rm rfl rfl (As := [.int (xS G (9 * n + 1)), .int (xS G (9 * n + 2))]) (rest := []) (kc' := kc) (ks' := ks) (hm) rfl rfl rfl (Nat.le_of_ble_eq_true rfl) (show 194 + kc ≤ kc + 207 by omega) (show 2356 + ks ≤ ks + 2482 by omega) ?_ ?_
  skip
  · rintro _ h2 ⟨r2, rfl, w⟩
    have w1 : rdn S1 D1 A1 K h2 := by
      by_cases z : K = 0
      · rw [c0 z, z]
        exact (w.1 z).1
      · rw [c1 z]
        exact w.2 z
    have w2 := fun z => (w.1 z).2
    obtain ⟨D2, A2, M2, L2, s2, k2, o70, o71, ad, e8⟩ := LM.li L m w1
    have e8 : D2 99 0 8 = D 99 0 8 := by
      rw [e8]
      by_cases z : K = 0
      · rw [c0 z]
        exact (by unfold lgS; rw [dp_k (by decide)])
      · rw [c1 z]
    refine pw_forget s2 ?_
    have f30 : A2 30 0 = A 30 0 := ad.2.1
    have rm2 := L2.rd.m
    have ht := n_thrown L2.rd
    rw [f30] at rm2 ht
    rw [k2] at ht
    iterate 2 refine pw_go tk_lc16 rfl rfl ?_
    refine pw_cvp tk_lc16 rfl ca_X17_thrown lk_L_131 iv_X17_thrown sv_X17_thrown rm2 rfl rfl (As := []) (rest := []) (ht) rfl rfl rfl rfl ?_
    refine pw_go tk_lc16 rfl rfl ?_
    refine pw_br tk_lc16 rfl rfl (fun _ => ?_) (fun c => absurd rfl c)
    refine pw_go tk_lc16 rfl rfl ?_
    refine pw_ifN (K) tk_lc16 rfl rfl (by omega) (fun c => ?_) (fun c => ?_)
    · skip
      refine pw_go tk_lc16 rfl rfl ?_
      exact pw_W (hE D2 A2 M2 L2 ad e8) ⟨rfl, rfl, rfl, rfl, rfl, rfl, trivial⟩
    · have z : K = 0 := Decidable.not_not.mp c
      have w3 := w2 z
      subst w3
      iterate 2 refine pw_go tk_lc16 rfl rfl ?_
      refine pw_laldN (k := 0) tk_lc16 rfl (L2.o70 ad) nI_0.symm (by decide) (by decide) ?_
      refine pw_l (x' := (nI (D 17 (rcS D (xS G (9 * n + 1)).toNatClampNeg (xS G (9 * n + 2)).toNatClampNeg - 1) 1)).toInt64) (by show (if 0 = 0 then lN (D2 70 0 0) else 0) = _; rw [if_pos rfl, congrFun (congrFun o70 0) 0, ou z]; exact lN_out _) ?_
      iterate 3 refine pw_go tk_lc16 rfl rfl ?_
      refine pw_br tk_lc16 rfl rfl (fun _ => ?_) (fun c => absurd lcmp_s c)
      refine pw_go tk_lc16 rfl rfl ?_
      exact pw_W (hE D2 A2 M2 L2 ad e8) ⟨rfl, rfl, rfl, rfl, rfl, rfl, trivial⟩
  · exact fun _ _ z => z.elim
end LC

