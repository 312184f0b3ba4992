/-! THE LAW: its cases -/
section LC
variable {G : fw_G} {n : Nat} {D : fw_DB} {A : fw_AD} {M : fw_MP} {Q : fw_Q}
def tb_lc25 : List fw_R := [(2047, .aload_n 1, 2048, 1, 0), (2048, .aload_n 0, 2049, 0, 0), (2049, .iload 5, 2051, 5, 0), (2051, .iconst 1, 2052, 0, 1), (2052, .iadd, 2053, 0, 0), (2053, .iaload, 2054, 0, 0), (2054, .aload_n 0, 2055, 0, 0), (2055, .iload 5, 2057, 5, 0), (2057, .iconst 2, 2058, 0, 2), (2058, .iadd, 2059, 0, 0), (2059, .iaload, 2060, 0, 0), (2060, .aload_n 3, 2061, 3, 0), (2061, .invokestatic 214, 2064, 0, 0), (2064, .istore 6, 2066, 6, 0), (2066, .aload_n 2, 2067, 2, 0), (2067, .aload_n 0, 2068, 0, 0), (2068, .iload 5, 2070, 5, 0), (2070, .iconst 1, 2071, 0, 1), (2071, .iadd, 2072, 0, 0), (2072, .iaload, 2073, 0, 0), (2073, .aload_n 0, 2074, 0, 0), (2074, .iload 5, 2076, 5, 0), (2076, .iconst 2, 2077, 0, 2), (2077, .iadd, 2078, 0, 0), (2078, .iaload, 2079, 0, 0), (2079, .invokevirtual 216, 2082, 0, 0), (2082, .istore 7, 2084, 7, 0), (2084, .aload_n 2, 2085, 2, 0), (2085, .invokevirtual 131, 2088, 0, 0), (2088, .iload 6, 2090, 6, 0), (2090, .if_icmp .eq 5, 2093, 2095, 0), (2093, .iconst 0, 2094, 0, 0), (2094, .ireturn, 2095, 0, 0), (2095, .iload 6, 2097, 6, 0), (2097, .ifCond .ne 15, 2100, 2112, 0), (2100, .aload_n 3, 2101, 3, 0), (2101, .iconst 0, 2102, 0, 0), (2102, .laload, 2103, 0, 0), (2103, .iload 7, 2105, 7, 0), (2105, .i2l, 2106, 0, 0), (2106, .lcmp, 2107, 0, 0), (2107, .ifCond .eq 5, 2110, 2112, 0), (2110, .iconst 0, 2111, 0, 0), (2111, .ireturn, 2112, 0, 0), (2112, .goto 254, 2115, 2366, 0)]
theorem tk_lc25 : fw_tok mm_L_law_ tb_lc25 := by unfold fw_tok; decide +kernel
set_option maxRecDepth 20000 in
theorem lc_25 {kc ks : Nat} (hl : G.1.stackTraces = false) (hn : n ≤ 600) (L : LI G n D A M) (hs : 9 * n + 9 ≤ nS G) (hb : nS G ≤ 4608) (hE : ∀ D2 A2 M2, LI G (n + 1) D2 A2 M2 → adk A A2 → D2 99 0 8 = D 99 0 8 → PW G mm_L_law_ Q 11 kc ks (hp M2 A2 D2) 2366 (lwF G A n) []) : PW G mm_L_law_ Q 11 (kc + 210) (ks + 2500) (hp M A D) 2047 (lwF G A n) [] := by
  obtain ⟨K, hK⟩ : ∃ K, K = pdK (D 99 0 8) (xS G (9 * n + 1)) (inI (xS G (9 * n + 2)) 0 (nI 20000)) := ⟨_, rfl⟩
  have hK9 : K < 10 := by rw [hK]; exact (Nat.lt_trans pdlt (by decide))
  refine pw_go tk_lc25 rfl rfl ?_
  iterate 3 refine pw_go tk_lc25 rfl rfl ?_
  refine pw_addN (9 * n) (1) tk_lc25 rfl rfl rfl ?_
  refine pw_sci (k := 9 * n + 1) tk_lc25 rfl rfl (by omega) (by omega) ?_
  iterate 3 refine pw_go tk_lc25 rfl rfl ?_
  refine pw_addN (9 * n) (2) tk_lc25 rfl rfl rfl ?_
  refine pw_sci (k := 9 * n + 2) tk_lc25 rfl rfl (by omega) (by omega) ?_
  refine pw_go tk_lc25 rfl rfl ?_
  refine pw_csH tk_lc25 rfl ca_L_tooLong lk_L_214 sx_L_tooLong (As := [.ref (A 0 0), .int (xS G (9 * n + 1)), .int (xS G (9 * n + 2)), .ref (A 70 0)]) (rest := []) (kc' := kc + 208) (ks' := ks + 2488) (wx_tooLong (x := (xS G (9 * n + 1))) (y := (xS G (9 * n + 2))) hl L) (fun _ _ z => z) rfl rfl rfl (Nat.le_of_ble_eq_true rfl) (show 2 + (kc + 208) ≤ kc + 210 by omega) (show 12 + (ks + 2488) ≤ ks + 2500 by omega) ?_
  rintro _ h1 ⟨r, rfl, hr, S1, D1, A1, M1, c0, c1, e1, m, ou⟩
  rw [e1, hr]
  rw [← hK] at c0 c1 ou ⊢
  have R := LM.rd L m
  have e30 : A1 30 0 = A 30 0 := m.2.2.2.2.1
  have rm := R.m
  have hm := m_tooLong (x := (xS G (9 * n + 1))) (y := (xS G (9 * n + 2))) R
  rw [e30] at rm hm
  rw [← hK] at hm
  iterate 2 refine pw_go tk_lc25 rfl rfl ?_
  iterate 3 refine pw_go tk_lc25 rfl rfl ?_
  refine pw_addN (9 * n) (1) tk_lc25 rfl rfl rfl ?_
  refine pw_sci (k := 9 * n + 1) tk_lc25 rfl rfl (by omega) (by omega) ?_
  iterate 3 refine pw_go tk_lc25 rfl rfl ?_
  refine pw_addN (9 * n) (2) tk_lc25 rfl rfl rfl ?_
  refine pw_sci (k := 9 * n + 2) tk_lc25 rfl rfl (by omega) (by omega) ?_
  refine pw_cv tk_lc25 rfl ca_X17_tooLong lk_L_216 iv_X17_tooLong sv_X17_tooLong rm rfl rfl (As := [.int (xS G (9 * n + 1)), .int (xS G (9 * n + 2))]) (rest := []) (kc' := kc) (ks' := ks) (hm) rfl rfl rfl (Nat.le_of_ble_eq_true rfl) (show 194 + kc ≤ kc + 208 by omega) (show 2372 + ks ≤ ks + 2488 by omega) ?_ ?_
  skip
  · rintro _ h2 ⟨r2, rfl, w1, w2⟩
    have es : S1 = D := by
      by_cases z : K = 0
      · exact c0 z
      · exact c1 z
    rw [es] at m
    obtain ⟨D2, A2, M2, L2, s2, k2, o70, o71, ad, e8⟩ := LM.li L m w1
    refine pw_forget s2 ?_
    have f30 : A2 30 0 = A 30 0 := ad.2.1
    have rm2 := L2.rd.m
    have ht := n_thrown L2.rd
    rw [f30] at rm2 ht
    rw [k2] at ht
    iterate 2 refine pw_go tk_lc25 rfl rfl ?_
    refine pw_cvp tk_lc25 rfl ca_X17_thrown lk_L_131 iv_X17_thrown sv_X17_thrown rm2 rfl rfl (As := []) (rest := []) (ht) rfl rfl rfl rfl ?_
    refine pw_go tk_lc25 rfl rfl ?_
    refine pw_br tk_lc25 rfl rfl (fun _ => ?_) (fun c => absurd rfl c)
    refine pw_go tk_lc25 rfl rfl ?_
    refine pw_ifN (K) tk_lc25 rfl rfl (by omega) (fun c => ?_) (fun c => ?_)
    · skip
      refine pw_go tk_lc25 rfl rfl ?_
      exact pw_W (hE D2 A2 M2 L2 ad e8) ⟨rfl, rfl, rfl, rfl, rfl, rfl, trivial⟩
    · have z : K = 0 := Decidable.not_not.mp c
      have w3 := w2 z
      subst w3
      iterate 2 refine pw_go tk_lc25 rfl rfl ?_
      refine pw_laldN (k := 0) tk_lc25 rfl (L2.o70 ad) nI_0.symm (by decide) (by decide) ?_
      refine pw_l (x' := (nI (tlV D (xS G (9 * n + 1)).toNatClampNeg (xS G (9 * n + 2)).toNatClampNeg)).toInt64) (by show (if 0 = 0 then lN (D2 70 0 0) else 0) = _; rw [if_pos rfl, congrFun (congrFun o70 0) 0, ou z]; exact lN_out _) ?_
      iterate 3 refine pw_go tk_lc25 rfl rfl ?_
      refine pw_br tk_lc25 rfl rfl (fun _ => ?_) (fun c => absurd lcmp_s c)
      refine pw_go tk_lc25 rfl rfl ?_
      exact pw_W (hE D2 A2 M2 L2 ad e8) ⟨rfl, rfl, rfl, rfl, rfl, rfl, trivial⟩
  · exact fun _ _ z => z.elim
def tb_lc26 : List fw_R := [(2115, .aload_n 1, 2116, 1, 0), (2116, .aload_n 0, 2117, 0, 0), (2117, .iload 5, 2119, 5, 0), (2119, .iconst 1, 2120, 0, 1), (2120, .iadd, 2121, 0, 0), (2121, .iaload, 2122, 0, 0), (2122, .aload_n 0, 2123, 0, 0), (2123, .iload 5, 2125, 5, 0), (2125, .iconst 2, 2126, 0, 2), (2126, .iadd, 2127, 0, 0), (2127, .iaload, 2128, 0, 0), (2128, .aload_n 3, 2129, 3, 0), (2129, .invokestatic 217, 2132, 0, 0), (2132, .istore 6, 2134, 6, 0), (2134, .aload_n 2, 2135, 2, 0), (2135, .aload_n 0, 2136, 0, 0), (2136, .iload 5, 2138, 5, 0), (2138, .iconst 1, 2139, 0, 1), (2139, .iadd, 2140, 0, 0), (2140, .iaload, 2141, 0, 0), (2141, .aload_n 0, 2142, 0, 0), (2142, .iload 5, 2144, 5, 0), (2144, .iconst 2, 2145, 0, 2), (2145, .iadd, 2146, 0, 0), (2146, .iaload, 2147, 0, 0), (2147, .invokevirtual 219, 2150, 0, 0), (2150, .istore 7, 2152, 7, 0), (2152, .aload_n 2, 2153, 2, 0), (2153, .invokevirtual 131, 2156, 0, 0), (2156, .iload 6, 2158, 6, 0), (2158, .if_icmp .eq 5, 2161, 2163, 0), (2161, .iconst 0, 2162, 0, 0), (2162, .ireturn, 2163, 0, 0), (2163, .iload 6, 2165, 6, 0), (2165, .ifCond .ne 15, 2168, 2180, 0), (2168, .aload_n 3, 2169, 3, 0), (2169, .iconst 0, 2170, 0, 0), (2170, .laload, 2171, 0, 0), (2171, .iload 7, 2173, 7, 0), (2173, .i2l, 2174, 0, 0), (2174, .lcmp, 2175, 0, 0), (2175, .ifCond .eq 5, 2178, 2180, 0), (2178, .iconst 0, 2179, 0, 0), (2179, .ireturn, 2180, 0, 0), (2180, .goto 186, 2183, 2366, 0)]
theorem tk_lc26 : fw_tok mm_L_law_ tb_lc26 := by unfold fw_tok; decide +kernel
set_option maxRecDepth 20000 in
theorem lc_26 {kc ks : Nat} (hl : G.1.stackTraces = false) (hn : n ≤ 600) (L : LI G n D A M) (hs : 9 * n + 9 ≤ nS G) (hb : nS G ≤ 4608) (hE : ∀ D2 A2 M2, LI G (n + 1) D2 A2 M2 → adk A A2 → D2 99 0 8 = D 99 0 8 → PW G mm_L_law_ Q 11 kc ks (hp M2 A2 D2) 2366 (lwF G A n) []) : PW G mm_L_law_ Q 11 (kc + 210) (ks + 2500) (hp M A D) 2115 (lwF G A n) [] := by
  obtain ⟨K, hK⟩ : ∃ K, K = pdK (D 99 0 8) (xS G (9 * n + 1)) (inI (xS G (9 * n + 2)) 0 (nI 20000)) := ⟨_, rfl⟩
  have hK9 : K < 10 := by rw [hK]; exact (Nat.lt_trans pdlt (by decide))
  refine pw_go tk_lc26 rfl rfl ?_
  iterate 3 refine pw_go tk_lc26 rfl rfl ?_
  refine pw_addN (9 * n) (1) tk_lc26 rfl rfl rfl ?_
  refine pw_sci (k := 9 * n + 1) tk_lc26 rfl rfl (by omega) (by omega) ?_
  iterate 3 refine pw_go tk_lc26 rfl rfl ?_
  refine pw_addN (9 * n) (2) tk_lc26 rfl rfl rfl ?_
  refine pw_sci (k := 9 * n + 2) tk_lc26 rfl rfl (by omega) (by omega) ?_
  refine pw_go tk_lc26 rfl rfl ?_
  refine pw_csH tk_lc26 rfl ca_L_tooShort lk_L_217 sx_L_tooShort (As := [.ref (A 0 0), .int (xS G (9 * n + 1)), .int (xS G (9 * n + 2)), .ref (A 70 0)]) (rest := []) (kc' := kc + 208) (ks' := ks + 2488) (wx_tooShort (x := (xS G (9 * n + 1))) (y := (xS G (9 * n + 2))) hl L) (fun _ _ z => z) rfl rfl rfl (Nat.le_of_ble_eq_true rfl) (show 2 + (kc + 208) ≤ kc + 210 by omega) (show 12 + (ks + 2488) ≤ ks + 2500 by omega) ?_
  rintro _ h1 ⟨r, rfl, hr, S1, D1, A1, M1, c0, c1, e1, m, ou⟩
  rw [e1, hr]
  rw [← hK] at c0 c1 ou ⊢
  have R := LM.rd L m
  have e30 : A1 30 0 = A 30 0 := m.2.2.2.2.1
  have rm := R.m
  have hm := m_tooShort (x := (xS G (9 * n + 1))) (y := (xS G (9 * n + 2))) R
  rw [e30] at rm hm
  rw [← hK] at hm
  iterate 2 refine pw_go tk_lc26 rfl rfl ?_
  iterate 3 refine pw_go tk_lc26 rfl rfl ?_
  refine pw_addN (9 * n) (1) tk_lc26 rfl rfl rfl ?_
  refine pw_sci (k := 9 * n + 1) tk_lc26 rfl rfl (by omega) (by omega) ?_
  iterate 3 refine pw_go tk_lc26 rfl rfl ?_
  refine pw_addN (9 * n) (2) tk_lc26 rfl rfl rfl ?_
  refine pw_sci (k := 9 * n + 2) tk_lc26 rfl rfl (by omega) (by omega) ?_
  refine pw_cv tk_lc26 rfl ca_X17_tooShort lk_L_219 iv_X17_tooShort sv_X17_tooShort rm rfl rfl (As := [.int (xS G (9 * n + 1)), .int (xS G (9 * n + 2))]) (rest := []) (kc' := kc) (ks' := ks) (hm) rfl rfl rfl (Nat.le_of_ble_eq_true rfl) (show 194 + kc ≤ kc + 208 by omega) (show 2372 + ks ≤ ks + 2488 by omega) ?_ ?_
  skip
  · rintro _ h2 ⟨r2, rfl, w1, w2⟩
    have es : S1 = D := by
      by_cases z : K = 0
      · exact c0 z
      · exact c1 z
    rw [es] at m
    obtain ⟨D2, A2, M2, L2, s2, k2, o70, o71, ad, e8⟩ := LM.li L m w1
    refine pw_forget s2 ?_
    have f30 : A2 30 0 = A 30 0 := ad.2.1
    have rm2 := L2.rd.m
    have ht := n_thrown L2.rd
    rw [f30] at rm2 ht
    rw [k2] at ht
    iterate 2 refine pw_go tk_lc26 rfl rfl ?_
    refine pw_cvp tk_lc26 rfl ca_X17_thrown lk_L_131 iv_X17_thrown sv_X17_thrown rm2 rfl rfl (As := []) (rest := []) (ht) rfl rfl rfl rfl ?_
    refine pw_go tk_lc26 rfl rfl ?_
    refine pw_br tk_lc26 rfl rfl (fun _ => ?_) (fun c => absurd rfl c)
    refine pw_go tk_lc26 rfl rfl ?_
    refine pw_ifN (K) tk_lc26 rfl rfl (by omega) (fun c => ?_) (fun c => ?_)
    · skip
      refine pw_go tk_lc26 rfl rfl ?_
      exact pw_W (hE D2 A2 M2 L2 ad e8) ⟨rfl, rfl, rfl, rfl, rfl, rfl, trivial⟩
    · have z : K = 0 := Decidable.not_not.mp c
      have w3 := w2 z
      subst w3
      iterate 2 refine pw_go tk_lc26 rfl rfl ?_
      refine pw_laldN (k := 0) tk_lc26 rfl (L2.o70 ad) nI_0.symm (by decide) (by decide) ?_
      refine pw_l (x' := (nI (tsV D (xS G (9 * n + 1)).toNatClampNeg (xS G (9 * n + 2)).toNatClampNeg)).toInt64) (by show (if 0 = 0 then lN (D2 70 0 0) else 0) = _; rw [if_pos rfl, congrFun (congrFun o70 0) 0, ou z]; exact lN_out _) ?_
      iterate 3 refine pw_go tk_lc26 rfl rfl ?_
      refine pw_br tk_lc26 rfl rfl (fun _ => ?_) (fun c => absurd lcmp_s c)
      refine pw_go tk_lc26 rfl rfl ?_
      exact pw_W (hE D2 A2 M2 L2 ad e8) ⟨rfl, rfl, rfl, rfl, rfl, rfl, trivial⟩
  · exact fun _ _ z => z.elim
def tb_lc29 : List fw_R := [(2210, .aload_n 1, 2211, 1, 0), (2211, .aload_n 0, 2212, 0, 0), (2212, .iload 5, 2214, 5, 0), (2214, .iconst 1, 2215, 0, 1), (2215, .iadd, 2216, 0, 0), (2216, .iaload, 2217, 0, 0), (2217, .aload 4, 2219, 4, 0), (2219, .invokestatic 229, 2222, 0, 0), (2222, .istore 6, 2224, 6, 0), (2224, .aload_n 2, 2225, 2, 0), (2225, .aload_n 0, 2226, 0, 0), (2226, .iload 5, 2228, 5, 0), (2228, .iconst 1, 2229, 0, 1), (2229, .iadd, 2230, 0, 0), (2230, .iaload, 2231, 0, 0), (2231, .invokevirtual 232, 2234, 0, 0), (2234, .fstore 7, 2236, 7, 0), (2236, .aload_n 2, 2237, 2, 0), (2237, .invokevirtual 131, 2240, 0, 0), (2240, .iload 6, 2242, 6, 0), (2242, .if_icmp .eq 5, 2245, 2247, 0), (2245, .iconst 0, 2246, 0, 0), (2246, .ireturn, 2247, 0, 0), (2247, .iload 6, 2249, 6, 0), (2249, .ifCond .ne 36, 2252, 2285, 0), (2252, .aload 4, 2254, 4, 0), (2254, .iconst 0, 2255, 0, 0), (2255, .daload, 2256, 0, 0), (2256, .fload 7, 2258, 7, 0), (2258, .f2d, 2259, 0, 0), (2259, .dcmp .l, 2260, 0, 0), (2260, .ifCond .eq 25, 2263, 2285, 0), (2263, .aload 4, 2265, 4, 0), (2265, .iconst 0, 2266, 0, 0), (2266, .daload, 2267, 0, 0), (2267, .aload 4, 2269, 4, 0), (2269, .iconst 0, 2270, 0, 0), (2270, .daload, 2271, 0, 0), (2271, .dcmp .l, 2272, 0, 0), (2272, .ifCond .eq 11, 2275, 2283, 0), (2275, .fload 7, 2277, 7, 0), (2277, .fload 7, 2279, 7, 0), (2279, .fcmp .l, 2280, 0, 0), (2280, .ifCond .ne 5, 2283, 2285, 0), (2283, .iconst 0, 2284, 0, 0), (2284, .ireturn, 2285, 0, 0), (2285, .goto 81, 2288, 2366, 0)]
theorem tk_lc29 : fw_tok mm_L_law_ tb_lc29 := by unfold fw_tok; decide +kernel
set_option maxRecDepth 20000 in
theorem lc_29 {kc ks : Nat} (hl : G.1.stackTraces = false) (hn : n ≤ 600) (L : LI G n D A M) (hs : 9 * n + 9 ≤ nS G) (hb : nS G ≤ 4608) (hE : ∀ D2 A2 M2, LI G (n + 1) D2 A2 M2 → adk A A2 → D2 99 0 8 = D 99 0 8 → PW G mm_L_law_ Q 11 kc ks (hp M2 A2 D2) 2366 (lwF G A n) []) : PW G mm_L_law_ Q 11 (kc + 210) (ks + 2500) (hp M A D) 2210 (lwF G A n) [] := by
  obtain ⟨K, hK⟩ : ∃ K, K = shK D (xS G (9 * n + 1)) := ⟨_, rfl⟩
  have hK9 : K < 10 := by rw [hK]; exact (by unfold shK; (repeat' split) <;> omega)
  refine pw_go tk_lc29 rfl rfl ?_
  iterate 3 refine pw_go tk_lc29 rfl rfl ?_
  refine pw_addN (9 * n) (1) tk_lc29 rfl rfl rfl ?_
  refine pw_sci (k := 9 * n + 1) tk_lc29 rfl rfl (by omega) (by omega) ?_
  refine pw_go tk_lc29 rfl rfl ?_
  refine pw_csH tk_lc29 rfl ca_L_prisonShare lk_L_229 sx_L_prisonShare (As := [.ref (A 0 0), .int (xS G (9 * n + 1)), .ref (A 71 0)]) (rest := []) (kc' := kc + 208) (ks' := ks + 2488) (wx_prisonShare (x := (xS G (9 * n + 1))) hl L) (fun _ _ z => z) rfl rfl rfl (Nat.le_of_ble_eq_true rfl) (show 2 + (kc + 208) ≤ kc + 210 by omega) (show 12 + (ks + 2488) ≤ ks + 2500 by omega) ?_
  rintro _ h1 ⟨r, rfl, hr, S1, D1, A1, M1, c0, c1, e1, m, ou⟩
  rw [e1, hr]
  rw [← hK] at c0 c1 ou ⊢
  have R := LM.rd L m
  have e30 : A1 30 0 = A 30 0 := m.2.2.2.2.1
  have rm := R.m
  have hm := m_prisonShare (x := (xS G (9 * n + 1))) R
  rw [e30] at rm hm
  rw [← hK] at hm
  iterate 2 refine pw_go tk_lc29 rfl rfl ?_
  iterate 3 refine pw_go tk_lc29 rfl rfl ?_
  refine pw_addN (9 * n) (1) tk_lc29 rfl rfl rfl ?_
  refine pw_sci (k := 9 * n + 1) tk_lc29 rfl rfl (by omega) (by omega) ?_
  refine pw_cv tk_lc29 rfl ca_X17_prisonShare lk_L_232 iv_X17_prisonShare sv_X17_prisonShare rm rfl rfl (As := [.int (xS G (9 * n + 1))]) (rest := []) (kc' := kc) (ks' := ks) (hm) rfl rfl rfl (Nat.le_of_ble_eq_true rfl) (show 199 + kc ≤ kc + 208 by omega) (show 2376 + ks ≤ ks + 2488 by omega) ?_ ?_
  skip
  · rintro _ h2 ⟨r2, rfl, w1, w2⟩
    have es : S1 = D := by
      by_cases z : K = 0
      · exact c0 z
      · exact c1 z
    rw [es] at m
    obtain ⟨D2, A2, M2, L2, s2, k2, o70, o71, ad, e8⟩ := LM.li L m w1
    refine pw_forget s2 ?_
    have f30 : A2 30 0 = A 30 0 := ad.2.1
    have rm2 := L2.rd.m
    have ht := n_thrown L2.rd
    rw [f30] at rm2 ht
    rw [k2] at ht
    iterate 2 refine pw_go tk_lc29 rfl rfl ?_
    refine pw_cvp tk_lc29 rfl ca_X17_thrown lk_L_131 iv_X17_thrown sv_X17_thrown rm2 rfl rfl (As := []) (rest := []) (ht) rfl rfl rfl rfl ?_
    refine pw_go tk_lc29 rfl rfl ?_
    refine pw_br tk_lc29 rfl rfl (fun _ => ?_) (fun c => absurd rfl c)
    refine pw_go tk_lc29 rfl rfl ?_
    refine pw_ifN (K) tk_lc29 rfl rfl (by omega) (fun c => ?_) (fun c => ?_)
    · skip
      refine pw_go tk_lc29 rfl rfl ?_
      exact pw_W (hE D2 A2 M2 L2 ad e8) ⟨rfl, rfl, rfl, rfl, rfl, rfl, trivial⟩
    · have z : K = 0 := Decidable.not_not.mp c
      have w3 := w2 z
      subst w3
      iterate 2 refine pw_go tk_lc29 rfl rfl ?_
      have nn : FP.Core.dIsNaN (FP.f2d (shV D (xS G (9 * n + 1)).toNatClampNeg)) = false := f2d_n (shV_n L.1.2.1.2.2.2.2.1 (hK.symm.trans z))
      refine pw_dald tk_lc29 rfl (L2.o71 ad) (show vp_in (nI 0) 1 from vp_in_nI (by decide) (by decide)) ?_
      refine pw_dv (x' := FP.f2d (shV D (xS G (9 * n + 1)).toNatClampNeg)) (by show (if (0 : Nat) = 0 then UInt64.ofNat (D2 71 0 0) else 0) = _; rw [if_pos rfl, congrFun (congrFun o71 0) 0, ou z]; exact uN_out _) ?_
      refine pw_go tk_lc29 rfl rfl ?_
      refine pw_f2d tk_lc29 rfl (n64_of nn) ?_
      refine pw_dcmpE tk_lc29 rfl nn ?_
      refine pw_br tk_lc29 rfl rfl (fun _ => ?_) (fun c => absurd rfl c)
      refine pw_go tk_lc29 rfl rfl ?_
      exact pw_W (hE D2 A2 M2 L2 ad e8) ⟨rfl, rfl, rfl, rfl, rfl, rfl, trivial⟩
  · exact fun _ _ z => z.elim
def tb_lc30 : List fw_R := [(2288, .aload_n 1, 2289, 1, 0), (2289, .aload 4, 2291, 4, 0), (2291, .invokestatic 233, 2294, 0, 0), (2294, .istore 6, 2296, 6, 0), (2296, .aload_n 2, 2297, 2, 0), (2297, .invokevirtual 236, 2300, 0, 0), (2300, .dstore 7, 2302, 7, 0), (2302, .aload_n 2, 2303, 2, 0), (2303, .invokevirtual 131, 2306, 0, 0), (2306, .iload 6, 2308, 6, 0), (2308, .if_icmp .eq 5, 2311, 2313, 0), (2311, .iconst 0, 2312, 0, 0), (2312, .ireturn, 2313, 0, 0), (2313, .iload 6, 2315, 6, 0), (2315, .ifCond .ne 35, 2318, 2350, 0), (2318, .aload 4, 2320, 4, 0), (2320, .iconst 0, 2321, 0, 0), (2321, .daload, 2322, 0, 0), (2322, .dload 7, 2324, 7, 0), (2324, .dcmp .l, 2325, 0, 0), (2325, .ifCond .eq 25, 2328, 2350, 0), (2328, .aload 4, 2330, 4, 0), (2330, .iconst 0, 2331, 0, 0), (2331, .daload, 2332, 0, 0), (2332, .aload 4, 2334, 4, 0), (2334, .iconst 0, 2335, 0, 0), (2335, .daload, 2336, 0, 0), (2336, .dcmp .l, 2337, 0, 0), (2337, .ifCond .eq 11, 2340, 2348, 0), (2340, .dload 7, 2342, 7, 0), (2342, .dload 7, 2344, 7, 0), (2344, .dcmp .l, 2345, 0, 0), (2345, .ifCond .ne 5, 2348, 2350, 0), (2348, .iconst 0, 2349, 0, 0), (2349, .ireturn, 2350, 0, 0), (2350, .goto 16, 2353, 2366, 0)]
theorem tk_lc30 : fw_tok mm_L_law_ tb_lc30 := by unfold fw_tok; decide +kernel
set_option maxRecDepth 20000 in
theorem lc_30 {kc ks : Nat} (hl : G.1.stackTraces = false) (hn : n ≤ 600) (L : LI G n D A M) (hs : 9 * n + 9 ≤ nS G) (hb : nS G ≤ 4608) (hE : ∀ D2 A2 M2, LI G (n + 1) D2 A2 M2 → adk A A2 → D2 99 0 8 = D 99 0 8 → PW G mm_L_law_ Q 11 kc ks (hp M2 A2 D2) 2366 (lwF G A n) []) : PW G mm_L_law_ Q 11 (kc + 210) (ks + 2500) (hp M A D) 2288 (lwF G A n) [] := by
  obtain ⟨K, hK⟩ : ∃ K, K = mnK D := ⟨_, rfl⟩
  have hK9 : K < 10 := by rw [hK]; exact (by unfold mnK; (repeat' split) <;> omega)
  refine pw_go tk_lc30 rfl rfl ?_
  refine pw_go tk_lc30 rfl rfl ?_
  refine pw_csH tk_lc30 rfl ca_L_meanNeeded lk_L_233 sx_L_meanNeeded (As := [.ref (A 0 0), .ref (A 71 0)]) (rest := []) (kc' := kc + 209) (ks' := ks + 2494) (wx_meanNeeded  hl L) (fun _ _ z => z) rfl rfl rfl (Nat.le_of_ble_eq_true rfl) (show 1 + (kc + 209) ≤ kc + 210 by omega) (show 6 + (ks + 2494) ≤ ks + 2500 by omega) ?_
  rintro _ h1 ⟨r, rfl, hr, S1, D1, A1, M1, c0, c1, e1, m, ou⟩
  rw [e1, hr]
  rw [← hK] at c0 c1 ou ⊢
  have R := LM.rd L m
  have e30 : A1 30 0 = A 30 0 := m.2.2.2.2.1
  have rm := R.m
  have hm := m_meanNeeded  R
  rw [e30] at rm hm
  rw [← hK] at hm
  iterate 2 refine pw_go tk_lc30 rfl rfl ?_
  refine pw_cv tk_lc30 rfl ca_X17_meanNeeded lk_L_236 iv_X17_meanNeeded sv_X17_meanNeeded rm rfl rfl (As := []) (rest := []) (kc' := kc) (ks' := ks) (hm) rfl rfl rfl (Nat.le_of_ble_eq_true rfl) (show 193 + kc ≤ kc + 209 by omega) (show 2352 + ks ≤ ks + 2494 by omega) ?_ ?_
  skip
  · rintro _ h2 ⟨r2, rfl, w1, w2⟩
    have es : S1 = D := by
      by_cases z : K = 0
      · exact c0 z
      · exact c1 z
    rw [es] at m
    obtain ⟨D2, A2, M2, L2, s2, k2, o70, o71, ad, e8⟩ := LM.li L m w1
    refine pw_forget s2 ?_
    have f30 : A2 30 0 = A 30 0 := ad.2.1
    have rm2 := L2.rd.m
    have ht := n_thrown L2.rd
    rw [f30] at rm2 ht
    rw [k2] at ht
    iterate 2 refine pw_go tk_lc30 rfl rfl ?_
    refine pw_cvp tk_lc30 rfl ca_X17_thrown lk_L_131 iv_X17_thrown sv_X17_thrown rm2 rfl rfl (As := []) (rest := []) (ht) rfl rfl rfl rfl ?_
    refine pw_go tk_lc30 rfl rfl ?_
    refine pw_br tk_lc30 rfl rfl (fun _ => ?_) (fun c => absurd rfl c)
    refine pw_go tk_lc30 rfl rfl ?_
    refine pw_ifN (K) tk_lc30 rfl rfl (by omega) (fun c => ?_) (fun c => ?_)
    · skip
      refine pw_go tk_lc30 rfl rfl ?_
      exact pw_W (hE D2 A2 M2 L2 ad e8) ⟨rfl, rfl, rfl, rfl, rfl, rfl, trivial⟩
    · have z : K = 0 := Decidable.not_not.mp c
      have w3 := w2 z
      subst w3
      iterate 2 refine pw_go tk_lc30 rfl rfl ?_
      have nn : FP.Core.dIsNaN (mnV D) = false := mnV_n L.1 (hK.symm.trans z)
      refine pw_dald tk_lc30 rfl (L2.o71 ad) (show vp_in (nI 0) 1 from vp_in_nI (by decide) (by decide)) ?_
      refine pw_dv (x' := mnV D) (by show (if (0 : Nat) = 0 then UInt64.ofNat (D2 71 0 0) else 0) = _; rw [if_pos rfl, congrFun (congrFun o71 0) 0, ou z]; exact uN_out _) ?_
      refine pw_go tk_lc30 rfl rfl ?_
      refine pw_dcmpE tk_lc30 rfl nn ?_
      refine pw_br tk_lc30 rfl rfl (fun _ => ?_) (fun c => absurd rfl c)
      refine pw_go tk_lc30 rfl rfl ?_
      exact pw_W (hE D2 A2 M2 L2 ad e8) ⟨rfl, rfl, rfl, rfl, rfl, rfl, trivial⟩
  · exact fun _ _ z => z.elim
end LC

