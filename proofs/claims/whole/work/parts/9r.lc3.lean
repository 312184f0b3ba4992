/-! THE LAW: its cases -/
section LC
variable {G : fw_G} {n : Nat} {D : fw_DB} {A : fw_AD} {M : fw_MP} {Q : fw_Q}
def tb_lc17 : List fw_R := [(1539, .aload_n 1, 1540, 1, 0), (1540, .aload_n 0, 1541, 0, 0), (1541, .iload 5, 1543, 5, 0), (1543, .iconst 1, 1544, 0, 1), (1544, .iadd, 1545, 0, 0), (1545, .iaload, 1546, 0, 0), (1546, .aload_n 3, 1547, 3, 0), (1547, .invokestatic 190, 1550, 0, 0), (1550, .istore 6, 1552, 6, 0), (1552, .aload_n 2, 1553, 2, 0), (1553, .aload_n 0, 1554, 0, 0), (1554, .iload 5, 1556, 5, 0), (1556, .iconst 1, 1557, 0, 1), (1557, .iadd, 1558, 0, 0), (1558, .iaload, 1559, 0, 0), (1559, .invokevirtual 192, 1562, 0, 0), (1562, .istore 7, 1564, 7, 0), (1564, .aload_n 2, 1565, 2, 0), (1565, .invokevirtual 131, 1568, 0, 0), (1568, .iload 6, 1570, 6, 0), (1570, .if_icmp .eq 5, 1573, 1575, 0), (1573, .iconst 0, 1574, 0, 0), (1574, .ireturn, 1575, 0, 0), (1575, .iload 6, 1577, 6, 0), (1577, .ifCond .ne 15, 1580, 1592, 0), (1580, .aload_n 3, 1581, 3, 0), (1581, .iconst 0, 1582, 0, 0), (1582, .laload, 1583, 0, 0), (1583, .iload 7, 1585, 7, 0), (1585, .i2l, 1586, 0, 0), (1586, .lcmp, 1587, 0, 0), (1587, .ifCond .eq 5, 1590, 1592, 0), (1590, .iconst 0, 1591, 0, 0), (1591, .ireturn, 1592, 0, 0), (1592, .goto 774, 1595, 2366, 0)]
theorem tk_lc17 : fw_tok mm_L_law_ tb_lc17 := by unfold fw_tok; decide +kernel
set_option maxRecDepth 20000 in
theorem lc_17 {kc ks : Nat} (hl : G.1.stackTraces = false) (hn : n ≤ 600) (L : LI G n D A M) (hs : 9 * n + 9 ≤ nS G) (hb : nS G ≤ 4608) (hE : ∀ D2 A2 M2, LI G (n + 1) D2 A2 M2 → adk A A2 → D2 99 0 8 = D 99 0 8 → PW G mm_L_law_ Q 11 kc ks (hp M2 A2 D2) 2366 (lwF G A n) []) : PW G mm_L_law_ Q 11 (kc + 210) (ks + 2500) (hp M A D) 1539 (lwF G A n) [] := by
  obtain ⟨K, hK⟩ : ∃ K, K = bgK D (xS G (9 * n + 1)) := ⟨_, rfl⟩
  have hK9 : K < 10 := by rw [hK]; exact (by unfold bgK; (repeat' split) <;> omega)
  refine pw_go tk_lc17 rfl rfl ?_
  iterate 3 refine pw_go tk_lc17 rfl rfl ?_
  refine pw_addN (9 * n) (1) tk_lc17 rfl rfl rfl ?_
  refine pw_sci (k := 9 * n + 1) tk_lc17 rfl rfl (by omega) (by omega) ?_
  refine pw_go tk_lc17 rfl rfl ?_
  refine pw_csH tk_lc17 rfl ca_L_begins lk_L_190 sx_L_begins (As := [.ref (A 0 0), .int (xS G (9 * n + 1)), .ref (A 70 0)]) (rest := []) (kc' := kc + 208) (ks' := ks + 2488) (wx_begins (x := (xS G (9 * n + 1))) hl L) (fun _ _ z => z) rfl rfl rfl (Nat.le_of_ble_eq_true rfl) (show 2 + (kc + 208) ≤ kc + 210 by omega) (show 12 + (ks + 2488) ≤ ks + 2500 by omega) ?_
  rintro _ h1 ⟨r, rfl, hr, S1, D1, A1, M1, c0, c1, e1, m, ou⟩
  rw [e1, hr]
  rw [← hK] at c0 c1 ou ⊢
  have R := LM.rd L m
  have e30 : A1 30 0 = A 30 0 := m.2.2.2.2.1
  have rm := R.m
  have hm := m_begins (x := (xS G (9 * n + 1))) R
  rw [e30] at rm hm
  rw [← hK] at hm
  iterate 2 refine pw_go tk_lc17 rfl rfl ?_
  iterate 3 refine pw_go tk_lc17 rfl rfl ?_
  refine pw_addN (9 * n) (1) tk_lc17 rfl rfl rfl ?_
  refine pw_sci (k := 9 * n + 1) tk_lc17 rfl rfl (by omega) (by omega) ?_
  refine pw_cv tk_lc17 rfl ca_X17_begins lk_L_192 iv_X17_begins sv_X17_begins rm rfl rfl (As := [.int (xS G (9 * n + 1))]) (rest := []) (kc' := kc) (ks' := ks) (hm) rfl rfl rfl (Nat.le_of_ble_eq_true rfl) (show 193 + kc ≤ kc + 208 by omega) (show 2352 + ks ≤ ks + 2488 by omega) ?_ ?_
  skip
  · rintro _ h2 ⟨r2, rfl, w1, w2⟩
    have es : S1 = D := by
      by_cases z : K = 0
      · exact c0 z
      · exact c1 z
    rw [es] at m
    obtain ⟨D2, A2, M2, L2, s2, k2, o70, o71, ad, e8⟩ := LM.li L m w1
    refine pw_forget s2 ?_
    have f30 : A2 30 0 = A 30 0 := ad.2.1
    have rm2 := L2.rd.m
    have ht := n_thrown L2.rd
    rw [f30] at rm2 ht
    rw [k2] at ht
    iterate 2 refine pw_go tk_lc17 rfl rfl ?_
    refine pw_cvp tk_lc17 rfl ca_X17_thrown lk_L_131 iv_X17_thrown sv_X17_thrown rm2 rfl rfl (As := []) (rest := []) (ht) rfl rfl rfl rfl ?_
    refine pw_go tk_lc17 rfl rfl ?_
    refine pw_br tk_lc17 rfl rfl (fun _ => ?_) (fun c => absurd rfl c)
    refine pw_go tk_lc17 rfl rfl ?_
    refine pw_ifN (K) tk_lc17 rfl rfl (by omega) (fun c => ?_) (fun c => ?_)
    · skip
      refine pw_go tk_lc17 rfl rfl ?_
      exact pw_W (hE D2 A2 M2 L2 ad e8) ⟨rfl, rfl, rfl, rfl, rfl, rfl, trivial⟩
    · have z : K = 0 := Decidable.not_not.mp c
      have w3 := w2 z
      subst w3
      iterate 2 refine pw_go tk_lc17 rfl rfl ?_
      refine pw_laldN (k := 0) tk_lc17 rfl (L2.o70 ad) nI_0.symm (by decide) (by decide) ?_
      refine pw_l (x' := (nI (FD D 13 (xS G (9 * n + 1)).toNatClampNeg 14)).toInt64) (by show (if 0 = 0 then lN (D2 70 0 0) else 0) = _; rw [if_pos rfl, congrFun (congrFun o70 0) 0, ou z]; exact lN_out _) ?_
      iterate 3 refine pw_go tk_lc17 rfl rfl ?_
      refine pw_br tk_lc17 rfl rfl (fun _ => ?_) (fun c => absurd lcmp_s c)
      refine pw_go tk_lc17 rfl rfl ?_
      exact pw_W (hE D2 A2 M2 L2 ad e8) ⟨rfl, rfl, rfl, rfl, rfl, rfl, trivial⟩
  · exact fun _ _ z => z.elim
def tb_lc18 : List fw_R := [(1595, .aload_n 1, 1596, 1, 0), (1596, .aload_n 0, 1597, 0, 0), (1597, .iload 5, 1599, 5, 0), (1599, .iconst 1, 1600, 0, 1), (1600, .iadd, 1601, 0, 0), (1601, .iaload, 1602, 0, 0), (1602, .aload_n 3, 1603, 3, 0), (1603, .invokestatic 193, 1606, 0, 0), (1606, .istore 6, 1608, 6, 0), (1608, .aload_n 2, 1609, 2, 0), (1609, .aload_n 0, 1610, 0, 0), (1610, .iload 5, 1612, 5, 0), (1612, .iconst 1, 1613, 0, 1), (1613, .iadd, 1614, 0, 0), (1614, .iaload, 1615, 0, 0), (1615, .invokevirtual 195, 1618, 0, 0), (1618, .istore 7, 1620, 7, 0), (1620, .aload_n 2, 1621, 2, 0), (1621, .invokevirtual 131, 1624, 0, 0), (1624, .iload 6, 1626, 6, 0), (1626, .if_icmp .eq 5, 1629, 1631, 0), (1629, .iconst 0, 1630, 0, 0), (1630, .ireturn, 1631, 0, 0), (1631, .iload 6, 1633, 6, 0), (1633, .ifCond .ne 15, 1636, 1648, 0), (1636, .aload_n 3, 1637, 3, 0), (1637, .iconst 0, 1638, 0, 0), (1638, .laload, 1639, 0, 0), (1639, .iload 7, 1641, 7, 0), (1641, .i2l, 1642, 0, 0), (1642, .lcmp, 1643, 0, 0), (1643, .ifCond .eq 5, 1646, 1648, 0), (1646, .iconst 0, 1647, 0, 0), (1647, .ireturn, 1648, 0, 0), (1648, .goto 718, 1651, 2366, 0)]
theorem tk_lc18 : fw_tok mm_L_law_ tb_lc18 := by unfold fw_tok; decide +kernel
set_option maxRecDepth 20000 in
theorem lc_18 {kc ks : Nat} (hl : G.1.stackTraces = false) (hn : n ≤ 600) (L : LI G n D A M) (hs : 9 * n + 9 ≤ nS G) (hb : nS G ≤ 4608) (hE : ∀ D2 A2 M2, LI G (n + 1) D2 A2 M2 → adk A A2 → D2 99 0 8 = D 99 0 8 → PW G mm_L_law_ Q 11 kc ks (hp M2 A2 D2) 2366 (lwF G A n) []) : PW G mm_L_law_ Q 11 (kc + 210) (ks + 2500) (hp M A D) 1595 (lwF G A n) [] := by
  obtain ⟨K, hK⟩ : ∃ K, K = bgK D (xS G (9 * n + 1)) := ⟨_, rfl⟩
  have hK9 : K < 10 := by rw [hK]; exact (by unfold bgK; (repeat' split) <;> omega)
  refine pw_go tk_lc18 rfl rfl ?_
  iterate 3 refine pw_go tk_lc18 rfl rfl ?_
  refine pw_addN (9 * n) (1) tk_lc18 rfl rfl rfl ?_
  refine pw_sci (k := 9 * n + 1) tk_lc18 rfl rfl (by omega) (by omega) ?_
  refine pw_go tk_lc18 rfl rfl ?_
  refine pw_csH tk_lc18 rfl ca_L_needed lk_L_193 sx_L_needed (As := [.ref (A 0 0), .int (xS G (9 * n + 1)), .ref (A 70 0)]) (rest := []) (kc' := kc + 208) (ks' := ks + 2488) (wx_needed (x := (xS G (9 * n + 1))) hl L) (fun _ _ z => z) rfl rfl rfl (Nat.le_of_ble_eq_true rfl) (show 2 + (kc + 208) ≤ kc + 210 by omega) (show 12 + (ks + 2488) ≤ ks + 2500 by omega) ?_
  rintro _ h1 ⟨r, rfl, hr, S1, D1, A1, M1, c0, c1, e1, m, ou⟩
  rw [e1, hr]
  rw [← hK] at c0 c1 ou ⊢
  have R := LM.rd L m
  have e30 : A1 30 0 = A 30 0 := m.2.2.2.2.1
  have rm := R.m
  have hm := m_needed (x := (xS G (9 * n + 1))) R
  rw [e30] at rm hm
  rw [← hK] at hm
  iterate 2 refine pw_go tk_lc18 rfl rfl ?_
  iterate 3 refine pw_go tk_lc18 rfl rfl ?_
  refine pw_addN (9 * n) (1) tk_lc18 rfl rfl rfl ?_
  refine pw_sci (k := 9 * n + 1) tk_lc18 rfl rfl (by omega) (by omega) ?_
  refine pw_cv tk_lc18 rfl ca_X17_needed lk_L_195 iv_X17_needed sv_X17_needed rm rfl rfl (As := [.int (xS G (9 * n + 1))]) (rest := []) (kc' := kc) (ks' := ks) (hm) rfl rfl rfl (Nat.le_of_ble_eq_true rfl) (show 193 + kc ≤ kc + 208 by omega) (show 2352 + ks ≤ ks + 2488 by omega) ?_ ?_
  skip
  · rintro _ h2 ⟨r2, rfl, w1, w2⟩
    have es : S1 = D := by
      by_cases z : K = 0
      · exact c0 z
      · exact c1 z
    rw [es] at m
    obtain ⟨D2, A2, M2, L2, s2, k2, o70, o71, ad, e8⟩ := LM.li L m w1
    refine pw_forget s2 ?_
    have f30 : A2 30 0 = A 30 0 := ad.2.1
    have rm2 := L2.rd.m
    have ht := n_thrown L2.rd
    rw [f30] at rm2 ht
    rw [k2] at ht
    iterate 2 refine pw_go tk_lc18 rfl rfl ?_
    refine pw_cvp tk_lc18 rfl ca_X17_thrown lk_L_131 iv_X17_thrown sv_X17_thrown rm2 rfl rfl (As := []) (rest := []) (ht) rfl rfl rfl rfl ?_
    refine pw_go tk_lc18 rfl rfl ?_
    refine pw_br tk_lc18 rfl rfl (fun _ => ?_) (fun c => absurd rfl c)
    refine pw_go tk_lc18 rfl rfl ?_
    refine pw_ifN (K) tk_lc18 rfl rfl (by omega) (fun c => ?_) (fun c => ?_)
    · skip
      refine pw_go tk_lc18 rfl rfl ?_
      exact pw_W (hE D2 A2 M2 L2 ad e8) ⟨rfl, rfl, rfl, rfl, rfl, rfl, trivial⟩
    · have z : K = 0 := Decidable.not_not.mp c
      have w3 := w2 z
      subst w3
      iterate 2 refine pw_go tk_lc18 rfl rfl ?_
      refine pw_laldN (k := 0) tk_lc18 rfl (L2.o70 ad) nI_0.symm (by decide) (by decide) ?_
      refine pw_l (x' := (nI (FD D 13 (xS G (9 * n + 1)).toNatClampNeg 15)).toInt64) (by show (if 0 = 0 then lN (D2 70 0 0) else 0) = _; rw [if_pos rfl, congrFun (congrFun o70 0) 0, ou z]; exact lN_out _) ?_
      iterate 3 refine pw_go tk_lc18 rfl rfl ?_
      refine pw_br tk_lc18 rfl rfl (fun _ => ?_) (fun c => absurd lcmp_s c)
      refine pw_go tk_lc18 rfl rfl ?_
      exact pw_W (hE D2 A2 M2 L2 ad e8) ⟨rfl, rfl, rfl, rfl, rfl, rfl, trivial⟩
  · exact fun _ _ z => z.elim
def tb_lc19 : List fw_R := [(1651, .aload_n 1, 1652, 1, 0), (1652, .aload_n 0, 1653, 0, 0), (1653, .iload 5, 1655, 5, 0), (1655, .iconst 1, 1656, 0, 1), (1656, .iadd, 1657, 0, 0), (1657, .iaload, 1658, 0, 0), (1658, .aload_n 3, 1659, 3, 0), (1659, .invokestatic 196, 1662, 0, 0), (1662, .istore 6, 1664, 6, 0), (1664, .aload_n 2, 1665, 2, 0), (1665, .aload_n 0, 1666, 0, 0), (1666, .iload 5, 1668, 5, 0), (1668, .iconst 1, 1669, 0, 1), (1669, .iadd, 1670, 0, 0), (1670, .iaload, 1671, 0, 0), (1671, .invokevirtual 198, 1674, 0, 0), (1674, .istore 7, 1676, 7, 0), (1676, .aload_n 2, 1677, 2, 0), (1677, .invokevirtual 131, 1680, 0, 0), (1680, .iload 6, 1682, 6, 0), (1682, .if_icmp .eq 5, 1685, 1687, 0), (1685, .iconst 0, 1686, 0, 0), (1686, .ireturn, 1687, 0, 0), (1687, .iload 6, 1689, 6, 0), (1689, .ifCond .ne 15, 1692, 1704, 0), (1692, .aload_n 3, 1693, 3, 0), (1693, .iconst 0, 1694, 0, 0), (1694, .laload, 1695, 0, 0), (1695, .iload 7, 1697, 7, 0), (1697, .i2l, 1698, 0, 0), (1698, .lcmp, 1699, 0, 0), (1699, .ifCond .eq 5, 1702, 1704, 0), (1702, .iconst 0, 1703, 0, 0), (1703, .ireturn, 1704, 0, 0), (1704, .goto 662, 1707, 2366, 0)]
theorem tk_lc19 : fw_tok mm_L_law_ tb_lc19 := by unfold fw_tok; decide +kernel
set_option maxRecDepth 20000 in
theorem lc_19 {kc ks : Nat} (hl : G.1.stackTraces = false) (hn : n ≤ 600) (L : LI G n D A M) (hs : 9 * n + 9 ≤ nS G) (hb : nS G ≤ 4608) (hE : ∀ D2 A2 M2, LI G (n + 1) D2 A2 M2 → adk A A2 → D2 99 0 8 = D 99 0 8 → PW G mm_L_law_ Q 11 kc ks (hp M2 A2 D2) 2366 (lwF G A n) []) : PW G mm_L_law_ Q 11 (kc + 210) (ks + 2500) (hp M A D) 1651 (lwF G A n) [] := by
  obtain ⟨K, hK⟩ : ∃ K, K = reK D (xS G (9 * n + 1)) := ⟨_, rfl⟩
  have hK9 : K < 10 := by rw [hK]; exact (by unfold reK bgK; (repeat' split) <;> omega)
  refine pw_go tk_lc19 rfl rfl ?_
  iterate 3 refine pw_go tk_lc19 rfl rfl ?_
  refine pw_addN (9 * n) (1) tk_lc19 rfl rfl rfl ?_
  refine pw_sci (k := 9 * n + 1) tk_lc19 rfl rfl (by omega) (by omega) ?_
  refine pw_go tk_lc19 rfl rfl ?_
  refine pw_csH tk_lc19 rfl ca_L_release lk_L_196 sx_L_release (As := [.ref (A 0 0), .int (xS G (9 * n + 1)), .ref (A 70 0)]) (rest := []) (kc' := kc + 207) (ks' := ks + 2482) (wx_release (x := (xS G (9 * n + 1))) hl L) (fun _ _ z => z) rfl rfl rfl (Nat.le_of_ble_eq_true rfl) (show 3 + (kc + 207) ≤ kc + 210 by omega) (show 18 + (ks + 2482) ≤ ks + 2500 by omega) ?_
  rintro _ h1 ⟨r, rfl, hr, S1, D1, A1, M1, c0, c1, e1, m, ou⟩
  rw [e1, hr]
  rw [← hK] at c0 c1 ou ⊢
  have R := LM.rd L m
  have e30 : A1 30 0 = A 30 0 := m.2.2.2.2.1
  have rm := R.m
  have hm := m_release (x := (xS G (9 * n + 1))) R
  rw [e30] at rm hm
  rw [← hK] at hm
  iterate 2 refine pw_go tk_lc19 rfl rfl ?_
  iterate 3 refine pw_go tk_lc19 rfl rfl ?_
  refine pw_addN (9 * n) (1) tk_lc19 rfl rfl rfl ?_
  refine pw_sci (k := 9 * n + 1) tk_lc19 rfl rfl (by omega) (by omega) ?_
  refine pw_cv tk_lc19 rfl ca_X17_release lk_L_198 iv_X17_release sv_X17_release rm rfl rfl (As := [.int (xS G (9 * n + 1))]) (rest := []) (kc' := kc) (ks' := ks) (hm) rfl rfl rfl (Nat.le_of_ble_eq_true rfl) (show 193 + kc ≤ kc + 207 by omega) (show 2352 + ks ≤ ks + 2482 by omega) ?_ ?_
  skip
  · rintro _ h2 ⟨r2, rfl, w1, w2⟩
    have es : S1 = D := by
      by_cases z : K = 0
      · exact c0 z
      · exact c1 z
    rw [es] at m
    obtain ⟨D2, A2, M2, L2, s2, k2, o70, o71, ad, e8⟩ := LM.li L m w1
    refine pw_forget s2 ?_
    have f30 : A2 30 0 = A 30 0 := ad.2.1
    have rm2 := L2.rd.m
    have ht := n_thrown L2.rd
    rw [f30] at rm2 ht
    rw [k2] at ht
    iterate 2 refine pw_go tk_lc19 rfl rfl ?_
    refine pw_cvp tk_lc19 rfl ca_X17_thrown lk_L_131 iv_X17_thrown sv_X17_thrown rm2 rfl rfl (As := []) (rest := []) (ht) rfl rfl rfl rfl ?_
    refine pw_go tk_lc19 rfl rfl ?_
    refine pw_br tk_lc19 rfl rfl (fun _ => ?_) (fun c => absurd rfl c)
    refine pw_go tk_lc19 rfl rfl ?_
    refine pw_ifN (K) tk_lc19 rfl rfl (by omega) (fun c => ?_) (fun c => ?_)
    · skip
      refine pw_go tk_lc19 rfl rfl ?_
      exact pw_W (hE D2 A2 M2 L2 ad e8) ⟨rfl, rfl, rfl, rfl, rfl, rfl, trivial⟩
    · have z : K = 0 := Decidable.not_not.mp c
      have w3 := w2 z
      subst w3
      iterate 2 refine pw_go tk_lc19 rfl rfl ?_
      refine pw_laldN (k := 0) tk_lc19 rfl (L2.o70 ad) nI_0.symm (by decide) (by decide) ?_
      refine pw_l (x' := (nI (FD D 13 (xS G (9 * n + 1)).toNatClampNeg 16)).toInt64) (by show (if 0 = 0 then lN (D2 70 0 0) else 0) = _; rw [if_pos rfl, congrFun (congrFun o70 0) 0, ou z]; exact lN_out _) ?_
      iterate 3 refine pw_go tk_lc19 rfl rfl ?_
      refine pw_br tk_lc19 rfl rfl (fun _ => ?_) (fun c => absurd lcmp_s c)
      refine pw_go tk_lc19 rfl rfl ?_
      exact pw_W (hE D2 A2 M2 L2 ad e8) ⟨rfl, rfl, rfl, rfl, rfl, rfl, trivial⟩
  · exact fun _ _ z => z.elim
def tb_lc20 : List fw_R := [(1707, .aload_n 1, 1708, 1, 0), (1708, .aload_n 0, 1709, 0, 0), (1709, .iload 5, 1711, 5, 0), (1711, .iconst 1, 1712, 0, 1), (1712, .iadd, 1713, 0, 0), (1713, .iaload, 1714, 0, 0), (1714, .aload_n 3, 1715, 3, 0), (1715, .invokestatic 199, 1718, 0, 0), (1718, .istore 6, 1720, 6, 0), (1720, .aload_n 2, 1721, 2, 0), (1721, .aload_n 0, 1722, 0, 0), (1722, .iload 5, 1724, 5, 0), (1724, .iconst 1, 1725, 0, 1), (1725, .iadd, 1726, 0, 0), (1726, .iaload, 1727, 0, 0), (1727, .invokevirtual 201, 1730, 0, 0), (1730, .istore 7, 1732, 7, 0), (1732, .aload_n 2, 1733, 2, 0), (1733, .invokevirtual 131, 1736, 0, 0), (1736, .iload 6, 1738, 6, 0), (1738, .if_icmp .eq 5, 1741, 1743, 0), (1741, .iconst 0, 1742, 0, 0), (1742, .ireturn, 1743, 0, 0), (1743, .iload 6, 1745, 6, 0), (1745, .ifCond .ne 15, 1748, 1760, 0), (1748, .aload_n 3, 1749, 3, 0), (1749, .iconst 0, 1750, 0, 0), (1750, .laload, 1751, 0, 0), (1751, .iload 7, 1753, 7, 0), (1753, .i2l, 1754, 0, 0), (1754, .lcmp, 1755, 0, 0), (1755, .ifCond .eq 5, 1758, 1760, 0), (1758, .iconst 0, 1759, 0, 0), (1759, .ireturn, 1760, 0, 0), (1760, .goto 606, 1763, 2366, 0)]
theorem tk_lc20 : fw_tok mm_L_law_ tb_lc20 := by unfold fw_tok; decide +kernel
set_option maxRecDepth 20000 in
theorem lc_20 {kc ks : Nat} (hl : G.1.stackTraces = false) (hn : n ≤ 600) (L : LI G n D A M) (hs : 9 * n + 9 ≤ nS G) (hb : nS G ≤ 4608) (hE : ∀ D2 A2 M2, LI G (n + 1) D2 A2 M2 → adk A A2 → D2 99 0 8 = D 99 0 8 → PW G mm_L_law_ Q 11 kc ks (hp M2 A2 D2) 2366 (lwF G A n) []) : PW G mm_L_law_ Q 11 (kc + 210) (ks + 2500) (hp M A D) 1707 (lwF G A n) [] := by
  obtain ⟨K, hK⟩ : ∃ K, K = enK D (xS G (9 * n + 1)) := ⟨_, rfl⟩
  have hK9 : K < 10 := by rw [hK]; exact (by unfold enK bgK; (repeat' split) <;> omega)
  refine pw_go tk_lc20 rfl rfl ?_
  iterate 3 refine pw_go tk_lc20 rfl rfl ?_
  refine pw_addN (9 * n) (1) tk_lc20 rfl rfl rfl ?_
  refine pw_sci (k := 9 * n + 1) tk_lc20 rfl rfl (by omega) (by omega) ?_
  refine pw_go tk_lc20 rfl rfl ?_
  refine pw_csH tk_lc20 rfl ca_L_end lk_L_199 sx_L_end (As := [.ref (A 0 0), .int (xS G (9 * n + 1)), .ref (A 70 0)]) (rest := []) (kc' := kc + 207) (ks' := ks + 2482) (wx_end (x := (xS G (9 * n + 1))) hl L) (fun _ _ z => z) rfl rfl rfl (Nat.le_of_ble_eq_true rfl) (show 3 + (kc + 207) ≤ kc + 210 by omega) (show 18 + (ks + 2482) ≤ ks + 2500 by omega) ?_
  rintro _ h1 ⟨r, rfl, hr, S1, D1, A1, M1, c0, c1, e1, m, ou⟩
  rw [e1, hr]
  rw [← hK] at c0 c1 ou ⊢
  have R := LM.rd L m
  have e30 : A1 30 0 = A 30 0 := m.2.2.2.2.1
  have rm := R.m
  have hm := m_end (x := (xS G (9 * n + 1))) R
  rw [e30] at rm hm
  rw [← hK] at hm
  iterate 2 refine pw_go tk_lc20 rfl rfl ?_
  iterate 3 refine pw_go tk_lc20 rfl rfl ?_
  refine pw_addN (9 * n) (1) tk_lc20 rfl rfl rfl ?_
  refine pw_sci (k := 9 * n + 1) tk_lc20 rfl rfl (by omega) (by omega) ?_
  refine pw_cv tk_lc20 rfl ca_X17_end lk_L_201 iv_X17_end sv_X17_end rm rfl rfl (As := [.int (xS G (9 * n + 1))]) (rest := []) (kc' := kc) (ks' := ks) (hm) rfl rfl rfl (Nat.le_of_ble_eq_true rfl) (show 193 + kc ≤ kc + 207 by omega) (show 2352 + ks ≤ ks + 2482 by omega) ?_ ?_
  skip
  · rintro _ h2 ⟨r2, rfl, w1, w2⟩
    have es : S1 = D := by
      by_cases z : K = 0
      · exact c0 z
      · exact c1 z
    rw [es] at m
    obtain ⟨D2, A2, M2, L2, s2, k2, o70, o71, ad, e8⟩ := LM.li L m w1
    refine pw_forget s2 ?_
    have f30 : A2 30 0 = A 30 0 := ad.2.1
    have rm2 := L2.rd.m
    have ht := n_thrown L2.rd
    rw [f30] at rm2 ht
    rw [k2] at ht
    iterate 2 refine pw_go tk_lc20 rfl rfl ?_
    refine pw_cvp tk_lc20 rfl ca_X17_thrown lk_L_131 iv_X17_thrown sv_X17_thrown rm2 rfl rfl (As := []) (rest := []) (ht) rfl rfl rfl rfl ?_
    refine pw_go tk_lc20 rfl rfl ?_
    refine pw_br tk_lc20 rfl rfl (fun _ => ?_) (fun c => absurd rfl c)
    refine pw_go tk_lc20 rfl rfl ?_
    refine pw_ifN (K) tk_lc20 rfl rfl (by omega) (fun c => ?_) (fun c => ?_)
    · skip
      refine pw_go tk_lc20 rfl rfl ?_
      exact pw_W (hE D2 A2 M2 L2 ad e8) ⟨rfl, rfl, rfl, rfl, rfl, rfl, trivial⟩
    · have z : K = 0 := Decidable.not_not.mp c
      have w3 := w2 z
      subst w3
      iterate 2 refine pw_go tk_lc20 rfl rfl ?_
      refine pw_laldN (k := 0) tk_lc20 rfl (L2.o70 ad) nI_0.symm (by decide) (by decide) ?_
      refine pw_l (x' := (nO (FD D 13 (xS G (9 * n + 1)).toNatClampNeg 17)).toInt64) (by show (if 0 = 0 then lN (D2 70 0 0) else 0) = _; rw [if_pos rfl, congrFun (congrFun o70 0) 0, ou z]; exact lN_out _) ?_
      iterate 3 refine pw_go tk_lc20 rfl rfl ?_
      refine pw_br tk_lc20 rfl rfl (fun _ => ?_) (fun c => absurd lcmp_s c)
      refine pw_go tk_lc20 rfl rfl ?_
      exact pw_W (hE D2 A2 M2 L2 ad e8) ⟨rfl, rfl, rfl, rfl, rfl, rfl, trivial⟩
  · exact fun _ _ z => z.elim
def tb_lc21 : List fw_R := [(1763, .aload_n 1, 1764, 1, 0), (1764, .aload_n 0, 1765, 0, 0), (1765, .iload 5, 1767, 5, 0), (1767, .iconst 1, 1768, 0, 1), (1768, .iadd, 1769, 0, 0), (1769, .iaload, 1770, 0, 0), (1770, .aload_n 0, 1771, 0, 0), (1771, .iload 5, 1773, 5, 0), (1773, .iconst 2, 1774, 0, 2), (1774, .iadd, 1775, 0, 0), (1775, .iaload, 1776, 0, 0), (1776, .aload_n 3, 1777, 3, 0), (1777, .invokestatic 202, 1780, 0, 0), (1780, .istore 6, 1782, 6, 0), (1782, .aload_n 2, 1783, 2, 0), (1783, .aload_n 0, 1784, 0, 0), (1784, .iload 5, 1786, 5, 0), (1786, .iconst 1, 1787, 0, 1), (1787, .iadd, 1788, 0, 0), (1788, .iaload, 1789, 0, 0), (1789, .aload_n 0, 1790, 0, 0), (1790, .iload 5, 1792, 5, 0), (1792, .iconst 2, 1793, 0, 2), (1793, .iadd, 1794, 0, 0), (1794, .iaload, 1795, 0, 0), (1795, .invokevirtual 204, 1798, 0, 0), (1798, .istore 7, 1800, 7, 0), (1800, .aload_n 2, 1801, 2, 0), (1801, .invokevirtual 131, 1804, 0, 0), (1804, .iload 6, 1806, 6, 0), (1806, .if_icmp .eq 5, 1809, 1811, 0), (1809, .iconst 0, 1810, 0, 0), (1810, .ireturn, 1811, 0, 0), (1811, .iload 6, 1813, 6, 0), (1813, .ifCond .ne 15, 1816, 1828, 0), (1816, .aload_n 3, 1817, 3, 0), (1817, .iconst 0, 1818, 0, 0), (1818, .laload, 1819, 0, 0), (1819, .iload 7, 1821, 7, 0), (1821, .i2l, 1822, 0, 0), (1822, .lcmp, 1823, 0, 0), (1823, .ifCond .eq 5, 1826, 1828, 0), (1826, .iconst 0, 1827, 0, 0), (1827, .ireturn, 1828, 0, 0), (1828, .goto 538, 1831, 2366, 0)]
theorem tk_lc21 : fw_tok mm_L_law_ tb_lc21 := by unfold fw_tok; decide +kernel
set_option maxRecDepth 20000 in
theorem lc_21 {kc ks : Nat} (hl : G.1.stackTraces = false) (hn : n ≤ 600) (L : LI G n D A M) (hs : 9 * n + 9 ≤ nS G) (hb : nS G ≤ 4608) (hE : ∀ D2 A2 M2, LI G (n + 1) D2 A2 M2 → adk A A2 → D2 99 0 8 = D 99 0 8 → PW G mm_L_law_ Q 11 kc ks (hp M2 A2 D2) 2366 (lwF G A n) []) : PW G mm_L_law_ Q 11 (kc + 210) (ks + 2500) (hp M A D) 1763 (lwF G A n) [] := by
  obtain ⟨K, hK⟩ : ∃ K, K = pdK (D 99 0 8) (xS G (9 * n + 1)) (inI (xS G (9 * n + 2)) 0 (nI 19999)) := ⟨_, rfl⟩
  have hK9 : K < 10 := by rw [hK]; exact (Nat.lt_trans pdlt (by decide))
  refine pw_go tk_lc21 rfl rfl ?_
  iterate 3 refine pw_go tk_lc21 rfl rfl ?_
  refine pw_addN (9 * n) (1) tk_lc21 rfl rfl rfl ?_
  refine pw_sci (k := 9 * n + 1) tk_lc21 rfl rfl (by omega) (by omega) ?_
  iterate 3 refine pw_go tk_lc21 rfl rfl ?_
  refine pw_addN (9 * n) (2) tk_lc21 rfl rfl rfl ?_
  refine pw_sci (k := 9 * n + 2) tk_lc21 rfl rfl (by omega) (by omega) ?_
  refine pw_go tk_lc21 rfl rfl ?_
  refine pw_csH tk_lc21 rfl ca_L_stateOn lk_L_202 sx_L_stateOn (As := [.ref (A 0 0), .int (xS G (9 * n + 1)), .int (xS G (9 * n + 2)), .ref (A 70 0)]) (rest := []) (kc' := kc + 208) (ks' := ks + 2488) (wx_stateOn (x := (xS G (9 * n + 1))) (y := (xS G (9 * n + 2))) hl L) (fun _ _ z => z) rfl rfl rfl (Nat.le_of_ble_eq_true rfl) (show 2 + (kc + 208) ≤ kc + 210 by omega) (show 12 + (ks + 2488) ≤ ks + 2500 by omega) ?_
  rintro _ h1 ⟨r, rfl, hr, S1, D1, A1, M1, c0, c1, e1, m, ou⟩
  rw [e1, hr]
  rw [← hK] at c0 c1 ou ⊢
  have R := LM.rd L m
  have e30 : A1 30 0 = A 30 0 := m.2.2.2.2.1
  have rm := R.m
  have hm := m_stateOn (x := (xS G (9 * n + 1))) (y := (xS G (9 * n + 2))) R
  rw [e30] at rm hm
  rw [← hK] at hm
  iterate 2 refine pw_go tk_lc21 rfl rfl ?_
  iterate 3 refine pw_go tk_lc21 rfl rfl ?_
  refine pw_addN (9 * n) (1) tk_lc21 rfl rfl rfl ?_
  refine pw_sci (k := 9 * n + 1) tk_lc21 rfl rfl (by omega) (by omega) ?_
  iterate 3 refine pw_go tk_lc21 rfl rfl ?_
  refine pw_addN (9 * n) (2) tk_lc21 rfl rfl rfl ?_
  refine pw_sci (k := 9 * n + 2) tk_lc21 rfl rfl (by omega) (by omega) ?_
  refine pw_cv tk_lc21 rfl ca_X17_stateOn lk_L_204 iv_X17_stateOn sv_X17_stateOn rm rfl rfl (As := [.int (xS G (9 * n + 1)), .int (xS G (9 * n + 2))]) (rest := []) (kc' := kc) (ks' := ks) (hm) rfl rfl rfl (Nat.le_of_ble_eq_true rfl) (show 194 + kc ≤ kc + 208 by omega) (show 2356 + ks ≤ ks + 2488 by omega) ?_ ?_
  skip
  · rintro _ h2 ⟨r2, rfl, w1, w2, -⟩
    have es : S1 = D := by
      by_cases z : K = 0
      · exact c0 z
      · exact c1 z
    rw [es] at m
    obtain ⟨D2, A2, M2, L2, s2, k2, o70, o71, ad, e8⟩ := LM.li L m w1
    refine pw_forget s2 ?_
    have f30 : A2 30 0 = A 30 0 := ad.2.1
    have rm2 := L2.rd.m
    have ht := n_thrown L2.rd
    rw [f30] at rm2 ht
    rw [k2] at ht
    iterate 2 refine pw_go tk_lc21 rfl rfl ?_
    refine pw_cvp tk_lc21 rfl ca_X17_thrown lk_L_131 iv_X17_thrown sv_X17_thrown rm2 rfl rfl (As := []) (rest := []) (ht) rfl rfl rfl rfl ?_
    refine pw_go tk_lc21 rfl rfl ?_
    refine pw_br tk_lc21 rfl rfl (fun _ => ?_) (fun c => absurd rfl c)
    refine pw_go tk_lc21 rfl rfl ?_
    refine pw_ifN (K) tk_lc21 rfl rfl (by omega) (fun c => ?_) (fun c => ?_)
    · skip
      refine pw_go tk_lc21 rfl rfl ?_
      exact pw_W (hE D2 A2 M2 L2 ad e8) ⟨rfl, rfl, rfl, rfl, rfl, rfl, trivial⟩
    · have z : K = 0 := Decidable.not_not.mp c
      have w3 := w2 z
      subst w3
      iterate 2 refine pw_go tk_lc21 rfl rfl ?_
      refine pw_laldN (k := 0) tk_lc21 rfl (L2.o70 ad) nI_0.symm (by decide) (by decide) ?_
      refine pw_l (x' := (nI (stS D (xS G (9 * n + 1)).toNatClampNeg (xS G (9 * n + 2)).toNatClampNeg)).toInt64) (by show (if 0 = 0 then lN (D2 70 0 0) else 0) = _; rw [if_pos rfl, congrFun (congrFun o70 0) 0, ou z]; exact lN_out _) ?_
      iterate 3 refine pw_go tk_lc21 rfl rfl ?_
      refine pw_br tk_lc21 rfl rfl (fun _ => ?_) (fun c => absurd lcmp_s c)
      refine pw_go tk_lc21 rfl rfl ?_
      exact pw_W (hE D2 A2 M2 L2 ad e8) ⟨rfl, rfl, rfl, rfl, rfl, rfl, trivial⟩
  · exact fun _ _ z => z.elim
def tb_lc22 : List fw_R := [(1831, .aload_n 1, 1832, 1, 0), (1832, .aload_n 0, 1833, 0, 0), (1833, .iload 5, 1835, 5, 0), (1835, .iconst 1, 1836, 0, 1), (1836, .iadd, 1837, 0, 0), (1837, .iaload, 1838, 0, 0), (1838, .aload_n 0, 1839, 0, 0), (1839, .iload 5, 1841, 5, 0), (1841, .iconst 2, 1842, 0, 2), (1842, .iadd, 1843, 0, 0), (1843, .iaload, 1844, 0, 0), (1844, .aload_n 3, 1845, 3, 0), (1845, .invokestatic 205, 1848, 0, 0), (1848, .istore 6, 1850, 6, 0), (1850, .aload_n 2, 1851, 2, 0), (1851, .aload_n 0, 1852, 0, 0), (1852, .iload 5, 1854, 5, 0), (1854, .iconst 1, 1855, 0, 1), (1855, .iadd, 1856, 0, 0), (1856, .iaload, 1857, 0, 0), (1857, .aload_n 0, 1858, 0, 0), (1858, .iload 5, 1860, 5, 0), (1860, .iconst 2, 1861, 0, 2), (1861, .iadd, 1862, 0, 0), (1862, .iaload, 1863, 0, 0), (1863, .invokevirtual 207, 1866, 0, 0), (1866, .istore 7, 1868, 7, 0), (1868, .aload_n 2, 1869, 2, 0), (1869, .invokevirtual 131, 1872, 0, 0), (1872, .iload 6, 1874, 6, 0), (1874, .if_icmp .eq 5, 1877, 1879, 0), (1877, .iconst 0, 1878, 0, 0), (1878, .ireturn, 1879, 0, 0), (1879, .iload 6, 1881, 6, 0), (1881, .ifCond .ne 15, 1884, 1896, 0), (1884, .aload_n 3, 1885, 3, 0), (1885, .iconst 0, 1886, 0, 0), (1886, .laload, 1887, 0, 0), (1887, .iload 7, 1889, 7, 0), (1889, .i2l, 1890, 0, 0), (1890, .lcmp, 1891, 0, 0), (1891, .ifCond .eq 5, 1894, 1896, 0), (1894, .iconst 0, 1895, 0, 0), (1895, .ireturn, 1896, 0, 0), (1896, .goto 470, 1899, 2366, 0)]
theorem tk_lc22 : fw_tok mm_L_law_ tb_lc22 := by unfold fw_tok; decide +kernel
set_option maxRecDepth 20000 in
theorem lc_22 {kc ks : Nat} (hl : G.1.stackTraces = false) (hn : n ≤ 600) (L : LI G n D A M) (hs : 9 * n + 9 ≤ nS G) (hb : nS G ≤ 4608) (hE : ∀ D2 A2 M2, LI G (n + 1) D2 A2 M2 → adk A A2 → D2 99 0 8 = D 99 0 8 → PW G mm_L_law_ Q 11 kc ks (hp M2 A2 D2) 2366 (lwF G A n) []) : PW G mm_L_law_ Q 11 (kc + 210) (ks + 2500) (hp M A D) 1831 (lwF G A n) [] := by
  obtain ⟨K, hK⟩ : ∃ K, K = pdK (D 99 0 8) (xS G (9 * n + 1)) (inI (xS G (9 * n + 2)) 0 (nI 19999)) := ⟨_, rfl⟩
  have hK9 : K < 10 := by rw [hK]; exact (Nat.lt_trans pdlt (by decide))
  refine pw_go tk_lc22 rfl rfl ?_
  iterate 3 refine pw_go tk_lc22 rfl rfl ?_
  refine pw_addN (9 * n) (1) tk_lc22 rfl rfl rfl ?_
  refine pw_sci (k := 9 * n + 1) tk_lc22 rfl rfl (by omega) (by omega) ?_
  iterate 3 refine pw_go tk_lc22 rfl rfl ?_
  refine pw_addN (9 * n) (2) tk_lc22 rfl rfl rfl ?_
  refine pw_sci (k := 9 * n + 2) tk_lc22 rfl rfl (by omega) (by omega) ?_
  refine pw_go tk_lc22 rfl rfl ?_
  refine pw_csH tk_lc22 rfl ca_L_byClerk lk_L_205 sx_L_byClerk (As := [.ref (A 0 0), .int (xS G (9 * n + 1)), .int (xS G (9 * n + 2)), .ref (A 70 0)]) (rest := []) (kc' := kc + 208) (ks' := ks + 2488) (wx_byClerk (x := (xS G (9 * n + 1))) (y := (xS G (9 * n + 2))) hl L) (fun _ _ z => z) rfl rfl rfl (Nat.le_of_ble_eq_true rfl) (show 2 + (kc + 208) ≤ kc + 210 by omega) (show 12 + (ks + 2488) ≤ ks + 2500 by omega) ?_
  rintro _ h1 ⟨r, rfl, hr, S1, D1, A1, M1, c0, c1, e1, m, ou⟩
  rw [e1, hr]
  rw [← hK] at c0 c1 ou ⊢
  have R := LM.rd L m
  have e30 : A1 30 0 = A 30 0 := m.2.2.2.2.1
  have rm := R.m
  have hm := m_byClerk (x := (xS G (9 * n + 1))) (y := (xS G (9 * n + 2))) R
  rw [e30] at rm hm
  rw [← hK] at hm
  iterate 2 refine pw_go tk_lc22 rfl rfl ?_
  iterate 3 refine pw_go tk_lc22 rfl rfl ?_
  refine pw_addN (9 * n) (1) tk_lc22 rfl rfl rfl ?_
  refine pw_sci (k := 9 * n + 1) tk_lc22 rfl rfl (by omega) (by omega) ?_
  iterate 3 refine pw_go tk_lc22 rfl rfl ?_
  refine pw_addN (9 * n) (2) tk_lc22 rfl rfl rfl ?_
  refine pw_sci (k := 9 * n + 2) tk_lc22 rfl rfl (by omega) (by omega) ?_
  refine pw_cv tk_lc22 rfl ca_X17_byClerk lk_L_207 iv_X17_byClerk sv_X17_byClerk rm rfl rfl (As := [.int (xS G (9 * n + 1)), .int (xS G (9 * n + 2))]) (rest := []) (kc' := kc) (ks' := ks) (hm) rfl rfl rfl (Nat.le_of_ble_eq_true rfl) (show 194 + kc ≤ kc + 208 by omega) (show 2356 + ks ≤ ks + 2488 by omega) ?_ ?_
  skip
  · rintro _ h2 ⟨r2, rfl, w1, w2, -⟩
    have es : S1 = D := by
      by_cases z : K = 0
      · exact c0 z
      · exact c1 z
    rw [es] at m
    obtain ⟨D2, A2, M2, L2, s2, k2, o70, o71, ad, e8⟩ := LM.li L m w1
    refine pw_forget s2 ?_
    have f30 : A2 30 0 = A 30 0 := ad.2.1
    have rm2 := L2.rd.m
    have ht := n_thrown L2.rd
    rw [f30] at rm2 ht
    rw [k2] at ht
    iterate 2 refine pw_go tk_lc22 rfl rfl ?_
    refine pw_cvp tk_lc22 rfl ca_X17_thrown lk_L_131 iv_X17_thrown sv_X17_thrown rm2 rfl rfl (As := []) (rest := []) (ht) rfl rfl rfl rfl ?_
    refine pw_go tk_lc22 rfl rfl ?_
    refine pw_br tk_lc22 rfl rfl (fun _ => ?_) (fun c => absurd rfl c)
    refine pw_go tk_lc22 rfl rfl ?_
    refine pw_ifN (K) tk_lc22 rfl rfl (by omega) (fun c => ?_) (fun c => ?_)
    · skip
      refine pw_go tk_lc22 rfl rfl ?_
      exact pw_W (hE D2 A2 M2 L2 ad e8) ⟨rfl, rfl, rfl, rfl, rfl, rfl, trivial⟩
    · have z : K = 0 := Decidable.not_not.mp c
      have w3 := w2 z
      subst w3
      iterate 2 refine pw_go tk_lc22 rfl rfl ?_
      refine pw_laldN (k := 0) tk_lc22 rfl (L2.o70 ad) nI_0.symm (by decide) (by decide) ?_
      refine pw_l (x' := (nI (stS D (xS G (9 * n + 1)).toNatClampNeg (xS G (9 * n + 2)).toNatClampNeg)).toInt64) (by show (if 0 = 0 then lN (D2 70 0 0) else 0) = _; rw [if_pos rfl, congrFun (congrFun o70 0) 0, ou z]; exact lN_out _) ?_
      iterate 3 refine pw_go tk_lc22 rfl rfl ?_
      refine pw_br tk_lc22 rfl rfl (fun _ => ?_) (fun c => absurd lcmp_s c)
      refine pw_go tk_lc22 rfl rfl ?_
      exact pw_W (hE D2 A2 M2 L2 ad e8) ⟨rfl, rfl, rfl, rfl, rfl, rfl, trivial⟩
  · exact fun _ _ z => z.elim
def tb_lc23 : List fw_R := [(1899, .aload_n 1, 1900, 1, 0), (1900, .aload_n 0, 1901, 0, 0), (1901, .iload 5, 1903, 5, 0), (1903, .iconst 1, 1904, 0, 1), (1904, .iadd, 1905, 0, 0), (1905, .iaload, 1906, 0, 0), (1906, .aload_n 0, 1907, 0, 0), (1907, .iload 5, 1909, 5, 0), (1909, .iconst 2, 1910, 0, 2), (1910, .iadd, 1911, 0, 0), (1911, .iaload, 1912, 0, 0), (1912, .aload_n 3, 1913, 3, 0), (1913, .invokestatic 208, 1916, 0, 0), (1916, .istore 6, 1918, 6, 0), (1918, .aload_n 2, 1919, 2, 0), (1919, .aload_n 0, 1920, 0, 0), (1920, .iload 5, 1922, 5, 0), (1922, .iconst 1, 1923, 0, 1), (1923, .iadd, 1924, 0, 0), (1924, .iaload, 1925, 0, 0), (1925, .aload_n 0, 1926, 0, 0), (1926, .iload 5, 1928, 5, 0), (1928, .iconst 2, 1929, 0, 2), (1929, .iadd, 1930, 0, 0), (1930, .iaload, 1931, 0, 0), (1931, .invokevirtual 210, 1934, 0, 0), (1934, .istore 7, 1936, 7, 0), (1936, .aload_n 2, 1937, 2, 0), (1937, .invokevirtual 131, 1940, 0, 0), (1940, .iload 6, 1942, 6, 0), (1942, .if_icmp .eq 5, 1945, 1947, 0), (1945, .iconst 0, 1946, 0, 0), (1946, .ireturn, 1947, 0, 0), (1947, .iload 6, 1949, 6, 0), (1949, .ifCond .ne 15, 1952, 1964, 0), (1952, .aload_n 3, 1953, 3, 0), (1953, .iconst 0, 1954, 0, 0), (1954, .laload, 1955, 0, 0), (1955, .iload 7, 1957, 7, 0), (1957, .i2l, 1958, 0, 0), (1958, .lcmp, 1959, 0, 0), (1959, .ifCond .eq 5, 1962, 1964, 0), (1962, .iconst 0, 1963, 0, 0), (1963, .ireturn, 1964, 0, 0), (1964, .goto 402, 1967, 2366, 0)]
theorem tk_lc23 : fw_tok mm_L_law_ tb_lc23 := by unfold fw_tok; decide +kernel
set_option maxRecDepth 20000 in
theorem lc_23 {kc ks : Nat} (hl : G.1.stackTraces = false) (hn : n ≤ 600) (L : LI G n D A M) (hs : 9 * n + 9 ≤ nS G) (hb : nS G ≤ 4608) (hE : ∀ D2 A2 M2, LI G (n + 1) D2 A2 M2 → adk A A2 → D2 99 0 8 = D 99 0 8 → PW G mm_L_law_ Q 11 kc ks (hp M2 A2 D2) 2366 (lwF G A n) []) : PW G mm_L_law_ Q 11 (kc + 210) (ks + 2500) (hp M A D) 1899 (lwF G A n) [] := by
  obtain ⟨K, hK⟩ : ∃ K, K = keK D (xS G (9 * n + 1)) (xS G (9 * n + 2)) := ⟨_, rfl⟩
  have hK9 : K < 10 := by rw [hK]; exact (by unfold keK pdK; (repeat' split) <;> omega)
  refine pw_go tk_lc23 rfl rfl ?_
  iterate 3 refine pw_go tk_lc23 rfl rfl ?_
  refine pw_addN (9 * n) (1) tk_lc23 rfl rfl rfl ?_
  refine pw_sci (k := 9 * n + 1) tk_lc23 rfl rfl (by omega) (by omega) ?_
  iterate 3 refine pw_go tk_lc23 rfl rfl ?_
  refine pw_addN (9 * n) (2) tk_lc23 rfl rfl rfl ?_
  refine pw_sci (k := 9 * n + 2) tk_lc23 rfl rfl (by omega) (by omega) ?_
  refine pw_go tk_lc23 rfl rfl ?_
  refine pw_csH tk_lc23 rfl ca_L_keeper lk_L_208 sx_L_keeper (As := [.ref (A 0 0), .int (xS G (9 * n + 1)), .int (xS G (9 * n + 2)), .ref (A 70 0)]) (rest := []) (kc' := kc + 207) (ks' := ks + 2482) (wx_keeper (x := (xS G (9 * n + 1))) (y := (xS G (9 * n + 2))) hl L) (fun _ _ z => z) rfl rfl rfl (Nat.le_of_ble_eq_true rfl) (show 3 + (kc + 207) ≤ kc + 210 by omega) (show 18 + (ks + 2482) ≤ ks + 2500 by omega) ?_
  rintro _ h1 ⟨r, rfl, hr, S1, D1, A1, M1, c0, c1, e1, m, ou⟩
  rw [e1, hr]
  rw [← hK] at c0 c1 ou ⊢
  have R := LM.rd L m
  have e30 : A1 30 0 = A 30 0 := m.2.2.2.2.1
  have rm := R.m
  have hm := m_keeper (x := (xS G (9 * n + 1))) (y := (xS G (9 * n + 2))) R
  rw [e30] at rm hm
  rw [← hK] at hm
  iterate 2 refine pw_go tk_lc23 rfl rfl ?_
  iterate 3 refine pw_go tk_lc23 rfl rfl ?_
  refine pw_addN (9 * n) (1) tk_lc23 rfl rfl rfl ?_
  refine pw_sci (k := 9 * n + 1) tk_lc23 rfl rfl (by omega) (by omega) ?_
  iterate 3 refine pw_go tk_lc23 rfl rfl ?_
  refine pw_addN (9 * n) (2) tk_lc23 rfl rfl rfl ?_
  refine pw_sci (k := 9 * n + 2) tk_lc23 rfl rfl (by omega) (by omega) ?_
  refine pw_cv tk_lc23 rfl ca_X17_keeper lk_L_210 iv_X17_keeper sv_X17_keeper rm rfl rfl (As := [.int (xS G (9 * n + 1)), .int (xS G (9 * n + 2))]) (rest := []) (kc' := kc) (ks' := ks) (hm) rfl rfl rfl (Nat.le_of_ble_eq_true rfl) (show 193 + kc ≤ kc + 207 by omega) (show 2352 + ks ≤ ks + 2482 by omega) ?_ ?_
  skip
  · rintro _ h2 ⟨r2, rfl, w1, w2⟩
    have es : S1 = D := by
      by_cases z : K = 0
      · exact c0 z
      · exact c1 z
    rw [es] at m
    obtain ⟨D2, A2, M2, L2, s2, k2, o70, o71, ad, e8⟩ := LM.li L m w1
    refine pw_forget s2 ?_
    have f30 : A2 30 0 = A 30 0 := ad.2.1
    have rm2 := L2.rd.m
    have ht := n_thrown L2.rd
    rw [f30] at rm2 ht
    rw [k2] at ht
    iterate 2 refine pw_go tk_lc23 rfl rfl ?_
    refine pw_cvp tk_lc23 rfl ca_X17_thrown lk_L_131 iv_X17_thrown sv_X17_thrown rm2 rfl rfl (As := []) (rest := []) (ht) rfl rfl rfl rfl ?_
    refine pw_go tk_lc23 rfl rfl ?_
    refine pw_br tk_lc23 rfl rfl (fun _ => ?_) (fun c => absurd rfl c)
    refine pw_go tk_lc23 rfl rfl ?_
    refine pw_ifN (K) tk_lc23 rfl rfl (by omega) (fun c => ?_) (fun c => ?_)
    · skip
      refine pw_go tk_lc23 rfl rfl ?_
      exact pw_W (hE D2 A2 M2 L2 ad e8) ⟨rfl, rfl, rfl, rfl, rfl, rfl, trivial⟩
    · have z : K = 0 := Decidable.not_not.mp c
      have w3 := w2 z
      subst w3
      iterate 2 refine pw_go tk_lc23 rfl rfl ?_
      refine pw_laldN (k := 0) tk_lc23 rfl (L2.o70 ad) nI_0.symm (by decide) (by decide) ?_
      refine pw_l (x' := (nI (kpS D (xS G (9 * n + 1)).toNatClampNeg (xS G (9 * n + 2)).toNatClampNeg - 1)).toInt64) (by show (if 0 = 0 then lN (D2 70 0 0) else 0) = _; rw [if_pos rfl, congrFun (congrFun o70 0) 0, ou z]; exact lN_out _) ?_
      iterate 3 refine pw_go tk_lc23 rfl rfl ?_
      refine pw_br tk_lc23 rfl rfl (fun _ => ?_) (fun c => absurd lcmp_s c)
      refine pw_go tk_lc23 rfl rfl ?_
      exact pw_W (hE D2 A2 M2 L2 ad e8) ⟨rfl, rfl, rfl, rfl, rfl, rfl, trivial⟩
  · exact fun _ _ z => z.elim
def tb_lc24 : List fw_R := [(1967, .aload_n 1, 1968, 1, 0), (1968, .aload_n 0, 1969, 0, 0), (1969, .iload 5, 1971, 5, 0), (1971, .iconst 1, 1972, 0, 1), (1972, .iadd, 1973, 0, 0), (1973, .iaload, 1974, 0, 0), (1974, .aload_n 0, 1975, 0, 0), (1975, .iload 5, 1977, 5, 0), (1977, .iconst 2, 1978, 0, 2), (1978, .iadd, 1979, 0, 0), (1979, .iaload, 1980, 0, 0), (1980, .aload_n 0, 1981, 0, 0), (1981, .iload 5, 1983, 5, 0), (1983, .iconst 3, 1984, 0, 3), (1984, .iadd, 1985, 0, 0), (1985, .iaload, 1986, 0, 0), (1986, .aload_n 3, 1987, 3, 0), (1987, .invokestatic 211, 1990, 0, 0), (1990, .istore 6, 1992, 6, 0), (1992, .aload_n 2, 1993, 2, 0), (1993, .aload_n 0, 1994, 0, 0), (1994, .iload 5, 1996, 5, 0), (1996, .iconst 1, 1997, 0, 1), (1997, .iadd, 1998, 0, 0), (1998, .iaload, 1999, 0, 0), (1999, .aload_n 0, 2000, 0, 0), (2000, .iload 5, 2002, 5, 0), (2002, .iconst 2, 2003, 0, 2), (2003, .iadd, 2004, 0, 0), (2004, .iaload, 2005, 0, 0), (2005, .aload_n 0, 2006, 0, 0), (2006, .iload 5, 2008, 5, 0), (2008, .iconst 3, 2009, 0, 3), (2009, .iadd, 2010, 0, 0), (2010, .iaload, 2011, 0, 0), (2011, .invokevirtual 213, 2014, 0, 0), (2014, .istore 7, 2016, 7, 0), (2016, .aload_n 2, 2017, 2, 0), (2017, .invokevirtual 131, 2020, 0, 0), (2020, .iload 6, 2022, 6, 0), (2022, .if_icmp .eq 5, 2025, 2027, 0), (2025, .iconst 0, 2026, 0, 0), (2026, .ireturn, 2027, 0, 0), (2027, .iload 6, 2029, 6, 0), (2029, .ifCond .ne 15, 2032, 2044, 0), (2032, .aload_n 3, 2033, 3, 0), (2033, .iconst 0, 2034, 0, 0), (2034, .laload, 2035, 0, 0), (2035, .iload 7, 2037, 7, 0), (2037, .i2l, 2038, 0, 0), (2038, .lcmp, 2039, 0, 0), (2039, .ifCond .eq 5, 2042, 2044, 0), (2042, .iconst 0, 2043, 0, 0), (2043, .ireturn, 2044, 0, 0), (2044, .goto 322, 2047, 2366, 0)]
theorem tk_lc24 : fw_tok mm_L_law_ tb_lc24 := by unfold fw_tok; decide +kernel
set_option maxRecDepth 20000 in
theorem lc_24 {kc ks : Nat} (hl : G.1.stackTraces = false) (hn : n ≤ 600) (L : LI G n D A M) (hs : 9 * n + 9 ≤ nS G) (hb : nS G ≤ 4608) (hE : ∀ D2 A2 M2, LI G (n + 1) D2 A2 M2 → adk A A2 → D2 99 0 8 = D 99 0 8 → PW G mm_L_law_ Q 11 kc ks (hp M2 A2 D2) 2366 (lwF G A n) []) : PW G mm_L_law_ Q 11 (kc + 210) (ks + 2500) (hp M A D) 1967 (lwF G A n) [] := by
  obtain ⟨K, hK⟩ : ∃ K, K = pdK (D 99 0 8) (xS G (9 * n + 1)) (spI (xS G (9 * n + 2)) (xS G (9 * n + 3))) := ⟨_, rfl⟩
  have hK9 : K < 10 := by rw [hK]; exact (Nat.lt_trans pdlt (by decide))
  refine pw_go tk_lc24 rfl rfl ?_
  iterate 3 refine pw_go tk_lc24 rfl rfl ?_
  refine pw_addN (9 * n) (1) tk_lc24 rfl rfl rfl ?_
  refine pw_sci (k := 9 * n + 1) tk_lc24 rfl rfl (by omega) (by omega) ?_
  iterate 3 refine pw_go tk_lc24 rfl rfl ?_
  refine pw_addN (9 * n) (2) tk_lc24 rfl rfl rfl ?_
  refine pw_sci (k := 9 * n + 2) tk_lc24 rfl rfl (by omega) (by omega) ?_
  iterate 3 refine pw_go tk_lc24 rfl rfl ?_
  refine pw_addN (9 * n) (3) tk_lc24 rfl rfl rfl ?_
  refine pw_sci (k := 9 * n + 3) tk_lc24 rfl rfl (by omega) (by omega) ?_
  refine pw_go tk_lc24 rfl rfl ?_
  refine pw_csH tk_lc24 rfl ca_L_held lk_L_211 sx_L_held (As := [.ref (A 0 0), .int (xS G (9 * n + 1)), .int (xS G (9 * n + 2)), .int (xS G (9 * n + 3)), .ref (A 70 0)]) (rest := []) (kc' := kc + 207) (ks' := ks + 2482) (wx_held (x := (xS G (9 * n + 1))) (y := (xS G (9 * n + 2))) (z := (xS G (9 * n + 3))) hl L) (fun _ _ z => z) rfl rfl rfl (Nat.le_of_ble_eq_true rfl) (show 3 + (kc + 207) ≤ kc + 210 by omega) (show 18 + (ks + 2482) ≤ ks + 2500 by omega) ?_
  rintro _ h1 ⟨r, rfl, hr, S1, D1, A1, M1, c0, c1, e1, m, ou⟩
  rw [e1, hr]
  rw [← hK] at c0 c1 ou ⊢
  have R := LM.rd L m
  have e30 : A1 30 0 = A 30 0 := m.2.2.2.2.1
  have rm := R.m
  have hm := m_held (x := (xS G (9 * n + 1))) (y := (xS G (9 * n + 2))) (z := (xS G (9 * n + 3))) R
  rw [e30] at rm hm
  rw [← hK] at hm
  iterate 2 refine pw_go tk_lc24 rfl rfl ?_
  iterate 3 refine pw_go tk_lc24 rfl rfl ?_
  refine pw_addN (9 * n) (1) tk_lc24 rfl rfl rfl ?_
  refine pw_sci (k := 9 * n + 1) tk_lc24 rfl rfl (by omega) (by omega) ?_
  iterate 3 refine pw_go tk_lc24 rfl rfl ?_
  refine pw_addN (9 * n) (2) tk_lc24 rfl rfl rfl ?_
  refine pw_sci (k := 9 * n + 2) tk_lc24 rfl rfl (by omega) (by omega) ?_
  iterate 3 refine pw_go tk_lc24 rfl rfl ?_
  refine pw_addN (9 * n) (3) tk_lc24 rfl rfl rfl ?_
  refine pw_sci (k := 9 * n + 3) tk_lc24 rfl rfl (by omega) (by omega) ?_
  refine pw_cv tk_lc24 rfl ca_X17_held lk_L_213 iv_X17_held sv_X17_held rm rfl rfl (As := [.int (xS G (9 * n + 1)), .int (xS G (9 * n + 2)), .int (xS G (9 * n + 3))]) (rest := []) (kc' := kc) (ks' := ks) (hm) rfl rfl rfl (Nat.le_of_ble_eq_true rfl) (show 0 + kc ≤ kc + 207 by omega) (show 0 + ks ≤ ks + 2482 by omega) ?_ ?_
  skip
  · rintro _ h2 ⟨r2, rfl, w⟩
    have w1 : rdn S1 D1 A1 K h2 := by
      by_cases z : K = 0
      · rw [c0 z, z]
        exact (w.1 z).1
      · rw [c1 z]
        exact w.2 z
    have w2 := fun z => (w.1 z).2
    obtain ⟨D2, A2, M2, L2, s2, k2, o70, o71, ad, e8⟩ := LM.li L m w1
    have e8 : D2 99 0 8 = D 99 0 8 := by
      rw [e8]
      by_cases z : K = 0
      · rw [c0 z]
        exact (by unfold heS; rw [dp_k (by decide)])
      · rw [c1 z]
    refine pw_forget s2 ?_
    have f30 : A2 30 0 = A 30 0 := ad.2.1
    have rm2 := L2.rd.m
    have ht := n_thrown L2.rd
    rw [f30] at rm2 ht
    rw [k2] at ht
    iterate 2 refine pw_go tk_lc24 rfl rfl ?_
    refine pw_cvp tk_lc24 rfl ca_X17_thrown lk_L_131 iv_X17_thrown sv_X17_thrown rm2 rfl rfl (As := []) (rest := []) (ht) rfl rfl rfl rfl ?_
    refine pw_go tk_lc24 rfl rfl ?_
    refine pw_br tk_lc24 rfl rfl (fun _ => ?_) (fun c => absurd rfl c)
    refine pw_go tk_lc24 rfl rfl ?_
    refine pw_ifN (K) tk_lc24 rfl rfl (by omega) (fun c => ?_) (fun c => ?_)
    · skip
      refine pw_go tk_lc24 rfl rfl ?_
      exact pw_W (hE D2 A2 M2 L2 ad e8) ⟨rfl, rfl, rfl, rfl, rfl, rfl, trivial⟩
    · have z : K = 0 := Decidable.not_not.mp c
      have w3 := w2 z
      subst w3
      iterate 2 refine pw_go tk_lc24 rfl rfl ?_
      refine pw_laldN (k := 0) tk_lc24 rfl (L2.o70 ad) nI_0.symm (by decide) (by decide) ?_
      refine pw_l (x' := (nI (heV D (xS G (9 * n + 1)).toNatClampNeg (xS G (9 * n + 2)).toNatClampNeg (xS G (9 * n + 3)).toNatClampNeg)).toInt64) (by show (if 0 = 0 then lN (D2 70 0 0) else 0) = _; rw [if_pos rfl, congrFun (congrFun o70 0) 0, ou z]; exact lN_out _) ?_
      iterate 3 refine pw_go tk_lc24 rfl rfl ?_
      refine pw_br tk_lc24 rfl rfl (fun _ => ?_) (fun c => absurd lcmp_s c)
      refine pw_go tk_lc24 rfl rfl ?_
      exact pw_W (hE D2 A2 M2 L2 ad e8) ⟨rfl, rfl, rfl, rfl, rfl, rfl, trivial⟩
  · exact fun _ _ z => z.elim
end LC

