/-! THE LAW: its loop -/
theorem and31 (x : Int32) : ∃ c, c < 32 ∧ x &&& 31 = nI c := by
  refine ⟨(x &&& 31).toBitVec.toNat, ?_, ?_⟩
  · rw [Int32.toBitVec_and, BitVec.toNat_and]
    exact Nat.lt_of_le_of_lt Nat.and_le_right (by decide)
  · apply Int32.toBitVec_inj.mp
    show _ = BitVec.ofNat 32 (x &&& 31).toBitVec.toNat
    rw [BitVec.ofNat_toNat, BitVec.setWidth_eq]
theorem nI_m9 {N : Nat} (h : N ≤ 4608) : (nI N - 9).toInt = (N : Int) - 9 := by
  by_cases c : 9 ≤ N
  · have e : nI N - 9 = nI (N - 9) := pk_sub c
    rw [e, nI_toInt (by omega)]
    omega
  · have : ∀ N : Nat, N < 9 → (nI N - 9).toInt = (N : Int) - 9 := by decide
    exact this N (by omega)
theorem i_gt9 {a N : Nat} (ha : a ≤ 10000) (hN : N ≤ 4608) : nI N - 9 < nI a ↔ N < a + 9 := by
  rw [Int32.lt_iff_toInt_lt, nI_m9 hN, nI_toInt (by omega)]
  omega
theorem nI_a9 (n : Nat) : nI (9 * n) + 9 = nI (9 * (n + 1)) := by
  have : nI (9 * n) + nI 9 = nI (9 * n + 9) := by
    apply Int32.toBitVec_inj.mp
    rw [Int32.toBitVec_add]
    exact (BitVec.ofNat_add _ _).symm
  exact this
theorem dsw : decode mm_L_law_.2.1 45 = .ok (.tableswitch 2321 0 31 #[143, 223, 279, 371, 481, 537, 581, 729, 825, 893, 985, 1048, 1116, 1196, 1264, 1344, 1426, 1494, 1550, 1606, 1662, 1718, 1786, 1854, 1922, 2002, 2070, 2138, 2151, 2165, 2243, 2308], 143) := by decide +kernel
section LOOP
variable {G : fw_G}
abbrev lwQ : fw_Q := fw_qI (fun r _ => r = 1) fw_noX
set_option maxRecDepth 50000 in
set_option maxHeartbeats 2000000 in
theorem law_loop (hl : G.1.stackTraces = false) (hb : nS G ≤ 4608) : ∀ j n, n + j = 512 → ∀ (D : fw_DB) (A : fw_AD) (M : fw_MP), LI G n D A M → ∀ L0, fw_sL L0 (lwF G A n) → PW G mm_L_law_ lwQ 11 (210 * j) (2500 * j + 61000 * (6 - D 99 0 8)) (hp M A D) 28 L0 [] := by
  have out : ∀ (kc ks : Nat) (h : fw_H) (L0 : List (Nat × Value)), PW G mm_L_law_ lwQ 11 kc ks h 2372 L0 [] := by
    intro kc ks h L0
    refine pw_go tk_le rfl rfl ?_
    exact pw_iret tk_le rfl rfl rfl ⟨_, rfl, rfl⟩
  intro j
  induction j with
  | zero =>
    intro n hn D A M L L0 hL
    refine pw_M _ hL ?_
    iterate 2 refine pw_go tk_l0 rfl rfl ?_
    refine pw_scl tk_l0 rfl ?_
    refine pw_go tk_l0 rfl rfl ?_
    refine pw_go tk_l0 rfl rfl ?_
    refine pw_br tk_l0 rfl rfl (fun _ => ?_) (fun c => absurd ((i_gt9 (by omega) hb).mpr (by omega)) c)
    exact out _ _ _ _
  | succ j ih =>
    intro n hn D A M L L0 hL
    have h6 : D 99 0 8 ≤ 6 := L.1.2.1.2.2.2.2.1
    refine pw_M _ hL ?_
    -- behind a call
    have nxt : ∀ (D2 : fw_DB) (A2 : fw_AD) (M2 : fw_MP), LI G (n + 1) D2 A2 M2 → adk A A2 → PW G mm_L_law_ lwQ 11 (210 * j) (2500 * j + 61000 * (6 - D2 99 0 8)) (hp M2 A2 D2) 2366 (lwF G A n) [] := by
      intro D2 A2 M2 L2 ad
      refine pw_go tk_le rfl rfl ?_
      refine pw_go tk_le rfl rfl ?_
      refine ih (n + 1) (by omega) D2 A2 M2 L2 _ ⟨rfl, congrArg (fun z => some (Value.ref z)) ad.1.symm, congrArg (fun z => some (Value.ref z)) ad.2.1.symm, congrArg (fun z => some (Value.ref z)) ad.2.2.2.1.symm, congrArg (fun z => some (Value.ref z)) ad.2.2.2.2.symm, congrArg (fun z => some (Value.int z)) (nI_a9 n), trivial⟩
    have hE : ∀ (D2 : fw_DB) (A2 : fw_AD) (M2 : fw_MP), LI G (n + 1) D2 A2 M2 → adk A A2 → D2 99 0 8 = D 99 0 8 → PW G mm_L_law_ lwQ 11 (210 * j) (2500 * j + 61000 * (6 - D 99 0 8)) (hp M2 A2 D2) 2366 (lwF G A n) [] := by
      intro D2 A2 M2 L2 ad e8
      rw [← e8]
      exact nxt D2 A2 M2 L2 ad
    iterate 2 refine pw_go tk_l0 rfl rfl ?_
    refine pw_scl tk_l0 rfl ?_
    refine pw_go tk_l0 rfl rfl ?_
    refine pw_go tk_l0 rfl rfl ?_
    refine pw_br tk_l0 rfl rfl (fun _ => out _ _ _ _) (fun c => ?_)
    have c : ¬ nI (nS G) - 9 < nI (9 * n) := c
    rw [i_gt9 (by omega) hb] at c
    have hs : 9 * n + 9 ≤ nS G := by omega
    iterate 2 refine pw_go tk_l0 rfl rfl ?_
    refine pw_sci (k := 9 * n) tk_l0 rfl rfl (by omega) (by omega) ?_
    iterate 2 refine pw_go tk_l0 rfl rfl ?_
    obtain ⟨cc, hcc, ecc⟩ := and31 (xS G (9 * n))
    refine pw_i (x' := nI cc) ecc ?_
    clear ecc
    refine pw_W (L' := lwF G A n) ?_ ⟨rfl, rfl, rfl, rfl, rfl, rfl, trivial⟩
    have hn6 : n ≤ 600 := by omega
    have bud : ∀ pc, PW G mm_L_law_ lwQ 11 (210 * j + 210) ((2500 * j + 61000 * (6 - D 99 0 8)) + 2500) (hp M A D) pc (lwF G A n) [] → PW G mm_L_law_ lwQ 11 (210 * (j + 1)) (2500 * (j + 1) + 61000 * (6 - D 99 0 8)) (hp M A D) pc (lwF G A n) [] := fun pc k => pw_mono (Q' := lwQ) (Nat.le_refl _) (by omega) (by omega) k
    rcases (show cc = 0 ∨ cc = 1 ∨ cc = 2 ∨ cc = 3 ∨ cc = 4 ∨ cc = 5 ∨ cc = 6 ∨ cc = 7 ∨ cc = 8 ∨ cc = 9 ∨ cc = 10 ∨ cc = 11 ∨ cc = 12 ∨ cc = 13 ∨ cc = 14 ∨ cc = 15 ∨ cc = 16 ∨ cc = 17 ∨ cc = 18 ∨ cc = 19 ∨ cc = 20 ∨ cc = 21 ∨ cc = 22 ∨ cc = 23 ∨ cc = 24 ∨ cc = 25 ∨ cc = 26 ∨ cc = 27 ∨ cc = 28 ∨ cc = 29 ∨ cc = 30 ∨ cc = 31 by omega) with rfl | rfl | rfl | rfl | rfl | rfl | rfl | rfl | rfl | rfl | rfl | rfl | rfl | rfl | rfl | rfl | rfl | rfl | rfl | rfl | rfl | rfl | rfl | rfl | rfl | rfl | rfl | rfl | rfl | rfl | rfl | rfl
    · refine pw_tsw (tgt := 188) dsw (by decide) (by decide) rfl rfl ?_
      exact bud _ (lc_0 hl hn6 L hs hb hE)
    · refine pw_tsw (tgt := 268) dsw (by decide) (by decide) rfl rfl ?_
      exact bud _ (lc_1 hl hn6 L hs hb hE)
    · refine pw_tsw (tgt := 324) dsw (by decide) (by decide) rfl rfl ?_
      exact bud _ (lc_2 hl hn6 L hs hb hE)
    · refine pw_tsw (tgt := 416) dsw (by decide) (by decide) rfl rfl ?_
      exact bud _ (lc_3 hl hn6 L hs hb hE)
    · refine pw_tsw (tgt := 526) dsw (by decide) (by decide) rfl rfl ?_
      exact bud _ (lc_4 hl hn6 L hs hb hE)
    · refine pw_tsw (tgt := 582) dsw (by decide) (by decide) rfl rfl ?_
      by_cases z : D 99 0 8 = 6
      · exact bud _ (lc_5a hl hn6 L z hs hb hE)
      · refine pw_mono (Q' := lwQ) (kc' := 210 * j + 210) (ks' := (2500 * j + 61000 * (6 - (D 99 0 8 + 1))) + 61000) (Nat.le_refl _) (by omega) (by omega) (lc_5b hl hn6 L z hs hb (fun D2 A2 M2 L2 ad e8 => ?_))
        rw [← e8]
        exact nxt D2 A2 M2 L2 ad
    · refine pw_tsw (tgt := 626) dsw (by decide) (by decide) rfl rfl ?_
      exact bud _ (lc_6 hl hn6 L hs hb hE)
    · refine pw_tsw (tgt := 774) dsw (by decide) (by decide) rfl rfl ?_
      exact bud _ (lc_7 hl hn6 L hs hb hE)
    · refine pw_tsw (tgt := 870) dsw (by decide) (by decide) rfl rfl ?_
      exact bud _ (lc_8 hl hn6 L hs hb hE)
    · refine pw_tsw (tgt := 938) dsw (by decide) (by decide) rfl rfl ?_
      exact bud _ (lc_9 hl hn6 L hs hb hE)
    · refine pw_tsw (tgt := 1030) dsw (by decide) (by decide) rfl rfl ?_
      exact bud _ (lc_10 hl hn6 L hs hb hE)
    · refine pw_tsw (tgt := 1093) dsw (by decide) (by decide) rfl rfl ?_
      exact bud _ (lc_11 hl hn6 L hs hb hE)
    · refine pw_tsw (tgt := 1161) dsw (by decide) (by decide) rfl rfl ?_
      exact bud _ (lc_12 hl hn6 L hs hb hE)
    · refine pw_tsw (tgt := 1241) dsw (by decide) (by decide) rfl rfl ?_
      exact bud _ (lc_13 hl hn6 L hs hb hE)
    · refine pw_tsw (tgt := 1309) dsw (by decide) (by decide) rfl rfl ?_
      exact bud _ (lc_14 hl hn6 L hs hb hE)
    · refine pw_tsw (tgt := 1389) dsw (by decide) (by decide) rfl rfl ?_
      exact bud _ (lc_15 hl hn6 L hs hb hE)
    · refine pw_tsw (tgt := 1471) dsw (by decide) (by decide) rfl rfl ?_
      exact bud _ (lc_16 hl hn6 L hs hb hE)
    · refine pw_tsw (tgt := 1539) dsw (by decide) (by decide) rfl rfl ?_
      exact bud _ (lc_17 hl hn6 L hs hb hE)
    · refine pw_tsw (tgt := 1595) dsw (by decide) (by decide) rfl rfl ?_
      exact bud _ (lc_18 hl hn6 L hs hb hE)
    · refine pw_tsw (tgt := 1651) dsw (by decide) (by decide) rfl rfl ?_
      exact bud _ (lc_19 hl hn6 L hs hb hE)
    · refine pw_tsw (tgt := 1707) dsw (by decide) (by decide) rfl rfl ?_
      exact bud _ (lc_20 hl hn6 L hs hb hE)
    · refine pw_tsw (tgt := 1763) dsw (by decide) (by decide) rfl rfl ?_
      exact bud _ (lc_21 hl hn6 L hs hb hE)
    · refine pw_tsw (tgt := 1831) dsw (by decide) (by decide) rfl rfl ?_
      exact bud _ (lc_22 hl hn6 L hs hb hE)
    · refine pw_tsw (tgt := 1899) dsw (by decide) (by decide) rfl rfl ?_
      exact bud _ (lc_23 hl hn6 L hs hb hE)
    · refine pw_tsw (tgt := 1967) dsw (by decide) (by decide) rfl rfl ?_
      exact bud _ (lc_24 hl hn6 L hs hb hE)
    · refine pw_tsw (tgt := 2047) dsw (by decide) (by decide) rfl rfl ?_
      exact bud _ (lc_25 hl hn6 L hs hb hE)
    · refine pw_tsw (tgt := 2115) dsw (by decide) (by decide) rfl rfl ?_
      exact bud _ (lc_26 hl hn6 L hs hb hE)
    · refine pw_tsw (tgt := 2183) dsw (by decide) (by decide) rfl rfl ?_
      exact bud _ (lc_27 hl hn6 L hE)
    · refine pw_tsw (tgt := 2196) dsw (by decide) (by decide) rfl rfl ?_
      exact bud _ (lc_28 hl hn6 L hE)
    · refine pw_tsw (tgt := 2210) dsw (by decide) (by decide) rfl rfl ?_
      exact bud _ (lc_29 hl hn6 L hs hb hE)
    · refine pw_tsw (tgt := 2288) dsw (by decide) (by decide) rfl rfl ?_
      exact bud _ (lc_30 hl hn6 L hs hb hE)
    · refine pw_tsw (tgt := 2353) dsw (by decide) (by decide) rfl rfl ?_
      exact bud _ (lc_31 hl hn6 L hE)
end LOOP

