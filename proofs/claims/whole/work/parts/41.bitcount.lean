/-! Long.bitCount -/
section BCNT
variable {G : fw_G} {h : fw_H}
theorem lN_add' (a b : Nat) : lN a + lN b = lN (a + b) := wb_inj (by rw [Int64.toBitVec_add, wb_tb, wb_tb, wb_tb, ← BitVec.ofNat_add])
theorem lN_sub' {a b : Nat} (h : b ≤ a) (ha : a < 2 ^ 64) : lN a - lN b = lN (a - b) := wb_inj (by
  rw [Int64.toBitVec_sub, wb_tb, wb_tb, wb_tb]
  apply BitVec.eq_of_toNat_eq
  rw [BitVec.toNat_sub, BitVec.toNat_ofNat, BitVec.toNat_ofNat, BitVec.toNat_ofNat, Nat.mod_eq_of_lt ha, Nat.mod_eq_of_lt (show b < 2 ^ 64 by omega), Nat.mod_eq_of_lt (show a - b < 2 ^ 64 by omega)]
  omega)
theorem bc_sh {n k : Nat} (kk : Int32) (hk : kk = nI k) (hn : n < 2 ^ 64) (h : k < 64) : ((lN n).toUInt64 >>> (kk.toInt64.toUInt64 &&& Int64.toUInt64 63)).toInt64 = lN (n / 2 ^ k) := by subst hk; exact wb_shr hn h
theorem bc_l2i (t : Nat) : (lN t).toInt32 &&& 127 = nI (t % 128) := by
  apply Int32.toBitVec_inj.mp
  rw [Int32.toBitVec_and, Int64.toBitVec_toInt32, wb_tb]
  show (BitVec.ofNat 64 t).signExtend 32 &&& (BitVec.ofNat 32 127) = BitVec.ofNat 32 (t % 128)
  apply BitVec.eq_of_getLsbD_eq
  intro i hi
  rw [BitVec.getLsbD_and, BitVec.getLsbD_signExtend, BitVec.getLsbD_ofNat, BitVec.getLsbD_ofNat, BitVec.getLsbD_ofNat, show (128 : Nat) = 2 ^ 7 from rfl, Nat.testBit_mod_two_pow, show (127 : Nat) = 2 ^ 7 - 1 from rfl, Nat.testBit_two_pow_sub_one]
  have h1 : i < 64 := by omega
  simp [hi, h1, Bool.and_comm]
theorem c_bitCount {x : Int64} : PM G 0 0 0 mm_J13_bitCount_95d88 [.long x] h (fw_qp (nI (cu (gb x) 64)) h) := by
  refine pm_of (by decide +kernel) rfl rfl rfl ?_
  obtain ⟨n, hn, rfl⟩ := wb_of x
  have h8 : n < 256 ^ 8 := hn
  have m1 : b1 8 n < 2 ^ 64 := Nat.lt_of_le_of_lt (Nat.sub_le _ _) hn
  have e1 : lN n - (((lN n).toUInt64 >>> ((1 : Int32).toInt64.toUInt64 &&& Int64.toUInt64 63)).toInt64 &&& 6148914691236517205) = lN (b1 8 n) := by
    rw [bc_sh (k := 1) 1 rfl hn (by decide), show (6148914691236517205 : Int64) = lN (bm 85 8) by decide, wb_and (by omega) (by decide), lN_sub' (b1_n 8 n h8) hn]
    rfl
  have m2 : b2 8 (b1 8 n) < 2 ^ 64 := by
    have : ∀ y : Nat, (y &&& bm 51 8) ≤ bm 51 8 := fun y => Nat.and_le_right
    have h1 := this (b1 8 n)
    have h2 := this (b1 8 n / 4)
    have h3 : bm 51 8 = 3689348814741910323 := by decide
    unfold b2
    omega
  have e2 : (lN (b1 8 n) &&& 3689348814741910323) + (((lN (b1 8 n)).toUInt64 >>> ((2 : Int32).toInt64.toUInt64 &&& Int64.toUInt64 63)).toInt64 &&& 3689348814741910323) = lN (b2 8 (b1 8 n)) := by
    rw [bc_sh (k := 2) 2 rfl m1 (by decide), show (3689348814741910323 : Int64) = lN (bm 51 8) by decide, wb_and m1 (by decide), wb_and (by omega) (by decide), lN_add']
    rfl
  have m3 : b2 8 (b1 8 n) + b2 8 (b1 8 n) / 16 < 2 ^ 64 := by
    have : ∀ y : Nat, (y &&& bm 51 8) ≤ bm 51 8 := fun y => Nat.and_le_right
    have h1 := this (b1 8 n)
    have h2 := this (b1 8 n / 4)
    have h3 : bm 51 8 = 3689348814741910323 := by decide
    unfold b2
    omega
  have e3 : (lN (b2 8 (b1 8 n)) + ((lN (b2 8 (b1 8 n))).toUInt64 >>> ((4 : Int32).toInt64.toUInt64 &&& Int64.toUInt64 63)).toInt64) &&& 1085102592571150095 = lN (bp 8 n) := by
    rw [bc_sh (k := 4) 4 rfl m2 (by decide), lN_add', show (1085102592571150095 : Int64) = lN (bm 15 8) by decide, wb_and m3 (by decide)]
    exact congrArg lN (b_all 8 n h8)
  obtain ⟨p, hp, hP, hc⟩ := b_sum (x := n)
  obtain ⟨t1, t2, t3, r1, r2, r3, r4, g0, g1, g2, g3⟩ := b_fin p hp hP
  have e4 : lN (bp 8 n) + ((lN (bp 8 n)).toUInt64 >>> ((8 : Int32).toInt64.toUInt64 &&& Int64.toUInt64 63)).toInt64 = lN t1 := by
    rw [bc_sh (k := 8) 8 rfl g0 (by decide), lN_add', r1]
  have e5 : lN t1 + ((lN t1).toUInt64 >>> ((16 : Int32).toInt64.toUInt64 &&& Int64.toUInt64 63)).toInt64 = lN t2 := by
    rw [bc_sh (k := 16) 16 rfl g1 (by decide), lN_add', r2]
  have e6 : lN t2 + ((lN t2).toUInt64 >>> ((32 : Int32).toInt64.toUInt64 &&& Int64.toUInt64 63)).toInt64 = lN t3 := by
    rw [bc_sh (k := 32) 32 rfl g2 (by decide), lN_add', r3]
  iterate 4 refine pw_go tk_J13_bitCount_95d88 rfl rfl ?_
  refine pw_ldc2 tk_J13_bitCount_95d88 rfl kc_J13_314 ?_
  iterate 3 refine pw_go tk_J13_bitCount_95d88 rfl rfl ?_
  refine pw_M [(0, .long (lN (b1 8 n)))] ⟨congrArg (fun z => some (Value.long z)) e1, trivial⟩ ?_
  refine pw_go tk_J13_bitCount_95d88 rfl rfl ?_
  refine pw_ldc2 tk_J13_bitCount_95d88 rfl kc_J13_316 ?_
  iterate 4 refine pw_go tk_J13_bitCount_95d88 rfl rfl ?_
  refine pw_ldc2 tk_J13_bitCount_95d88 rfl kc_J13_316 ?_
  iterate 3 refine pw_go tk_J13_bitCount_95d88 rfl rfl ?_
  refine pw_M [(0, .long (lN (b2 8 (b1 8 n))))] ⟨congrArg (fun z => some (Value.long z)) e2, trivial⟩ ?_
  iterate 5 refine pw_go tk_J13_bitCount_95d88 rfl rfl ?_
  refine pw_ldc2 tk_J13_bitCount_95d88 rfl kc_J13_318 ?_
  iterate 2 refine pw_go tk_J13_bitCount_95d88 rfl rfl ?_
  refine pw_M [(0, .long (lN (bp 8 n)))] ⟨congrArg (fun z => some (Value.long z)) e3, trivial⟩ ?_
  iterate 6 refine pw_go tk_J13_bitCount_95d88 rfl rfl ?_
  refine pw_M [(0, .long (lN t1))] ⟨congrArg (fun z => some (Value.long z)) e4, trivial⟩ ?_
  iterate 6 refine pw_go tk_J13_bitCount_95d88 rfl rfl ?_
  refine pw_M [(0, .long (lN t2))] ⟨congrArg (fun z => some (Value.long z)) e5, trivial⟩ ?_
  iterate 6 refine pw_go tk_J13_bitCount_95d88 rfl rfl ?_
  refine pw_M [(0, .long (lN t3))] ⟨congrArg (fun z => some (Value.long z)) e6, trivial⟩ ?_
  iterate 4 refine pw_go tk_J13_bitCount_95d88 rfl rfl ?_
  have hg : cu (gb (lN n)) 64 = t3 % 128 := by
    rw [r4, ← hc]
    exact cu_congr (fun i hi => gb_lN hi)
  rw [hg]
  refine pw_i (x' := nI (t3 % 128)) (bc_l2i t3) ?_
  exact pw_iretp tk_J13_bitCount_95d88 rfl rfl
end BCNT

