/-! FLOATS: quotients that are numbers -/
section FLT
theorem n64_of {r : UInt64} (h : FP.Core.dIsNaN r = false) : vf_n64 r := by
  unfold vf_n64
  rw [UInt64.le_iff_toNat_le]
  have e : (r &&& 0x7fffffffffffffff).toNat = r.toNat % 2 ^ 63 := by
    rw [UInt64.toNat_and]
    exact Nat.and_two_pow_sub_one_eq_mod r.toNat 63
  rw [e]
  have h2 : ¬ 9218868437227405312 < r.toNat % 2 ^ 63 := fun z => by
    rw [(FP.Core.isNaN_bits r).mpr z] at h
    cases h
  show r.toNat % 2 ^ 63 ≤ 9218868437227405312
  omega
theorem n32_of {r : UInt32} (h : FP.Core.fIsNaN r = false) : vf_n32 r := by
  unfold vf_n32
  rw [UInt32.le_iff_toNat_le]
  have e : (r &&& 0x7fffffff).toNat = r.toNat % 2 ^ 31 := by
    rw [UInt32.toNat_and]
    exact Nat.and_two_pow_sub_one_eq_mod r.toNat 31
  rw [e]
  have h2 : ¬ 2139095040 < r.toNat % 2 ^ 31 := fun z => by
    rw [(FP.Core.isNaN_bits32 r).mpr z] at h
    cases h
  show r.toNat % 2 ^ 31 ≤ 2139095040
  omega
theorem fin_n {r : UInt64} (h : FP.Core.DFin r) : FP.Core.dIsNaN r = false := by
  have h1 := (FP.Core.fin_bits r).mp h
  cases e : FP.Core.dIsNaN r with
  | false => rfl
  | true =>
    have := (FP.Core.isNaN_bits r).mp e
    omega
theorem fin_n32 {r : UInt32} (h : FP.Core.FFin r) : FP.Core.fIsNaN r = false := by
  have h1 := (FP.Core.fin_bits32 r).mp h
  cases e : FP.Core.fIsNaN r with
  | false => rfl
  | true =>
    have := (FP.Core.isNaN_bits32 r).mp e
    omega
theorem fl_div {a b : Int32} (hb : b ≠ 0) : FP.Core.fIsNaN (FP.Core.fdiv (FP.Core.i2f a) (FP.Core.i2f b)) = false := FP.Core.fdiv_out (fin_n32 (FP.Core.i2f_fin a)) (FP.Core.i2f_fin b) (fun z => FP.Core.i2f_ne_zero hb ((FP.Core.zero_bits232 _).mp z))
theorem dl_div {a : Int64} {b : Int32} (hb : b ≠ 0) : FP.Core.dIsNaN (FP.Core.ddiv (FP.Core.l2d a) (FP.Core.i2d b)) = false := FP.Core.ddiv_out (fin_n (FP.Core.l2d_fin a)) (FP.Core.i2d_fin b) (fun z => FP.Core.i2d_ne_zero hb ((FP.Core.zero_bits2 _).mp z))
theorem fl_n {a b : Int32} (hb : b ≠ 0) : vf_n32 (FP.fdiv (FP.i2f a) (FP.i2f b)) := n32_of (fl_div hb)
theorem dl_n {a : Int64} {b : Int32} (hb : b ≠ 0) : vf_n64 (FP.ddiv (FP.l2d a) (FP.i2d b)) := n64_of (dl_div hb)
variable {G : fw_G} {y : fw_M} {Q : fw_Q} {d kc ks : Nat} {h : fw_H} {pc nx a : Nat} {v : Int32} {L : List (Nat × Value)} {rest : List Value} {tb : List fw_R}
theorem pw_fdiv {x1 x2 : UInt32} (hT : fw_tok y tb) (hr : fw_at tb pc = some (.fdiv, nx, a, v)) (hne : vf_n32 (FP.fdiv x1 x2)) (k : PW G y Q d kc ks h nx L (.float (FP.fdiv x1 x2) :: rest)) : PW G y Q d kc ks h pc L (.float x2 :: .float x1 :: rest) := by
  have hd := fw_row hT hr
  have en : nx = pc + 1 := hd.2.1
  intro p e R s m args below meth c H locs cells slots ls C X
  exact lv_fdiv C.1 C.2.1 hd.1 hne (en ▸ k p e R s m args below meth c H locs cells slots ls C X)
theorem pw_ddiv {x1 x2 : UInt64} (hT : fw_tok y tb) (hr : fw_at tb pc = some (.ddiv, nx, a, v)) (hne : vf_n64 (FP.ddiv x1 x2)) (k : PW G y Q d kc ks h nx L (.double (FP.ddiv x1 x2) :: rest)) : PW G y Q d kc ks h pc L (.double x2 :: .double x1 :: rest) := by
  have hd := fw_row hT hr
  have en : nx = pc + 1 := hd.2.1
  intro p e R s m args below meth c H locs cells slots ls C X
  exact lv_ddiv C.1 C.2.1 hd.1 hne (en ▸ k p e R s m args below meth c H locs cells slots ls C X)
theorem pw_f2d {x1 : UInt32} (hT : fw_tok y tb) (hr : fw_at tb pc = some (.f2d, nx, a, v)) (hne : vf_n64 (FP.f2d x1)) (k : PW G y Q d kc ks h nx L (.double (FP.f2d x1) :: rest)) : PW G y Q d kc ks h pc L (.float x1 :: rest) := by
  have hd := fw_row hT hr
  have en : nx = pc + 1 := hd.2.1
  intro p e R s m args below meth c H locs cells slots ls C X
  exact lv_f2d C.1 C.2.1 hd.1 hne (en ▸ k p e R s m args below meth c H locs cells slots ls C X)
theorem lN_s {k : Nat} (h : k < 2147483648) : (nI k).toInt64 = lN k := by
  apply Int64.toInt_inj.mp
  rw [Int32.toInt_toInt64, nI_toInt h]
  show (k : Int) = (Int64.ofNat k).toInt
  rw [Int64.toInt_ofNat_of_lt (by omega)]
theorem lN_a {a b : Nat} : lN a + lN b = lN (a + b) := by
  apply wb_inj
  rw [Int64.toBitVec_add, wb_tb, wb_tb, wb_tb]
  exact (BitVec.ofNat_add _ _).symm
end FLT
