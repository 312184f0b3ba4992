/-! THE LAW: its own rules -/
abbrev mm_L_law_ : fw_M := (yL_law_, cL_law_, 9, (some .boolean), [])
theorem ca_L_dayOf : fw_calH mm_L_dayOf 5 := ⟨fw_gw 383 (by decide +kernel) (by decide +kernel), fw_gw 37 (by decide +kernel) (by decide +kernel), ⟨by decide, by decide, by decide +kernel⟩, ⟨_, _, rfl⟩, rfl⟩
theorem ca_L_dateOf : fw_calH mm_L_dateOf 3 := ⟨fw_gw 474 (by decide +kernel) (by decide +kernel), fw_gw 37 (by decide +kernel) (by decide +kernel), ⟨by decide, by decide, by decide +kernel⟩, ⟨_, _, rfl⟩, rfl⟩
theorem ca_L_length : fw_calH mm_L_length 6 := ⟨fw_gw 482 (by decide +kernel) (by decide +kernel), fw_gw 37 (by decide +kernel) (by decide +kernel), ⟨by decide, by decide, by decide +kernel⟩, ⟨_, _, rfl⟩, rfl⟩
theorem ca_L_law : fw_calH mm_L_law 6 := ⟨fw_gw 509 (by decide +kernel) (by decide +kernel), fw_gw 37 (by decide +kernel) (by decide +kernel), ⟨by decide, by decide, by decide +kernel⟩, ⟨_, _, rfl⟩, rfl⟩
theorem ca_L_lawOf : fw_calH mm_L_lawOf 3 := ⟨fw_gw 564 (by decide +kernel) (by decide +kernel), fw_gw 37 (by decide +kernel) (by decide +kernel), ⟨by decide, by decide, by decide +kernel⟩, ⟨_, _, rfl⟩, rfl⟩
theorem ca_L_person : fw_calH mm_L_person 2 := ⟨fw_gw 647 (by decide +kernel) (by decide +kernel), fw_gw 37 (by decide +kernel) (by decide +kernel), ⟨by decide, by decide, by decide +kernel⟩, ⟨_, _, rfl⟩, rfl⟩
theorem ca_L_warrant : fw_calH mm_L_warrant 10 := ⟨fw_gw 700 (by decide +kernel) (by decide +kernel), fw_gw 37 (by decide +kernel) (by decide +kernel), ⟨by decide, by decide, by decide +kernel⟩, ⟨_, _, rfl⟩, rfl⟩
theorem ca_L_count : fw_calH mm_L_count 5 := ⟨fw_gw 842 (by decide +kernel) (by decide +kernel), fw_gw 37 (by decide +kernel) (by decide +kernel), ⟨by decide, by decide, by decide +kernel⟩, ⟨_, _, rfl⟩, rfl⟩
theorem ca_L_activate : fw_calH mm_L_activate 4 := ⟨fw_gw 850 (by decide +kernel) (by decide +kernel), fw_gw 37 (by decide +kernel) (by decide +kernel), ⟨by decide, by decide, by decide +kernel⟩, ⟨_, _, rfl⟩, rfl⟩
theorem ca_L_vary : fw_calH mm_L_vary 6 := ⟨fw_gw 864 (by decide +kernel) (by decide +kernel), fw_gw 37 (by decide +kernel) (by decide +kernel), ⟨by decide, by decide, by decide +kernel⟩, ⟨_, _, rfl⟩, rfl⟩
theorem ca_L_quash : fw_calH mm_L_quash 3 := ⟨fw_gw 871 (by decide +kernel) (by decide +kernel), fw_gw 37 (by decide +kernel) (by decide +kernel), ⟨by decide, by decide, by decide +kernel⟩, ⟨_, _, rfl⟩, rfl⟩
theorem ca_L_approve : fw_calH mm_L_approve 4 := ⟨fw_gw 878 (by decide +kernel) (by decide +kernel), fw_gw 37 (by decide +kernel) (by decide +kernel), ⟨by decide, by decide, by decide +kernel⟩, ⟨_, _, rfl⟩, rfl⟩
theorem ca_L_add : fw_calH mm_L_add 5 := ⟨fw_gw 885 (by decide +kernel) (by decide +kernel), fw_gw 37 (by decide +kernel) (by decide +kernel), ⟨by decide, by decide, by decide +kernel⟩, ⟨_, _, rfl⟩, rfl⟩
theorem ca_L_giveBack : fw_calH mm_L_giveBack 4 := ⟨fw_gw 920 (by decide +kernel) (by decide +kernel), fw_gw 37 (by decide +kernel) (by decide +kernel), ⟨by decide, by decide, by decide +kernel⟩, ⟨_, _, rfl⟩, rfl⟩
theorem ca_L_atLarge : fw_calH mm_L_atLarge 5 := ⟨fw_gw 932 (by decide +kernel) (by decide +kernel), fw_gw 37 (by decide +kernel) (by decide +kernel), ⟨by decide, by decide, by decide +kernel⟩, ⟨_, _, rfl⟩, rfl⟩
theorem ca_L_recall : fw_calH mm_L_recall 5 := ⟨fw_gw 947 (by decide +kernel) (by decide +kernel), fw_gw 37 (by decide +kernel) (by decide +kernel), ⟨by decide, by decide, by decide +kernel⟩, ⟨_, _, rfl⟩, rfl⟩
theorem ca_L_letGo : fw_calH mm_L_letGo 4 := ⟨fw_gw 1005 (by decide +kernel) (by decide +kernel), fw_gw 37 (by decide +kernel) (by decide +kernel), ⟨by decide, by decide, by decide +kernel⟩, ⟨_, _, rfl⟩, rfl⟩
theorem ca_L_begins : fw_calH mm_L_begins 3 := ⟨fw_gw 1014 (by decide +kernel) (by decide +kernel), fw_gw 37 (by decide +kernel) (by decide +kernel), ⟨by decide, by decide, by decide +kernel⟩, ⟨_, _, rfl⟩, rfl⟩
theorem ca_L_needed : fw_calH mm_L_needed 3 := ⟨fw_gw 1026 (by decide +kernel) (by decide +kernel), fw_gw 37 (by decide +kernel) (by decide +kernel), ⟨by decide, by decide, by decide +kernel⟩, ⟨_, _, rfl⟩, rfl⟩
theorem ca_L_release : fw_calH mm_L_release 3 := ⟨fw_gw 1033 (by decide +kernel) (by decide +kernel), fw_gw 37 (by decide +kernel) (by decide +kernel), ⟨by decide, by decide, by decide +kernel⟩, ⟨_, _, rfl⟩, rfl⟩
theorem ca_L_end : fw_calH mm_L_end 3 := ⟨fw_gw 1041 (by decide +kernel) (by decide +kernel), fw_gw 37 (by decide +kernel) (by decide +kernel), ⟨by decide, by decide, by decide +kernel⟩, ⟨_, _, rfl⟩, rfl⟩
theorem ca_L_stateOn : fw_calH mm_L_stateOn 4 := ⟨fw_gw 1049 (by decide +kernel) (by decide +kernel), fw_gw 37 (by decide +kernel) (by decide +kernel), ⟨by decide, by decide, by decide +kernel⟩, ⟨_, _, rfl⟩, rfl⟩
theorem ca_L_byClerk : fw_calH mm_L_byClerk 4 := ⟨fw_gw 1056 (by decide +kernel) (by decide +kernel), fw_gw 37 (by decide +kernel) (by decide +kernel), ⟨by decide, by decide, by decide +kernel⟩, ⟨_, _, rfl⟩, rfl⟩
theorem ca_L_keeper : fw_calH mm_L_keeper 4 := ⟨fw_gw 1066 (by decide +kernel) (by decide +kernel), fw_gw 37 (by decide +kernel) (by decide +kernel), ⟨by decide, by decide, by decide +kernel⟩, ⟨_, _, rfl⟩, rfl⟩
theorem ca_L_held : fw_calH mm_L_held 5 := ⟨fw_gw 1075 (by decide +kernel) (by decide +kernel), fw_gw 37 (by decide +kernel) (by decide +kernel), ⟨by decide, by decide, by decide +kernel⟩, ⟨_, _, rfl⟩, rfl⟩
theorem ca_L_tooLong : fw_calH mm_L_tooLong 4 := ⟨fw_gw 1082 (by decide +kernel) (by decide +kernel), fw_gw 37 (by decide +kernel) (by decide +kernel), ⟨by decide, by decide, by decide +kernel⟩, ⟨_, _, rfl⟩, rfl⟩
theorem ca_L_tooShort : fw_calH mm_L_tooShort 4 := ⟨fw_gw 1102 (by decide +kernel) (by decide +kernel), fw_gw 37 (by decide +kernel) (by decide +kernel), ⟨by decide, by decide, by decide +kernel⟩, ⟨_, _, rfl⟩, rfl⟩
theorem ca_L_prisonShare : fw_calH mm_L_prisonShare 3 := ⟨fw_gw 1113 (by decide +kernel) (by decide +kernel), fw_gw 37 (by decide +kernel) (by decide +kernel), ⟨by decide, by decide, by decide +kernel⟩, ⟨_, _, rfl⟩, rfl⟩
theorem ca_L_meanNeeded : fw_calH mm_L_meanNeeded 2 := ⟨fw_gw 1137 (by decide +kernel) (by decide +kernel), fw_gw 37 (by decide +kernel) (by decide +kernel), ⟨by decide, by decide, by decide +kernel⟩, ⟨_, _, rfl⟩, rfl⟩
def cS (G : fw_G) : Nat := G.2.2.2.2.1
def nS (G : fw_G) : Nat := G.2.2.2.2.2.1
def xS (G : fw_G) : Nat → Int32 := G.2.2.2.2.2.2.1
abbrev lwF (G : fw_G) (A : fw_AD) (n : Nat) : List (Nat × Value) := [(0, .ref (cS G)), (1, .ref (A 0 0)), (2, .ref (A 30 0)), (3, .ref (A 70 0)), (4, .ref (A 71 0)), (5, .int (nI (9 * n)))]
section LRL
variable {G : fw_G} {y : fw_M} {Q : fw_Q} {d kc ks : Nat} {h : fw_H} {pc nx a : Nat} {v : Int32} {L : List (Nat × Value)} {st rest : List Value} {tb : List fw_R}
theorem pw_scl (hT : fw_tok y tb) (hr : fw_at tb pc = some (.arraylength, nx, a, v)) (kk : PW G y Q d kc ks h nx L (.int (nI (nS G)) :: st)) : PW G y Q d kc ks h pc L (.ref (cS G) :: st) := by
  have hd := fw_row hT hr
  have en : nx = pc + 1 := hd.2.1
  intro p e R s m args below meth c H locs cells slots ls C X
  have C0 := C
  obtain ⟨hx, hb, hre, hlk, hml, hown, hnm, hts, htab, hK, hN⟩ := C
  exact va_tlen hx hb hK.2.2.2.2.2.2.2.2.2.2.2 X.2.1 rfl hd.1 (en ▸ kk p e R s m args below meth c H locs cells slots ls C0 X)
theorem pw_sci {k : Nat} {x : Int32} (hT : fw_tok y tb) (hr : fw_at tb pc = some (.iaload, nx, a, v)) (hx : x = nI k) (hk : k < nS G) (hb : k < 2147483647) (kk : PW G y Q d kc ks h nx L (.int (xS G k) :: st)) : PW G y Q d kc ks h pc L (.int x :: .ref (cS G) :: st) := by
  subst hx
  have hd := fw_row hT hr
  have en : nx = pc + 1 := hd.2.1
  intro p e R s m args below meth c H locs cells slots ls C X
  have hK := C.2.2.2.2.2.2.2.2.2.1
  refine va_ti C.1 C.2.1 hK.2.2.2.2.2.2.2.2.2.2.2 X.2.1 ?_ (by rw [nI_clamp (show k < 2 ^ 31 by omega)]; rfl) hd.1 (en ▸ kk p e R s m args below meth c H locs cells slots ls C X)
  unfold vp_in
  rw [nI_clamp (show k < 2 ^ 31 by omega)]
  rintro (z | z)
  · have := (nI_ltI (a := k) (b := 0) (by omega) (by omega)).mp z
    omega
  · exact absurd hk (by have : nS G ≤ k := z; omega)
theorem pw_dv {x x' : UInt64} (e : x = x') (kk : PW G y Q d kc ks h pc L (.double x' :: rest)) : PW G y Q d kc ks h pc L (.double x :: rest) := e ▸ kk
theorem pw_dcmpE {x : UInt64} {op : CmpOp} (hT : fw_tok y tb) (hr : fw_at tb pc = some (.dcmp op, nx, a, v)) (hn : FP.Core.dIsNaN x = false) (kk : PW G y Q d kc ks h nx L (.int 0 :: rest)) : PW G y Q d kc ks h pc L (.double x :: .double x :: rest) := by
  have hd := fw_row hT hr
  have en : nx = pc + 1 := hd.2.1
  intro p e R s m args below meth c H locs cells slots ls C X
  refine lv_dcmp C.1 C.2.1 hd.1 ?_
  have e0 : FP.dcmp x x = some .eq := FP.Core.dcmp_self ((FP.Core.notNaN_iff x).mp hn)
  rw [e0]
  exact en ▸ kk p e R s m args below meth c H locs cells slots ls C X
theorem pw_tsw {dflt lo hi : Int} {offs : Array Int} {len tgt : Nat} {x : Int32} {off : Int} (hdg : decode y.2.1 pc = .ok (.tableswitch dflt lo hi offs, len)) (h1 : ¬ x.toInt < lo) (h2 : ¬ hi < x.toInt) (ho : offs[(x.toInt - lo).toNat]? = some off) (ht : (pc : Int) + off = (tgt : Int)) (kk : PW G y Q d kc ks h tgt L rest) : PW G y Q d kc ks h pc L (.int x :: rest) := by
  intro p e R s m args below meth c H locs cells slots ls C X
  exact lv_tableIn C.1 C.2.1 hdg h1 h2 ho ht (kk p e R s m args below meth c H locs cells slots ls C X)
end LRL
theorem lcmp_s {x : Int64} : lg_cmp x x = 0 := by
  unfold lg_cmp
  simp
/-- an int as a char -/
abbrev iC (x : Int32) : Int32 := (x.toUInt32 % 65536).toInt32
section LRM
variable {G : fw_G} {n : Nat} {D D2 : fw_DB} {A A2 : fw_AD} {M M2 : fw_MP}
theorem LI.o70 (L : LI G n D2 A2 M2) (ad : adk A A2) : hp M2 A2 D2 (A 70 0) = some (.inl (1, 1, .inr (.inl (fun j => if j = 0 then lN (D2 70 0 0) else 0)))) := by
  have e : A2 70 0 = A 70 0 := ad.2.2.2.1
  rw [← e]
  exact hget (L.1.1.1.lv (k := 70) (i := 0) (by rw [L.2.2.1.1]; decide))
theorem LI.o71 (L : LI G n D2 A2 M2) (ad : adk A A2) : hp M2 A2 D2 (A 71 0) = some (.inl (3, 1, .inr (.inr (.inr (.inl (fun j => if j = 0 then UInt64.ofNat (D2 71 0 0) else 0)))))) := by
  have e : A2 71 0 = A 71 0 := ad.2.2.2.2
  rw [← e]
  exact hget (L.1.1.1.lv (k := 71) (i := 0) (by rw [L.2.2.1.2]; decide))
theorem mnV_n (I : IC n D A M) (h : mnK D = 0) : FP.Core.dIsNaN (mnV D) = false := by
  refine dl_div (fun z => ?_)
  have hb := bgn_le (F := FD D) (D 99 0 13)
  have h13 := I.1.2.2.2
  unfold mnK at h
  split at h
  · cases h
  · rename_i h8
    have z : nI (bgn (FD D) (D 99 0 13)) = nI 0 := z
    exact h8 (nI_inj (by omega) (by omega) z)
end LRM

def tb_l0 : List fw_R := [(0, .new 8, 3, 0, 0), (3, .dup, 4, 0, 0), (4, .invokespecial 121, 7, 0, 0), (7, .astore_n 1, 8, 1, 0), (8, .new 122, 11, 0, 0), (11, .dup, 12, 0, 0), (12, .invokespecial 124, 15, 0, 0), (15, .astore_n 2, 16, 2, 0), (16, .iconst 1, 17, 0, 1), (17, .newarray .long, 19, 0, 0), (19, .astore_n 3, 20, 3, 0), (20, .iconst 1, 21, 0, 1), (21, .newarray .double, 23, 0, 0), (23, .astore 4, 25, 4, 0), (25, .iconst 0, 26, 0, 0), (26, .istore 5, 28, 5, 0), (28, .iload 5, 30, 5, 0), (30, .aload_n 0, 31, 0, 0), (31, .arraylength, 32, 0, 0), (32, .bipush 9, 34, 0, 9), (34, .isub, 35, 0, 0), (35, .if_icmp .gt 2337, 38, 2372, 0), (38, .aload_n 0, 39, 0, 0), (39, .iload 5, 41, 5, 0), (41, .iaload, 42, 0, 0), (42, .bipush 31, 44, 0, 31), (44, .iand, 45, 0, 0)]
theorem tk_l0 : fw_tok mm_L_law_ tb_l0 := by unfold fw_tok; decide +kernel
def tb_le : List fw_R := [(2366, .iinc 5 9, 2369, 5, 9), (2369, .goto (-2341), 2372, 28, 0), (2372, .iconst 1, 2373, 0, 1), (2373, .ireturn, 2374, 0, 0)]
theorem tk_le : fw_tok mm_L_law_ tb_le := by unfold fw_tok; decide +kernel

