section
-- ===== PART A: goes FIRST, ahead of the names: the tables' words, and 'selects' of the private methods out of them =====
/-- a private method of a class that the tables say can be made, by its rows of tables_1 -/
def lw_okq (q : MethodName × Nat) : Prop := (q.1.cls ≠ "java/lang/invoke/MethodHandle" ∧ q.1.cls ≠ "java/lang/invoke/VarHandle") ∧ Cond.instantiable q.1.cls q.2 ∈ tables_1 ∧ Cond.privateMethod q.1 ∈ tables_1 ∧ Cond.instanceMethod q.1 ∈ tables_1
theorem lw_p0 : lw_okq (⟨"Termreckonry", "reckonAll", "()V"⟩, 10) := ⟨⟨by decide +kernel, by decide +kernel⟩, List.mem_of_getElem? (i := 49) (by decide +kernel), List.mem_of_getElem? (i := 115) (by decide +kernel), List.mem_of_getElem? (i := 116) (by decide +kernel)⟩
theorem lw_p1 : lw_okq (⟨"Termreckonry$Warrant", "reckonBegin", "()I"⟩, 19) := ⟨⟨by decide +kernel, by decide +kernel⟩, List.mem_of_getElem? (i := 129) (by decide +kernel), List.mem_of_getElem? (i := 127) (by decide +kernel), List.mem_of_getElem? (i := 128) (by decide +kernel)⟩
theorem lw_p2 : lw_okq (⟨"Termreckonry$Warrant", "releaseAfter", "(I)I"⟩, 19) := ⟨⟨by decide +kernel, by decide +kernel⟩, List.mem_of_getElem? (i := 129) (by decide +kernel), List.mem_of_getElem? (i := 183) (by decide +kernel), List.mem_of_getElem? (i := 184) (by decide +kernel)⟩
theorem lw_p3 : lw_okq (⟨"Termreckonry$Warrant", "endAfter", "(I)I"⟩, 19) := ⟨⟨by decide +kernel, by decide +kernel⟩, List.mem_of_getElem? (i := 129) (by decide +kernel), List.mem_of_getElem? (i := 216) (by decide +kernel), List.mem_of_getElem? (i := 217) (by decide +kernel)⟩
theorem lw_p4 : lw_okq (⟨"Termreckonry$Recall", "firstDayUnlicensed", "()I"⟩, 9) := ⟨⟨by decide +kernel, by decide +kernel⟩, List.mem_of_getElem? (i := 234) (by decide +kernel), List.mem_of_getElem? (i := 232) (by decide +kernel), List.mem_of_getElem? (i := 233) (by decide +kernel)⟩
theorem lw_p5 : lw_okq (⟨"Termreckonry$Recall", "latestLicenceEnd", "(I)I"⟩, 9) := ⟨⟨by decide +kernel, by decide +kernel⟩, List.mem_of_getElem? (i := 234) (by decide +kernel), List.mem_of_getElem? (i := 237) (by decide +kernel), List.mem_of_getElem? (i := 238) (by decide +kernel)⟩
theorem lw_p6 : lw_okq (⟨"Termreckonry", "sumNeeded", "()J"⟩, 10) := ⟨⟨by decide +kernel, by decide +kernel⟩, List.mem_of_getElem? (i := 49) (by decide +kernel), List.mem_of_getElem? (i := 248) (by decide +kernel), List.mem_of_getElem? (i := 249) (by decide +kernel)⟩
theorem lw_p7 : lw_okq (⟨"Termreckonry$Tally", "endOfLicence", "(LTermreckonry$Warrant;)I"⟩, 7) := ⟨⟨by decide +kernel, by decide +kernel⟩, List.mem_of_getElem? (i := 297) (by decide +kernel), List.mem_of_getElem? (i := 295) (by decide +kernel), List.mem_of_getElem? (i := 296) (by decide +kernel)⟩
theorem lw_p8 : lw_okq (⟨"java/lang/Throwable", "fillInStackTrace", "(I)Ljava/lang/Throwable;"⟩, 6) := ⟨⟨by decide +kernel, by decide +kernel⟩, List.mem_of_getElem? (i := 395) (by decide +kernel), List.mem_of_getElem? (i := 393) (by decide +kernel), List.mem_of_getElem? (i := 394) (by decide +kernel)⟩
theorem lw_p9 : lw_okq (⟨"Termreckonry", "knownWarrant", "(I)LTermreckonry$Warrant;"⟩, 10) := ⟨⟨by decide +kernel, by decide +kernel⟩, List.mem_of_getElem? (i := 49) (by decide +kernel), List.mem_of_getElem? (i := 559) (by decide +kernel), List.mem_of_getElem? (i := 560) (by decide +kernel)⟩
theorem lw_p10 : lw_okq (⟨"Termreckonry", "knownPerson", "(I)LTermreckonry$Person;"⟩, 10) := ⟨⟨by decide +kernel, by decide +kernel⟩, List.mem_of_getElem? (i := 49) (by decide +kernel), List.mem_of_getElem? (i := 669) (by decide +kernel), List.mem_of_getElem? (i := 670) (by decide +kernel)⟩
theorem lw_p11 : lw_okq (⟨"Termreckonry", "knownAdded", "(I)LTermreckonry$Added;"⟩, 10) := ⟨⟨by decide +kernel, by decide +kernel⟩, List.mem_of_getElem? (i := 49) (by decide +kernel), List.mem_of_getElem? (i := 889) (by decide +kernel), List.mem_of_getElem? (i := 890) (by decide +kernel)⟩
theorem lw_p12 : lw_okq (⟨"Termreckonry", "begunWarrant", "(I)LTermreckonry$Warrant;"⟩, 10) := ⟨⟨by decide +kernel, by decide +kernel⟩, List.mem_of_getElem? (i := 49) (by decide +kernel), List.mem_of_getElem? (i := 983) (by decide +kernel), List.mem_of_getElem? (i := 984) (by decide +kernel)⟩
theorem lw_p13 : lw_okq (⟨"TermreckonryModel", "noDay", "(I)Z"⟩, 6) := ⟨⟨by decide +kernel, by decide +kernel⟩, List.mem_of_getElem? (i := 1107) (by decide +kernel), List.mem_of_getElem? (i := 1185) (by decide +kernel), List.mem_of_getElem? (i := 1186) (by decide +kernel)⟩
theorem lw_p14 : lw_okq (⟨"java/util/ArrayList", "add", "(Ljava/lang/Object;[Ljava/lang/Object;I)V"⟩, 3) := ⟨⟨by decide +kernel, by decide +kernel⟩, List.mem_of_getElem? (i := 1113) (by decide +kernel), List.mem_of_getElem? (i := 1238) (by decide +kernel), List.mem_of_getElem? (i := 1239) (by decide +kernel)⟩
theorem lw_p15 : lw_okq (⟨"java/util/ArrayList", "grow", "()[Ljava/lang/Object;"⟩, 3) := ⟨⟨by decide +kernel, by decide +kernel⟩, List.mem_of_getElem? (i := 1113) (by decide +kernel), List.mem_of_getElem? (i := 1242) (by decide +kernel), List.mem_of_getElem? (i := 1243) (by decide +kernel)⟩
def lw_privs_1 : List (MethodName × Nat) := [(⟨"Termreckonry", "reckonAll", "()V"⟩, 10), (⟨"Termreckonry$Warrant", "reckonBegin", "()I"⟩, 19), (⟨"Termreckonry$Warrant", "releaseAfter", "(I)I"⟩, 19), (⟨"Termreckonry$Warrant", "endAfter", "(I)I"⟩, 19), (⟨"Termreckonry$Recall", "firstDayUnlicensed", "()I"⟩, 9), (⟨"Termreckonry$Recall", "latestLicenceEnd", "(I)I"⟩, 9), (⟨"Termreckonry", "sumNeeded", "()J"⟩, 10), (⟨"Termreckonry$Tally", "endOfLicence", "(LTermreckonry$Warrant;)I"⟩, 7), (⟨"java/lang/Throwable", "fillInStackTrace", "(I)Ljava/lang/Throwable;"⟩, 6), (⟨"Termreckonry", "knownWarrant", "(I)LTermreckonry$Warrant;"⟩, 10), (⟨"Termreckonry", "knownPerson", "(I)LTermreckonry$Person;"⟩, 10), (⟨"Termreckonry", "knownAdded", "(I)LTermreckonry$Added;"⟩, 10), (⟨"Termreckonry", "begunWarrant", "(I)LTermreckonry$Warrant;"⟩, 10), (⟨"TermreckonryModel", "noDay", "(I)Z"⟩, 6), (⟨"java/util/ArrayList", "add", "(Ljava/lang/Object;[Ljava/lang/Object;I)V"⟩, 3), (⟨"java/util/ArrayList", "grow", "()[Ljava/lang/Object;"⟩, 3)]
theorem lw_r1 : ∀ q ∈ lw_privs_1, lw_okq q := List.forall_mem_cons.mpr ⟨lw_p0, List.forall_mem_cons.mpr ⟨lw_p1, List.forall_mem_cons.mpr ⟨lw_p2, List.forall_mem_cons.mpr ⟨lw_p3, List.forall_mem_cons.mpr ⟨lw_p4, List.forall_mem_cons.mpr ⟨lw_p5, List.forall_mem_cons.mpr ⟨lw_p6, List.forall_mem_cons.mpr ⟨lw_p7, List.forall_mem_cons.mpr ⟨lw_p8, List.forall_mem_cons.mpr ⟨lw_p9, List.forall_mem_cons.mpr ⟨lw_p10, List.forall_mem_cons.mpr ⟨lw_p11, List.forall_mem_cons.mpr ⟨lw_p12, List.forall_mem_cons.mpr ⟨lw_p13, List.forall_mem_cons.mpr ⟨lw_p14, List.forall_mem_cons.mpr ⟨lw_p15, fun _ h => absurd h List.not_mem_nil⟩⟩⟩⟩⟩⟩⟩⟩⟩⟩⟩⟩⟩⟩⟩⟩
theorem lw_p16 : lw_okq (⟨"java/util/ArrayList", "grow", "(I)[Ljava/lang/Object;"⟩, 3) := ⟨⟨by decide +kernel, by decide +kernel⟩, List.mem_of_getElem? (i := 1113) (by decide +kernel), List.mem_of_getElem? (i := 1246) (by decide +kernel), List.mem_of_getElem? (i := 1247) (by decide +kernel)⟩
theorem lw_p17 : lw_okq (⟨"TermreckonryModel", "noWarrant", "(I)Z"⟩, 6) := ⟨⟨by decide +kernel, by decide +kernel⟩, List.mem_of_getElem? (i := 1107) (by decide +kernel), List.mem_of_getElem? (i := 1308) (by decide +kernel), List.mem_of_getElem? (i := 1309) (by decide +kernel)⟩
theorem lw_p18 : lw_okq (⟨"TermreckonryModel", "isWarrant", "(I)Z"⟩, 6) := ⟨⟨by decide +kernel, by decide +kernel⟩, List.mem_of_getElem? (i := 1107) (by decide +kernel), List.mem_of_getElem? (i := 1312) (by decide +kernel), List.mem_of_getElem? (i := 1313) (by decide +kernel)⟩
theorem lw_p19 : lw_okq (⟨"TermreckonryModel", "lawFor", "(LTermreckonryModel$Warrant;)I"⟩, 6) := ⟨⟨by decide +kernel, by decide +kernel⟩, List.mem_of_getElem? (i := 1107) (by decide +kernel), List.mem_of_getElem? (i := 1331) (by decide +kernel), List.mem_of_getElem? (i := 1332) (by decide +kernel)⟩
theorem lw_p20 : lw_okq (⟨"TermreckonryModel", "isPerson", "(I)Z"⟩, 6) := ⟨⟨by decide +kernel, by decide +kernel⟩, List.mem_of_getElem? (i := 1107) (by decide +kernel), List.mem_of_getElem? (i := 1372) (by decide +kernel), List.mem_of_getElem? (i := 1373) (by decide +kernel)⟩
theorem lw_p21 : lw_okq (⟨"TermreckonryModel", "raises", "(I)I"⟩, 6) := ⟨⟨by decide +kernel, by decide +kernel⟩, List.mem_of_getElem? (i := 1107) (by decide +kernel), List.mem_of_getElem? (i := 1376) (by decide +kernel), List.mem_of_getElem? (i := 1377) (by decide +kernel)⟩
theorem lw_p22 : lw_okq (⟨"TermreckonryModel", "noPerson", "(IZ)Z"⟩, 6) := ⟨⟨by decide +kernel, by decide +kernel⟩, List.mem_of_getElem? (i := 1107) (by decide +kernel), List.mem_of_getElem? (i := 1611) (by decide +kernel), List.mem_of_getElem? (i := 1612) (by decide +kernel)⟩
theorem lw_p23 : lw_okq (⟨"TermreckonryModel", "facts", "()[LTermreckonryModel$Fact;"⟩, 6) := ⟨⟨by decide +kernel, by decide +kernel⟩, List.mem_of_getElem? (i := 1107) (by decide +kernel), List.mem_of_getElem? (i := 1653) (by decide +kernel), List.mem_of_getElem? (i := 1654) (by decide +kernel)⟩
theorem lw_p24 : lw_okq (⟨"TermreckonryModel", "factOf", "(LTermreckonryModel$Warrant;[LTermreckonryModel$Fact;)LTermreckonryModel$Fact;"⟩, 6) := ⟨⟨by decide +kernel, by decide +kernel⟩, List.mem_of_getElem? (i := 1107) (by decide +kernel), List.mem_of_getElem? (i := 1659) (by decide +kernel), List.mem_of_getElem? (i := 1660) (by decide +kernel)⟩
theorem lw_p25 : lw_okq (⟨"TermreckonryModel", "addedOf", "(I)Ljava/util/ArrayList;"⟩, 6) := ⟨⟨by decide +kernel, by decide +kernel⟩, List.mem_of_getElem? (i := 1107) (by decide +kernel), List.mem_of_getElem? (i := 1694) (by decide +kernel), List.mem_of_getElem? (i := 1695) (by decide +kernel)⟩
theorem lw_p26 : lw_okq (⟨"java/util/ArrayList", "rangeCheckForAdd", "(I)V"⟩, 3) := ⟨⟨by decide +kernel, by decide +kernel⟩, List.mem_of_getElem? (i := 1113) (by decide +kernel), List.mem_of_getElem? (i := 1702) (by decide +kernel), List.mem_of_getElem? (i := 1703) (by decide +kernel)⟩
theorem lw_p27 : lw_okq (⟨"java/util/ArrayList", "outOfBoundsMsg", "(I)Ljava/lang/String;"⟩, 3) := ⟨⟨by decide +kernel, by decide +kernel⟩, List.mem_of_getElem? (i := 1113) (by decide +kernel), List.mem_of_getElem? (i := 1707) (by decide +kernel), List.mem_of_getElem? (i := 1708) (by decide +kernel)⟩
theorem lw_p28 : lw_okq (⟨"TermreckonryModel", "releaseBy", "(LTermreckonryModel$Warrant;II)I"⟩, 6) := ⟨⟨by decide +kernel, by decide +kernel⟩, List.mem_of_getElem? (i := 1107) (by decide +kernel), List.mem_of_getElem? (i := 1907) (by decide +kernel), List.mem_of_getElem? (i := 1908) (by decide +kernel)⟩
theorem lw_p29 : lw_okq (⟨"TermreckonryModel", "stateOf", "(II[LTermreckonryModel$Fact;)C"⟩, 6) := ⟨⟨by decide +kernel, by decide +kernel⟩, List.mem_of_getElem? (i := 1107) (by decide +kernel), List.mem_of_getElem? (i := 1915) (by decide +kernel), List.mem_of_getElem? (i := 1916) (by decide +kernel)⟩
theorem lw_p30 : lw_okq (⟨"TermreckonryModel", "isLicensed", "(II[LTermreckonryModel$Fact;I)Z"⟩, 6) := ⟨⟨by decide +kernel, by decide +kernel⟩, List.mem_of_getElem? (i := 1107) (by decide +kernel), List.mem_of_getElem? (i := 1919) (by decide +kernel), List.mem_of_getElem? (i := 1920) (by decide +kernel)⟩
theorem lw_p31 : lw_okq (⟨"TermreckonryModel", "goesOn", "(LTermreckonryModel$Recall;I[LTermreckonryModel$Fact;)Z"⟩, 6) := ⟨⟨by decide +kernel, by decide +kernel⟩, List.mem_of_getElem? (i := 1107) (by decide +kernel), List.mem_of_getElem? (i := 1927) (by decide +kernel), List.mem_of_getElem? (i := 1928) (by decide +kernel)⟩
def lw_privs_2 : List (MethodName × Nat) := [(⟨"java/util/ArrayList", "grow", "(I)[Ljava/lang/Object;"⟩, 3), (⟨"TermreckonryModel", "noWarrant", "(I)Z"⟩, 6), (⟨"TermreckonryModel", "isWarrant", "(I)Z"⟩, 6), (⟨"TermreckonryModel", "lawFor", "(LTermreckonryModel$Warrant;)I"⟩, 6), (⟨"TermreckonryModel", "isPerson", "(I)Z"⟩, 6), (⟨"TermreckonryModel", "raises", "(I)I"⟩, 6), (⟨"TermreckonryModel", "noPerson", "(IZ)Z"⟩, 6), (⟨"TermreckonryModel", "facts", "()[LTermreckonryModel$Fact;"⟩, 6), (⟨"TermreckonryModel", "factOf", "(LTermreckonryModel$Warrant;[LTermreckonryModel$Fact;)LTermreckonryModel$Fact;"⟩, 6), (⟨"TermreckonryModel", "addedOf", "(I)Ljava/util/ArrayList;"⟩, 6), (⟨"java/util/ArrayList", "rangeCheckForAdd", "(I)V"⟩, 3), (⟨"java/util/ArrayList", "outOfBoundsMsg", "(I)Ljava/lang/String;"⟩, 3), (⟨"TermreckonryModel", "releaseBy", "(LTermreckonryModel$Warrant;II)I"⟩, 6), (⟨"TermreckonryModel", "stateOf", "(II[LTermreckonryModel$Fact;)C"⟩, 6), (⟨"TermreckonryModel", "isLicensed", "(II[LTermreckonryModel$Fact;I)Z"⟩, 6), (⟨"TermreckonryModel", "goesOn", "(LTermreckonryModel$Recall;I[LTermreckonryModel$Fact;)Z"⟩, 6)]
theorem lw_r2 : ∀ q ∈ lw_privs_2, lw_okq q := List.forall_mem_cons.mpr ⟨lw_p16, List.forall_mem_cons.mpr ⟨lw_p17, List.forall_mem_cons.mpr ⟨lw_p18, List.forall_mem_cons.mpr ⟨lw_p19, List.forall_mem_cons.mpr ⟨lw_p20, List.forall_mem_cons.mpr ⟨lw_p21, List.forall_mem_cons.mpr ⟨lw_p22, List.forall_mem_cons.mpr ⟨lw_p23, List.forall_mem_cons.mpr ⟨lw_p24, List.forall_mem_cons.mpr ⟨lw_p25, List.forall_mem_cons.mpr ⟨lw_p26, List.forall_mem_cons.mpr ⟨lw_p27, List.forall_mem_cons.mpr ⟨lw_p28, List.forall_mem_cons.mpr ⟨lw_p29, List.forall_mem_cons.mpr ⟨lw_p30, List.forall_mem_cons.mpr ⟨lw_p31, fun _ h => absurd h List.not_mem_nil⟩⟩⟩⟩⟩⟩⟩⟩⟩⟩⟩⟩⟩⟩⟩⟩
theorem lw_p32 : lw_okq (⟨"TermreckonryModel", "isIn", "(II[LTermreckonryModel$Fact;)Z"⟩, 6) := ⟨⟨by decide +kernel, by decide +kernel⟩, List.mem_of_getElem? (i := 1107) (by decide +kernel), List.mem_of_getElem? (i := 1931) (by decide +kernel), List.mem_of_getElem? (i := 1932) (by decide +kernel)⟩
theorem lw_p33 : lw_okq (⟨"TermreckonryModel", "begun", "(I)LTermreckonryModel$Fact;"⟩, 6) := ⟨⟨by decide +kernel, by decide +kernel⟩, List.mem_of_getElem? (i := 1107) (by decide +kernel), List.mem_of_getElem? (i := 1969) (by decide +kernel), List.mem_of_getElem? (i := 1970) (by decide +kernel)⟩
theorem lw_p34 : lw_okq (⟨"TermreckonryModel", "counted", "(IIZLjava/lang/String;)I"⟩, 6) := ⟨⟨by decide +kernel, by decide +kernel⟩, List.mem_of_getElem? (i := 1107) (by decide +kernel), List.mem_of_getElem? (i := 2007) (by decide +kernel), List.mem_of_getElem? (i := 2008) (by decide +kernel)⟩
theorem lw_p35 : lw_okq (⟨"TermreckonryModel", "endOf", "(LTermreckonryModel$Recall;[LTermreckonryModel$Fact;)I"⟩, 6) := ⟨⟨by decide +kernel, by decide +kernel⟩, List.mem_of_getElem? (i := 1107) (by decide +kernel), List.mem_of_getElem? (i := 2011) (by decide +kernel), List.mem_of_getElem? (i := 2012) (by decide +kernel)⟩
theorem lw_p36 : lw_okq (⟨"TermreckonryModel", "fast", "(II[LTermreckonryModel$Fact;[I)C"⟩, 6) := ⟨⟨by decide +kernel, by decide +kernel⟩, List.mem_of_getElem? (i := 1107) (by decide +kernel), List.mem_of_getElem? (i := 2015) (by decide +kernel), List.mem_of_getElem? (i := 2016) (by decide +kernel)⟩
def lw_privs_3 : List (MethodName × Nat) := [(⟨"TermreckonryModel", "isIn", "(II[LTermreckonryModel$Fact;)Z"⟩, 6), (⟨"TermreckonryModel", "begun", "(I)LTermreckonryModel$Fact;"⟩, 6), (⟨"TermreckonryModel", "counted", "(IIZLjava/lang/String;)I"⟩, 6), (⟨"TermreckonryModel", "endOf", "(LTermreckonryModel$Recall;[LTermreckonryModel$Fact;)I"⟩, 6), (⟨"TermreckonryModel", "fast", "(II[LTermreckonryModel$Fact;[I)C"⟩, 6)]
theorem lw_r3 : ∀ q ∈ lw_privs_3, lw_okq q := List.forall_mem_cons.mpr ⟨lw_p32, List.forall_mem_cons.mpr ⟨lw_p33, List.forall_mem_cons.mpr ⟨lw_p34, List.forall_mem_cons.mpr ⟨lw_p35, List.forall_mem_cons.mpr ⟨lw_p36, fun _ h => absurd h List.not_mem_nil⟩⟩⟩⟩⟩
def lw_privs : List (MethodName × Nat) := lw_privs_1 ++ (lw_privs_2 ++ (lw_privs_3))
def lw_tbl : List Cond := k2_sels lw_privs ++ tables_1
theorem lw_privs_ok : ∀ q ∈ lw_privs, lw_okq q := by
  show ∀ q ∈ lw_privs_1 ++ (lw_privs_2 ++ (lw_privs_3)), lw_okq q
  exact List.forall_mem_append.mpr ⟨lw_r1, List.forall_mem_append.mpr ⟨lw_r2, lw_r3⟩⟩
/-- the streams that the claim lets the run draw from -/
abbrev lw_cs : List Choice := [Jvm.Choice.named "NaN.bits"]
theorem lw_bits : nanBits ∈ lw_cs := by first | decide | exact List.mem_cons_self | simp [lw_cs, nanBits]
end
section
/-! ===== BEGIN words of one list among another's, by their places ===== -/
theorem goodIn_r {big : List Cond} (ws : List Cond) (ps : List Nat) (hp : ws = ps.filterMap (fun i => big[i]?)) (h : ws.all goodWord = true) : GoodIn big ws := by
  intro w hw
  have h1 := List.all_eq_true.mp h w hw
  rw [hp] at hw
  obtain ⟨i, -, hi⟩ := List.mem_filterMap.mp hw
  have hm : w ∈ big := by first | exact List.mem_of_getElem? hi | exact List.getElem?_mem hi
  exact ⟨hm, good_of_word h1⟩
theorem goodIn_app {big a b : List Cond} (ha : GoodIn big a) (hb : GoodIn big b) : GoodIn big (a ++ b) := fun w h => (List.mem_append.mp h).elim (ha w) (hb w)
theorem goodIn_ca {big a b : List Cond} {c : Cond} (ha : GoodIn big (c :: a)) (hb : GoodIn big b) : GoodIn big (c :: (a ++ b)) := fun w h => (List.mem_cons.mp h).elim (fun e => ha w (List.mem_cons.mpr (Or.inl e))) (fun h => (List.mem_append.mp h).elim (fun h => ha w (List.mem_cons.mpr (Or.inr h))) (hb w))
theorem goodIn_sub {big ws : List Cond} (hm : ∀ w ∈ ws, w ∈ big) (h : ws.all goodWord = true) : GoodIn big ws := fun w hw => ⟨hm w hw, good_of_word (List.all_eq_true.mp h w hw)⟩
/-! ===== END ===== -/

/-! ===== BEGIN exceptions that leave a method, and their catching by the caller (launches without stack traces) ===== -/
section VXA
/-! The laws vx_back, vx_callV, vx_callS, vx_callSW, vx_throw0, vx_throwS follow proofs of the library, with one case more: JvmDerived/Free/Laws.lean (Back.of_free), Shelf42/LK1.lean (callV, callS), Shelf/KitTraced.lean (throwNew0V, throwNewS). -/
/-- where a method has thrown q: the class by its name, the cell, what was written, the world -/
def vx_T (XC : String → State → State → Prop) (st : State) (q : Addr) (t : State) (mc ms : Nat) (free : Addr → Prop) : Prop :=
  ∃ (E : String) (ce : Cell) (L : List Loc), XC E st t ∧ t.heap[q]? = some ce ∧ ce.vm = .none ∧ st.vm.findClass E = some ce.cls ∧ st.WarmedH t.vm ∧ st.sameButNew ({ t with vm := st.vm } : State) L mc ms ∧ ∀ z ∈ L, free z.base
def vx_Q (Qc : Array Value → State → Outcome → State → Prop) (XC : String → State → State → Prop) (mc ms : Nat) (free : Addr → Prop) : Array Value → State → Outcome → State → Prop := fun a st o t =>
  (Qc a st o t ∧ ∃ L, FrameEnd st o t L mc ms ∧ ∀ q ∈ L, free q.base) ∨ ∃ q, o = .threw q ∧ vx_T XC st q t mc ms free
/-- a callee that returns or throws -/
def vx_Met (l : Launch) (y : MethodName) (ws : List Cond) (rm : Room) (Pc : Array Value → State → Prop) (Qc : Array Value → State → Outcome → State → Prop) (XC : String → State → State → Prop) (mc ms : Nat) (free : Addr → Prop) : Prop :=
  MetFree l y (headSpec ws rm) Pc (fun _ _ _ _ _ => True) (vx_Q Qc XC mc ms free)
def vx_Post (XC : String → State → State → Prop) (mc ms : Nat) (free : Addr → Prop) : Pt → Array Value → Addr → Pt → Prop := fun A a q B =>
  ∃ (g : JFrame) (mk : MethodId) (t : State) (L : List Loc) (E : String) (ce : Cell), B.U.heap = t.heap ∧ B.U.vm = t.vm ∧ XC E (A.U.calling g mk a) t ∧ t.heap[q]? = some ce ∧ ce.vm = .none ∧ A.U.vm.findClass E = some ce.cls ∧ B.locs = A.locs ++ L ∧ (∀ z ∈ L, free z.base) ∧ B.cells = A.cells + mc ∧ B.slots = A.slots + ms
def vx_Back (l : Launch) (R : Room) (p : Program) (e : Env) (below : List Frame) (s : State) (sargs : Array Value) (y : MethodName) (len W9 : Nat)
    (Pre : Pt → Array Value → Prop) (Post : Pt → Array Value → Option Value → Pt → Prop) (PostX : Pt → Array Value → Addr → Pt → Prop) : Prop :=
  ∀ (m : MethodId) (meth : Method) (c : Code) (A : Pt) (g : JFrame) (ig : Instr) (mk : MethodId) (a : Array Value),
    Stand p l e R s m sargs below meth c A.U A.locs A.cells A.slots → g.method = m → g.locals.size = c.maxLocals → decode c.code g.pc = .ok (ig, len) →
    2 * g.monitorRoom + (g.stack.map fun v => v.category).sum ≤ W9 → A.U.methodNamed? y = some mk → Pre A a →
    (∃ (v : Option Value) (B : Pt), Stand p l e R s m sargs below meth c B.U B.locs B.cells B.slots ∧ Post A a v B ∧
      Steps p.tables e below (doInvoke e (A.U.setTop g) [] mk a).1 (B.U.setTop { g with pc := g.pc + len, stack := v.toList ++ g.stack })) ∨
    (∃ (q : Addr) (B : Pt), Stand p l e R s m sargs below meth c B.U B.locs B.cells B.slots ∧ PostX A a q B ∧
      Steps p.tables e below (doInvoke e (A.U.setTop g) [] mk a).1 ((B.U.setTop g).pushFrame (.throwing q)))
section Payer
variable {l : Launch} {R : Room} {p : Program} {e : Env} {below : List Frame} {s : State} {sargs : Array Value} {y : MethodName} {len W9 : Nat}
theorem vx_back {ws : List Cond} {rm : Room} {Pc : Array Value → State → Prop} {Qc : Array Value → State → Outcome → State → Prop} {XC : String → State → State → Prop} {mc ms : Nat} {free : Addr → Prop} {bytes : ByteArray} {maxL : Nat} {ret : Option FieldType}
    (hM : vx_Met l y ws rm Pc Qc XC mc ms free) (hblind : FrameBlind Pc) (hrc : rm.cells = mc) (hrs : rm.slots = ms)
    (hframes : rm.frames + 1 ≤ R.frames) (hlocals : W9 + (maxL + 11) + rm.locals ≤ R.locals)
    (hws : ∀ w ∈ ws, ∀ a' U, s.WarmedH U.vm → w.before a' U = true) (hcode : Cond.code y bytes maxL ret ∈ ws) (hinit : ∀ a' U, s.WarmedH U.vm → (Cond.initialized y.cls).before a' U = true) :
    vx_Back l R p e below s sargs y len W9 (PreOf R mc ms Pc) (PostOf Qc mc ms free) (vx_Post XC mc ms free) := by
  intro m meth c A g ig mk a X hg hsize hdg hW hn hp
  have h1 : (headSpec ws rm).pre.before a A.U = true := atoms_intro fun w hw => hws w hw _ _ X.warmed
  have h2 : (Cond.code y bytes maxL ret).before a A.U = true := hws _ hcode _ _ X.warmed
  have h3 : (Cond.initialized y.cls).before a A.U = true := hinit _ _ X.warmed
  have h4 : A.cells + (headSpec ws rm).room.cells ≤ R.cells := by rw [show (headSpec ws rm).room.cells = mc from hrc]; exact hp.1
  have h5 : A.slots + (headSpec ws rm).room.slots ≤ R.slots := by rw [show (headSpec ws rm).room.slots = ms from hrs]; exact hp.2.1
  have hPc : Pc a (A.U.calling g mk a) := hblind _ _ _ _ hp.2.2
  obtain ⟨U, Ls, c0, s0⟩ := A
  dsimp only [Pt.U, Pt.locs, Pt.cells, Pt.slots] at h1 h2 h3 h4 h5 X hn hPc ⊢
  obtain ⟨methY, cY, hmY, hcY, -, hlY, -, -, -, -⟩ := Cond.code_spec hn h2
  obtain ⟨kY, hkY, -⟩ := className_of_methodNamed hn
  have hinitY : kY.init = .initialized := Cond.initialized_spec (findClass_of_methodNamed hn) hkY h3
  have h : At U g.method c below := by rw [hg]; exact X.here
  have hlocals9 : W9 + (maxL + 11) + (headSpec ws rm).room.locals ≤ R.locals := hlocals
  have happ : (headSpec ws rm).appliesLoose y e.platform (U.calling g mk a) = true :=
    Spec.appliesLoose_calling (g := g) h hdg hn hkY hinitY
      (X.room_calling (g := g) (R' := (headSpec ws rm).room) hsize hmY hcY hframes (by rw [hlY]; omega) h4 h5) h1
  obtain ⟨mid, hmid⟩ := h.above
  have hfr : (U.setTop g).frames = (.java g :: mid) ++ below := by rw [State.frames_setTop' g h.top, hmid]; rfl
  obtain ⟨o, s₂, hsteps, -, hend, hq⟩ := Steps.callFree hM p X.admits X.cas X.clock (acts := []) hfr happ hPc trivial
  have hq' : vx_Q Qc XC mc ms free a (U.calling g mk a) o s₂ := hq
  rw [State.frames_setTop' g h.top] at hend
  obtain ⟨g₀, hg0⟩ := Option.isSome_iff_exists.mp h.top
  obtain ⟨r, hr⟩ := State.topJava?_eq_some.mp hg0
  have hr' : (({ U with heap := s₂.heap, slotsUsed := s₂.slotsUsed } : State).setVm s₂.vm).frames = .java g₀ :: r := hr
  rcases hq' with ⟨hqc, L, hfe, hL⟩ | ⟨q, rfl, E, ce, L, hx, hce, hcv, hcl, hW₂, hsm, hL⟩
  · obtain ⟨⟨v, rfl⟩, hW₂, e2, q2, q3, q4, q5, q6⟩ := id hfe
    have e3 : s₂ = ({ (U.calling g mk a).setFrames s₂.frames with heap := s₂.heap, slotsUsed := s₂.slotsUsed } : State).setVm s₂.vm := by
      have : s₂ = ({ s₂ with vm := (U.calling g mk a).vm } : State).setVm s₂.vm := rfl
      rw [e2] at this
      exact this
    obtain ⟨c₂, i₂, len₂, hc₂, hd₂, hf₂⟩ := hend
    have hW' : U.WarmedH s₂.vm := hW₂
    have hcc : c₂ = c := by
      have h1 : s₂.code? g.method = U.code? g.method := by
        rw [State.code?_eq, State.code?_eq, hW'.alike.method?]
      exact Option.some.inj (hc₂.symm.trans (h1.trans h.code))
    subst hcc
    have hlen : len₂ = len := by rw [hdg] at hd₂; cases hd₂; rfl
    subst hlen
    have hs₂ : s₂ = (({ U with heap := s₂.heap, slotsUsed := s₂.slotsUsed } : State).setVm s₂.vm).setTop { g with pc := g.pc + len₂, stack := v.toList ++ g.stack } := by
      refine e3.trans ?_
      rw [hf₂, State.calling_eq h.top, State.setFrames_setFrames, State.setTop_of_frames _ hr', hr]
      rfl
    have hsame : U.sameButNew ({ U with heap := s₂.heap, slotsUsed := s₂.slotsUsed } : State) L mc ms := by
      refine ⟨?_, q2, q3, q4, q5, q6⟩
      obtain ⟨t, ht, -⟩ := State.frames_cons hr
      show ({ U with heap := s₂.heap, slotsUsed := s₂.slotsUsed } : State) = { U.setFrames U.frames with heap := s₂.heap, slotsUsed := s₂.slotsUsed }
      rw [State.setFrames_self ht]
    subst hg
    refine Or.inl ⟨v, ⟨(({ U with heap := s₂.heap, slotsUsed := s₂.slotsUsed } : State).setVm s₂.vm), Ls ++ L, c0 + mc, s0 + ms⟩,
      ⟨X.admits, X.cas, X.clock, X.frames, X.room, X.hears, X.method, X.code, (X.here.setHeapUsed s₂.heap s₂.slotsUsed).setVm hW'.alike, X.tail, State.WarmedH.trans X.warmed hW', X.limits, X.bytes, X.same.trans (hsame.setVm s.vm)⟩,
      ⟨g, mk, s₂, L, rfl, rfl, hqc, rfl, hL, rfl, rfl⟩, ?_⟩
    show Steps p.tables e below _ ((({ U with heap := s₂.heap, slotsUsed := s₂.slotsUsed } : State).setVm s₂.vm).setTop { g with pc := g.pc + len₂, stack := v.toList ++ g.stack })
    rw [← hs₂]
    exact hsteps
  · obtain ⟨e2, q2, q3, q4, q5, q6⟩ := id hsm
    have e3 : s₂ = ({ (U.calling g mk a).setFrames s₂.frames with heap := s₂.heap, slotsUsed := s₂.slotsUsed } : State).setVm s₂.vm := by
      have : s₂ = ({ s₂ with vm := (U.calling g mk a).vm } : State).setVm s₂.vm := rfl
      rw [e2] at this
      exact this
    have hf₂ : s₂.frames = .throwing q :: .java g :: U.frames.tail := hend
    have hW' : U.WarmedH s₂.vm := hW₂
    have hs₂ : s₂ = ((({ U with heap := s₂.heap, slotsUsed := s₂.slotsUsed } : State).setVm s₂.vm).setTop g).pushFrame (.throwing q) := by
      refine e3.trans ?_
      rw [hf₂, State.calling_eq h.top, State.setFrames_setFrames, State.pushFrame, State.frames_setTop _ hr', State.setTop_of_frames _ hr', State.setFrames_setFrames, hr]
      rfl
    have hsame : U.sameButNew ({ U with heap := s₂.heap, slotsUsed := s₂.slotsUsed } : State) L mc ms := by
      refine ⟨?_, q2, q3, q4, q5, q6⟩
      obtain ⟨t, ht, -⟩ := State.frames_cons hr
      show ({ U with heap := s₂.heap, slotsUsed := s₂.slotsUsed } : State) = { U.setFrames U.frames with heap := s₂.heap, slotsUsed := s₂.slotsUsed }
      rw [State.setFrames_self ht]
    subst hg
    refine Or.inr ⟨q, ⟨(({ U with heap := s₂.heap, slotsUsed := s₂.slotsUsed } : State).setVm s₂.vm), Ls ++ L, c0 + mc, s0 + ms⟩,
      ⟨X.admits, X.cas, X.clock, X.frames, X.room, X.hears, X.method, X.code, (X.here.setHeapUsed s₂.heap s₂.slotsUsed).setVm hW'.alike, X.tail, State.WarmedH.trans X.warmed hW', X.limits, X.bytes, X.same.trans (hsame.setVm s.vm)⟩,
      ⟨g, mk, s₂, L, E, ce, rfl, rfl, hx, hce, hcv, hcl, rfl, hL, rfl, rfl⟩, ?_⟩
    show Steps p.tables e below _ (((({ U with heap := s₂.heap, slotsUsed := s₂.slotsUsed } : State).setVm s₂.vm).setTop g).pushFrame (.throwing q))
    rw [← hs₂]
    exact hsteps
end Payer
section Calls
variable {p : Program} {l : Launch} {e : Env} {R : Room} {s : State} {m : MethodId} {args : Array Value} {below : List Frame} {meth : Method} {c : Code} {T : State} {locs : List Loc} {cells slots : Nat}
theorem vx_callV (X : Stand p l e R s m args below meth c T locs cells slots) (hexec : p.tables.exec = Jvm.exec) {own C : String} {index : Nat} {y : MethodName} {bytes : ByteArray} {maxL : Nat} {ret : Option FieldType}
    (hown : s.vm.findClass own = some m.cls) (hlink : (Cond.methodLink own index y).before args s = true) (hinst : (Cond.instanceMethod y).before args s = true) (hsel : (Cond.selects C y y).before args s = true)
    (hcode : (Cond.code y bytes maxL ret).before args s = true) (hy : y.cls ≠ "java/lang/invoke/MethodHandle" ∧ y.cls ≠ "java/lang/invoke/VarHandle")
    {W9 : Nat} {Pre : Pt → Array Value → Prop} {Post : Pt → Array Value → Option Value → Pt → Prop} {PostX : Pt → Array Value → Addr → Pt → Prop} (hK : vx_Back l R p e below s args y 3 W9 Pre Post PostX)
    {b : Addr} {cellB : Cell} (hcell : T.heap[b]? = some cellB) (hobj : cellB.vm.isStatics = false) (hcls : s.vm.findClass C = some cellB.cls)
    {g : JFrame} (hg : g.method = m) (hsize : g.locals.size = c.maxLocals) {argsL rest : List Value} (hlen : ∀ sig, parseMethodDescriptor y.desc = some sig → argsL.length = sig.parameters.length)
    (hstack : g.stack = argsL.reverse ++ .ref b :: rest) (hW : 2 * g.monitorRoom + (rest.map fun v => v.category).sum ≤ W9) (hdg : decode c.code g.pc = .ok (.invokevirtual index, 3))
    (hpre : ∀ vm₁, s.WarmedH vm₁ → Pre ⟨T.setVm vm₁, locs, cells, slots⟩ (Value.ref b :: argsL).toArray) :
    (∃ (v : Option Value) (vm₁ : Vm) (B : Pt), s.WarmedH vm₁ ∧ Stand p l e R s m args below meth c B.U B.locs B.cells B.slots ∧ Post ⟨T.setVm vm₁, locs, cells, slots⟩ (Value.ref b :: argsL).toArray v B ∧
      ∀ target, Steps p.tables e below (B.U.setTop { g with pc := g.pc + 3, stack := v.toList ++ rest }) target → Steps p.tables e below (T.setTop g) target) ∨
    (∃ (q : Addr) (vm₁ : Vm) (B : Pt), s.WarmedH vm₁ ∧ Stand p l e R s m args below meth c B.U B.locs B.cells B.slots ∧ PostX ⟨T.setVm vm₁, locs, cells, slots⟩ (Value.ref b :: argsL).toArray q B ∧
      Steps p.tables e below (T.setTop g) ((B.U.setTop { g with stack := rest }).pushFrame (.throwing q))) := by
  obtain ⟨mk, methM, hnamed, hmethM, hstM, habM⟩ := Cond.instanceMethod_spec hinst
  obtain ⟨methM', cM, hmethM', -, -, -, -, -, -, hsigM⟩ := Cond.code_spec hnamed hcode
  cases hmethM.symm.trans hmethM'
  obtain ⟨c2, r2, m2, q1, q2, q3, q4, kP, hkP, hkPi⟩ := Cond.selects_spec hsel
  cases hcls.symm.trans q1
  cases (State.methodFound?_of_named hnamed hy).symm.trans q2
  cases hnamed.symm.trans q3
  have hselP : selectMethod e.platform s.vm cellB.cls mk = .method mk := by rw [Launch.admits_selectMethod X.admits]; exact q4
  obtain ⟨vm₁, X₁, hstep₁⟩ := X.invokevirtual hexec hown hlink hnamed hmethM hstM hkP hkPi hy (a := b) (cell := cellB) hcell
    (fun z h => by rw [h] at hobj; cases hobj) hselP hmethM habM hkP hkPi (g := g) hg (argsL := argsL) (rest := rest) (hlen _ hsigM) hstack hdg
  rcases hK m meth c ⟨T.setVm vm₁, locs, cells, slots⟩ { g with stack := rest } (.invokevirtual index) mk (Value.ref b :: argsL).toArray X₁ hg hsize hdg hW (X₁.named hnamed) (hpre vm₁ X₁.warmed) with ⟨v, B, X', hpost, hsteps⟩ | ⟨q, B, X', hpost, hsteps⟩
  · exact Or.inl ⟨v, vm₁, B, X₁.warmed, X', hpost, fun target h => hstep₁ _ fun acts => by rw [doInvoke_state]; exact hsteps.trans h⟩
  · exact Or.inr ⟨q, vm₁, B, X₁.warmed, X', hpost, hstep₁ _ fun acts => by rw [doInvoke_state]; exact hsteps⟩
theorem vx_callS (X : Stand p l e R s m args below meth c T locs cells slots) (hexec : p.tables.exec = Jvm.exec) {own : String} {index : Nat} {y : MethodName} {bytes : ByteArray} {maxL : Nat} {ret : Option FieldType}
    (hown : s.vm.findClass own = some m.cls) (hlink : (Cond.methodLink own index y).before args s = true) (hstat : (Cond.static y).before args s = true) (hinit : (Cond.initialized y.cls).before args s = true)
    (hcode : (Cond.code y bytes maxL ret).before args s = true) (hy : y.cls ≠ "java/lang/invoke/MethodHandle" ∧ y.cls ≠ "java/lang/invoke/VarHandle")
    {W9 : Nat} {Pre : Pt → Array Value → Prop} {Post : Pt → Array Value → Option Value → Pt → Prop} {PostX : Pt → Array Value → Addr → Pt → Prop} (hK : vx_Back l R p e below s args y 3 W9 Pre Post PostX)
    {g : JFrame} (hg : g.method = m) (hsize : g.locals.size = c.maxLocals) {argsL rest : List Value} (hlen : ∀ sig, parseMethodDescriptor y.desc = some sig → argsL.length = sig.parameters.length)
    (hstack : g.stack = argsL.reverse ++ rest) (hW : 2 * g.monitorRoom + (rest.map fun v => v.category).sum ≤ W9) (hdg : decode c.code g.pc = .ok (.invokestatic index, 3))
    (hpre : ∀ vm₁, s.WarmedH vm₁ → Pre ⟨T.setVm vm₁, locs, cells, slots⟩ argsL.toArray) :
    (∃ (v : Option Value) (vm₁ : Vm) (B : Pt), s.WarmedH vm₁ ∧ Stand p l e R s m args below meth c B.U B.locs B.cells B.slots ∧ Post ⟨T.setVm vm₁, locs, cells, slots⟩ argsL.toArray v B ∧
      ∀ target, Steps p.tables e below (B.U.setTop { g with pc := g.pc + 3, stack := v.toList ++ rest }) target → Steps p.tables e below (T.setTop g) target) ∨
    (∃ (q : Addr) (vm₁ : Vm) (B : Pt), s.WarmedH vm₁ ∧ Stand p l e R s m args below meth c B.U B.locs B.cells B.slots ∧ PostX ⟨T.setVm vm₁, locs, cells, slots⟩ argsL.toArray q B ∧
      Steps p.tables e below (T.setTop g) ((B.U.setTop { g with stack := rest }).pushFrame (.throwing q))) := by
  obtain ⟨mk, hnamed⟩ := Cond.code_named hcode
  obtain ⟨methM, cM, hmethM, -, -, -, -, -, -, hsigM⟩ := Cond.code_spec hnamed hcode
  have hstatic : methM.isStatic = true := Cond.static_spec hnamed hmethM hstat
  obtain ⟨kP, hkP, -⟩ := className_of_methodNamed hnamed
  have hinitP : kP.init = .initialized := Cond.initialized_spec (findClass_of_methodNamed hnamed) hkP hinit
  obtain ⟨vm₁, X₁, hstep₁⟩ := X.invokestatic hexec hown hlink hnamed hmethM hstatic hkP hinitP hy (g := g) hg (argsL := argsL) (rest := rest) (hlen _ hsigM) hstack hdg
  rcases hK m meth c ⟨T.setVm vm₁, locs, cells, slots⟩ { g with stack := rest } (.invokestatic index) mk argsL.toArray X₁ hg hsize hdg hW (X₁.named hnamed) (hpre vm₁ X₁.warmed) with ⟨v, B, X', hpost, hsteps⟩ | ⟨q, B, X', hpost, hsteps⟩
  · exact Or.inl ⟨v, vm₁, B, X₁.warmed, X', hpost, fun target h => hstep₁ _ fun acts => by rw [doInvoke_state]; exact hsteps.trans h⟩
  · exact Or.inr ⟨q, vm₁, B, X₁.warmed, X', hpost, hstep₁ _ fun acts => by rw [doInvoke_state]; exact hsteps⟩
end Calls
theorem vx_cls {s : State} {T : State} {vm₁ : Vm} {E : String} {k : ClassId} (hW : s.WarmedH vm₁) (h : (T.setVm vm₁).vm.findClass E = some k) : s.vm.findClass E = some k := by
  have h1 : vm₁.findClass E = some k := h
  rw [hW.alike.findClass] at h1
  exact h1
/-- the method's frame g, with q thrown over it -/
def vx_W (p : Program) (l : Launch) (e : Env) (R : Room) (s : State) (m : MethodId) (args : Array Value) (below : List Frame) (meth : Method) (c : Code) (H : Heap) (locs : List Loc) (cells slots : Nat) (Q : State → Prop) (g : JFrame) (q : Addr) : Prop :=
  ∀ T : State, T.heap = H → Stand p l e R s m args below meth c T locs cells slots → ∃ t, Steps p.tables e below ((T.setTop g).pushFrame (.throwing q)) t ∧ Q t
def vx_Run (p : Program) (l : Launch) (e : Env) (R : Room) (s : State) (m : MethodId) (args : Array Value) (below : List Frame) (meth : Method) (c : Code) (H : Heap) (locs : List Loc) (cells slots mc ms : Nat) (g : JFrame) (rest : List Value) (Qa : State → Outcome → State → Prop) (XC : String → State → State → Prop) (free : Addr → Prop) : Prop :=
  ∀ T : State, T.heap = H → Stand p l e R s m args below meth c T locs cells slots →
    (∃ (v : Option Value) (st₀ t T' : State) (L : List Loc), st₀.heap = H ∧ Stand p l e R s m args below meth c T' (locs ++ L) (cells + mc) (slots + ms) ∧ (∀ q ∈ L, free q.base) ∧ T'.heap = t.heap ∧ T'.vm = t.vm ∧ Qa st₀ (.returned v) t ∧
      Goes p e below T g T' { g with pc := g.pc + 3, stack := v.toList ++ rest }) ∨
    (∃ (q : Addr) (st₀ t T' : State) (L : List Loc) (E : String) (ce : Cell), st₀.heap = H ∧ Stand p l e R s m args below meth c T' (locs ++ L) (cells + mc) (slots + ms) ∧ (∀ z ∈ L, free z.base) ∧ T'.heap = t.heap ∧ T'.vm = t.vm ∧ XC E st₀ t ∧ t.heap[q]? = some ce ∧ ce.vm = .none ∧ s.vm.findClass E = some ce.cls ∧
      Steps p.tables e below (T.setTop g) ((T'.setTop { g with stack := rest }).pushFrame (.throwing q)))
def vx_X {S : Type} (px : S → Prop) (B : String → S → State → Prop) (A : Nat → Prop) : String → State → State → Prop := fun E st t => ∃ u : S, px u ∧ B E u t ∧ va_F A st t
section Runs
variable {p : Program} {l : Launch} {e : Env} {R : Room} {s : State} {m : MethodId} {args : Array Value} {below : List Frame} {meth : Method} {c : Code} {H : Heap} {locs : List Loc} {cells slots : Nat}
variable {y : MethodName} {bytes cc : ByteArray} {maxL nL mc ms n index : Nat} {ret : Option FieldType} {ws : List Cond} {rm : Room} {Pc : Array Value → State → Prop} {Qc : Array Value → State → Outcome → State → Prop} {XC : String → State → State → Prop} {free : Addr → Prop} {Ts : List Cond} {own C : String} {b : Addr} {As rest : List Value} {g : JFrame}
theorem vx_callBack (cb : CallB R s args own index y bytes maxL ret ws rm mc ms n) (hM : vx_Met l y ws rm Pc Qc XC mc ms free) (hbl : FrameBlind Pc) : vx_Back l R p e below s args y 3 8 (PreOf R mc ms Pc) (PostOf Qc mc ms free) (vx_Post XC mc ms free) := by
  obtain ⟨hrc, hrs, hfr, hlo, hws, hcw, -, hini, -⟩ := cb
  exact vx_back (bytes := bytes) (maxL := maxL) (ret := ret) hM hbl hrc hrs hfr hlo hws hcw (fun a' U hW => word_at hW (Or.inl (by first | rfl | simp [Cond.onTables, Cond.keeps, Cond.steady])) hini)
theorem vx_runV (S : CallFix p m c cc nL s args Ts own) (hM : vx_Met l y ws rm Pc Qc XC mc ms free) (cw : CallW R s args own C index y bytes maxL ret ws rm mc ms n) (hp : PreV s H C b Pc As)
    (hg : g.method = m) (hn : As.length = n) (hsize : g.locals.size = nL) (hstack : g.stack = As.reverse ++ .ref b :: rest) (hW : 2 * g.monitorRoom + (rest.map fun v => v.category).sum ≤ 8) (hdg : decode cc g.pc = .ok (.invokevirtual index, 3)) (hf : cells + mc ≤ R.cells ∧ slots + ms ≤ R.slots) :
    vx_Run p l e R s m args below meth c H locs cells slots mc ms g rest (Qc (Value.ref b :: As).toArray) XC free := by
  have hK : vx_Back l R p e below s args y 3 8 (PreOf R mc ms Pc) (PostOf Qc mc ms free) (vx_Post XC mc ms free) := vx_callBack cw.1 hM hp.1
  obtain ⟨⟨-, -, -, -, -, -, hcode, -, hy, hlen, hl⟩, hin, hse⟩ := cw
  obtain ⟨hx, hb, hml, ho, -⟩ := S
  obtain ⟨-, ⟨cellB, hcB, hoB, hclB⟩, hPc⟩ := hp
  intro T hT X
  rcases vx_callV X hx (C := C) (bytes := bytes) (maxL := maxL) (ret := ret) ho hl hin hse hcode hy hK (by rw [hT]; exact hcB) hoB hclB hg (hsize.trans hml.symm) (argsL := As) (rest := rest) (fun sig h => hn.trans (hlen sig h)) hstack hW (by rw [hb]; exact hdg)
    (fun vm₁ hW₁ => ⟨hf.1, hf.2, hPc (T.setVm vm₁) hT hW₁⟩) with ⟨v, vm₁, ⟨U', l2, c2, s2⟩, hW₁, X', ⟨g', mk, t, L, e1, e2, hq, h1, hL, h2, h3⟩, st⟩ | ⟨q, vm₁, ⟨U', l2, c2, s2⟩, hW₁, X', ⟨g', mk, t, L, E, ce, e1, e2, hq, hce, hcv, hcl, h1, hL, h2, h3⟩, st⟩
  · dsimp only [Pt.U, Pt.locs, Pt.cells, Pt.slots] at X' e1 e2 h1 h2 h3 st
    subst h1; subst h2; subst h3
    exact Or.inl ⟨v, (T.setVm vm₁).calling g' mk (Value.ref b :: As).toArray, t, U', L, hT, X', hL, e1, e2, hq, st⟩
  · dsimp only [Pt.U, Pt.locs, Pt.cells, Pt.slots] at X' e1 e2 h1 h2 h3 st hcl
    subst h1; subst h2; subst h3
    exact Or.inr ⟨q, (T.setVm vm₁).calling g' mk (Value.ref b :: As).toArray, t, U', L, E, ce, hT, X', hL, e1, e2, hq, hce, hcv, vx_cls hW₁ hcl, st⟩
theorem vx_runS (S : CallFix p m c cc nL s args Ts own) (hM : vx_Met l y ws rm Pc Qc XC mc ms free) (cw : CallB R s args own index y bytes maxL ret ws rm mc ms n ∧ (Cond.static y).before args s = true) (hp : PreS s H Pc As)
    (hg : g.method = m) (hn : As.length = n) (hsize : g.locals.size = nL) (hstack : g.stack = As.reverse ++ rest) (hW : 2 * g.monitorRoom + (rest.map fun v => v.category).sum ≤ 8) (hdg : decode cc g.pc = .ok (.invokestatic index, 3)) (hf : cells + mc ≤ R.cells ∧ slots + ms ≤ R.slots) :
    vx_Run p l e R s m args below meth c H locs cells slots mc ms g rest (Qc As.toArray) XC free := by
  have hK : vx_Back l R p e below s args y 3 8 (PreOf R mc ms Pc) (PostOf Qc mc ms free) (vx_Post XC mc ms free) := vx_callBack cw.1 hM hp.1
  obtain ⟨⟨-, -, -, -, -, -, hcode, hini, hy, hlen, hl⟩, hstt⟩ := cw
  obtain ⟨hx, hb, hml, ho, -⟩ := S
  intro T hT X
  rcases vx_callS X hx (bytes := bytes) (maxL := maxL) (ret := ret) ho hl hstt hini hcode hy hK hg (hsize.trans hml.symm) (argsL := As) (rest := rest) (fun sig h => hn.trans (hlen sig h)) hstack hW (by rw [hb]; exact hdg)
    (fun vm₁ hW₁ => ⟨hf.1, hf.2, hp.2 (T.setVm vm₁) hT hW₁⟩) with ⟨v, vm₁, ⟨U', l2, c2, s2⟩, hW₁, X', ⟨g', mk, t, L, e1, e2, hq, h1, hL, h2, h3⟩, st⟩ | ⟨q, vm₁, ⟨U', l2, c2, s2⟩, hW₁, X', ⟨g', mk, t, L, E, ce, e1, e2, hq, hce, hcv, hcl, h1, hL, h2, h3⟩, st⟩
  · dsimp only [Pt.U, Pt.locs, Pt.cells, Pt.slots] at X' e1 e2 h1 h2 h3 st
    subst h1; subst h2; subst h3
    exact Or.inl ⟨v, (T.setVm vm₁).calling g' mk As.toArray, t, U', L, hT, X', hL, e1, e2, hq, st⟩
  · dsimp only [Pt.U, Pt.locs, Pt.cells, Pt.slots] at X' e1 e2 h1 h2 h3 st hcl
    subst h1; subst h2; subst h3
    exact Or.inr ⟨q, (T.setVm vm₁).calling g' mk As.toArray, t, U', L, E, ce, hT, X', hL, e1, e2, hq, hce, hcv, vx_cls hW₁ hcl, st⟩
end Runs
section Rows
variable {p : Program} {l : Launch} {e : Env} {R : Room} {s : State} {m : MethodId} {args : Array Value} {below : List Frame} {meth : Method} {c : Code} {H : Heap} {locs : List Loc} {cells slots : Nat} {Q : State → Prop}
variable {mc ms : Nat} {free : Addr → Prop} {A0 A1 : Nat → Prop} {H0 : Heap} {a : Array Value} {pc : Nat} {ls : Array Slot} {st0 rest : List Value}
theorem vx_keep {st₀ t T' : State} {L : List Loc} (h0 : st₀.heap = H) (e1 : T'.heap = t.heap) (hS : va_S A0 H0 H locs) (hA : ∀ q, q < H.size → A1 q → A0 q) (hf : ∀ q, free q → A0 q) (hL : ∀ q ∈ L, free q.base) (hF : va_F A1 st₀ t) :
    H.size ≤ T'.heap.size ∧ (∀ q : Nat, q < H.size → ¬ A1 q → T'.heap[q]? = H[q]?) ∧ va_S A0 H0 T'.heap (locs ++ L) := by
  obtain ⟨hz, hk⟩ := hF
  rw [h0] at hz hk
  exact ⟨by rw [e1]; exact hz, fun q h1 h2 => by rw [e1]; exact hk q h1 h2,
    ⟨Nat.le_trans hS.1 (by rw [e1]; exact hz), fun q h1 h2 => by rw [e1, hk q (Nat.lt_of_lt_of_le h1 hS.1) (fun z => h2 (hA q (Nat.lt_of_lt_of_le h1 hS.1) z))]; exact hS.2.1 q h1 h2, fun q hq => by
      rcases List.mem_append.mp hq with h | h
      · exact hS.2.2 q h
      · exact hf _ (hL q h)⟩⟩
theorem vx_calli {S SX : Type} {post : Int32 → S → Prop} {px : SX → Prop} {B : S → State → Prop} {BX : String → SX → State → Prop} {AX : Nat → Prop} (hr : vx_Run p l e R s m args below meth c H locs cells slots mc ms (F0 m pc ls st0) rest (va_Qi post B A1 a) (vx_X px BX AX) free) (hS : va_S A0 H0 H locs) (hA : ∀ q, q < H.size → A1 q → A0 q) (hf : ∀ q, free q → A0 q) (hAX : ∀ q, q < H.size → AX q → A0 q)
    (kx : ∀ (E : String) (ce : Cell) (q9 : Addr) (u : SX) (t : State) (H1 : Heap) (locs1 : List Loc), t.heap = H1 → s.vm.Alike t.vm → px u → BX E u t → H.size ≤ H1.size → (∀ q : Nat, q < H.size → ¬ AX q → H1[q]? = H[q]?) → va_S A0 H0 H1 locs1 → H1[q9]? = some ce → ce.vm = .none → s.vm.findClass E = some ce.cls → vx_W p l e R s m args below meth c H1 locs1 (cells + mc) (slots + ms) Q (F0 m pc ls rest) q9)
    (kk : ∀ (r : Int32) (u : S) (t : State) (H1 : Heap) (locs1 : List Loc), t.heap = H1 → s.vm.Alike t.vm → post r u → B u t → H.size ≤ H1.size → (∀ q : Nat, q < H.size → ¬ A1 q → H1[q]? = H[q]?) → va_S A0 H0 H1 locs1 → W p l e R s m args below meth c H1 locs1 (cells + mc) (slots + ms) Q (F0 m (pc + 3) ls (.int r :: rest))) : W p l e R s m args below meth c H locs cells slots Q (F0 m pc ls st0) := by
  intro T hT X
  rcases hr T hT X with ⟨v, st₀, t, T', L, h0, X', hL, e1, e2, ⟨⟨r, u, hv, hp, hb⟩, hF⟩, st⟩ | ⟨q, st₀, t, T', L, E, ce, h0, X', hL, e1, e2, ⟨u, hp, hb, hF⟩, hce, hcv, hcl, st⟩
  · cases hv
    obtain ⟨k1, k2, k3⟩ := vx_keep h0 e1 hS hA hf hL hF
    obtain ⟨t2, a1, b1⟩ := kk r u t T'.heap (locs ++ L) e1.symm (by rw [← e2]; exact X'.warmed.alike) hp hb k1 k2 k3 T' rfl X'
    exact ⟨t2, st t2 a1, b1⟩
  · obtain ⟨k1, k2, k3⟩ := vx_keep h0 e1 hS hAX hf hL hF
    obtain ⟨t2, a1, b1⟩ := kx E ce q u t T'.heap (locs ++ L) e1.symm (by rw [← e2]; exact X'.warmed.alike) hp hb k1 k2 k3 (by rw [e1]; exact hce) hcv hcl T' rfl X'
    exact ⟨t2, st.trans a1, b1⟩
theorem vx_calll {S SX : Type} {post : Int64 → S → Prop} {px : SX → Prop} {B : S → State → Prop} {BX : String → SX → State → Prop} {AX : Nat → Prop} (hr : vx_Run p l e R s m args below meth c H locs cells slots mc ms (F0 m pc ls st0) rest (va_Ql post B A1 a) (vx_X px BX AX) free) (hS : va_S A0 H0 H locs) (hA : ∀ q, q < H.size → A1 q → A0 q) (hf : ∀ q, free q → A0 q) (hAX : ∀ q, q < H.size → AX q → A0 q)
    (kx : ∀ (E : String) (ce : Cell) (q9 : Addr) (u : SX) (t : State) (H1 : Heap) (locs1 : List Loc), t.heap = H1 → s.vm.Alike t.vm → px u → BX E u t → H.size ≤ H1.size → (∀ q : Nat, q < H.size → ¬ AX q → H1[q]? = H[q]?) → va_S A0 H0 H1 locs1 → H1[q9]? = some ce → ce.vm = .none → s.vm.findClass E = some ce.cls → vx_W p l e R s m args below meth c H1 locs1 (cells + mc) (slots + ms) Q (F0 m pc ls rest) q9)
    (kk : ∀ (r : Int64) (u : S) (t : State) (H1 : Heap) (locs1 : List Loc), t.heap = H1 → s.vm.Alike t.vm → post r u → B u t → H.size ≤ H1.size → (∀ q : Nat, q < H.size → ¬ A1 q → H1[q]? = H[q]?) → va_S A0 H0 H1 locs1 → W p l e R s m args below meth c H1 locs1 (cells + mc) (slots + ms) Q (F0 m (pc + 3) ls (.long r :: rest))) : W p l e R s m args below meth c H locs cells slots Q (F0 m pc ls st0) := by
  intro T hT X
  rcases hr T hT X with ⟨v, st₀, t, T', L, h0, X', hL, e1, e2, ⟨⟨r, u, hv, hp, hb⟩, hF⟩, st⟩ | ⟨q, st₀, t, T', L, E, ce, h0, X', hL, e1, e2, ⟨u, hp, hb, hF⟩, hce, hcv, hcl, st⟩
  · cases hv
    obtain ⟨k1, k2, k3⟩ := vx_keep h0 e1 hS hA hf hL hF
    obtain ⟨t2, a1, b1⟩ := kk r u t T'.heap (locs ++ L) e1.symm (by rw [← e2]; exact X'.warmed.alike) hp hb k1 k2 k3 T' rfl X'
    exact ⟨t2, st t2 a1, b1⟩
  · obtain ⟨k1, k2, k3⟩ := vx_keep h0 e1 hS hAX hf hL hF
    obtain ⟨t2, a1, b1⟩ := kx E ce q u t T'.heap (locs ++ L) e1.symm (by rw [← e2]; exact X'.warmed.alike) hp hb k1 k2 k3 (by rw [e1]; exact hce) hcv hcl T' rfl X'
    exact ⟨t2, st.trans a1, b1⟩
theorem vx_callf {S SX : Type} {post : UInt32 → S → Prop} {px : SX → Prop} {B : S → State → Prop} {BX : String → SX → State → Prop} {AX : Nat → Prop} (hr : vx_Run p l e R s m args below meth c H locs cells slots mc ms (F0 m pc ls st0) rest (va_Qf post B A1 a) (vx_X px BX AX) free) (hS : va_S A0 H0 H locs) (hA : ∀ q, q < H.size → A1 q → A0 q) (hf : ∀ q, free q → A0 q) (hAX : ∀ q, q < H.size → AX q → A0 q)
    (kx : ∀ (E : String) (ce : Cell) (q9 : Addr) (u : SX) (t : State) (H1 : Heap) (locs1 : List Loc), t.heap = H1 → s.vm.Alike t.vm → px u → BX E u t → H.size ≤ H1.size → (∀ q : Nat, q < H.size → ¬ AX q → H1[q]? = H[q]?) → va_S A0 H0 H1 locs1 → H1[q9]? = some ce → ce.vm = .none → s.vm.findClass E = some ce.cls → vx_W p l e R s m args below meth c H1 locs1 (cells + mc) (slots + ms) Q (F0 m pc ls rest) q9)
    (kk : ∀ (r : UInt32) (u : S) (t : State) (H1 : Heap) (locs1 : List Loc), t.heap = H1 → s.vm.Alike t.vm → post r u → B u t → H.size ≤ H1.size → (∀ q : Nat, q < H.size → ¬ A1 q → H1[q]? = H[q]?) → va_S A0 H0 H1 locs1 → W p l e R s m args below meth c H1 locs1 (cells + mc) (slots + ms) Q (F0 m (pc + 3) ls (.float r :: rest))) : W p l e R s m args below meth c H locs cells slots Q (F0 m pc ls st0) := by
  intro T hT X
  rcases hr T hT X with ⟨v, st₀, t, T', L, h0, X', hL, e1, e2, ⟨⟨r, u, hv, hp, hb⟩, hF⟩, st⟩ | ⟨q, st₀, t, T', L, E, ce, h0, X', hL, e1, e2, ⟨u, hp, hb, hF⟩, hce, hcv, hcl, st⟩
  · cases hv
    obtain ⟨k1, k2, k3⟩ := vx_keep h0 e1 hS hA hf hL hF
    obtain ⟨t2, a1, b1⟩ := kk r u t T'.heap (locs ++ L) e1.symm (by rw [← e2]; exact X'.warmed.alike) hp hb k1 k2 k3 T' rfl X'
    exact ⟨t2, st t2 a1, b1⟩
  · obtain ⟨k1, k2, k3⟩ := vx_keep h0 e1 hS hAX hf hL hF
    obtain ⟨t2, a1, b1⟩ := kx E ce q u t T'.heap (locs ++ L) e1.symm (by rw [← e2]; exact X'.warmed.alike) hp hb k1 k2 k3 (by rw [e1]; exact hce) hcv hcl T' rfl X'
    exact ⟨t2, st.trans a1, b1⟩
theorem vx_calld {S SX : Type} {post : UInt64 → S → Prop} {px : SX → Prop} {B : S → State → Prop} {BX : String → SX → State → Prop} {AX : Nat → Prop} (hr : vx_Run p l e R s m args below meth c H locs cells slots mc ms (F0 m pc ls st0) rest (va_Qd post B A1 a) (vx_X px BX AX) free) (hS : va_S A0 H0 H locs) (hA : ∀ q, q < H.size → A1 q → A0 q) (hf : ∀ q, free q → A0 q) (hAX : ∀ q, q < H.size → AX q → A0 q)
    (kx : ∀ (E : String) (ce : Cell) (q9 : Addr) (u : SX) (t : State) (H1 : Heap) (locs1 : List Loc), t.heap = H1 → s.vm.Alike t.vm → px u → BX E u t → H.size ≤ H1.size → (∀ q : Nat, q < H.size → ¬ AX q → H1[q]? = H[q]?) → va_S A0 H0 H1 locs1 → H1[q9]? = some ce → ce.vm = .none → s.vm.findClass E = some ce.cls → vx_W p l e R s m args below meth c H1 locs1 (cells + mc) (slots + ms) Q (F0 m pc ls rest) q9)
    (kk : ∀ (r : UInt64) (u : S) (t : State) (H1 : Heap) (locs1 : List Loc), t.heap = H1 → s.vm.Alike t.vm → post r u → B u t → H.size ≤ H1.size → (∀ q : Nat, q < H.size → ¬ A1 q → H1[q]? = H[q]?) → va_S A0 H0 H1 locs1 → W p l e R s m args below meth c H1 locs1 (cells + mc) (slots + ms) Q (F0 m (pc + 3) ls (.double r :: rest))) : W p l e R s m args below meth c H locs cells slots Q (F0 m pc ls st0) := by
  intro T hT X
  rcases hr T hT X with ⟨v, st₀, t, T', L, h0, X', hL, e1, e2, ⟨⟨r, u, hv, hp, hb⟩, hF⟩, st⟩ | ⟨q, st₀, t, T', L, E, ce, h0, X', hL, e1, e2, ⟨u, hp, hb, hF⟩, hce, hcv, hcl, st⟩
  · cases hv
    obtain ⟨k1, k2, k3⟩ := vx_keep h0 e1 hS hA hf hL hF
    obtain ⟨t2, a1, b1⟩ := kk r u t T'.heap (locs ++ L) e1.symm (by rw [← e2]; exact X'.warmed.alike) hp hb k1 k2 k3 T' rfl X'
    exact ⟨t2, st t2 a1, b1⟩
  · obtain ⟨k1, k2, k3⟩ := vx_keep h0 e1 hS hAX hf hL hF
    obtain ⟨t2, a1, b1⟩ := kx E ce q u t T'.heap (locs ++ L) e1.symm (by rw [← e2]; exact X'.warmed.alike) hp hb k1 k2 k3 (by rw [e1]; exact hce) hcv hcl T' rfl X'
    exact ⟨t2, st.trans a1, b1⟩
theorem vx_callv {S SX : Type} {post : S → Prop} {px : SX → Prop} {B : S → State → Prop} {BX : String → SX → State → Prop} {AX : Nat → Prop} (hr : vx_Run p l e R s m args below meth c H locs cells slots mc ms (F0 m pc ls st0) rest (va_Qv post B A1 a) (vx_X px BX AX) free) (hS : va_S A0 H0 H locs) (hA : ∀ q, q < H.size → A1 q → A0 q) (hf : ∀ q, free q → A0 q) (hAX : ∀ q, q < H.size → AX q → A0 q)
    (kx : ∀ (E : String) (ce : Cell) (q9 : Addr) (u : SX) (t : State) (H1 : Heap) (locs1 : List Loc), t.heap = H1 → s.vm.Alike t.vm → px u → BX E u t → H.size ≤ H1.size → (∀ q : Nat, q < H.size → ¬ AX q → H1[q]? = H[q]?) → va_S A0 H0 H1 locs1 → H1[q9]? = some ce → ce.vm = .none → s.vm.findClass E = some ce.cls → vx_W p l e R s m args below meth c H1 locs1 (cells + mc) (slots + ms) Q (F0 m pc ls rest) q9)
    (kk : ∀ (u : S) (t : State) (H1 : Heap) (locs1 : List Loc), t.heap = H1 → s.vm.Alike t.vm → post u → B u t → H.size ≤ H1.size → (∀ q : Nat, q < H.size → ¬ A1 q → H1[q]? = H[q]?) → va_S A0 H0 H1 locs1 → W p l e R s m args below meth c H1 locs1 (cells + mc) (slots + ms) Q (F0 m (pc + 3) ls (rest))) : W p l e R s m args below meth c H locs cells slots Q (F0 m pc ls st0) := by
  intro T hT X
  rcases hr T hT X with ⟨v, st₀, t, T', L, h0, X', hL, e1, e2, ⟨⟨u, hv, hp, hb⟩, hF⟩, st⟩ | ⟨q, st₀, t, T', L, E, ce, h0, X', hL, e1, e2, ⟨u, hp, hb, hF⟩, hce, hcv, hcl, st⟩
  · cases hv
    obtain ⟨k1, k2, k3⟩ := vx_keep h0 e1 hS hA hf hL hF
    obtain ⟨t2, a1, b1⟩ := kk u t T'.heap (locs ++ L) e1.symm (by rw [← e2]; exact X'.warmed.alike) hp hb k1 k2 k3 T' rfl X'
    exact ⟨t2, st t2 a1, b1⟩
  · obtain ⟨k1, k2, k3⟩ := vx_keep h0 e1 hS hAX hf hL hF
    obtain ⟨t2, a1, b1⟩ := kx E ce q u t T'.heap (locs ++ L) e1.symm (by rw [← e2]; exact X'.warmed.alike) hp hb k1 k2 k3 (by rw [e1]; exact hce) hcv hcl T' rfl X'
    exact ⟨t2, st.trans a1, b1⟩
/-- caught by the row x of this method's table; the rows ahead don't take it -/
theorem vx_catch {own name : String} {E : String} {ce : Cell} {q : Addr} (hown : s.vm.findClass own = some m.cls) (pre : List ExceptionTableEntry) (x : ExceptionTableEntry) (suf : List ExceptionTableEntry) (hsplit : c.exceptionTable.toList = pre ++ x :: suf)
    (hpass : ∀ z ∈ pre, covers z pc = false ∨ (z.catchType ≠ 0 ∧ ∃ nm : String, (Cond.classLink own z.catchType nm).before args s = true ∧ va_Nc E nm s)) (hx : covers x pc = true) (h0 : x.catchType ≠ 0)
    (hlink : (Cond.classLink own x.catchType name).before args s = true) (hcast : (Cond.castable E name).before args s = true) (hcell : H[q]? = some ce) (hv : ce.vm = .none) (hcl : s.vm.findClass E = some ce.cls)
    (kk : W p l e R s m args below meth c H locs cells slots Q (F0 m x.handlerPc ls [.ref q])) : vx_W p l e R s m args below meth c H locs cells slots Q (F0 m pc ls rest) q := by
  intro T hT X
  have hpl : e.platform.magicAccessors = ({} : Platform).magicAccessors := by rw [X.admits.platform]
  obtain ⟨c3, c4, hc3, hc4, hasg⟩ := Cond.castable_spec hcast
  cases Option.some.inj (hc3.symm.trans hcl)
  obtain ⟨c5, hc5, hcl5⟩ := Cond.classLink_spec hown hlink e.platform hpl
  cases Option.some.inj (hc4.symm.trans hc5)
  obtain ⟨vm', X', st⟩ := X.thenCaughtThrough q (g := F0 m pc ls rest) rfl (Steps.refl _) (by rw [hT]; exact hcell) (by rw [hv]; rfl) (by obtain ⟨k9, h9, -⟩ := Vm.findClass_spec hcl; exact ⟨k9, h9⟩) pre x suf hsplit
    (fun z hz => by
      rcases hpass z hz with h | ⟨hz0, nm, hl1, hn1⟩
      · exact Or.inl h
      · obtain ⟨c6, hc6, hcl6⟩ := Cond.classLink_spec hown hl1 e.platform hpl
        obtain ⟨a8, b8, h1, h2, h3⟩ := hn1
        cases Option.some.inj (h1.symm.trans hcl)
        cases Option.some.inj (h2.symm.trans hc6)
        exact Or.inr ⟨hz0, _, hcl6, h3⟩) hx (Or.inr ⟨h0, c4, hcl5, hasg⟩)
  obtain ⟨t, a1, b1⟩ := kk (T.setVm vm') hT X'
  exact ⟨t, st.trans a1, b1⟩
end Rows
section Ends
variable {p : Program} {l : Launch} {e : Env} {R : Room} {s : State} {m : MethodId} {args : Array Value} {below : List Frame} {meth : Method} {c : Code} {H : Heap} {locs : List Loc} {cells slots : Nat} {Q : State → Prop}
variable {mc ms : Nat} {free : Addr → Prop} {A0 A1 : Nat → Prop} {H0 : Heap} {a : Array Value} {ls : Array Slot} {st0 rest : List Value}
variable {Qc : Array Value → State → Outcome → State → Prop} {XC : String → State → State → Prop}
/-- what a body that may throw owes at its end -/
def vx_MQ (below : List Frame) (Qc : Array Value → State → Outcome → State → Prop) (XC : String → State → State → Prop) (a : Array Value) (s : State) (mc ms : Nat) (free : Addr → Prop) : State → Prop := fun t =>
  ∃ o, t.status = .running ∧ Ended t below o ∧ vx_Q Qc XC mc ms free a s o t
theorem vx_ret {g : JFrame} {mc ms : Nat} (k : W p l e R s m args below meth c H locs cells slots (MQ below Qc args s mc ms free) g) : W p l e R s m args below meth c H locs cells slots (vx_MQ below Qc XC args s mc ms free) g := by
  intro T hT X
  obtain ⟨t, a1, o, b1, b2, b3, b4⟩ := k T hT X
  exact ⟨t, a1, o, b1, b2, Or.inl ⟨b3, b4⟩⟩
/-- not caught here: it goes on to the caller -/
theorem vx_widen {g : JFrame} {q : Addr} {k n : Nat} (h1 : cells ≤ k) (h2 : slots ≤ n) (kk : vx_W p l e R s m args below meth c H locs k n Q g q) : vx_W p l e R s m args below meth c H locs cells slots Q g q := fun T hT X => kk T hT (stand_widen X h1 h2)
theorem vx_out {pc : Nat} {E : String} {ce : Cell} {q : Addr} {mc ms : Nat} (hout : ∀ x ∈ c.exceptionTable.toList, covers x pc = false) (hlocks : meth.locks = false) (hcell : H[q]? = some ce) (hv : ce.vm = .none) (hcl : s.vm.findClass E = some ce.cls)
    (hx : ∀ t : State, t.heap = H → s.vm.Alike t.vm → XC E s t) (hf : ∀ z ∈ locs, free z.base) (hc : cells ≤ mc) (hs : slots ≤ ms) :
    vx_W p l e R s m args below meth c H locs cells slots (vx_MQ below Qc XC args s mc ms free) (F0 m pc ls rest) q := by
  intro T hT X
  obtain ⟨st1, hrun, hend, hW, hsm⟩ := X.leaveThrown q (g := F0 m pc ls rest) rfl rfl rfl hout hlocks
  have hcell9 : (T.setFrames (.throwing q :: below)).heap[q]? = some ce := by
    show T.heap[q]? = some ce
    rw [hT]; exact hcell
  exact ⟨_, st1, .threw q, hrun, hend, Or.inr ⟨q, rfl, E, ce, locs, hx _ hT hW.alike, hcell9, hv, hcl, hW, hsm.mono hc hs, hf⟩⟩
theorem vx_frame {U : State} {k n : Nat} (h : s.sameButNew ({ U with vm := s.vm } : State) locs k n) : s.heap.size ≤ U.heap.size ∧ ∀ q : Nat, q < s.heap.size → (∀ z ∈ locs, z.base ≠ q) → U.heap[q]? = s.heap[q]? := by
  obtain ⟨-, h2, -, -, -, h6⟩ := h
  refine ⟨h2, fun q hq hz => ?_⟩
  obtain ⟨c9, e1, e2, e3, e4⟩ := h6 q _ (Array.getElem?_eq_getElem hq)
  have hs : c9.slots = (s.heap[q]).slots := Array.ext_getElem? fun i => e4 i fun hm => hz _ hm rfl
  have h9 : c9 = s.heap[q] := by
    rw [hs] at e2
    exact e2
  have e5 : U.heap[q]? = some c9 := e1
  rw [e5, h9, Array.getElem?_eq_getElem hq]
/-- the words of a throw but the four that speak of the heap -/
def vx_no (w : Cond) : Bool := decide (w ≠ .isRef (.static Bundle.tN "UNASSIGNED_STACK" Bundle.steD)) && decide (w ≠ .isRef (.static Bundle.tN "SUPPRESSED_SENTINEL" Bundle.listD)) && decide (w ≠ .laysStatic Bundle.tN "UNASSIGNED_STACK" Bundle.steD) && decide (w ≠ .laysStatic Bundle.tN "SUPPRESSED_SENTINEL" Bundle.listD)
def vx_at0 (own : String) (ic : Nat) (X : String) (names : List String) : List Cond := (Bundle.ownAtoms0 own ic X names).filter vx_no
def vx_atS (own : String) (ic : Nat) (X : String) (names : List String) : List Cond := (Bundle.ownAtoms own ic X names).filter vx_no
/-- a word that the tables alone decide, or a good one -/
def vx_ot (w : Cond) : Bool := w.onTables || goodWord w
theorem vx_ot_at {args a' : Array Value} {s U : State} {w : Cond} (hW : s.WarmedH U.vm) (hvm : s.vm = U.vm) (hg : vx_ot w = true) (h : w.before args s = true) : w.before a' U = true := by
  simp only [vx_ot, Bool.or_eq_true] at hg
  rcases hg with hg | hg
  · exact va_tabs hg hvm h
  · exact word_at hW (good_of_word hg) h
/-- a list's words: the good ones out of the method's own list, the others by premises of their own -/
theorem vx_hat {args : Array Value} {s : State} {L B : List Cond} (h1 : ∀ w ∈ L.filter goodWord, w.before args s = true) (h2 : ∀ w ∈ L.filter (fun w => !goodWord w), w ∈ B) (h3 : ∀ w ∈ B, w.before args s = true) : ∀ w ∈ L, w.before args s = true := by
  intro w hw
  by_cases g : goodWord w = true
  · exact h1 w (List.mem_filter.mpr ⟨hw, g⟩)
  · refine h3 w (h2 w (List.mem_filter.mpr ⟨hw, ?_⟩))
    show (!goodWord w) = true
    cases hgw : goodWord w
    · rfl
    · exact absurd hgw g
theorem vx_c {args : Array Value} {s : State} {w : Cond} {B : List Cond} (h : w.before args s = true) (t : ∀ w ∈ B, w.before args s = true) : ∀ w' ∈ w :: B, w'.before args s = true := fun w' h' => (List.mem_cons.mp h').elim (fun e => by rw [e]; exact h) (t w')
theorem vx_n {args : Array Value} {s : State} : ∀ w ∈ ([] : List Cond), w.before args s = true := fun _ h => nomatch h
theorem vx_own {args : Array Value} {s : State} {L : List Cond} (h1 : ∀ w ∈ L.filter vx_no, w.before args s = true)
    (hU : (Cond.isRef (.static Bundle.tN "UNASSIGNED_STACK" Bundle.steD)).before args s = true) (hN : (Cond.isRef (.static Bundle.tN "SUPPRESSED_SENTINEL" Bundle.listD)).before args s = true)
    (lU : (Cond.laysStatic Bundle.tN "UNASSIGNED_STACK" Bundle.steD).before args s = true) (lN : (Cond.laysStatic Bundle.tN "SUPPRESSED_SENTINEL" Bundle.listD).before args s = true) : ∀ w ∈ L, w.before args s = true := by
  intro w hw
  by_cases e1 : w = .isRef (.static Bundle.tN "UNASSIGNED_STACK" Bundle.steD)
  · rw [e1]; exact hU
  · by_cases e2 : w = .isRef (.static Bundle.tN "SUPPRESSED_SENTINEL" Bundle.listD)
    · rw [e2]; exact hN
    · by_cases e3 : w = .laysStatic Bundle.tN "UNASSIGNED_STACK" Bundle.steD
      · rw [e3]; exact lU
      · by_cases e4 : w = .laysStatic Bundle.tN "SUPPRESSED_SENTINEL" Bundle.listD
        · rw [e4]; exact lN
        · exact h1 w (List.mem_filter.mpr ⟨hw, by unfold vx_no; rw [decide_eq_true e1, decide_eq_true e2, decide_eq_true e3, decide_eq_true e4]; rfl⟩)
/-- where a static field lies, its class's statics cell in H -/
def vx_L (C n d : String) (A : Nat → Prop) (U : State) (H : Heap) : Prop := ∃ (c : ClassId) (k : Class) (i : Nat) (f : Field) (a : Nat) (cell : Cell), U.vm.findClass C = some c ∧ U.fieldFound? C n d = some (c, k, i, f) ∧ f.isStatic = true ∧ k.statics = some a ∧ H[a]? = some cell ∧ cell.vm.isStatics = true ∧ cell.cls = c ∧ f.slot < cell.slots.size ∧ k.staticTypes[f.slot]? = some f.type ∧ ¬ A a
theorem vx_L.moved {C n d : String} {A : Nat → Prop} {u U : State} {H : Heap} (hvm : u.vm.Alike U.vm) (h : vx_L C n d A u H) : vx_L C n d A U H := by
  obtain ⟨c, k, i, f, a, cell, h1, h2, h3, h4, h5, h6, h7, h8, h9, h10⟩ := h
  obtain ⟨k', hi', he⟩ := State.fieldFound?_setVm hvm h2
  exact ⟨c, k', i, f, a, cell, by rw [hvm.findClass]; exact h1, hi', h3, by rw [he]; exact h4, h5, h6, h7, h8, by rw [he]; exact h9, h10⟩
theorem vx_L.kept {C n d : String} {A : Nat → Prop} {U : State} {H H1 : Heap} (h : vx_L C n d A U H) (hq : ∀ a : Nat, a < H.size → ¬ A a → H1[a]? = H[a]?) : vx_L C n d A U H1 := by
  obtain ⟨c, k, i, f, a, cell, h1, h2, h3, h4, h5, h6, h7, h8, h9, h10⟩ := h
  exact ⟨c, k, i, f, a, cell, h1, h2, h3, h4, by rw [hq a (Array.getElem?_eq_some_iff.mp h5).1 h10]; exact h5, h6, h7, h8, h9, h10⟩
theorem vx_L.narrow {C n d : String} {A B : Nat → Prop} {U : State} {H : Heap} (h : vx_L C n d A U H) (hAB : ∀ q, B q → A q) : vx_L C n d B U H := by
  obtain ⟨c, k, i, f, a, cell, h1, h2, h3, h4, h5, h6, h7, h8, h9, h10⟩ := h
  exact ⟨c, k, i, f, a, cell, h1, h2, h3, h4, h5, h6, h7, h8, h9, fun z => h10 (hAB _ z)⟩
theorem vx_L.word {C n d : String} {A : Nat → Prop} {s : State} {args : Array Value} (h : vx_L C n d A s s.heap) : (Cond.laysStatic C n d).before args s = true := by
  obtain ⟨c, k, i, f, a, cell, h1, h2, h3, h4, h5, h6, h7, h8, h9, -⟩ := h
  show (Cond.laysStatic C n d).holds args s none s [] = true
  exact Cond.laysStatic_of h1 h2 h3 h4 h5 h6 h7 h8 h9
/-- .. and what it holds: null or some reference -/
def vx_Zq (C n d : String) (A : Nat → Prop) (U : State) (H : Heap) : Prop := va_Zq C n d A U H ∧ vx_L C n d A U H
theorem vx_Zq.moved {C n d : String} {A : Nat → Prop} {u U : State} {H : Heap} (hvm : u.vm.Alike U.vm) (h : vx_Zq C n d A u H) : vx_Zq C n d A U H := ⟨va_Zq.moved hvm h.1, vx_L.moved hvm h.2⟩
theorem vx_Zq.kept {C n d : String} {A : Nat → Prop} {U : State} {H H1 : Heap} (h : vx_Zq C n d A U H) (hq : ∀ a : Nat, a < H.size → ¬ A a → H1[a]? = H[a]?) : vx_Zq C n d A U H1 := ⟨va_Zq.kept h.1 hq, vx_L.kept h.2 hq⟩
theorem vx_Zq.narrow {C n d : String} {A B : Nat → Prop} {U : State} {H : Heap} (h : vx_Zq C n d A U H) (hAB : ∀ q, B q → A q) : vx_Zq C n d B U H := ⟨va_Zq.narrow h.1 hAB, vx_L.narrow h.2 hAB⟩
theorem vx_Zqof {args : Array Value} {s : State} {C n d : String} {A : Nat → Prop} (hl : (Cond.laysStatic C n d).before args s = true) (hini : (Cond.initialized C).before args s = true) (h : (Cond.isRef (.static C n d)).before args s = true) (hA : ∀ a : Nat, a < s.heap.size → ¬ A a) : vx_Zq C n d A s s.heap := by
  refine ⟨va_Zqof hl hini h hA, ?_⟩
  obtain ⟨c, k, i, f, a, cell, h1, h2, h3, h4, h5, h6, h7, h8, h9⟩ := Cond.laysStatic_spec hl
  exact ⟨c, k, i, f, a, cell, h1, h2, h3, h4, h5, h6, h7, h8, h9, hA a (Array.getElem?_eq_some_iff.mp h5).1⟩
theorem vx_isRef {C n d : String} {v : Value} {A : Nat → Prop} {s : State} {args : Array Value} (h : va_Z C n d v A s s.heap) (hv : v.isRef = true) : (Cond.isRef (.static C n d)).before args s = true := by
  obtain ⟨cf, kf, fi, f, a, cell, h1, h2, h3, h4, h5, h6, h7, -⟩ := h
  have he : (Term.static C n d).eval args s none [] s = some v := by
    simp [Term.eval, State.fieldNamed?, h1, h2, h4, h5, h6, h7]
  simp only [Cond.before, Cond.holds, Cond.value, he]
  cases v <;> simp_all [Value.isRef]
theorem vx_isRefq {C n d : String} {A : Nat → Prop} {s : State} {args : Array Value} (h : va_Zq C n d A s s.heap) : (Cond.isRef (.static C n d)).before args s = true := by
  rcases h with h | ⟨t, h⟩
  · exact vx_isRef h rfl
  · exact vx_isRef h rfl
/-- the same frame, seen from here: as if the method were called anew in this heap -/
theorem vx_rebase {T : State} (X : Stand p l e R s m args below meth c T locs cells slots) {R' : Room} (hf : R'.frames ≤ R.frames) (hl : R'.locals ≤ R.locals) (hc : cells + R'.cells ≤ R.cells) (hs : slots + R'.slots ≤ R.slots) :
    Stand p l e R' ((T.setVm s.vm).setFrames (.invoking m args :: below)) m args below meth c T [] 0 0 := by
  have htop : (T.setVm s.vm).topJava?.isSome := X.here.top
  have hF : ((T.setVm s.vm).setFrames (.invoking m args :: below)).frames = .invoking m args :: below := State.frames_setFrames _ (State.cur_lt_of_top htop)
  obtain ⟨g₀, hg0⟩ := Option.isSome_iff_exists.mp htop
  obtain ⟨r, hr⟩ := State.topJava?_eq_some.mp hg0
  have hl9 : e.platform.stackLimits (T.setVm s.vm).me = e.platform.stackLimits s.me := X.limits
  have hb9 : (T.setVm s.vm).me.stackBytes = s.me.stackBytes := X.bytes
  refine ⟨X.admits, X.cas, X.clock, hF, ?_, X.hears, X.method, X.code, X.here, X.tail, X.warmed, ?_, ?_, ?_⟩
  · have h := X.room
    have hU : ((T.setVm s.vm).setFrames (.invoking m args :: below)).localsInUse = s.localsInUse := by
      rw [State.localsInUse_invoking hF (meth := meth) (c := c) X.method X.code, State.localsInUse_invoking X.frames X.method X.code]
    simp only [State.hasRoom, Bool.and_eq_true, decide_eq_true_eq] at h ⊢
    obtain ⟨⟨⟨⟨h1, h2, h3, h4, h5, h6⟩, h7⟩, h8⟩, h9⟩ := h
    rw [X.frames, List.length_cons] at h2 h3
    have q1 := X.heapSize
    have q2 := X.used
    simp only [hF, hU, List.length_cons, State.stackLimits_setFrames, State.stackBytes_setFrames, hl9, hb9]
    refine ⟨⟨⟨⟨by omega, by omega, by omega, by omega, by omega, h6⟩, ?_⟩, ?_⟩, X.book⟩
    · show T.heap.size + R'.cells ≤ e.platform.maxCells
      omega
    · show T.slotsUsed + R'.slots ≤ e.platform.maxSlots
      omega
  · rw [State.stackLimits_setFrames]; rfl
  · rw [State.stackBytes_setFrames]; rfl
  · refine ⟨?_, Nat.le_refl _, Nat.le_refl _, ?_, ?_, fun a c9 h9 => ⟨c9, h9, rfl, rfl, fun _ _ => rfl⟩⟩
    · obtain ⟨t, ht, -⟩ := State.frames_cons hr
      show T.setVm s.vm = { ((T.setVm s.vm).setFrames (.invoking m args :: below)).setFrames (T.setVm s.vm).frames with heap := T.heap, slotsUsed := T.slotsUsed }
      rw [State.setFrames_setFrames, State.setFrames_self ht]
      rfl
    · show T.slotsUsed = T.slotsUsed + ((T.heap.toList.drop T.heap.size).map (·.slots.size)).sum
      rw [List.drop_eq_nil_of_le (Nat.le_of_eq Array.length_toList)]
      rfl
    · show ((T.heap.toList.drop T.heap.size).map (·.slots.size)).sum ≤ 0
      rw [List.drop_eq_nil_of_le (Nat.le_of_eq Array.length_toList)]
      exact Nat.le_refl _
/-- 'throw new E()': new; dup; invokespecial; athrow -/
theorem vx_throw0 {cc : ByteArray} {pc : Nat} (hexec : p.tables.exec = Jvm.exec) (hb : c.code = cc) (hl : l.stackTraces = false) {own cls : String} {names : List String} {ik ic mc ms : Nat} {A : Nat → Prop}
    (hown : s.vm.findClass own = some m.cls) (hcls : Bundle.fit cls = true) (hnames : ∀ n ∈ names, Bundle.fit n = true)
    (hk : (Cond.classLink own ik cls).before args s = true) (hini : (Cond.initialized cls).before args s = true) (hat : ∀ w ∈ vx_at0 own ic cls names, w.before args s = true)
    (hgood : ∀ w ∈ Cond.classLink own ik cls :: Cond.initialized cls :: vx_at0 own ic cls names, vx_ot w = true)
    (hU : vx_Zq Bundle.tN "UNASSIGNED_STACK" Bundle.steD A s s.heap) (hN : vx_Zq Bundle.tN "SUPPRESSED_SENTINEL" Bundle.listD A s s.heap) (hS : va_S A s.heap H locs) (hsize : ls.size = c.maxLocals)
    (d0 : decode cc pc = .ok (.new ik, 3)) (d3 : decode cc (pc + 3) = .ok (.dup, 1)) (d4 : decode cc (pc + 4) = .ok (.invokespecial ic, 3)) (d7 : decode cc (pc + 7) = .ok (.athrow, 1))
    (hout : ∀ x ∈ c.exceptionTable.toList, covers x (pc + 7) = false)
    (hRframes : names.length + 3 < R.frames) (hRlocals : (rest.map fun v => v.category).sum + (13 * (names.length + 1) + 42) ≤ R.locals) (hRcells : cells + 1 ≤ R.cells) (hRslots : slots + 6 ≤ R.slots) (hlocks : meth.locks = false)
    (hx : ∀ t : State, s.vm.Alike t.vm → H.size ≤ t.heap.size → (∀ q : Nat, q < H.size → t.heap[q]? = H[q]?) → XC cls s t)
    (hf : ∀ z ∈ locs, free z.base) (hc : cells + 1 ≤ mc) (hs : slots + 6 ≤ ms) :
    W p l e R s m args below meth c H locs cells slots (vx_MQ below Qc XC args s mc ms free) (F0 m pc ls rest) := by
  intro T hT X
  have htr : e.platform.stackTraces = false := (show e.platform.stackTraces = l.stackTraces by rw [X.admits.platform]).trans hl
  have Y := vx_rebase X (R' := { frames := R.frames, locals := R.locals, cells := 1, slots := 6 }) (Nat.le_refl _) (Nat.le_refl _) hRcells hRslots
  obtain ⟨s', hA⟩ : ∃ z, z = (T.setVm s.vm).setFrames (.invoking m args :: below) := ⟨_, rfl⟩
  rw [← hA] at Y
  have hvm : s'.vm = s.vm := by rw [hA]; rfl
  have hhp : s'.heap = H := by rw [hA]; exact hT
  have hW0 : s.WarmedH s'.vm := by rw [hvm]; exact State.WarmedH.refl s
  have hat' : ∀ w ∈ vx_at0 own ic cls names, w.before args s' = true := fun w hw => vx_ot_at hW0 hvm.symm (hgood w (List.mem_cons_of_mem _ (List.mem_cons_of_mem _ hw))) (hat w hw)
  have hk' : (Cond.classLink own ik cls).before args s' = true := vx_ot_at hW0 hvm.symm (hgood _ List.mem_cons_self) hk
  have hini' : (Cond.initialized cls).before args s' = true := vx_ot_at hW0 hvm.symm (hgood _ (List.mem_cons_of_mem _ List.mem_cons_self)) hini
  have hU' : vx_Zq Bundle.tN "UNASSIGNED_STACK" Bundle.steD A s' s'.heap := by rw [hhp]; exact vx_Zq.moved hW0.alike (hU.kept hS.2.1)
  have hN' : vx_Zq Bundle.tN "SUPPRESSED_SENTINEL" Bundle.listD A s' s'.heap := by rw [hhp]; exact vx_Zq.moved hW0.alike (hN.kept hS.2.1)
  have h : ∀ w ∈ Bundle.ownAtoms0 own ic cls names, w.before args s' = true := vx_own hat' (vx_isRefq hU'.1) (vx_isRefq hN'.1) hU'.2.word hN'.2.word
  have hown' : s'.vm.findClass own = some m.cls := by rw [hvm]; exact hown
  have hins : (Cond.instantiable cls 6).before args s' = true := h _ (by simp [Bundle.ownAtoms0])
  obtain ⟨vm₁, cX, kX, hfX, hkX, -, -, X₁, st1⟩ := Y.newCold hexec (own := own) (C := cls) (index := ik) (n := 6) hown' hk' hins hini'
    (g := F0 m pc ls rest) rfl (by rw [hb]; exact d0) (Nat.le_refl _) (Nat.le_refl _)
  generalize hT1 : (T.setVm vm₁).pushCell { cls := cX, slots := kX.instanceTypes.map defaultValue, vm := .none } = T1 at X₁ st1
  have hcat : (Value.ref T.heap.size).category = 1 := rfl
  have hcellA : T1.heap[T.heap.size]? = some (freshCell cX kX) := by rw [← hT1]; exact State.heap_pushCell_size _ _
  have d3' : decode c.code (pc + 3) = .ok (.dup, 1) := by rw [hb]; exact d3
  obtain ⟨U, hsteps, hrun, hend, hW, hsame, ce, hce, hO⟩ := X₁.ctorThrow0 hexec htr (own := own) (cls := cls) (names := names) (ic := ic) hown' hcls hnames h (fun x hx => nomatch hx) hfX hkX hcellA (by rw [hhp, hT]; exact Nat.le_refl _)
    (g := { method := m, pc := pc + 4, locals := ls, stack := .ref T.heap.size :: .ref T.heap.size :: rest, locked := none }) rfl hsize rfl rfl (rest := rest) rfl
    (by rw [hb]; exact d4) (by rw [hb]; exact d7) hout hRframes (by simp only [List.map_cons, List.sum_cons, hcat]; omega) hlocks
  obtain ⟨f1, f2⟩ := vx_frame hsame
  rw [hhp] at f1 f2
  have hWs : s.WarmedH U.vm := State.WarmedH.trans hW0 hW
  have hcl : s.vm.findClass cls = some ce.cls := by
    have h9 := hO.cls
    rw [hvm] at h9
    exact h9
  have hall : s.sameButNew ({ U with vm := s.vm } : State) locs mc ms := by
    subst hA
    obtain ⟨e1, e2⟩ := hsame
    rw [State.setFrames_setFrames] at e1
    have h2 : (T.setVm s.vm).sameButNew ({ U with vm := s.vm } : State) [] (0 + 1) (0 + 6) := ⟨e1, e2⟩
    have h3 := X.same.trans h2
    rw [List.append_nil] at h3
    exact h3.mono hc hs
  refine ⟨U, ?_, .threw T.heap.size, hrun, hend, Or.inr ⟨T.heap.size, rfl, cls, ce, locs, hx U hWs.alike f1 (fun q hq => f2 q hq (fun z hz => nomatch hz)), hce, hO.vm, hcl, hWs, hall, hf⟩⟩
  refine st1 _ ?_
  show Steps p.tables e below (T1.setTop { method := m, pc := pc + 3, locals := ls, stack := .ref T.heap.size :: rest, locked := none }) _
  jvm_step X₁.here [X₁.here.top, hexec, d3', Value.category]
  exact hsteps
/-- 'throw new E("text")': new; dup; ldc; invokespecial; athrow -/
theorem vx_throwS {cc : ByteArray} {pc : Nat} (hexec : p.tables.exec = Jvm.exec) (hb : c.code = cc) (hl : l.stackTraces = false) {own cls text : String} {names : List String} {ik is ic mc ms sa : Nat} {A : Nat → Prop}
    (hown : s.vm.findClass own = some m.cls) (hcls : Bundle.fit cls = true) (hnames : ∀ n ∈ names, Bundle.fit n = true)
    (hk : (Cond.classLink own ik cls).before args s = true) (hini : (Cond.initialized cls).before args s = true) (hstr : vk_R own is text sa s) (hat : ∀ w ∈ vx_atS own ic cls names, w.before args s = true)
    (hgood : ∀ w ∈ Cond.classLink own ik cls :: Cond.initialized cls :: vx_atS own ic cls names, vx_ot w = true)
    (hU : vx_Zq Bundle.tN "UNASSIGNED_STACK" Bundle.steD A s s.heap) (hN : vx_Zq Bundle.tN "SUPPRESSED_SENTINEL" Bundle.listD A s s.heap) (hS : va_S A s.heap H locs) (hsize : ls.size = c.maxLocals)
    (d0 : decode cc pc = .ok (.new ik, 3)) (d3 : decode cc (pc + 3) = .ok (.dup, 1)) (d4 : decode cc (pc + 4) = .ok (.ldc is, 2)) (d6 : decode cc (pc + 6) = .ok (.invokespecial ic, 3)) (d9 : decode cc (pc + 9) = .ok (.athrow, 1))
    (hout : ∀ x ∈ c.exceptionTable.toList, covers x (pc + 9) = false)
    (hRframes : names.length + 3 < R.frames) (hRlocals : (rest.map fun v => v.category).sum + (13 * (names.length + 1) + 43) ≤ R.locals) (hRcells : cells + 1 ≤ R.cells) (hRslots : slots + 6 ≤ R.slots) (hlocks : meth.locks = false)
    (hx : ∀ t : State, s.vm.Alike t.vm → H.size ≤ t.heap.size → (∀ q : Nat, q < H.size → t.heap[q]? = H[q]?) → XC cls s t)
    (hf : ∀ z ∈ locs, free z.base) (hc : cells + 1 ≤ mc) (hs : slots + 6 ≤ ms) :
    W p l e R s m args below meth c H locs cells slots (vx_MQ below Qc XC args s mc ms free) (F0 m pc ls rest) := by
  intro T hT X
  have htr : e.platform.stackTraces = false := (show e.platform.stackTraces = l.stackTraces by rw [X.admits.platform]).trans hl
  have Y := vx_rebase X (R' := { frames := R.frames, locals := R.locals, cells := 1, slots := 6 }) (Nat.le_refl _) (Nat.le_refl _) hRcells hRslots
  obtain ⟨s', hA⟩ : ∃ z, z = (T.setVm s.vm).setFrames (.invoking m args :: below) := ⟨_, rfl⟩
  rw [← hA] at Y
  have hvm : s'.vm = s.vm := by rw [hA]; rfl
  have hhp : s'.heap = H := by rw [hA]; exact hT
  have hW0 : s.WarmedH s'.vm := by rw [hvm]; exact State.WarmedH.refl s
  have hat' : ∀ w ∈ vx_atS own ic cls names, w.before args s' = true := fun w hw => vx_ot_at hW0 hvm.symm (hgood w (List.mem_cons_of_mem _ (List.mem_cons_of_mem _ hw))) (hat w hw)
  have hk' : (Cond.classLink own ik cls).before args s' = true := vx_ot_at hW0 hvm.symm (hgood _ List.mem_cons_self) hk
  have hini' : (Cond.initialized cls).before args s' = true := vx_ot_at hW0 hvm.symm (hgood _ (List.mem_cons_of_mem _ List.mem_cons_self)) hini
  have hU' : vx_Zq Bundle.tN "UNASSIGNED_STACK" Bundle.steD A s' s'.heap := by rw [hhp]; exact vx_Zq.moved hW0.alike (hU.kept hS.2.1)
  have hN' : vx_Zq Bundle.tN "SUPPRESSED_SENTINEL" Bundle.listD A s' s'.heap := by rw [hhp]; exact vx_Zq.moved hW0.alike (hN.kept hS.2.1)
  have h : ∀ w ∈ Bundle.ownAtoms own ic cls names, w.before args s' = true := vx_own hat' (vx_isRefq hU'.1) (vx_isRefq hN'.1) hU'.2.word hN'.2.word
  have hown' : s'.vm.findClass own = some m.cls := by rw [hvm]; exact hown
  have hins : (Cond.instantiable cls 6).before args s' = true := h _ (by simp [Bundle.ownAtoms])
  obtain ⟨vm₁, cX, kX, hfX, hkX, -, -, X₁, st1⟩ := Y.newCold hexec (own := own) (C := cls) (index := ik) (n := 6) hown' hk' hins hini'
    (g := F0 m pc ls rest) rfl (by rw [hb]; exact d0) (Nat.le_refl _) (Nat.le_refl _)
  generalize hT1 : (T.setVm vm₁).pushCell { cls := cX, slots := kX.instanceTypes.map defaultValue, vm := .none } = T1 at X₁ st1
  have hcat : (Value.ref T.heap.size).category = 1 := rfl
  have hcellA : T1.heap[T.heap.size]? = some (freshCell cX kX) := by rw [← hT1]; exact State.heap_pushCell_size _ _
  have d3' : decode c.code (pc + 3) = .ok (.dup, 1) := by rw [hb]; exact d3
  have d4' : decode c.code (pc + 4) = .ok (.ldc is, 2) := by rw [hb]; exact d4
  have hstr' : vk_R own is text sa s' := vk_R.warm hW0 hstr
  obtain ⟨U, hsteps, hrun, hend, hW, hsame, ce, hce, hO⟩ := X₁.ctorThrowS hexec htr (own := own) (cls := cls) (names := names) (ic := ic) hown' hcls hnames h (fun x hx => nomatch hx) hfX hkX hcellA (by rw [hhp, hT]; exact Nat.le_refl _) (msg := .ref sa) rfl
    (g := { method := m, pc := pc + 6, locals := ls, stack := .ref sa :: .ref T.heap.size :: .ref T.heap.size :: rest, locked := none }) rfl hsize rfl rfl (rest := rest) rfl
    (by rw [hb]; exact d6) (by rw [hb]; exact d9) hout hRframes (by simp only [List.map_cons, List.sum_cons, hcat]; omega) hlocks
  obtain ⟨f1, f2⟩ := vx_frame hsame
  rw [hhp] at f1 f2
  have hWs : s.WarmedH U.vm := State.WarmedH.trans hW0 hW
  have hcl : s.vm.findClass cls = some ce.cls := by
    have h9 := hO.cls
    rw [hvm] at h9
    exact h9
  have hall : s.sameButNew ({ U with vm := s.vm } : State) locs mc ms := by
    subst hA
    obtain ⟨e1, e2⟩ := hsame
    rw [State.setFrames_setFrames] at e1
    have h2 : (T.setVm s.vm).sameButNew ({ U with vm := s.vm } : State) [] (0 + 1) (0 + 6) := ⟨e1, e2⟩
    have h3 := X.same.trans h2
    rw [List.append_nil] at h3
    exact h3.mono hc hs
  refine ⟨U, ?_, .threw T.heap.size, hrun, hend, Or.inr ⟨T.heap.size, rfl, cls, ce, locs, hx U hWs.alike f1 (fun q hq => f2 q hq (fun z hz => nomatch hz)), hce, hO.vm, hcl, hWs, hall, hf⟩⟩
  refine st1 _ ?_
  show Steps p.tables e below (T1.setTop { method := m, pc := pc + 3, locals := ls, stack := .ref T.heap.size :: rest, locked := none }) _
  jvm_step X₁.here [X₁.here.top, hexec, d3', Value.category]
  exact X₁.ldcString hexec (own := own) (text := text) (index := is) (a := sa) hown' hstr'.1 hstr'.2
    (g := { method := m, pc := pc + 4, locals := ls, stack := .ref T.heap.size :: .ref T.heap.size :: rest, locked := none }) rfl d4' _ hsteps
/-- 'throw new E("text")', the text by a wide index -/
theorem vx_throwSW {cc : ByteArray} {pc : Nat} (hexec : p.tables.exec = Jvm.exec) (hb : c.code = cc) (hl : l.stackTraces = false) {own cls text : String} {names : List String} {ik is ic mc ms sa : Nat} {A : Nat → Prop}
    (hown : s.vm.findClass own = some m.cls) (hcls : Bundle.fit cls = true) (hnames : ∀ n ∈ names, Bundle.fit n = true)
    (hk : (Cond.classLink own ik cls).before args s = true) (hini : (Cond.initialized cls).before args s = true) (hstr : vk_R own is text sa s) (hat : ∀ w ∈ vx_atS own ic cls names, w.before args s = true)
    (hgood : ∀ w ∈ Cond.classLink own ik cls :: Cond.initialized cls :: vx_atS own ic cls names, vx_ot w = true)
    (hU : vx_Zq Bundle.tN "UNASSIGNED_STACK" Bundle.steD A s s.heap) (hN : vx_Zq Bundle.tN "SUPPRESSED_SENTINEL" Bundle.listD A s s.heap) (hS : va_S A s.heap H locs) (hsize : ls.size = c.maxLocals)
    (d0 : decode cc pc = .ok (.new ik, 3)) (d3 : decode cc (pc + 3) = .ok (.dup, 1)) (d4 : decode cc (pc + 4) = .ok (.ldc_w is, 3)) (d7 : decode cc (pc + 7) = .ok (.invokespecial ic, 3)) (d10 : decode cc (pc + 10) = .ok (.athrow, 1))
    (hout : ∀ x ∈ c.exceptionTable.toList, covers x (pc + 10) = false)
    (hRframes : names.length + 3 < R.frames) (hRlocals : (rest.map fun v => v.category).sum + (13 * (names.length + 1) + 43) ≤ R.locals) (hRcells : cells + 1 ≤ R.cells) (hRslots : slots + 6 ≤ R.slots) (hlocks : meth.locks = false)
    (hx : ∀ t : State, s.vm.Alike t.vm → H.size ≤ t.heap.size → (∀ q : Nat, q < H.size → t.heap[q]? = H[q]?) → XC cls s t)
    (hf : ∀ z ∈ locs, free z.base) (hc : cells + 1 ≤ mc) (hs : slots + 6 ≤ ms) :
    W p l e R s m args below meth c H locs cells slots (vx_MQ below Qc XC args s mc ms free) (F0 m pc ls rest) := by
  intro T hT X
  have htr : e.platform.stackTraces = false := (show e.platform.stackTraces = l.stackTraces by rw [X.admits.platform]).trans hl
  have Y := vx_rebase X (R' := { frames := R.frames, locals := R.locals, cells := 1, slots := 6 }) (Nat.le_refl _) (Nat.le_refl _) hRcells hRslots
  obtain ⟨s', hA⟩ : ∃ z, z = (T.setVm s.vm).setFrames (.invoking m args :: below) := ⟨_, rfl⟩
  rw [← hA] at Y
  have hvm : s'.vm = s.vm := by rw [hA]; rfl
  have hhp : s'.heap = H := by rw [hA]; exact hT
  have hW0 : s.WarmedH s'.vm := by rw [hvm]; exact State.WarmedH.refl s
  have hat' : ∀ w ∈ vx_atS own ic cls names, w.before args s' = true := fun w hw => vx_ot_at hW0 hvm.symm (hgood w (List.mem_cons_of_mem _ (List.mem_cons_of_mem _ hw))) (hat w hw)
  have hk' : (Cond.classLink own ik cls).before args s' = true := vx_ot_at hW0 hvm.symm (hgood _ List.mem_cons_self) hk
  have hini' : (Cond.initialized cls).before args s' = true := vx_ot_at hW0 hvm.symm (hgood _ (List.mem_cons_of_mem _ List.mem_cons_self)) hini
  have hU' : vx_Zq Bundle.tN "UNASSIGNED_STACK" Bundle.steD A s' s'.heap := by rw [hhp]; exact vx_Zq.moved hW0.alike (hU.kept hS.2.1)
  have hN' : vx_Zq Bundle.tN "SUPPRESSED_SENTINEL" Bundle.listD A s' s'.heap := by rw [hhp]; exact vx_Zq.moved hW0.alike (hN.kept hS.2.1)
  have h : ∀ w ∈ Bundle.ownAtoms own ic cls names, w.before args s' = true := vx_own hat' (vx_isRefq hU'.1) (vx_isRefq hN'.1) hU'.2.word hN'.2.word
  have hown' : s'.vm.findClass own = some m.cls := by rw [hvm]; exact hown
  have hins : (Cond.instantiable cls 6).before args s' = true := h _ (by simp [Bundle.ownAtoms])
  obtain ⟨vm₁, cX, kX, hfX, hkX, -, -, X₁, st1⟩ := Y.newCold hexec (own := own) (C := cls) (index := ik) (n := 6) hown' hk' hins hini'
    (g := F0 m pc ls rest) rfl (by rw [hb]; exact d0) (Nat.le_refl _) (Nat.le_refl _)
  generalize hT1 : (T.setVm vm₁).pushCell { cls := cX, slots := kX.instanceTypes.map defaultValue, vm := .none } = T1 at X₁ st1
  have hcat : (Value.ref T.heap.size).category = 1 := rfl
  have hcellA : T1.heap[T.heap.size]? = some (freshCell cX kX) := by rw [← hT1]; exact State.heap_pushCell_size _ _
  have d3' : decode c.code (pc + 3) = .ok (.dup, 1) := by rw [hb]; exact d3
  have d4' : decode c.code (pc + 4) = .ok (.ldc_w is, 3) := by rw [hb]; exact d4
  have hstr' : vk_R own is text sa s' := vk_R.warm hW0 hstr
  obtain ⟨U, hsteps, hrun, hend, hW, hsame, ce, hce, hO⟩ := X₁.ctorThrowS hexec htr (own := own) (cls := cls) (names := names) (ic := ic) hown' hcls hnames h (fun x hx => nomatch hx) hfX hkX hcellA (by rw [hhp, hT]; exact Nat.le_refl _) (msg := .ref sa) rfl
    (g := { method := m, pc := pc + 7, locals := ls, stack := .ref sa :: .ref T.heap.size :: .ref T.heap.size :: rest, locked := none }) rfl hsize rfl rfl (rest := rest) rfl
    (by rw [hb]; exact d7) (by rw [hb]; exact d10) hout hRframes (by simp only [List.map_cons, List.sum_cons, hcat]; omega) hlocks
  obtain ⟨f1, f2⟩ := vx_frame hsame
  rw [hhp] at f1 f2
  have hWs : s.WarmedH U.vm := State.WarmedH.trans hW0 hW
  have hcl : s.vm.findClass cls = some ce.cls := by
    have h9 := hO.cls
    rw [hvm] at h9
    exact h9
  have hall : s.sameButNew ({ U with vm := s.vm } : State) locs mc ms := by
    subst hA
    obtain ⟨e1, e2⟩ := hsame
    rw [State.setFrames_setFrames] at e1
    have h2 : (T.setVm s.vm).sameButNew ({ U with vm := s.vm } : State) [] (0 + 1) (0 + 6) := ⟨e1, e2⟩
    have h3 := X.same.trans h2
    rw [List.append_nil] at h3
    exact h3.mono hc hs
  refine ⟨U, ?_, .threw T.heap.size, hrun, hend, Or.inr ⟨T.heap.size, rfl, cls, ce, locs, hx U hWs.alike f1 (fun q hq => f2 q hq (fun z hz => nomatch hz)), hce, hO.vm, hcl, hWs, hall, hf⟩⟩
  refine st1 _ ?_
  show Steps p.tables e below (T1.setTop { method := m, pc := pc + 3, locals := ls, stack := .ref T.heap.size :: rest, locked := none }) _
  jvm_step X₁.here [X₁.here.top, hexec, d3', Value.category]
  exact X₁.ldcStringW hexec (own := own) (text := text) (index := is) (a := sa) hown' hstr'.1 hstr'.2
    (g := { method := m, pc := pc + 4, locals := ls, stack := .ref T.heap.size :: .ref T.heap.size :: rest, locked := none }) rfl d4' _ hsteps
end Ends
section Bodies
variable {l : Launch}
theorem vx_ofW {y : MethodName} {ws ws' : List Cond} {rm : Room} {Pc : Array Value → State → Prop} {Qc : Array Value → State → Outcome → State → Prop} {XC : String → State → State → Prop} {mc ms : Nat} {free : Addr → Prop} {cc : ByteArray} {maxL : Nat} {ret : Option FieldType}
    (hy : plainName y.cls = true) (hw : ws = Cond.code y cc maxL ret :: ws')
    (body : ∀ p e s m args below meth c s₁, BodyLoose p l y (headSpec ws rm) cc maxL ret e s m args below meth c s₁ → c.maxLocals = maxL → (∀ x ∈ c.exceptionTable.toList, False) → Pc args s →
      W p l e (headSpec ws rm).room s m args below meth c s.heap [] 0 0 (vx_MQ below Qc XC args s mc ms free) (entryFrame m args maxL)) : vx_Met l y ws rm Pc Qc XC mc ms free := by
  refine MetFree.of_bodyS (code := cc) (maxLocals := maxL) (ret := ret) hy ?_ ?_
  · intro args s m h hn
    obtain ⟨meth, c, h1, h2, h3, h4, h5, h6, -, -⟩ := Cond.code_spec hn (atoms_spec (ws := ws) h _ (by rw [hw]; exact List.mem_cons_self))
    exact ⟨meth, c, h1, h2, h3, h4, h5, h6⟩
  · intro p e s m args below meth c s₁ B hml hP _
    have hh0 : s₁.heap = s.heap := by rw [B.state]; rfl
    have ht : ∀ x ∈ c.exceptionTable.toList, False := by
      obtain ⟨meth9, c9, h1, h2, -, -, -, -, h7, -⟩ := Cond.code_spec B.named (atoms_spec (ws := ws) B.pre _ (by rw [hw]; exact List.mem_cons_self))
      cases Option.some.inj (h1.symm.trans B.method)
      cases Option.some.inj (h2.symm.trans (Stand.of_body B).code)
      intro x hx
      rw [Array.isEmpty_iff.mp h7] at hx
      cases hx
    obtain ⟨t, a1, o, b1, b2, b3⟩ := body p e s m args below meth c s₁ B hml ht hP s₁ hh0 (Stand.of_body B)
    exact ⟨t, o, a1, b1, b2, b3⟩
/-- the table of a body with handlers -/
theorem vx_table {p : Program} {x y : MethodName} {S : Spec} {cc bytes : ByteArray} {maxL maxL' : Nat} {ret ret' : Option FieldType} {e : Env} {s s₁ : State} {m : MethodId} {args : Array Value} {below : List Frame} {meth : Method} {c : Code} {hh : List (Nat × Nat × Nat × Nat)}
    (B : BodyLoose p l y S cc maxL ret e s m args below meth c s₁) (h : (Cond.codeWith y bytes maxL' ret' hh).before args s = true) : c.exceptionTable.toList = tableOf hh := by
  obtain ⟨m9, meth9, c9, hn9, h1, h2, -, -, h6, -⟩ := Cond.codeWith_spec h
  cases Option.some.inj (hn9.symm.trans B.named)
  cases Option.some.inj (h1.symm.trans B.method)
  cases Option.some.inj (h2.symm.trans (Stand.of_body B).code)
  rw [← h6, table_eq]
end Bodies
end VXA
/-! ===== END ===== -/
/-! ===== BEGIN a static call of a method with an exception table ===== -/
section VXS
variable {p : Program} {l : Launch} {e : Env} {R : Room} {s : State} {m : MethodId} {args : Array Value} {below : List Frame} {meth : Method} {c : Code} {T : State} {H : Heap} {locs : List Loc} {cells slots : Nat}
abbrev vx_CSW (R : Room) (s : State) (args : Array Value) (own : String) (index : Nat) (y : MethodName) (bytes : ByteArray) (maxL : Nat) (ret : Option FieldType) (hh : List (Nat × Nat × Nat × Nat)) (ws : List Cond) (rm : Room) (mc ms n : Nat) : Prop :=
  (rm.cells = mc ∧ rm.slots = ms ∧ rm.frames + 1 ≤ R.frames ∧ 8 + (maxL + 11) + rm.locals ≤ R.locals ∧ (∀ w ∈ ws, ∀ (a' : Array Value) (U : State), s.WarmedH U.vm → w.before a' U = true) ∧ Cond.codeWith y bytes maxL ret hh ∈ ws) ∧
  (Cond.codeWith y bytes maxL ret hh).before args s = true ∧ (Cond.initialized y.cls).before args s = true ∧ (y.cls ≠ "java/lang/invoke/MethodHandle" ∧ y.cls ≠ "java/lang/invoke/VarHandle") ∧
  (∀ sig, parseMethodDescriptor y.desc = some sig → n = sig.parameters.length) ∧ (Cond.methodLink own index y).before args s = true ∧ (Cond.static y).before args s = true
theorem vx_cwSW {own : String} {index maxL mc ms : Nat} {y : MethodName} {bytes : ByteArray} {ret : Option FieldType} {hh : List (Nat × Nat × Nat × Nat)} {Ts ws ws' : List Cond} {rm : Room} (n : Nat) (ht : ∀ w ∈ Ts, w.before args s = true) (hT : GoodIn Ts (va_wsS own index y ws)) (hw : ws = Cond.codeWith y bytes maxL ret hh :: ws') (hrc : rm.cells = mc) (hrs : rm.slots = ms)
    (hd : y.cls ≠ "java/lang/invoke/MethodHandle" ∧ y.cls ≠ "java/lang/invoke/VarHandle" ∧ (parseMethodDescriptor y.desc).map (fun d => d.parameters.length) = some n) (hR : rm.frames + 1 ≤ R.frames ∧ 8 + (maxL + 11) + rm.locals ≤ R.locals) :
    vx_CSW R s args own index y bytes maxL ret hh ws rm mc ms n := by
  have ok : ∀ w ∈ va_wsS own index y ws, w.before args s = true := fun w h => ht w (hT w h).1
  have hG : GoodIn Ts ws := fun w h => hT w (by unfold va_wsS; exact List.mem_append_right _ h)
  have hc : Cond.codeWith y bytes maxL ret hh ∈ ws := by rw [hw]; exact List.mem_cons_self
  refine ⟨⟨hrc, hrs, hR.1, hR.2, pay_in ht hG, hc⟩, ht _ (hG _ hc).1, ok _ (by simp [va_wsS]), ⟨hd.1, hd.2.1⟩, fun sig h => ?_, ok _ (by simp [va_wsS]), ok _ (by simp [va_wsS])⟩
  have h2 := hd.2.2
  rw [h] at h2
  exact (Option.some.inj h2).symm
theorem vx_callSW (X : Stand p l e R s m args below meth c T locs cells slots) (hexec : p.tables.exec = Jvm.exec) {own : String} {index : Nat} {y : MethodName} {bytes : ByteArray} {maxL : Nat} {ret : Option FieldType} {hh : List (Nat × Nat × Nat × Nat)}
    (hown : s.vm.findClass own = some m.cls) (hlink : (Cond.methodLink own index y).before args s = true) (hstat : (Cond.static y).before args s = true) (hinit : (Cond.initialized y.cls).before args s = true)
    (hcode : (Cond.codeWith y bytes maxL ret hh).before args s = true) (hy : y.cls ≠ "java/lang/invoke/MethodHandle" ∧ y.cls ≠ "java/lang/invoke/VarHandle")
    {W9 : Nat} {Pre : Pt → Array Value → Prop} {Post : Pt → Array Value → Option Value → Pt → Prop} (hK : Back l R p e below s args y 3 W9 Pre Post)
    {g : JFrame} (hg : g.method = m) (hsize : g.locals.size = c.maxLocals) {argsL rest : List Value} (hlen : ∀ sig, parseMethodDescriptor y.desc = some sig → argsL.length = sig.parameters.length)
    (hstack : g.stack = argsL.reverse ++ rest) (hW : 2 * g.monitorRoom + (rest.map fun v => v.category).sum ≤ W9) (hdg : decode c.code g.pc = .ok (.invokestatic index, 3))
    (hpre : ∀ vm₁, s.WarmedH vm₁ → Pre ⟨T.setVm vm₁, locs, cells, slots⟩ argsL.toArray) :
    ∃ (v : Option Value) (vm₁ : Vm) (B : Pt), s.WarmedH vm₁ ∧ Stand p l e R s m args below meth c B.U B.locs B.cells B.slots ∧ Post ⟨T.setVm vm₁, locs, cells, slots⟩ argsL.toArray v B ∧
      ∀ target, Steps p.tables e below (B.U.setTop { g with pc := g.pc + 3, stack := v.toList ++ rest }) target → Steps p.tables e below (T.setTop g) target := by
  obtain ⟨mk, methM, cM, hnamed, hmethM, -, -, -, -, -, -, hsigM⟩ := Cond.codeWith_spec hcode
  have hstatic : methM.isStatic = true := Cond.static_spec hnamed hmethM hstat
  obtain ⟨kP, hkP, -⟩ := className_of_methodNamed hnamed
  have hinitP : kP.init = .initialized := Cond.initialized_spec (findClass_of_methodNamed hnamed) hkP hinit
  obtain ⟨vm₁, X₁, hstep₁⟩ := X.invokestatic hexec hown hlink hnamed hmethM hstatic hkP hinitP hy (g := g) hg (argsL := argsL) (rest := rest) (hlen _ hsigM) hstack hdg
  obtain ⟨v, B, X', hpost, hsteps⟩ := hK m meth c ⟨T.setVm vm₁, locs, cells, slots⟩ { g with stack := rest } (.invokestatic index) mk argsL.toArray X₁ hg hsize hdg hW (X₁.named hnamed) (hpre vm₁ X₁.warmed)
  exact ⟨v, vm₁, B, X₁.warmed, X', hpost, fun target h => hstep₁ _ fun acts => by rw [doInvoke_state]; exact hsteps.trans h⟩
theorem vx_runSW {y : MethodName} {bytes cc : ByteArray} {maxL nL mc ms n index : Nat} {ret : Option FieldType} {hh : List (Nat × Nat × Nat × Nat)} {ws : List Cond} {rm : Room} {Pc : Array Value → State → Prop} {Qc : Array Value → State → Outcome → State → Prop} {free : Addr → Prop} {Ts : List Cond} {own : String} {As rest : List Value} {g : JFrame}
    (S : CallFix p m c cc nL s args Ts own) (hM : Met l y ws rm Pc Qc mc ms free) (cw : vx_CSW R s args own index y bytes maxL ret hh ws rm mc ms n) (hp : PreS s H Pc As)
    (hg : g.method = m) (hn : As.length = n) (hsize : g.locals.size = nL) (hstack : g.stack = As.reverse ++ rest) (hW : 2 * g.monitorRoom + (rest.map fun v => v.category).sum ≤ 8) (hdg : decode cc g.pc = .ok (.invokestatic index, 3)) (hf : cells + mc ≤ R.cells ∧ slots + ms ≤ R.slots) :
    va_Run p l e R s m args below meth c H locs cells slots mc ms g rest (Qc As.toArray) (free) := by
  obtain ⟨⟨hrc, hrs, hfr, hlo, hws, hcw⟩, hcode, hini, hy, hlen, hl, hstt⟩ := cw
  have hK : Back l R p e below s args y 3 8 (PreOf R mc ms Pc) (PostOf Qc mc ms free) := va_backW (hh := hh) (bytes := bytes) (maxL := maxL) (ret := ret) hM hp.1 hrc hrs hfr hlo hws hcw (fun a' U hW => word_at hW (Or.inl (by first | rfl | simp [Cond.onTables, Cond.keeps, Cond.steady])) hini)
  obtain ⟨hx, hb, hml, ho, -⟩ := S
  intro T hT X
  obtain ⟨v, vm₁, ⟨U', l2, c2, s2⟩, hW₁, X', ⟨g', mk, t, L, e1, e2, hq, h1, hL, h2, h3⟩, st⟩ := vx_callSW X hx (hh := hh) (bytes := bytes) (maxL := maxL) (ret := ret) ho hl hstt hini hcode hy hK hg (hsize.trans hml.symm) (argsL := As) (rest := rest) (fun sig h => hn.trans (hlen sig h)) hstack hW (by rw [hb]; exact hdg)
    (fun vm₁ hW₁ => ⟨hf.1, hf.2, hp.2 (T.setVm vm₁) hT hW₁⟩)
  dsimp only [Pt.U, Pt.locs, Pt.cells, Pt.slots] at X' e1 e2 h1 h2 h3 st
  subst h1; subst h2; subst h3
  exact ⟨v, (T.setVm vm₁).calling g' mk As.toArray, t, U', L, hT, X', hL, e1, e2, hq, st⟩
/-- not caught here, past rows that name other classes: it goes on to the caller -/
theorem vx_outP {p : Program} {l : Launch} {e : Env} {R : Room} {s : State} {m : MethodId} {args : Array Value} {below : List Frame} {meth : Method} {c : Code} {H : Heap} {locs : List Loc} {cells slots : Nat} {free : Addr → Prop} {ls : Array Slot} {rest : List Value} {Qc : Array Value → State → Outcome → State → Prop} {XC : String → State → State → Prop}
    {pc : Nat} {own E : String} {ce : Cell} {q : Addr} {mc ms : Nat} (hown : s.vm.findClass own = some m.cls) (hlocks : meth.locks = false)
    (hpass : ∀ z ∈ c.exceptionTable.toList, covers z pc = false ∨ (z.catchType ≠ 0 ∧ ∃ nm : String, (Cond.classLink own z.catchType nm).before args s = true ∧ va_Nc E nm s)) (hcell : H[q]? = some ce) (hv : ce.vm = .none) (hcl : s.vm.findClass E = some ce.cls)
    (hx : ∀ t : State, t.heap = H → s.vm.Alike t.vm → XC E s t) (hf : ∀ z ∈ locs, free z.base) (hc : cells ≤ mc) (hs : slots ≤ ms) :
    vx_W p l e R s m args below meth c H locs cells slots (vx_MQ below Qc XC args s mc ms free) (F0 m pc ls rest) q := by
  intro T hT X
  have hpl : e.platform.magicAccessors = ({} : Platform).magicAccessors := by rw [X.admits.platform]
  obtain ⟨vm', hW', X', st⟩ := X.outThrough hlocks q (g := F0 m pc ls rest) rfl rfl rfl (cell := ce) (by rw [hT]; exact hcell) (by rw [hv]; rfl)
    (by obtain ⟨k9, h9, -⟩ := Vm.findClass_spec hcl; exact ⟨k9, h9⟩) (fun z hz => by
      rcases hpass z hz with h | ⟨hz0, nm, hl1, hn1⟩
      · exact Or.inl h
      · obtain ⟨c6, hc6, hcl6⟩ := Cond.classLink_spec hown hl1 e.platform hpl
        obtain ⟨a8, b8, h1, h2, h3⟩ := hn1
        cases Option.some.inj (h1.symm.trans hcl)
        cases Option.some.inj (h2.symm.trans hc6)
        exact Or.inr ⟨hz0, _, hcl6, h3⟩)
  obtain ⟨g₀, hfr⟩ := X'.frames_eq
  have hcell9 : ((T.setVm vm').setFrames (.throwing q :: below)).heap[q]? = some ce := by
    show T.heap[q]? = some ce
    rw [hT]; exact hcell
  have hend : Ended ((T.setVm vm').setFrames (.throwing q :: below)) below (.threw q) := State.frames_setFrames _ (State.cur_lt_of_frames hfr)
  refine ⟨(T.setVm vm').setFrames (.throwing q :: below), ?_, .threw q, X'.here.running, hend, Or.inr ⟨q, rfl, E, ce, locs, hx _ hT (X'.ends _).1.alike, hcell9, hv, hcl, (X'.ends _).1, (X'.ends _).2.mono hc hs, hf⟩⟩
  rw [X.pushThrowing_eq]
  exact st
/-- a thing of a world lies in the heap -/
theorem vx_lt {D : va_G} {cl : List vw_C} {ws : va_W} {H1 : Heap} (h : va_P D cl ws H1) {k : Nat} {q : Nat × va_E} (hk : ws[k]? = some q) : q.1 < H1.size := (h k q hk).lt
end VXS
/-! ===== END ===== -/
/-! ===== BEGIN methods with a table of their own: called by a name, returning or throwing ===== -/
section VXH
/-! vx_backW, vx_callVX, vx_callSX, vx_callVW, vx_runVW, vx_runVX, vx_runSX, vx_ofWH follow the same proofs as their sisters above (Free/Laws.lean, Shelf42/LK1.lean); vx_outP calls Shelf42/NT130.lean (outThrough). -/
section
variable {l : Launch} {R : Room} {p : Program} {e : Env} {below : List Frame} {s : State} {sargs : Array Value} {y : MethodName} {len W9 : Nat}
theorem vx_backW {ws : List Cond} {rm : Room} {Pc : Array Value → State → Prop} {Qc : Array Value → State → Outcome → State → Prop} {XC : String → State → State → Prop} {mc ms : Nat} {free : Addr → Prop} {bytes : ByteArray} {maxL : Nat} {ret : Option FieldType} {hh : List (Nat × Nat × Nat × Nat)}
    (hM : vx_Met l y ws rm Pc Qc XC mc ms free) (hblind : FrameBlind Pc) (hrc : rm.cells = mc) (hrs : rm.slots = ms)
    (hframes : rm.frames + 1 ≤ R.frames) (hlocals : W9 + (maxL + 11) + rm.locals ≤ R.locals)
    (hws : ∀ w ∈ ws, ∀ a' U, s.WarmedH U.vm → w.before a' U = true) (hcode : Cond.codeWith y bytes maxL ret hh ∈ ws) (hinit : ∀ a' U, s.WarmedH U.vm → (Cond.initialized y.cls).before a' U = true) :
    vx_Back l R p e below s sargs y len W9 (PreOf R mc ms Pc) (PostOf Qc mc ms free) (vx_Post XC mc ms free) := by
  intro m meth c A g ig mk a X hg hsize hdg hW hn hp
  have h1 : (headSpec ws rm).pre.before a A.U = true := atoms_intro fun w hw => hws w hw _ _ X.warmed
  have h2 : (Cond.codeWith y bytes maxL ret hh).before a A.U = true := hws _ hcode _ _ X.warmed
  have h3 : (Cond.initialized y.cls).before a A.U = true := hinit _ _ X.warmed
  have h4 : A.cells + (headSpec ws rm).room.cells ≤ R.cells := by rw [show (headSpec ws rm).room.cells = mc from hrc]; exact hp.1
  have h5 : A.slots + (headSpec ws rm).room.slots ≤ R.slots := by rw [show (headSpec ws rm).room.slots = ms from hrs]; exact hp.2.1
  have hPc : Pc a (A.U.calling g mk a) := hblind _ _ _ _ hp.2.2
  obtain ⟨U, Ls, c0, s0⟩ := A
  dsimp only [Pt.U, Pt.locs, Pt.cells, Pt.slots] at h1 h2 h3 h4 h5 X hn hPc ⊢
  obtain ⟨m9, methY, cY, hn9, hmY, hcY, -, hlY, -⟩ := Cond.codeWith_spec h2
  cases Option.some.inj (hn9.symm.trans hn)
  obtain ⟨kY, hkY, -⟩ := className_of_methodNamed hn
  have hinitY : kY.init = .initialized := Cond.initialized_spec (findClass_of_methodNamed hn) hkY h3
  have h : At U g.method c below := by rw [hg]; exact X.here
  have hlocals9 : W9 + (maxL + 11) + (headSpec ws rm).room.locals ≤ R.locals := hlocals
  have happ : (headSpec ws rm).appliesLoose y e.platform (U.calling g mk a) = true :=
    Spec.appliesLoose_calling (g := g) h hdg hn hkY hinitY
      (X.room_calling (g := g) (R' := (headSpec ws rm).room) hsize hmY hcY hframes (by rw [hlY]; omega) h4 h5) h1
  obtain ⟨mid, hmid⟩ := h.above
  have hfr : (U.setTop g).frames = (.java g :: mid) ++ below := by rw [State.frames_setTop' g h.top, hmid]; rfl
  obtain ⟨o, s₂, hsteps, -, hend, hq⟩ := Steps.callFree hM p X.admits X.cas X.clock (acts := []) hfr happ hPc trivial
  have hq' : vx_Q Qc XC mc ms free a (U.calling g mk a) o s₂ := hq
  rw [State.frames_setTop' g h.top] at hend
  obtain ⟨g₀, hg0⟩ := Option.isSome_iff_exists.mp h.top
  obtain ⟨r, hr⟩ := State.topJava?_eq_some.mp hg0
  have hr' : (({ U with heap := s₂.heap, slotsUsed := s₂.slotsUsed } : State).setVm s₂.vm).frames = .java g₀ :: r := hr
  rcases hq' with ⟨hqc, L, hfe, hL⟩ | ⟨q, rfl, E, ce, L, hx, hce, hcv, hcl, hW₂, hsm, hL⟩
  · obtain ⟨⟨v, rfl⟩, hW₂, e2, q2, q3, q4, q5, q6⟩ := id hfe
    have e3 : s₂ = ({ (U.calling g mk a).setFrames s₂.frames with heap := s₂.heap, slotsUsed := s₂.slotsUsed } : State).setVm s₂.vm := by
      have : s₂ = ({ s₂ with vm := (U.calling g mk a).vm } : State).setVm s₂.vm := rfl
      rw [e2] at this
      exact this
    obtain ⟨c₂, i₂, len₂, hc₂, hd₂, hf₂⟩ := hend
    have hW' : U.WarmedH s₂.vm := hW₂
    have hcc : c₂ = c := by
      have h1 : s₂.code? g.method = U.code? g.method := by
        rw [State.code?_eq, State.code?_eq, hW'.alike.method?]
      exact Option.some.inj (hc₂.symm.trans (h1.trans h.code))
    subst hcc
    have hlen : len₂ = len := by rw [hdg] at hd₂; cases hd₂; rfl
    subst hlen
    have hs₂ : s₂ = (({ U with heap := s₂.heap, slotsUsed := s₂.slotsUsed } : State).setVm s₂.vm).setTop { g with pc := g.pc + len₂, stack := v.toList ++ g.stack } := by
      refine e3.trans ?_
      rw [hf₂, State.calling_eq h.top, State.setFrames_setFrames, State.setTop_of_frames _ hr', hr]
      rfl
    have hsame : U.sameButNew ({ U with heap := s₂.heap, slotsUsed := s₂.slotsUsed } : State) L mc ms := by
      refine ⟨?_, q2, q3, q4, q5, q6⟩
      obtain ⟨t, ht, -⟩ := State.frames_cons hr
      show ({ U with heap := s₂.heap, slotsUsed := s₂.slotsUsed } : State) = { U.setFrames U.frames with heap := s₂.heap, slotsUsed := s₂.slotsUsed }
      rw [State.setFrames_self ht]
    subst hg
    refine Or.inl ⟨v, ⟨(({ U with heap := s₂.heap, slotsUsed := s₂.slotsUsed } : State).setVm s₂.vm), Ls ++ L, c0 + mc, s0 + ms⟩,
      ⟨X.admits, X.cas, X.clock, X.frames, X.room, X.hears, X.method, X.code, (X.here.setHeapUsed s₂.heap s₂.slotsUsed).setVm hW'.alike, X.tail, State.WarmedH.trans X.warmed hW', X.limits, X.bytes, X.same.trans (hsame.setVm s.vm)⟩,
      ⟨g, mk, s₂, L, rfl, rfl, hqc, rfl, hL, rfl, rfl⟩, ?_⟩
    show Steps p.tables e below _ ((({ U with heap := s₂.heap, slotsUsed := s₂.slotsUsed } : State).setVm s₂.vm).setTop { g with pc := g.pc + len₂, stack := v.toList ++ g.stack })
    rw [← hs₂]
    exact hsteps
  · obtain ⟨e2, q2, q3, q4, q5, q6⟩ := id hsm
    have e3 : s₂ = ({ (U.calling g mk a).setFrames s₂.frames with heap := s₂.heap, slotsUsed := s₂.slotsUsed } : State).setVm s₂.vm := by
      have : s₂ = ({ s₂ with vm := (U.calling g mk a).vm } : State).setVm s₂.vm := rfl
      rw [e2] at this
      exact this
    have hf₂ : s₂.frames = .throwing q :: .java g :: U.frames.tail := hend
    have hW' : U.WarmedH s₂.vm := hW₂
    have hs₂ : s₂ = ((({ U with heap := s₂.heap, slotsUsed := s₂.slotsUsed } : State).setVm s₂.vm).setTop g).pushFrame (.throwing q) := by
      refine e3.trans ?_
      rw [hf₂, State.calling_eq h.top, State.setFrames_setFrames, State.pushFrame, State.frames_setTop _ hr', State.setTop_of_frames _ hr', State.setFrames_setFrames, hr]
      rfl
    have hsame : U.sameButNew ({ U with heap := s₂.heap, slotsUsed := s₂.slotsUsed } : State) L mc ms := by
      refine ⟨?_, q2, q3, q4, q5, q6⟩
      obtain ⟨t, ht, -⟩ := State.frames_cons hr
      show ({ U with heap := s₂.heap, slotsUsed := s₂.slotsUsed } : State) = { U.setFrames U.frames with heap := s₂.heap, slotsUsed := s₂.slotsUsed }
      rw [State.setFrames_self ht]
    subst hg
    refine Or.inr ⟨q, ⟨(({ U with heap := s₂.heap, slotsUsed := s₂.slotsUsed } : State).setVm s₂.vm), Ls ++ L, c0 + mc, s0 + ms⟩,
      ⟨X.admits, X.cas, X.clock, X.frames, X.room, X.hears, X.method, X.code, (X.here.setHeapUsed s₂.heap s₂.slotsUsed).setVm hW'.alike, X.tail, State.WarmedH.trans X.warmed hW', X.limits, X.bytes, X.same.trans (hsame.setVm s.vm)⟩,
      ⟨g, mk, s₂, L, E, ce, rfl, rfl, hx, hce, hcv, hcl, rfl, hL, rfl, rfl⟩, ?_⟩
    show Steps p.tables e below _ (((({ U with heap := s₂.heap, slotsUsed := s₂.slotsUsed } : State).setVm s₂.vm).setTop g).pushFrame (.throwing q))
    rw [← hs₂]
    exact hsteps
end
variable {p : Program} {l : Launch} {e : Env} {R : Room} {s : State} {m : MethodId} {args : Array Value} {below : List Frame} {meth : Method} {c : Code} {T : State} {H : Heap} {locs : List Loc} {cells slots : Nat}
theorem vx_callVX (X : Stand p l e R s m args below meth c T locs cells slots) (hexec : p.tables.exec = Jvm.exec) {own C : String} {index : Nat} {y : MethodName} {bytes : ByteArray} {maxL : Nat} {ret : Option FieldType} {hh : List (Nat × Nat × Nat × Nat)}
    (hown : s.vm.findClass own = some m.cls) (hlink : (Cond.methodLink own index y).before args s = true) (hinst : (Cond.instanceMethod y).before args s = true) (hsel : (Cond.selects C y y).before args s = true)
    (hcode : (Cond.codeWith y bytes maxL ret hh).before args s = true) (hy : y.cls ≠ "java/lang/invoke/MethodHandle" ∧ y.cls ≠ "java/lang/invoke/VarHandle")
    {W9 : Nat} {Pre : Pt → Array Value → Prop} {Post : Pt → Array Value → Option Value → Pt → Prop} {PostX : Pt → Array Value → Addr → Pt → Prop} (hK : vx_Back l R p e below s args y 3 W9 Pre Post PostX)
    {b : Addr} {cellB : Cell} (hcell : T.heap[b]? = some cellB) (hobj : cellB.vm.isStatics = false) (hcls : s.vm.findClass C = some cellB.cls)
    {g : JFrame} (hg : g.method = m) (hsize : g.locals.size = c.maxLocals) {argsL rest : List Value} (hlen : ∀ sig, parseMethodDescriptor y.desc = some sig → argsL.length = sig.parameters.length)
    (hstack : g.stack = argsL.reverse ++ .ref b :: rest) (hW : 2 * g.monitorRoom + (rest.map fun v => v.category).sum ≤ W9) (hdg : decode c.code g.pc = .ok (.invokevirtual index, 3))
    (hpre : ∀ vm₁, s.WarmedH vm₁ → Pre ⟨T.setVm vm₁, locs, cells, slots⟩ (Value.ref b :: argsL).toArray) :
    (∃ (v : Option Value) (vm₁ : Vm) (B : Pt), s.WarmedH vm₁ ∧ Stand p l e R s m args below meth c B.U B.locs B.cells B.slots ∧ Post ⟨T.setVm vm₁, locs, cells, slots⟩ (Value.ref b :: argsL).toArray v B ∧
      ∀ target, Steps p.tables e below (B.U.setTop { g with pc := g.pc + 3, stack := v.toList ++ rest }) target → Steps p.tables e below (T.setTop g) target) ∨
    (∃ (q : Addr) (vm₁ : Vm) (B : Pt), s.WarmedH vm₁ ∧ Stand p l e R s m args below meth c B.U B.locs B.cells B.slots ∧ PostX ⟨T.setVm vm₁, locs, cells, slots⟩ (Value.ref b :: argsL).toArray q B ∧
      Steps p.tables e below (T.setTop g) ((B.U.setTop { g with stack := rest }).pushFrame (.throwing q))) := by
  obtain ⟨mk, methM, hnamed, hmethM, hstM, habM⟩ := Cond.instanceMethod_spec hinst
  obtain ⟨m8, methM', cM, hn8, hmethM', -, -, -, -, -, -, hsigM⟩ := Cond.codeWith_spec hcode
  cases Option.some.inj (hn8.symm.trans hnamed)
  cases hmethM.symm.trans hmethM'
  obtain ⟨c2, r2, m2, q1, q2, q3, q4, kP, hkP, hkPi⟩ := Cond.selects_spec hsel
  cases hcls.symm.trans q1
  cases (State.methodFound?_of_named hnamed hy).symm.trans q2
  cases hnamed.symm.trans q3
  have hselP : selectMethod e.platform s.vm cellB.cls mk = .method mk := by rw [Launch.admits_selectMethod X.admits]; exact q4
  obtain ⟨vm₁, X₁, hstep₁⟩ := X.invokevirtual hexec hown hlink hnamed hmethM hstM hkP hkPi hy (a := b) (cell := cellB) hcell
    (fun z h => by rw [h] at hobj; cases hobj) hselP hmethM habM hkP hkPi (g := g) hg (argsL := argsL) (rest := rest) (hlen _ hsigM) hstack hdg
  rcases hK m meth c ⟨T.setVm vm₁, locs, cells, slots⟩ { g with stack := rest } (.invokevirtual index) mk (Value.ref b :: argsL).toArray X₁ hg hsize hdg hW (X₁.named hnamed) (hpre vm₁ X₁.warmed) with ⟨v, B, X', hpost, hsteps⟩ | ⟨q, B, X', hpost, hsteps⟩
  · exact Or.inl ⟨v, vm₁, B, X₁.warmed, X', hpost, fun target h => hstep₁ _ fun acts => by rw [doInvoke_state]; exact hsteps.trans h⟩
  · exact Or.inr ⟨q, vm₁, B, X₁.warmed, X', hpost, hstep₁ _ fun acts => by rw [doInvoke_state]; exact hsteps⟩
theorem vx_callSX (X : Stand p l e R s m args below meth c T locs cells slots) (hexec : p.tables.exec = Jvm.exec) {own : String} {index : Nat} {y : MethodName} {bytes : ByteArray} {maxL : Nat} {ret : Option FieldType} {hh : List (Nat × Nat × Nat × Nat)}
    (hown : s.vm.findClass own = some m.cls) (hlink : (Cond.methodLink own index y).before args s = true) (hstat : (Cond.static y).before args s = true) (hinit : (Cond.initialized y.cls).before args s = true)
    (hcode : (Cond.codeWith y bytes maxL ret hh).before args s = true) (hy : y.cls ≠ "java/lang/invoke/MethodHandle" ∧ y.cls ≠ "java/lang/invoke/VarHandle")
    {W9 : Nat} {Pre : Pt → Array Value → Prop} {Post : Pt → Array Value → Option Value → Pt → Prop} {PostX : Pt → Array Value → Addr → Pt → Prop} (hK : vx_Back l R p e below s args y 3 W9 Pre Post PostX)
    {g : JFrame} (hg : g.method = m) (hsize : g.locals.size = c.maxLocals) {argsL rest : List Value} (hlen : ∀ sig, parseMethodDescriptor y.desc = some sig → argsL.length = sig.parameters.length)
    (hstack : g.stack = argsL.reverse ++ rest) (hW : 2 * g.monitorRoom + (rest.map fun v => v.category).sum ≤ W9) (hdg : decode c.code g.pc = .ok (.invokestatic index, 3))
    (hpre : ∀ vm₁, s.WarmedH vm₁ → Pre ⟨T.setVm vm₁, locs, cells, slots⟩ argsL.toArray) :
    (∃ (v : Option Value) (vm₁ : Vm) (B : Pt), s.WarmedH vm₁ ∧ Stand p l e R s m args below meth c B.U B.locs B.cells B.slots ∧ Post ⟨T.setVm vm₁, locs, cells, slots⟩ argsL.toArray v B ∧
      ∀ target, Steps p.tables e below (B.U.setTop { g with pc := g.pc + 3, stack := v.toList ++ rest }) target → Steps p.tables e below (T.setTop g) target) ∨
    (∃ (q : Addr) (vm₁ : Vm) (B : Pt), s.WarmedH vm₁ ∧ Stand p l e R s m args below meth c B.U B.locs B.cells B.slots ∧ PostX ⟨T.setVm vm₁, locs, cells, slots⟩ argsL.toArray q B ∧
      Steps p.tables e below (T.setTop g) ((B.U.setTop { g with stack := rest }).pushFrame (.throwing q))) := by
  obtain ⟨mk, methM, cM, hnamed, hmethM, -, -, -, -, -, -, hsigM⟩ := Cond.codeWith_spec hcode
  have hstatic : methM.isStatic = true := Cond.static_spec hnamed hmethM hstat
  obtain ⟨kP, hkP, -⟩ := className_of_methodNamed hnamed
  have hinitP : kP.init = .initialized := Cond.initialized_spec (findClass_of_methodNamed hnamed) hkP hinit
  obtain ⟨vm₁, X₁, hstep₁⟩ := X.invokestatic hexec hown hlink hnamed hmethM hstatic hkP hinitP hy (g := g) hg (argsL := argsL) (rest := rest) (hlen _ hsigM) hstack hdg
  rcases hK m meth c ⟨T.setVm vm₁, locs, cells, slots⟩ { g with stack := rest } (.invokestatic index) mk argsL.toArray X₁ hg hsize hdg hW (X₁.named hnamed) (hpre vm₁ X₁.warmed) with ⟨v, B, X', hpost, hsteps⟩ | ⟨q, B, X', hpost, hsteps⟩
  · exact Or.inl ⟨v, vm₁, B, X₁.warmed, X', hpost, fun target h => hstep₁ _ fun acts => by rw [doInvoke_state]; exact hsteps.trans h⟩
  · exact Or.inr ⟨q, vm₁, B, X₁.warmed, X', hpost, hstep₁ _ fun acts => by rw [doInvoke_state]; exact hsteps⟩
theorem vx_callVW (X : Stand p l e R s m args below meth c T locs cells slots) (hexec : p.tables.exec = Jvm.exec) {own C : String} {index : Nat} {y : MethodName} {bytes : ByteArray} {maxL : Nat} {ret : Option FieldType} {hh : List (Nat × Nat × Nat × Nat)}
    (hown : s.vm.findClass own = some m.cls) (hlink : (Cond.methodLink own index y).before args s = true) (hinst : (Cond.instanceMethod y).before args s = true) (hsel : (Cond.selects C y y).before args s = true)
    (hcode : (Cond.codeWith y bytes maxL ret hh).before args s = true) (hy : y.cls ≠ "java/lang/invoke/MethodHandle" ∧ y.cls ≠ "java/lang/invoke/VarHandle")
    {W9 : Nat} {Pre : Pt → Array Value → Prop} {Post : Pt → Array Value → Option Value → Pt → Prop} (hK : Back l R p e below s args y 3 W9 Pre Post)
    {b : Addr} {cellB : Cell} (hcell : T.heap[b]? = some cellB) (hobj : cellB.vm.isStatics = false) (hcls : s.vm.findClass C = some cellB.cls)
    {g : JFrame} (hg : g.method = m) (hsize : g.locals.size = c.maxLocals) {argsL rest : List Value} (hlen : ∀ sig, parseMethodDescriptor y.desc = some sig → argsL.length = sig.parameters.length)
    (hstack : g.stack = argsL.reverse ++ .ref b :: rest) (hW : 2 * g.monitorRoom + (rest.map fun v => v.category).sum ≤ W9) (hdg : decode c.code g.pc = .ok (.invokevirtual index, 3))
    (hpre : ∀ vm₁, s.WarmedH vm₁ → Pre ⟨T.setVm vm₁, locs, cells, slots⟩ (Value.ref b :: argsL).toArray) :
    ∃ (v : Option Value) (vm₁ : Vm) (B : Pt), s.WarmedH vm₁ ∧ Stand p l e R s m args below meth c B.U B.locs B.cells B.slots ∧ Post ⟨T.setVm vm₁, locs, cells, slots⟩ (Value.ref b :: argsL).toArray v B ∧
      ∀ target, Steps p.tables e below (B.U.setTop { g with pc := g.pc + 3, stack := v.toList ++ rest }) target → Steps p.tables e below (T.setTop g) target := by
  obtain ⟨mk, methM, hnamed, hmethM, hstM, habM⟩ := Cond.instanceMethod_spec hinst
  obtain ⟨m8, methM', cM, hn8, hmethM', -, -, -, -, -, -, hsigM⟩ := Cond.codeWith_spec hcode
  cases Option.some.inj (hn8.symm.trans hnamed)
  cases hmethM.symm.trans hmethM'
  obtain ⟨c2, r2, m2, q1, q2, q3, q4, kP, hkP, hkPi⟩ := Cond.selects_spec hsel
  cases hcls.symm.trans q1
  cases (State.methodFound?_of_named hnamed hy).symm.trans q2
  cases hnamed.symm.trans q3
  have hselP : selectMethod e.platform s.vm cellB.cls mk = .method mk := by rw [Launch.admits_selectMethod X.admits]; exact q4
  obtain ⟨vm₁, X₁, hstep₁⟩ := X.invokevirtual hexec hown hlink hnamed hmethM hstM hkP hkPi hy (a := b) (cell := cellB) hcell
    (fun z h => by rw [h] at hobj; cases hobj) hselP hmethM habM hkP hkPi (g := g) hg (argsL := argsL) (rest := rest) (hlen _ hsigM) hstack hdg
  obtain ⟨v, B, X', hpost, hsteps⟩ := hK m meth c ⟨T.setVm vm₁, locs, cells, slots⟩ { g with stack := rest } (.invokevirtual index) mk (Value.ref b :: argsL).toArray X₁ hg hsize hdg hW (X₁.named hnamed) (hpre vm₁ X₁.warmed)
  exact ⟨v, vm₁, B, X₁.warmed, X', hpost, fun target h => hstep₁ _ fun acts => by rw [doInvoke_state]; exact hsteps.trans h⟩
abbrev vx_CVW (R : Room) (s : State) (args : Array Value) (own C : String) (index : Nat) (y : MethodName) (bytes : ByteArray) (maxL : Nat) (ret : Option FieldType) (hh : List (Nat × Nat × Nat × Nat)) (ws : List Cond) (rm : Room) (mc ms n : Nat) : Prop :=
  (rm.cells = mc ∧ rm.slots = ms ∧ rm.frames + 1 ≤ R.frames ∧ 8 + (maxL + 11) + rm.locals ≤ R.locals ∧ (∀ w ∈ ws, ∀ (a' : Array Value) (U : State), s.WarmedH U.vm → w.before a' U = true) ∧ Cond.codeWith y bytes maxL ret hh ∈ ws) ∧
  (Cond.codeWith y bytes maxL ret hh).before args s = true ∧ (Cond.initialized y.cls).before args s = true ∧ (y.cls ≠ "java/lang/invoke/MethodHandle" ∧ y.cls ≠ "java/lang/invoke/VarHandle") ∧
  (∀ sig, parseMethodDescriptor y.desc = some sig → n = sig.parameters.length) ∧ (Cond.methodLink own index y).before args s = true ∧ (Cond.instanceMethod y).before args s = true ∧ (Cond.selects C y y).before args s = true
theorem vx_cwVW {own C : String} {index maxL mc ms : Nat} {y : MethodName} {bytes : ByteArray} {ret : Option FieldType} {hh : List (Nat × Nat × Nat × Nat)} {Ts ws ws' : List Cond} {rm : Room} (n : Nat) (ht : ∀ w ∈ Ts, w.before args s = true) (hT : GoodIn Ts (wsV own index C y ws)) (hw : ws = Cond.codeWith y bytes maxL ret hh :: ws') (hrc : rm.cells = mc) (hrs : rm.slots = ms)
    (hd : y.cls = C ∧ y.cls ≠ "java/lang/invoke/MethodHandle" ∧ y.cls ≠ "java/lang/invoke/VarHandle" ∧ (parseMethodDescriptor y.desc).map (fun d => d.parameters.length) = some n) (hR : rm.frames + 1 ≤ R.frames ∧ 8 + (maxL + 11) + rm.locals ≤ R.locals) :
    vx_CVW R s args own C index y bytes maxL ret hh ws rm mc ms n := by
  obtain ⟨hC, hd⟩ := hd
  subst hC
  have ok : ∀ w ∈ wsV own index y.cls y ws, w.before args s = true := fun w h => ht w (hT w h).1
  have hG : GoodIn Ts ws := fun w h => hT w (by unfold wsV; exact List.mem_append_right _ h)
  have hc : Cond.codeWith y bytes maxL ret hh ∈ ws := by rw [hw]; exact List.mem_cons_self
  refine ⟨⟨hrc, hrs, hR.1, hR.2, pay_in ht hG, hc⟩, ht _ (hG _ hc).1, ok _ (by simp [wsV]), ⟨hd.1, hd.2.1⟩, fun sig h => ?_, ok _ (by simp [wsV]), ok _ (by simp [wsV]), ok _ (by simp [wsV])⟩
  have h2 := hd.2.2
  rw [h] at h2
  exact (Option.some.inj h2).symm
theorem vx_runVW {y : MethodName} {bytes cc : ByteArray} {maxL nL mc ms n index : Nat} {ret : Option FieldType} {hh : List (Nat × Nat × Nat × Nat)} {ws : List Cond} {rm : Room} {Pc : Array Value → State → Prop} {Qc : Array Value → State → Outcome → State → Prop} {free : Addr → Prop} {Ts : List Cond} {own C : String} {b : Addr} {As rest : List Value} {g : JFrame}
    (S : CallFix p m c cc nL s args Ts own) (hM : Met l y ws rm Pc Qc mc ms free) (cw : vx_CVW R s args own C index y bytes maxL ret hh ws rm mc ms n) (hp : PreV s H C b Pc As)
    (hg : g.method = m) (hn : As.length = n) (hsize : g.locals.size = nL) (hstack : g.stack = As.reverse ++ .ref b :: rest) (hW : 2 * g.monitorRoom + (rest.map fun v => v.category).sum ≤ 8) (hdg : decode cc g.pc = .ok (.invokevirtual index, 3)) (hf : cells + mc ≤ R.cells ∧ slots + ms ≤ R.slots) :
    va_Run p l e R s m args below meth c H locs cells slots mc ms g rest (Qc (Value.ref b :: As).toArray) free := by
  obtain ⟨⟨hrc, hrs, hfr, hlo, hws, hcw⟩, hcode, hini, hy, hlen, hl, hin, hse⟩ := cw
  have hK : Back l R p e below s args y 3 8 (PreOf R mc ms Pc) (PostOf Qc mc ms free) := va_backW (hh := hh) (bytes := bytes) (maxL := maxL) (ret := ret) hM hp.1 hrc hrs hfr hlo hws hcw (fun a' U hW => word_at hW (Or.inl (by first | rfl | simp [Cond.onTables, Cond.keeps, Cond.steady])) hini)
  obtain ⟨hx, hb, hml, ho, -⟩ := S
  obtain ⟨-, ⟨cellB, hcB, hoB, hclB⟩, hPc⟩ := hp
  intro T hT X
  obtain ⟨v, vm₁, ⟨U', l2, c2, s2⟩, hW₁, X', ⟨g', mk, t, L, e1, e2, hq, h1, hL, h2, h3⟩, st⟩ := vx_callVW X hx (C := C) (hh := hh) (bytes := bytes) (maxL := maxL) (ret := ret) ho hl hin hse hcode hy hK (by rw [hT]; exact hcB) hoB hclB hg (hsize.trans hml.symm) (argsL := As) (rest := rest) (fun sig h => hn.trans (hlen sig h)) hstack hW (by rw [hb]; exact hdg)
    (fun vm₁ hW₁ => ⟨hf.1, hf.2, hPc (T.setVm vm₁) hT hW₁⟩)
  dsimp only [Pt.U, Pt.locs, Pt.cells, Pt.slots] at X' e1 e2 h1 h2 h3 st
  subst h1; subst h2; subst h3
  exact ⟨v, (T.setVm vm₁).calling g' mk (Value.ref b :: As).toArray, t, U', L, hT, X', hL, e1, e2, hq, st⟩
section
variable {y : MethodName} {bytes cc : ByteArray} {maxL nL mc ms n index : Nat} {ret : Option FieldType} {ws : List Cond} {rm : Room} {Pc : Array Value → State → Prop} {Qc : Array Value → State → Outcome → State → Prop} {XC : String → State → State → Prop} {free : Addr → Prop} {Ts : List Cond} {own C : String} {b : Addr} {As rest : List Value} {g : JFrame}
theorem vx_runVX {hh : List (Nat × Nat × Nat × Nat)} (S : CallFix p m c cc nL s args Ts own) (hM : vx_Met l y ws rm Pc Qc XC mc ms free) (cw : vx_CVW R s args own C index y bytes maxL ret hh ws rm mc ms n) (hp : PreV s H C b Pc As)
    (hg : g.method = m) (hn : As.length = n) (hsize : g.locals.size = nL) (hstack : g.stack = As.reverse ++ .ref b :: rest) (hW : 2 * g.monitorRoom + (rest.map fun v => v.category).sum ≤ 8) (hdg : decode cc g.pc = .ok (.invokevirtual index, 3)) (hf : cells + mc ≤ R.cells ∧ slots + ms ≤ R.slots) :
    vx_Run p l e R s m args below meth c H locs cells slots mc ms g rest (Qc (Value.ref b :: As).toArray) XC free := by
  obtain ⟨⟨hrc, hrs, hfr, hlo, hws, hcw⟩, hcode, hini, hy, hlen, hl, hin, hse⟩ := cw
  have hK : vx_Back l R p e below s args y 3 8 (PreOf R mc ms Pc) (PostOf Qc mc ms free) (vx_Post XC mc ms free) := vx_backW (hh := hh) (bytes := bytes) (maxL := maxL) (ret := ret) hM hp.1 hrc hrs hfr hlo hws hcw (fun a' U hW => word_at hW (Or.inl (by first | rfl | simp [Cond.onTables, Cond.keeps, Cond.steady])) hini)
  obtain ⟨hx, hb, hml, ho, -⟩ := S
  obtain ⟨-, ⟨cellB, hcB, hoB, hclB⟩, hPc⟩ := hp
  intro T hT X
  rcases vx_callVX X hx (C := C) (hh := hh) (bytes := bytes) (maxL := maxL) (ret := ret) ho hl hin hse hcode hy hK (by rw [hT]; exact hcB) hoB hclB hg (hsize.trans hml.symm) (argsL := As) (rest := rest) (fun sig h => hn.trans (hlen sig h)) hstack hW (by rw [hb]; exact hdg)
    (fun vm₁ hW₁ => ⟨hf.1, hf.2, hPc (T.setVm vm₁) hT hW₁⟩) with ⟨v, vm₁, ⟨U', l2, c2, s2⟩, hW₁, X', ⟨g', mk, t, L, e1, e2, hq, h1, hL, h2, h3⟩, st⟩ | ⟨q, vm₁, ⟨U', l2, c2, s2⟩, hW₁, X', ⟨g', mk, t, L, E, ce, e1, e2, hq, hce, hcv, hcl, h1, hL, h2, h3⟩, st⟩
  · dsimp only [Pt.U, Pt.locs, Pt.cells, Pt.slots] at X' e1 e2 h1 h2 h3 st
    subst h1; subst h2; subst h3
    exact Or.inl ⟨v, (T.setVm vm₁).calling g' mk (Value.ref b :: As).toArray, t, U', L, hT, X', hL, e1, e2, hq, st⟩
  · dsimp only [Pt.U, Pt.locs, Pt.cells, Pt.slots] at X' e1 e2 h1 h2 h3 st hcl
    subst h1; subst h2; subst h3
    exact Or.inr ⟨q, (T.setVm vm₁).calling g' mk (Value.ref b :: As).toArray, t, U', L, E, ce, hT, X', hL, e1, e2, hq, hce, hcv, vx_cls hW₁ hcl, st⟩
theorem vx_runSX {hh : List (Nat × Nat × Nat × Nat)} (S : CallFix p m c cc nL s args Ts own) (hM : vx_Met l y ws rm Pc Qc XC mc ms free) (cw : vx_CSW R s args own index y bytes maxL ret hh ws rm mc ms n) (hp : PreS s H Pc As)
    (hg : g.method = m) (hn : As.length = n) (hsize : g.locals.size = nL) (hstack : g.stack = As.reverse ++ rest) (hW : 2 * g.monitorRoom + (rest.map fun v => v.category).sum ≤ 8) (hdg : decode cc g.pc = .ok (.invokestatic index, 3)) (hf : cells + mc ≤ R.cells ∧ slots + ms ≤ R.slots) :
    vx_Run p l e R s m args below meth c H locs cells slots mc ms g rest (Qc As.toArray) XC free := by
  obtain ⟨⟨hrc, hrs, hfr, hlo, hws, hcw⟩, hcode, hini, hy, hlen, hl, hstt⟩ := cw
  have hK : vx_Back l R p e below s args y 3 8 (PreOf R mc ms Pc) (PostOf Qc mc ms free) (vx_Post XC mc ms free) := vx_backW (hh := hh) (bytes := bytes) (maxL := maxL) (ret := ret) hM hp.1 hrc hrs hfr hlo hws hcw (fun a' U hW => word_at hW (Or.inl (by first | rfl | simp [Cond.onTables, Cond.keeps, Cond.steady])) hini)
  obtain ⟨hx, hb, hml, ho, -⟩ := S
  intro T hT X
  rcases vx_callSX X hx (hh := hh) (bytes := bytes) (maxL := maxL) (ret := ret) ho hl hstt hini hcode hy hK hg (hsize.trans hml.symm) (argsL := As) (rest := rest) (fun sig h => hn.trans (hlen sig h)) hstack hW (by rw [hb]; exact hdg)
    (fun vm₁ hW₁ => ⟨hf.1, hf.2, hp.2 (T.setVm vm₁) hT hW₁⟩) with ⟨v, vm₁, ⟨U', l2, c2, s2⟩, hW₁, X', ⟨g', mk, t, L, e1, e2, hq, h1, hL, h2, h3⟩, st⟩ | ⟨q, vm₁, ⟨U', l2, c2, s2⟩, hW₁, X', ⟨g', mk, t, L, E, ce, e1, e2, hq, hce, hcv, hcl, h1, hL, h2, h3⟩, st⟩
  · dsimp only [Pt.U, Pt.locs, Pt.cells, Pt.slots] at X' e1 e2 h1 h2 h3 st
    subst h1; subst h2; subst h3
    exact Or.inl ⟨v, (T.setVm vm₁).calling g' mk As.toArray, t, U', L, hT, X', hL, e1, e2, hq, st⟩
  · dsimp only [Pt.U, Pt.locs, Pt.cells, Pt.slots] at X' e1 e2 h1 h2 h3 st hcl
    subst h1; subst h2; subst h3
    exact Or.inr ⟨q, (T.setVm vm₁).calling g' mk As.toArray, t, U', L, E, ce, hT, X', hL, e1, e2, hq, hce, hcv, vx_cls hW₁ hcl, st⟩
end
end VXH
theorem vx_ofWH {l : Launch} {y : MethodName} {ws ws' : List Cond} {rm : Room} {Pc : Array Value → State → Prop} {Qc : Array Value → State → Outcome → State → Prop} {XC : String → State → State → Prop} {mc ms : Nat} {free : Addr → Prop} {cc : ByteArray} {maxL : Nat} {ret : Option FieldType} {hh : List (Nat × Nat × Nat × Nat)}
    (hy : plainName y.cls = true) (hw : ws = Cond.codeWith y cc maxL ret hh :: ws')
    (body : ∀ p e s m args below meth c s₁, BodyLoose p l y (headSpec ws rm) cc maxL ret e s m args below meth c s₁ → c.maxLocals = maxL → Pc args s →
      W p l e (headSpec ws rm).room s m args below meth c s.heap [] 0 0 (vx_MQ below Qc XC args s mc ms free) (entryFrame m args maxL)) : vx_Met l y ws rm Pc Qc XC mc ms free := by
  refine MetFree.of_bodyS (code := cc) (maxLocals := maxL) (ret := ret) hy ?_ ?_
  · intro args s m h hn
    obtain ⟨m9, meth, c, hn9, h1, h2, h3, h4, -, h5, h6, -⟩ := Cond.codeWith_spec (atoms_spec (ws := ws) h _ (by rw [hw]; exact List.mem_cons_self))
    cases hn.symm.trans hn9
    exact ⟨meth, c, h1, h2, h3, h4, h5, h6⟩
  · intro p e s m args below meth c s₁ B hml hP _
    have hh0 : s₁.heap = s.heap := by rw [B.state]; rfl
    obtain ⟨t, a1, o, b1, b2, b3⟩ := body p e s m args below meth c s₁ B hml hP s₁ hh0 (Stand.of_body B)
    exact ⟨t, o, a1, b1, b2, b3⟩
/-! ===== END ===== -/

/-! ===== BEGIN what the machine throws by itself, no traces kept ===== -/
section VXM
set_option maxHeartbeats 1000000 in
/-- the machine throws cls with the message text, no traces kept: from its note over the frame g to 'throwing' over the same frame (follows the proofs of Stand.vmThrowsMessage, Shelf/KitTracedVmS.lean, and Stand.throwsMessageColdBareV, StandMessageColdV.lean, without the step out of the frame) -/
theorem vx_vmAt {p : Program} {l : Launch} {e : Env} {R : Room} {s : State} {m₀ : MethodId} {args : Array Value} {below : List Frame} {meth : Method} {c : Code} {W : State} {locs : List Loc} {cells slots : Nat}
    (X : Stand p l e R s m₀ args below meth c W locs cells slots) (hexec : p.tables.exec = Jvm.exec) (htr : e.platform.stackTraces = false) {cls : String} {names : List String} {text : String}
    (hcls : Bundle.fit cls = true) (hnames : ∀ n ∈ names, Bundle.fit n = true) (hsoe : (cls == "java/lang/StackOverflowError") = false) (hoom : (cls == "java/lang/OutOfMemoryError") = false)
    (h : ∀ a ∈ Bundle.messageArmAtoms cls names, a.before args s = true)
    (hlocs : ∀ x ∈ locs, ∀ cell, s.heap[x.base]? = some cell → cell.vm.isStatics = false)
    (htext : (text == notModelled) = false) (hlimit : ¬ (stringBytes (stringToUtf16 text)).size > e.platform.arrayLengthLimit) (hheap : ¬ (stringBytes (stringToUtf16 text)).size * componentBytes .byte > e.platform.maxHeapBytes)
    {g : JFrame} (hg : g.method = m₀) (hsize : g.locals.size = c.maxLocals)
    (hRframes : names.length + 4 < R.frames) (hRlocals : 2 * g.monitorRoom + (g.stack.map fun v => v.category).sum + 10240 ≤ R.locals) (hshort : 13 * names.length + 55 ≤ 10240)
    (hRcells : cells + 3 ≤ R.cells) (hRslots : slots + ((stringBytes (stringToUtf16 text)).size + 4 + 6) ≤ R.slots) (hlocks : meth.locks = false) :
    ∃ (S : State) (q : Addr) (ce : Cell), (∀ target, Steps p.tables e below ((S.setTop g).pushFrame (.throwing q)) target → Steps p.tables e below ((W.setTop g).pushFrame (.throwNew cls (some text) none)) target) ∧
      Stand p l e R s m₀ args below meth c S locs (cells + 3) (slots + ((stringBytes (stringToUtf16 text)).size + 4 + 6)) ∧ S.heap[q]? = some ce ∧ s.vm.findClass cls = some ce.cls ∧ ce.vm = .none := by
  have howns : e.platform.frameOwnsMonitors = true := by rw [X.admits.platform]
  have hfin : e.platform.finalization = false := by rw [X.admits.platform]
  have hpl : e.platform.magicAccessors = ({} : Platform).magicAccessors := by rw [X.admits.platform]
  have a : ∀ x, x ∈ Bundle.messageArmAtoms cls names → x.holds args s none s [] = true := fun x hx => h x hx
  obtain ⟨T, Z0, L, -, Y⟩ := ThrowableC.of_atoms (args := args) howns hfin hpl (fun x hx => h x (by simp [Bundle.messageArmAtoms, hx]))
  obtain ⟨Z, M, LZ, LM, hnZ⟩ := Init0T.ofS_atoms (args := args) hpl L Y (fun x hx => h x (by simp [Bundle.messageArmAtoms, hx]))
  obtain ⟨P1, Ps, hlen, L1, hL, hP1m, hlink1, hlink⟩ := Bundle.chainS (args := args) hpl hnZ names cls hcls hnames (fun x hx => h x (by simp [Bundle.messageArmAtoms, hx]))
  obtain ⟨Zs, LZs, hn4, hfitv, hfitc⟩ := StringT.of_atoms (args := args) (fun x hx => h x (by simp [Bundle.messageArmAtoms, hx]))
  have hfound : s.vm.findClass cls = some P1.m.cls := findClass_of_methodNamed hP1m
  obtain ⟨c1, kX, hc1, hk, hord, -, -, hn6⟩ := Cond.instantiable_spec (a (.instantiable cls 6) (by simp [Bundle.messageArmAtoms]))
  cases Option.some.inj (hc1.symm.trans hfound)
  have hinit := Cond.initialized_spec hfound hk (a (.initialized cls) (by simp [Bundle.messageArmAtoms]))
  have hctor : kX.findMethod "<init>" "(Ljava/lang/String;)V" = some P1.m.idx := findMethod_of_methodNamed hP1m hk
  have hsel0 : selectMethod e.platform s.vm P1.m.cls T.fill0 = .method T.fill0 := by
    obtain ⟨c2, r2, m2, q1, q2, q3, q4, -⟩ := Cond.selects_spec (a (.selects cls Bundle.tFill0 Bundle.tFill0) (by simp [Bundle.messageArmAtoms]))
    cases Option.some.inj (q1.symm.trans hfound)
    cases Option.some.inj (q2.symm.trans (State.methodFound?_of_named Y.fill0 (by decide)))
    cases Option.some.inj (q3.symm.trans Y.fill0)
    rw [Launch.admits_selectMethod X.admits]; exact q4
  have hselF : selectMethod e.platform s.vm P1.m.cls T.fill = .method T.fill := by
    obtain ⟨c2, r2, m2, q1, q2, q3, q4, -⟩ := Cond.selects_spec (a (.selects cls Bundle.tFill Bundle.tFill) (by simp [Bundle.messageArmAtoms]))
    cases Option.some.inj (q1.symm.trans hfound)
    cases Option.some.inj (q2.symm.trans (State.methodFound?_of_named Y.fill (by decide)))
    cases Option.some.inj (q3.symm.trans Y.fill)
    rw [Launch.admits_selectMethod X.admits]; exact q4
  obtain ⟨cellS0, hcS0, hiss⟩ := Y.statics
  obtain ⟨u0, hu0⟩ := Cond.staticRefV Y.unassigned L.unassignedStatic L.statics hcS0 hiss (a (.isRef (.static Bundle.tN "UNASSIGNED_STACK" Bundle.steD)) (by simp [Bundle.messageArmAtoms]))
  obtain ⟨sen, hsen⟩ := Cond.staticRefV Y.sentinel L.sentinelStatic L.statics hcS0 hiss (a (.isRef (.static Bundle.tN "SUPPRESSED_SENTINEL" Bundle.listD)) (by simp [Bundle.messageArmAtoms]))
  obtain ⟨ci198, i198, fB, hk198, hg198, ha198, hsB, -, hnB, htB, hffB⟩ := Cond.ownField (t := .object "java/lang/Object") Y.found L.cls (by decide +kernel) (a (.fieldLink Bundle.tN 198 Bundle.tN "backtrace" "Ljava/lang/Object;") (by simp [Bundle.messageArmAtoms])) (a (.lays Bundle.tN Bundle.tN "backtrace" "Ljava/lang/Object;") (by simp [Bundle.messageArmAtoms])) e.platform hpl
  obtain ⟨cellS, hcS', heS, -, hkeep⟩ := X.same.2.2.2.2.2 T.aS cellS0 hcS0
  have hcellS : W.heap[T.aS]? = some cellS := hcS'
  have hout' : ∀ i, (⟨T.aS, i⟩ : Loc) ∉ locs := fun i hmem => by
    have := hlocs _ hmem cellS0 hcS0
    rw [hiss] at this; cases this
  have hknownS : cellS.vm ≠ .unknown := by
    rw [heS]; intro hu
    rw [show cellS0.vm = .unknown from hu] at hiss
    cases hiss
  have hvU : cellS.slots[T.fUnassigned.slot]? = some u0.v := by rw [hkeep _ (hout' _)]; exact hu0
  have hvSen : cellS.slots[T.fSentinel.slot]? = some sen.v := by rw [hkeep _ (hout' _)]; exact hsen
  obtain ⟨iM, hffM⟩ := Y.msg
  obtain ⟨tyC, dC, hdC, hdnC⟩ := Cond.laysAt hfound hk Y.cause (a (.lays cls Bundle.tN "cause" "Ljava/lang/Throwable;") (by simp [Bundle.messageArmAtoms]))
  obtain ⟨tyS, dS, hdS, hdnS⟩ := Cond.laysAt hfound hk Y.stack (a (.lays cls Bundle.tN "stackTrace" Bundle.steD) (by simp [Bundle.messageArmAtoms]))
  obtain ⟨tyP, dP, hdP, hdnP⟩ := Cond.laysAt hfound hk Y.supp (a (.lays cls Bundle.tN "suppressedExceptions" Bundle.listD) (by simp [Bundle.messageArmAtoms]))
  obtain ⟨tyM, dM, hdM, hdnM⟩ := Cond.laysAt hfound hk hffM (a (.lays cls Bundle.tN "detailMessage" "Ljava/lang/String;") (by simp [Bundle.messageArmAtoms]))
  obtain ⟨tyB, dB, hdB, hdnB⟩ := Cond.laysAt hfound hk hffB (a (.lays cls Bundle.tN "backtrace" "Ljava/lang/Object;") (by simp [Bundle.messageArmAtoms]))
  have bC := Cond.laysApart hdB hdC hdnB hdnC (by rw [hnB, Y.causeName]; decide)
  have bS := Cond.laysApart hdB hdS hdnB hdnS (by rw [hnB, Y.stackName]; decide)
  have bP := Cond.laysApart hdB hdP hdnB hdnP (by rw [hnB, Y.suppName]; decide)
  have hbk : ((preparedCellV T.toThrowableT (freshCell P1.m.cls kX) (W.heap.size + 2) u0 sen).withEntry W.cur).slots[fB.slot]? = some .null := by
    have := fresh_default (c := P1.m.cls) tyB
    rw [htB] at this
    simpa [preparedCellV, Cell.setSlot, Cell.withEntry, Array.getElem?_setIfInBounds, bC, bS, bP, bC.symm, bS.symm, bP.symm, defaultValue] using this
  have tkC := Takes.of_laid (v := .ref (W.heap.size + 2)) hk hord tyC (by rw [Y.causeType]; rfl)
  have tkS := Takes.of_laid (v := u0.v) hk hord tyS (by rw [Y.stackType]; exact fits_refV_array _ u0)
  have tkP := Takes.of_laid (v := sen.v) hk hord tyP (by rw [Y.suppType]; exact fits_refV_object _ sen)
  have tkM := Takes.of_laid (v := .ref (W.heap.size + 1)) hk hord tyM (by rw [Y.msgType]; rfl)
  have hskip : SkipFacts T e.platform s (fun u => u) u0 ((preparedCellV T.toThrowableT (freshCell P1.m.cls kX) (W.heap.size + 2) u0 sen).withEntry W.cur) := ⟨{ ci198 := ci198, i198 := i198, fBack := fB }, ⟨hk198, hg198, ha198, hsB⟩, hbk, fun _ _ => rfl⟩
  have h0 : At W g.method c below := by rw [hg]; exact X.here
  obtain ⟨hbeyond, hfreeW⟩ := X.vmMayThrow hsize (.throwNew cls (some text) none) (fun f hf => by cases hf) rfl hRlocals
  have hfr' : W.frames.length + Ps.length + 4 < (e.platform.stackLimits W.me).1 := by have := X.framesAbove hRframes; omega
  have hwd' : (stackUse (.java g :: W.frames.tail)).2 + 13 * Ps.length + 55 ≤ (e.platform.stackLimits W.me).2 := by have := X.stackAbove hsize (K := 13 * Ps.length + 55) (by omega); omega
  have hslots : W.slotsUsed + (stringBytes (stringToUtf16 text)).size + Zs.kS.instanceTypes.size + kX.instanceTypes.size ≤ e.platform.maxSlots := by
    have := X.slotsAbove hRslots
    rw [hn4, hn6]
    omega
  obtain ⟨vm', hW', st⟩ := Steps.vmThrowsMessageColdByV p (s₀ := s) (S := W) (g := g) h0 hexec T L Z LZ M LM X.warmed (t := W.cur) rfl Zs LZs P1 L1 Ps hL hlink1 hlink hsoe hoom hfound hk hinit hord hctor
    (Launch.admits_hotImplicitExceptions X.admits) hbeyond hfreeW htext hlimit hheap (X.cellsAbove hRcells) hslots (hfitv _) (hfitc _)
    (Nn := fun u => u) heapOnly_id (fun _ _ => rfl) (fun _ => rfl) (fun u x y => setCell_twice _ _ _ _) (fun _ => Nat.le_refl _) (cN := ((preparedCellV T.toThrowableT (freshCell P1.m.cls kX) (W.heap.size + 2) u0 sen).withEntry W.cur))
    hsel0 hcellS hknownS hvU tkS (fun _ hu => hu) (fun _ hu => hu) rfl rfl rfl (by simp [preparedCellV, Cell.setSlot, Cell.withEntry]) hskip (fun _ _ hA hW _ hroom _ hrest => L.nativeOff p htr hA hW hroom hrest) hselF hvSen tkC tkP tkM Y.objLocals rfl hfr' hwd'
  rw [plainBareV_eq T.toThrowableT (W.heap.size + 2) u0 sen (.ref (W.heap.size + 1)) W.cur rfl rfl] at st
  obtain ⟨-, -, w3, w4, -, -, -⟩ := withThrown_facts e.platform W Zs text P1.m.cls kX
  have X3 := ((X.pushed (bytesOf Zs.cB (stringToUtf16 text))).pushed (stringAt Zs.cS Zs.kS Zs.fv Zs.fc (stringToUtf16 text) W.heap.size)).pushed (freshCell P1.m.cls kX)
  rw [← withString_eq] at X3
  have X4 := X3.noted hW'
  have ha : (W.heap.size + 2) < ((withThrown W Zs text P1.m.cls kX).setVm vm').heap.size := by show _ < (withThrown W Zs text P1.m.cls kX).heap.size; rw [w3]; omega
  have hcell : ((withThrown W Zs text P1.m.cls kX).setVm vm').heap[(W.heap.size + 2)]? = some (freshCell P1.m.cls kX) := w4
  have X5 := ((((X4.stored hcell T.fCause.slot (.ref (W.heap.size + 2))).storedAgain ha T.fStack.slot u0.v).storedAgain ha T.fSupp.slot sen.v).storedAgain ha T.fStack.slot u0.v).storedAgain ha T.fMsg.slot (.ref (W.heap.size + 1))
  obtain ⟨g₁, hfrM⟩ := X5.frames_eq
  have hU : ((((withThrown W Zs text P1.m.cls kX).setVm vm').setCell (W.heap.size + 2) (plainBareV T.toThrowableT (freshCell P1.m.cls kX) (W.heap.size + 2) u0 sen (.ref (W.heap.size + 1)))).setTop g).pushFrame (.throwing (W.heap.size + 2)) = (((withThrown W Zs text P1.m.cls kX).setVm vm').setCell (W.heap.size + 2) (plainBareV T.toThrowableT (freshCell P1.m.cls kX) (W.heap.size + 2) u0 sen (.ref (W.heap.size + 1)))).setFrames (.throwing (W.heap.size + 2) :: .java g :: below) := by
    rw [State.pushFrame, State.frames_setTop _ hfrM, State.setTop_of_frames _ hfrM, State.setFrames_setFrames]
  have b1 : (bytesOf Zs.cB (stringToUtf16 text)).slots.size = (stringBytes (stringToUtf16 text)).size := by
    rw [(Cell.writeAll_facts _ _).2.2]; simp [bytes0]
  have b2 : (stringAt Zs.cS Zs.kS Zs.fv Zs.fc (stringToUtf16 text) W.heap.size).slots.size = 4 := by simp [string0, Cell.setSlot, hn4]
  have b3 : (freshCell P1.m.cls kX).slots.size = 6 := by simp [hn6]
  rw [b1, b2, b3] at X5
  have e9 : slots + (stringBytes (stringToUtf16 text)).size + 4 + 6 = slots + ((stringBytes (stringToUtf16 text)).size + 4 + 6) := by omega
  rw [e9] at X5
  simp only [List.append_assoc, List.cons_append, List.nil_append] at X5
  refine ⟨((withThrown W Zs text P1.m.cls kX).setVm vm').setCell (W.heap.size + 2) (plainBareV T.toThrowableT (freshCell P1.m.cls kX) (W.heap.size + 2) u0 sen (.ref (W.heap.size + 1))), W.heap.size + 2, _, fun target ht => st _ (by rw [X.tail, ← hU]; exact ht),
    X5.forget (fun y hy => ?_), heapAt_setCell_self _ ha, hfound, rfl⟩
  simp only [List.mem_cons, List.not_mem_nil, or_false] at hy
  have hge : s.heap.size ≤ W.heap.size := X.same.2.1
  rcases hy with rfl | rfl | rfl | rfl | rfl <;> exact Nat.le_trans hge (Nat.le_add_right _ 2)
set_option maxHeartbeats 1000000 in
/-- the machine throws NullPointerException, no traces kept: from its note over the frame g to 'throwing' over the same frame (follows the proof of Stand.vmThrowsNpe, Shelf42/KT2.lean; throwsNpeColdBareVAt, Shelf42/NT91.lean, called) -/
theorem vx_npeAt {p : Program} {l : Launch} {e : Env} {R : Room} {s : State} {m₀ : MethodId} {args : Array Value} {below : List Frame} {meth : Method} {c : Code} {W : State} {locs : List Loc} {cells slots : Nat}
    (X : Stand p l e R s m₀ args below meth c W locs cells slots) (hexec : p.tables.exec = Jvm.exec) (htr : e.platform.stackTraces = false) {n : Nat}
    (h : ∀ a ∈ Bundle.npeArmAtoms n, a.before args s = true)
    (hlocs : ∀ x ∈ locs, ∀ cell, s.heap[x.base]? = some cell → cell.vm.isStatics = false)
    {g : JFrame} (hg : g.method = m₀) (hsize : g.locals.size = c.maxLocals)
    (hRframes : 7 < R.frames) (hRlocals : 2 * g.monitorRoom + (g.stack.map fun v => v.category).sum + 10240 ≤ R.locals)
    (hRcells : cells + 1 ≤ R.cells) (hRslots : slots + n ≤ R.slots) (hlocks : meth.locks = false) :
    ∃ (S : State) (q : Addr) (ce : Cell), (∀ target, Steps p.tables e below ((S.setTop g).pushFrame (.throwing q)) target → Steps p.tables e below ((W.setTop g).pushFrame (.throwNew "java/lang/NullPointerException" none none)) target) ∧
      Stand p l e R s m₀ args below meth c S locs (cells + 1) (slots + n) ∧ S.heap[q]? = some ce ∧ s.vm.findClass "java/lang/NullPointerException" = some ce.cls ∧ ce.vm = .none := by
  have howns : e.platform.frameOwnsMonitors = true := by rw [X.admits.platform]
  have hfin : e.platform.finalization = false := by rw [X.admits.platform]
  have hpl : e.platform.magicAccessors = ({} : Platform).magicAccessors := by rw [X.admits.platform]
  have hpl2 : e.platform.arrayCloneIsPublic = true := by rw [X.admits.platform]
  have a' : ∀ x, x ∈ Bundle.npeArmAtoms n → x.holds args s none s [] = true := fun x hx => h x hx
  obtain ⟨T, Z, L, LZ, Y⟩ := ThrowableC.of_atoms (args := args) howns hfin hpl (fun x hx => h x (by simp [Bundle.npeArmAtoms, hx]))
  obtain ⟨N, LN, hcN, hnNF, hordN, hffS⟩ := NpeC.of_atoms (args := args) hpl hpl2 L Y (fun x hx => h x (by simp [Bundle.npeArmAtoms, hx]))
  obtain ⟨P1, L1, hP1m, hP1s⟩ := PassC.of_atoms (args := args) (s := s) hpl (X := Bundle.nN) (Y := Bundle.rN) (by decide) (by decide) LibCode.NullPointerException.Init0.at_0 LibCode.NullPointerException.Init0.at_1 LibCode.NullPointerException.Init0.at_4 (fun x hx => h x (by simp [Bundle.npeArmAtoms, hx]))
  obtain ⟨PR, LR, hPRm, hPRs⟩ := PassC.of_atoms (args := args) (s := s) hpl (X := Bundle.rN) (Y := Bundle.eN) (by decide) (by decide) LibCode.RuntimeException.Init0.at_0 LibCode.RuntimeException.Init0.at_1 LibCode.RuntimeException.Init0.at_4 (fun x hx => h x (by simp [Bundle.npeArmAtoms, hx]))
  obtain ⟨PE, LEx, hPEm, hPEs⟩ := PassC.of_atoms (args := args) (s := s) hpl (X := Bundle.eN) (Y := Bundle.tN) (by decide) (by decide) LibCode.Exception.Init0.at_0 LibCode.Exception.Init0.at_1 LibCode.Exception.Init0.at_4 (fun x hx => h x (by simp [Bundle.npeArmAtoms, hx]))
  have hfound : s.vm.findClass Bundle.nN = some P1.m.cls := findClass_of_methodNamed hP1m
  have ecls : N.cN = P1.m.cls := Option.some.inj (hcN.symm.trans hfound)
  have hk : s.vm.classes[P1.m.cls]? = some N.kN := by rw [← ecls]; exact LN.cls
  have hinit := Cond.initialized_spec hfound hk (a' (.initialized Bundle.nN) (by simp [Bundle.npeArmAtoms]))
  have hctor : N.kN.findMethod "<init>" "()V" = some P1.m.idx := findMethod_of_methodNamed hP1m hk
  obtain ⟨c1, k1, hc1, hk1, -, -, -, hn⟩ := Cond.instantiable_spec (a' (.instantiable Bundle.nN n) (by simp [Bundle.npeArmAtoms]))
  cases Option.some.inj (hc1.symm.trans hfound)
  cases Option.some.inj (hk1.symm.trans hk)
  have hfsz : (freshCell P1.m.cls N.kN).slots.size = n := by simp [hn]
  have hlink1 : P1.sup = PR.m := Option.some.inj (hP1s.symm.trans hPRm)
  have hlinkR : PR.sup = PE.m := Option.some.inj (hPRs.symm.trans hPEm)
  have hlinkE : PE.sup = Z.m T.toThrowableT := Option.some.inj (hPEs.symm.trans Y.init0)
  have hLs : ∀ P, P ∈ [PR, PE] → P.Links0 e.platform s := fun P hP => by
    simp only [List.mem_cons, List.not_mem_nil, or_false] at hP
    rcases hP with rfl | rfl
    · exact LR
    · exact LEx
  have hsel0 : selectMethod e.platform s.vm P1.m.cls T.fill0 = .method T.fill0 := by
    obtain ⟨c2, r2, m2, q1, q2, q3, q4, -⟩ := Cond.selects_spec (a' (.selects Bundle.nN Bundle.tFill0 Bundle.tFill0) (by simp [Bundle.npeArmAtoms]))
    cases Option.some.inj (q1.symm.trans hfound)
    cases Option.some.inj (q2.symm.trans (State.methodFound?_of_named Y.fill0 (by decide)))
    cases Option.some.inj (q3.symm.trans Y.fill0)
    rw [Launch.admits_selectMethod X.admits]; exact q4
  have hselF : selectMethod e.platform s.vm P1.m.cls T.fill = .method N.fill := by
    obtain ⟨c2, r2, m2, q1, q2, q3, q4, -⟩ := Cond.selects_spec (a' (.selects Bundle.nN Bundle.tFill Bundle.nFill) (by simp [Bundle.npeArmAtoms]))
    cases Option.some.inj (q1.symm.trans hfound)
    cases Option.some.inj (q2.symm.trans (State.methodFound?_of_named Y.fill (by decide)))
    cases Option.some.inj (q3.symm.trans hnNF)
    rw [Launch.admits_selectMethod X.admits]; exact q4
  obtain ⟨cellS0, hcS0, hiss⟩ := Y.statics
  obtain ⟨u0, hu0⟩ := Cond.staticRefV Y.unassigned L.unassignedStatic L.statics hcS0 hiss (a' (.isRef (.static Bundle.tN "UNASSIGNED_STACK" Bundle.steD)) (by simp [Bundle.npeArmAtoms]))
  obtain ⟨sen, hsen⟩ := Cond.staticRefV Y.sentinel L.sentinelStatic L.statics hcS0 hiss (a' (.isRef (.static Bundle.tN "SUPPRESSED_SENTINEL" Bundle.listD)) (by simp [Bundle.npeArmAtoms]))
  obtain ⟨ci198, i198, fB, hk198, hg198, ha198, hsB, -, hnB, htB, hffB⟩ := Cond.ownField (t := .object "java/lang/Object") Y.found L.cls (by decide +kernel) (a' (.fieldLink Bundle.tN 198 Bundle.tN "backtrace" Bundle.objD) (by simp [Bundle.npeArmAtoms])) (a' (.lays Bundle.tN Bundle.tN "backtrace" Bundle.objD) (by simp [Bundle.npeArmAtoms])) e.platform hpl
  obtain ⟨cellS, hcS', heS, -, hkeep⟩ := X.same.2.2.2.2.2 T.aS cellS0 hcS0
  have hcellS : W.heap[T.aS]? = some cellS := hcS'
  have hout' : ∀ i, (⟨T.aS, i⟩ : Loc) ∉ locs := fun i hmem => by
    have := hlocs _ hmem cellS0 hcS0
    rw [hiss] at this; cases this
  have hknownS : cellS.vm ≠ .unknown := by
    rw [heS]; intro hu
    rw [show cellS0.vm = .unknown from hu] at hiss
    cases hiss
  have hvU : cellS.slots[T.fUnassigned.slot]? = some u0.v := by rw [hkeep _ (hout' _)]; exact hu0
  have hvSen : cellS.slots[T.fSentinel.slot]? = some sen.v := by rw [hkeep _ (hout' _)]; exact hsen
  obtain ⟨tyC, dC, hdC, hdnC⟩ := Cond.laysAt hfound hk Y.cause (a' (.lays Bundle.nN Bundle.tN "cause" "Ljava/lang/Throwable;") (by simp [Bundle.npeArmAtoms]))
  obtain ⟨tyS, dS, hdS, hdnS⟩ := Cond.laysAt hfound hk Y.stack (a' (.lays Bundle.nN Bundle.tN "stackTrace" Bundle.steD) (by simp [Bundle.npeArmAtoms]))
  obtain ⟨tyP, dP, hdP, hdnP⟩ := Cond.laysAt hfound hk Y.supp (a' (.lays Bundle.nN Bundle.tN "suppressedExceptions" Bundle.listD) (by simp [Bundle.npeArmAtoms]))
  obtain ⟨tyX, dX, hdX, hdnX⟩ := Cond.laysAt hfound hk hffS (a' (.lays Bundle.nN Bundle.nN "extendedMessageState" "I") (by simp [Bundle.npeArmAtoms, Bundle.npeAtoms]))
  obtain ⟨hnX, htX⟩ := State.fieldFound?_type hffS (t := .int) (by decide +kernel)
  have xC := Cond.laysApart hdC hdX hdnC hdnX (by rw [hnX, Y.causeName]; decide)
  have xS := Cond.laysApart hdS hdX hdnS hdnX (by rw [hnX, Y.stackName]; decide)
  have xP := Cond.laysApart hdP hdX hdnP hdnX (by rw [hnX, Y.suppName]; decide)
  have hv0 : (freshCell P1.m.cls N.kN).slots[N.fState.slot]? = some (.int 0) := by
    have := fresh_default (c := P1.m.cls) tyX
    rw [htX] at this; exact this
  obtain ⟨tyB, dB, hdB, hdnB⟩ := Cond.laysAt hfound hk hffB (a' (.lays Bundle.nN Bundle.tN "backtrace" Bundle.objD) (by simp [Bundle.npeArmAtoms]))
  have bC := Cond.laysApart hdB hdC hdnB hdnC (by rw [hnB, Y.causeName]; decide)
  have bS := Cond.laysApart hdB hdS hdnB hdnS (by rw [hnB, Y.stackName]; decide)
  have bP := Cond.laysApart hdB hdP hdnB hdnP (by rw [hnB, Y.suppName]; decide)
  have bX := Cond.laysApart hdB hdX hdnB hdnX (by rw [hnB, hnX]; decide)
  have hbk : ((npeCell N.toNpeT (preparedCellV T.toThrowableT (freshCell P1.m.cls N.kN) W.heap.size u0 sen) W.cur).withEntry W.cur).slots[fB.slot]? = some .null := by
    have := fresh_default (c := P1.m.cls) tyB
    rw [htB] at this
    simpa [npeCell, preparedCellV, Cell.setSlot, Cell.withEntry, Array.getElem?_setIfInBounds, bC, bS, bP, bX, bC.symm, bS.symm, bP.symm, bX.symm, defaultValue] using this
  have tkC := Takes.of_laid (v := .ref W.heap.size) hk hordN tyC (by rw [Y.causeType]; rfl)
  have tkS := Takes.of_laid (v := u0.v) hk hordN tyS (by rw [Y.stackType]; exact fits_refV_array _ u0)
  have tkP := Takes.of_laid (v := sen.v) hk hordN tyP (by rw [Y.suppType]; exact fits_refV_object _ sen)
  have tkX := Takes.of_laid (v := .int 1) hk hordN tyX (by rw [htX]; rfl)
  have hskip : SkipFacts T e.platform s (fun u => u) u0 ((npeCell N.toNpeT (preparedCellV T.toThrowableT (freshCell P1.m.cls N.kN) W.heap.size u0 sen) W.cur).withEntry W.cur) := ⟨{ ci198 := ci198, i198 := i198, fBack := fB }, ⟨hk198, hg198, ha198, hsB⟩, hbk, fun _ _ => rfl⟩
  obtain ⟨vm', X3, st, -⟩ := X.throwsNpeColdBareVAt hexec hg hsize T L Z LZ N LN P1 L1 [PR, PE] hLs hlink1 ⟨hlinkR, hlinkE, trivial⟩ hfound hk hinit hordN hctor hsel0 hselF hcellS hknownS hvU hvSen
    hv0 xC xS xP tkC tkS tkP tkX Y.objLocals hskip (fun _ _ hA hW _ hroom _ hrest => L.nativeOff p htr hA hW hroom hrest) (by simpa using hRframes) hRlocals (by simp) hRcells (by rw [hn]; exact hRslots)
  have hlt : W.heap.size < ((W.pushCell (freshCell P1.m.cls N.kN)).setVm vm').heap.size := by
    show W.heap.size < (W.pushCell (freshCell P1.m.cls N.kN)).heap.size
    rw [State.heap_size_pushCell]; omega
  rw [hfsz] at X3
  obtain ⟨g₁, hfrM⟩ := X3.frames_eq
  have hU : ((((W.pushCell (freshCell P1.m.cls N.kN)).setVm vm').setCell W.heap.size (npeBareV T.toThrowableT N.toNpeT (freshCell P1.m.cls N.kN) W.heap.size u0 sen)).setTop g).pushFrame (.throwing W.heap.size) = (((W.pushCell (freshCell P1.m.cls N.kN)).setVm vm').setCell W.heap.size (npeBareV T.toThrowableT N.toNpeT (freshCell P1.m.cls N.kN) W.heap.size u0 sen)).setFrames (.throwing W.heap.size :: .java g :: below) := by
    rw [State.pushFrame, State.frames_setTop _ hfrM, State.setTop_of_frames _ hfrM, State.setFrames_setFrames]
  refine ⟨_, W.heap.size, _, fun target ht => st.trans (by rw [← hU]; exact ht), X3.forget (fun y hy => ?_), heapAt_setCell_self _ hlt, hfound, rfl⟩
  simp only [List.mem_cons, List.not_mem_nil, or_false] at hy
  have hge : s.heap.size ≤ W.heap.size := X.same.2.1
  rcases hy with rfl | rfl | rfl | rfl | rfl <;> exact hge
/-- the words of a machine's NullPointerException, but the four that speak of the heap -/
def vx_atN (n : Nat) : List Cond := (Bundle.npeArmAtoms n).filter vx_no
/-- the words of a machine's throw with a message, but the four that speak of the heap -/
def vx_atM (X : String) (names : List String) : List Cond := (Bundle.messageArmAtoms X names).filter vx_no
section
variable {p : Program} {l : Launch} {e : Env} {R : Room} {s : State} {m : MethodId} {args : Array Value} {below : List Frame} {meth : Method} {c : Code} {H : Heap} {locs : List Loc} {cells slots : Nat}
/-- a frame seen from a rebased start, seen from the first start again -/
theorem vx_back9 {T S : State} {R' : Room} {k n : Nat} (X : Stand p l e R s m args below meth c T locs cells slots) (Y : Stand p l e R' ((T.setVm s.vm).setFrames (.invoking m args :: below)) m args below meth c T [] 0 0) (Z : Stand p l e R' ((T.setVm s.vm).setFrames (.invoking m args :: below)) m args below meth c S [] k n) :
    Stand p l e R s m args below meth c S locs (cells + k) (slots + n) := by
  have hW0 : s.WarmedH ((T.setVm s.vm).setFrames (.invoking m args :: below)).vm := State.WarmedH.refl s
  refine { admits := X.admits, cas := X.cas, clock := X.clock, frames := X.frames, room := X.room, hears := X.hears, method := X.method, code := X.code, here := Z.here, tail := Z.tail, warmed := State.WarmedH.trans hW0 Z.warmed, limits := Z.limits.trans (Y.limits.symm.trans X.limits), bytes := Z.bytes.trans (Y.bytes.symm.trans X.bytes), same := ?_ }
  obtain ⟨e1, e2⟩ := Z.same
  rw [State.setFrames_setFrames] at e1
  have h2 : (T.setVm s.vm).sameButNew (S.setVm s.vm) [] k n := ⟨e1, e2⟩
  have h3 := X.same.trans h2
  rw [List.append_nil] at h3
  exact h3
/-- from the machine's note that E is thrown here with this text -/
def vx_Note (p : Program) (l : Launch) (e : Env) (R : Room) (s : State) (m : MethodId) (args : Array Value) (below : List Frame) (meth : Method) (c : Code) (H : Heap) (locs : List Loc) (cells slots : Nat) (Q : State → Prop) (g : JFrame) (E text : String) : Prop :=
  ∀ T : State, T.heap = H → Stand p l e R s m args below meth c T locs cells slots → ∃ t, Steps p.tables e below ((T.setTop g).pushFrame (.throwNew E (some text) none)) t ∧ Q t
theorem vx_vm {pc : Nat} {ls : Array Slot} {rest : List Value} {Q : State → Prop} (hexec : p.tables.exec = Jvm.exec) (hl : l.stackTraces = false) {cls text : String} {names : List String} {nb : Nat} {A : Nat → Prop}
    (hcls : Bundle.fit cls = true) (hnames : ∀ n ∈ names, Bundle.fit n = true) (hsoe : (cls == "java/lang/StackOverflowError") = false) (hoom : (cls == "java/lang/OutOfMemoryError") = false)
    (hat : ∀ w ∈ vx_atM cls names, w.before args s = true) (hgood : ∀ w ∈ vx_atM cls names, vx_ot w = true)
    (hU : vx_Zq Bundle.tN "UNASSIGNED_STACK" Bundle.steD A s s.heap) (hN : vx_Zq Bundle.tN "SUPPRESSED_SENTINEL" Bundle.listD A s s.heap) (hS : va_S A s.heap H locs) (hsize : ls.size = c.maxLocals)
    (htext : (text == notModelled) = false) (hnb : (stringBytes (stringToUtf16 text)).size ≤ nb) (hnb1 : nb ≤ 1000)
    (hRframes : names.length + 4 < R.frames) (hRlocals : (rest.map fun v => v.category).sum + 10240 ≤ R.locals) (hshort : 13 * names.length + 55 ≤ 10240) (hRcells : cells + 3 ≤ R.cells) (hRslots : slots + (nb + 10) ≤ R.slots) (hlocks : meth.locks = false)
    (k : ∀ (H1 : Heap) (q9 : Addr) (ce : Cell), H.size ≤ H1.size → (∀ q : Nat, q < H.size → H1[q]? = H[q]?) → va_S A s.heap H1 locs → H1[q9]? = some ce → ce.vm = .none → s.vm.findClass cls = some ce.cls → vx_W p l e R s m args below meth c H1 locs (cells + 3) (slots + (nb + 10)) Q (F0 m pc ls rest) q9) :
    vx_Note p l e R s m args below meth c H locs cells slots Q (F0 m pc ls rest) cls text := by
  intro T hT X
  have htr : e.platform.stackTraces = false := (show e.platform.stackTraces = l.stackTraces by rw [X.admits.platform]).trans hl
  have Y := vx_rebase X (R' := { frames := R.frames, locals := R.locals, cells := 3, slots := nb + 10 }) (Nat.le_refl _) (Nat.le_refl _) hRcells hRslots
  have hhp : ((T.setVm s.vm).setFrames (.invoking m args :: below)).heap = H := hT
  have hW0 : s.WarmedH ((T.setVm s.vm).setFrames (.invoking m args :: below)).vm := State.WarmedH.refl s
  have hat' : ∀ w ∈ vx_atM cls names, w.before args ((T.setVm s.vm).setFrames (.invoking m args :: below)) = true := fun w hw => vx_ot_at hW0 rfl (hgood w hw) (hat w hw)
  have hU' : vx_Zq Bundle.tN "UNASSIGNED_STACK" Bundle.steD A ((T.setVm s.vm).setFrames (.invoking m args :: below)) ((T.setVm s.vm).setFrames (.invoking m args :: below)).heap := by rw [hhp]; exact vx_Zq.moved hW0.alike (hU.kept hS.2.1)
  have hN' : vx_Zq Bundle.tN "SUPPRESSED_SENTINEL" Bundle.listD A ((T.setVm s.vm).setFrames (.invoking m args :: below)) ((T.setVm s.vm).setFrames (.invoking m args :: below)).heap := by rw [hhp]; exact vx_Zq.moved hW0.alike (hN.kept hS.2.1)
  obtain ⟨S, q, ce, st, Z, hce, hcl', hv⟩ := vx_vmAt Y hexec htr (cls := cls) (names := names) (text := text) hcls hnames hsoe hoom (vx_own hat' (vx_isRefq hU'.1) (vx_isRefq hN'.1) hU'.2.word hN'.2.word) (fun x hx => nomatch hx) htext
    (by rw [Launch.admits_arrayLengthLimit X.admits]; omega) (by rw [Launch.admits_maxHeapBytes X.admits]; simp only [componentBytes]; omega)
    (g := F0 m pc ls rest) rfl hsize hRframes (by show 2 * 0 + (rest.map fun v => v.category).sum + 10240 ≤ R.locals; omega) hshort (by show 0 + 3 ≤ 3; omega) (by show 0 + (_ + 4 + 6) ≤ nb + 10; omega) hlocks
  obtain ⟨f1, f2⟩ := vx_frame Z.same
  have f1' : H.size ≤ S.heap.size := by rw [← hT]; exact f1
  have f2' : ∀ q : Nat, q < H.size → S.heap[q]? = H[q]? := fun q hq => by
    rw [← hT]
    exact f2 q (by rw [← hT] at hq; exact hq) (fun z hz => nomatch hz)
  have X5 := vx_back9 X Y Z
  have X6 : Stand p l e R s m args below meth c S locs (cells + 3) (slots + (nb + 10)) := { X5 with same := X5.same.mono (by omega) (by omega) }
  obtain ⟨t, a1, b1⟩ := k S.heap q ce f1' f2' ⟨Nat.le_trans hS.1 f1', fun q h1 h2 => (f2' q (Nat.lt_of_lt_of_le h1 hS.1)).trans (hS.2.1 q h1 h2), hS.2.2⟩ hce hv hcl' S rfl X6
  exact ⟨t, st t a1, b1⟩
/-- from the machine's note that NullPointerException is thrown here -/
def vx_NoteN (p : Program) (l : Launch) (e : Env) (R : Room) (s : State) (m : MethodId) (args : Array Value) (below : List Frame) (meth : Method) (c : Code) (H : Heap) (locs : List Loc) (cells slots : Nat) (Q : State → Prop) (g : JFrame) : Prop :=
  ∀ T : State, T.heap = H → Stand p l e R s m args below meth c T locs cells slots → ∃ t, Steps p.tables e below ((T.setTop g).pushFrame (.throwNew "java/lang/NullPointerException" none none)) t ∧ Q t
theorem vx_npe {pc : Nat} {ls : Array Slot} {rest : List Value} {Q : State → Prop} (hexec : p.tables.exec = Jvm.exec) (hl : l.stackTraces = false) {nb : Nat} {A : Nat → Prop}
    (hat : ∀ w ∈ vx_atN nb, w.before args s = true) (hgood : ∀ w ∈ vx_atN nb, vx_ot w = true)
    (hU : vx_Zq Bundle.tN "UNASSIGNED_STACK" Bundle.steD A s s.heap) (hN : vx_Zq Bundle.tN "SUPPRESSED_SENTINEL" Bundle.listD A s s.heap) (hS : va_S A s.heap H locs) (hsize : ls.size = c.maxLocals)
    (hRframes : 7 < R.frames) (hRlocals : (rest.map fun v => v.category).sum + 10240 ≤ R.locals) (hRcells : cells + 1 ≤ R.cells) (hRslots : slots + nb ≤ R.slots) (hlocks : meth.locks = false)
    (k : ∀ (H1 : Heap) (q9 : Addr) (ce : Cell), H.size ≤ H1.size → (∀ q : Nat, q < H.size → H1[q]? = H[q]?) → va_S A s.heap H1 locs → H1[q9]? = some ce → ce.vm = .none → s.vm.findClass "java/lang/NullPointerException" = some ce.cls → vx_W p l e R s m args below meth c H1 locs (cells + 1) (slots + nb) Q (F0 m pc ls rest) q9) :
    vx_NoteN p l e R s m args below meth c H locs cells slots Q (F0 m pc ls rest) := by
  intro T hT X
  have htr : e.platform.stackTraces = false := (show e.platform.stackTraces = l.stackTraces by rw [X.admits.platform]).trans hl
  have Y := vx_rebase X (R' := { frames := R.frames, locals := R.locals, cells := 1, slots := nb }) (Nat.le_refl _) (Nat.le_refl _) hRcells hRslots
  have hhp : ((T.setVm s.vm).setFrames (.invoking m args :: below)).heap = H := hT
  have hW0 : s.WarmedH ((T.setVm s.vm).setFrames (.invoking m args :: below)).vm := State.WarmedH.refl s
  have hat' : ∀ w ∈ vx_atN nb, w.before args ((T.setVm s.vm).setFrames (.invoking m args :: below)) = true := fun w hw => vx_ot_at hW0 rfl (hgood w hw) (hat w hw)
  have hU' : vx_Zq Bundle.tN "UNASSIGNED_STACK" Bundle.steD A ((T.setVm s.vm).setFrames (.invoking m args :: below)) ((T.setVm s.vm).setFrames (.invoking m args :: below)).heap := by rw [hhp]; exact vx_Zq.moved hW0.alike (hU.kept hS.2.1)
  have hN' : vx_Zq Bundle.tN "SUPPRESSED_SENTINEL" Bundle.listD A ((T.setVm s.vm).setFrames (.invoking m args :: below)) ((T.setVm s.vm).setFrames (.invoking m args :: below)).heap := by rw [hhp]; exact vx_Zq.moved hW0.alike (hN.kept hS.2.1)
  obtain ⟨S, q, ce, st, Z, hce, hcl', hv⟩ := vx_npeAt Y hexec htr (n := nb) (vx_own hat' (vx_isRefq hU'.1) (vx_isRefq hN'.1) hU'.2.word hN'.2.word) (fun x hx => nomatch hx)
    (g := F0 m pc ls rest) rfl hsize hRframes (by show 2 * 0 + (rest.map fun v => v.category).sum + 10240 ≤ R.locals; omega) (by show 0 + 1 ≤ 1; omega) (by show 0 + nb ≤ nb; omega) hlocks
  obtain ⟨f1, f2⟩ := vx_frame Z.same
  have f1' : H.size ≤ S.heap.size := by rw [← hT]; exact f1
  have f2' : ∀ q : Nat, q < H.size → S.heap[q]? = H[q]? := fun q hq => by
    rw [← hT]
    exact f2 q (by rw [← hT] at hq; exact hq) (fun z hz => nomatch hz)
  have X5 := vx_back9 X Y Z
  have X6 : Stand p l e R s m args below meth c S locs (cells + 1) (slots + nb) := { X5 with same := X5.same.mono (by omega) (by omega) }
  obtain ⟨t, a1, b1⟩ := k S.heap q ce f1' f2' ⟨Nat.le_trans hS.1 f1', fun q h1 h2 => (f2' q (Nat.lt_of_lt_of_le h1 hS.1)).trans (hS.2.1 q h1 h2), hS.2.2⟩ hce hv hcl' S rfl X6
  exact ⟨t, st t a1, b1⟩
variable {Q : State → Prop} {cc : ByteArray} {pc : Nat} {ls : Array Slot} {rest : List Value}
theorem vx_idivZ (hexec : p.tables.exec = Jvm.exec) (hb : c.code = cc) {a b : Int32} (h0 : b = 0) (d : decode cc pc = .ok (.idiv, 1)) (k : vx_Note p l e R s m args below meth c H locs cells slots Q (F0 m pc ls rest) "java/lang/ArithmeticException" "/ by zero") :
    W p l e R s m args below meth c H locs cells slots Q (F0 m pc ls (.int b :: .int a :: rest)) := by
  intro T hT X
  obtain ⟨t, st, q⟩ := k T hT X
  exact ⟨t, X.idivZero hexec (g := F0 m pc ls (.int b :: .int a :: rest)) rfl (a := a) (rest := rest) (by rw [h0]) (by rw [hb]; exact d) t st, q⟩
theorem vx_iremZ (hexec : p.tables.exec = Jvm.exec) (hb : c.code = cc) {a b : Int32} (h0 : b = 0) (d : decode cc pc = .ok (.irem, 1)) (k : vx_Note p l e R s m args below meth c H locs cells slots Q (F0 m pc ls rest) "java/lang/ArithmeticException" "/ by zero") :
    W p l e R s m args below meth c H locs cells slots Q (F0 m pc ls (.int b :: .int a :: rest)) := by
  intro T hT X
  obtain ⟨t, st, q⟩ := k T hT X
  exact ⟨t, X.iremZero hexec (g := F0 m pc ls (.int b :: .int a :: rest)) rfl (a := a) (rest := rest) (by rw [h0]) (by rw [hb]; exact d) t st, q⟩
theorem vx_ldivZ (hexec : p.tables.exec = Jvm.exec) (hb : c.code = cc) {a b : Int64} (h0 : b = 0) (d : decode cc pc = .ok (.ldiv, 1)) (k : vx_Note p l e R s m args below meth c H locs cells slots Q (F0 m pc ls rest) "java/lang/ArithmeticException" "/ by zero") :
    W p l e R s m args below meth c H locs cells slots Q (F0 m pc ls (.long b :: .long a :: rest)) := by
  intro T hT X
  obtain ⟨t, st, q⟩ := k T hT X
  exact ⟨t, X.ldivZero hexec (g := F0 m pc ls (.long b :: .long a :: rest)) rfl (a := a) (rest := rest) (by rw [h0]) (by rw [hb]; exact d) t st, q⟩
theorem vx_lremZ (hexec : p.tables.exec = Jvm.exec) (hb : c.code = cc) {a b : Int64} (h0 : b = 0) (d : decode cc pc = .ok (.lrem, 1)) (k : vx_Note p l e R s m args below meth c H locs cells slots Q (F0 m pc ls rest) "java/lang/ArithmeticException" "/ by zero") :
    W p l e R s m args below meth c H locs cells slots Q (F0 m pc ls (.long b :: .long a :: rest)) := by
  intro T hT X
  obtain ⟨t, st, q⟩ := k T hT X
  exact ⟨t, X.lremZero hexec (g := F0 m pc ls (.long b :: .long a :: rest)) rfl (a := a) (rest := rest) (by rw [h0]) (by rw [hb]; exact d) t st, q⟩
theorem vx_ialdZ {D : va_G} {cl : List vw_C} {ws : va_W} {tys : List (ClassId × FieldType)} {a : Nat} (hexec : p.tables.exec = Jvm.exec) (hb : c.code = cc) (hK : va_K D cl tys s) (hP : va_P D cl ws H) (q0 t0 : Nat) {cA : ClassId} {n : Nat} {f : Nat → Int32} (ha : ws[q0]? = some (a, .inl (cA, n, .inl f))) (ht : tys[t0]? = some (cA, .int)) {i : Int32} (hout : ¬ vp_in i n) (hdg : decode cc pc = .ok (.iaload, 1))
    (k : ∀ tx : String, tx = (toString "Index " ++ toString i ++ toString " out of bounds for length " ++ toString n : String) → vx_Note p l e R s m args below meth c H locs cells slots Q (F0 m pc ls rest) "java/lang/ArrayIndexOutOfBoundsException" tx) : W p l e R s m args below meth c H locs cells slots Q (F0 m pc ls (.int i :: .ref a :: rest)) := by
  intro T hT X
  obtain ⟨t, st, q⟩ := k _ rfl T hT X
  refine ⟨t, ?_, q⟩
  have h1 := X.ialoadOut hexec (by rw [hT]; exact hP q0 _ ha) ((hK.2 t0 _ ht).1 n (fun j => .int (f j))) (j := i) (by show (i < 0 ∨ (arrV _ _ _).slots.size ≤ _); rw [arrV_size]; exact Classical.byContradiction hout) (g := F0 m pc ls (.int i :: .ref a :: rest)) rfl (rest := rest) rfl (by rw [hb]; exact hdg) t
  simp only [arrV_size] at h1
  exact h1 st
theorem vx_iastZ {D : va_G} {cl : List vw_C} {ws : va_W} {tys : List (ClassId × FieldType)} {a : Nat} (hexec : p.tables.exec = Jvm.exec) (hb : c.code = cc) (hK : va_K D cl tys s) (hP : va_P D cl ws H) (q0 t0 : Nat) {cA : ClassId} {n : Nat} {f : Nat → Int32} (ha : ws[q0]? = some (a, .inl (cA, n, .inl f))) (ht : tys[t0]? = some (cA, .int)) {i : Int32} {x : Int32} (hout : ¬ vp_in i n) (hdg : decode cc pc = .ok (.iastore, 1))
    (k : ∀ tx : String, tx = (toString "Index " ++ toString i ++ toString " out of bounds for length " ++ toString n : String) → vx_Note p l e R s m args below meth c H locs cells slots Q (F0 m pc ls rest) "java/lang/ArrayIndexOutOfBoundsException" tx) : W p l e R s m args below meth c H locs cells slots Q (F0 m pc ls (.int x :: .int i :: .ref a :: rest)) := by
  intro T hT X
  obtain ⟨t, st, q⟩ := k _ rfl T hT X
  refine ⟨t, ?_, q⟩
  have h1 := X.iastoreOut hexec (by rw [hT]; exact hP q0 _ ha) ((hK.2 t0 _ ht).1 n (fun j => .int (f j))) (j := i) (by show (i < 0 ∨ (arrV _ _ _).slots.size ≤ _); rw [arrV_size]; exact Classical.byContradiction hout) (g := F0 m pc ls (.int x :: .int i :: .ref a :: rest)) rfl (rest := rest) rfl (by rw [hb]; exact hdg) t
  simp only [arrV_size] at h1
  exact h1 st
theorem vx_baldZ {D : va_G} {cl : List vw_C} {ws : va_W} {tys : List (ClassId × FieldType)} {a : Nat} (hexec : p.tables.exec = Jvm.exec) (hb : c.code = cc) (hK : va_K D cl tys s) (hP : va_P D cl ws H) (q0 t0 : Nat) {cA : ClassId} {n : Nat} {f : Nat → Int32} (ha : ws[q0]? = some (a, .inl (cA, n, .inl f))) (ht : tys[t0]? = some (cA, .byte)) {i : Int32} (hout : ¬ vp_in i n) (hdg : decode cc pc = .ok (.baload, 1))
    (k : ∀ tx : String, tx = (toString "Index " ++ toString i ++ toString " out of bounds for length " ++ toString n : String) → vx_Note p l e R s m args below meth c H locs cells slots Q (F0 m pc ls rest) "java/lang/ArrayIndexOutOfBoundsException" tx) : W p l e R s m args below meth c H locs cells slots Q (F0 m pc ls (.int i :: .ref a :: rest)) := by
  intro T hT X
  obtain ⟨t, st, q⟩ := k _ rfl T hT X
  refine ⟨t, ?_, q⟩
  have h1 := X.baloadOut hexec (by rw [hT]; exact hP q0 _ ha) ((hK.2 t0 _ ht).1 n (fun j => .int (f j))) (j := i) (by show (i < 0 ∨ (arrV _ _ _).slots.size ≤ _); rw [arrV_size]; exact Classical.byContradiction hout) (g := F0 m pc ls (.int i :: .ref a :: rest)) rfl (rest := rest) rfl (by rw [hb]; exact hdg) t
  simp only [arrV_size] at h1
  exact h1 st
theorem vx_bastZ {D : va_G} {cl : List vw_C} {ws : va_W} {tys : List (ClassId × FieldType)} {a : Nat} (hexec : p.tables.exec = Jvm.exec) (hb : c.code = cc) (hK : va_K D cl tys s) (hP : va_P D cl ws H) (q0 t0 : Nat) {cA : ClassId} {n : Nat} {f : Nat → Int32} (ha : ws[q0]? = some (a, .inl (cA, n, .inl f))) (ht : tys[t0]? = some (cA, .byte)) {i : Int32} {x : Int32} (hout : ¬ vp_in i n) (hdg : decode cc pc = .ok (.bastore, 1))
    (k : ∀ tx : String, tx = (toString "Index " ++ toString i ++ toString " out of bounds for length " ++ toString n : String) → vx_Note p l e R s m args below meth c H locs cells slots Q (F0 m pc ls rest) "java/lang/ArrayIndexOutOfBoundsException" tx) : W p l e R s m args below meth c H locs cells slots Q (F0 m pc ls (.int x :: .int i :: .ref a :: rest)) := by
  intro T hT X
  obtain ⟨t, st, q⟩ := k _ rfl T hT X
  refine ⟨t, ?_, q⟩
  have h1 := X.bastoreOut hexec (by rw [hT]; exact hP q0 _ ha) ((hK.2 t0 _ ht).1 n (fun j => .int (f j))) (j := i) (by show (i < 0 ∨ (arrV _ _ _).slots.size ≤ _); rw [arrV_size]; exact Classical.byContradiction hout) (g := F0 m pc ls (.int x :: .int i :: .ref a :: rest)) rfl (rest := rest) rfl (by rw [hb]; exact hdg) t
  simp only [arrV_size] at h1
  exact h1 st
theorem vx_zaldZ {D : va_G} {cl : List vw_C} {ws : va_W} {tys : List (ClassId × FieldType)} {a : Nat} (hexec : p.tables.exec = Jvm.exec) (hb : c.code = cc) (hK : va_K D cl tys s) (hP : va_P D cl ws H) (q0 t0 : Nat) {cA : ClassId} {n : Nat} {f : Nat → Int32} (ha : ws[q0]? = some (a, .inl (cA, n, .inl f))) (ht : tys[t0]? = some (cA, .boolean)) {i : Int32} (hout : ¬ vp_in i n) (hdg : decode cc pc = .ok (.baload, 1))
    (k : ∀ tx : String, tx = (toString "Index " ++ toString i ++ toString " out of bounds for length " ++ toString n : String) → vx_Note p l e R s m args below meth c H locs cells slots Q (F0 m pc ls rest) "java/lang/ArrayIndexOutOfBoundsException" tx) : W p l e R s m args below meth c H locs cells slots Q (F0 m pc ls (.int i :: .ref a :: rest)) := by
  intro T hT X
  obtain ⟨t, st, q⟩ := k _ rfl T hT X
  refine ⟨t, ?_, q⟩
  have h1 := X.baloadOut hexec (by rw [hT]; exact hP q0 _ ha) ((hK.2 t0 _ ht).1 n (fun j => .int (f j))) (j := i) (by show (i < 0 ∨ (arrV _ _ _).slots.size ≤ _); rw [arrV_size]; exact Classical.byContradiction hout) (g := F0 m pc ls (.int i :: .ref a :: rest)) rfl (rest := rest) rfl (by rw [hb]; exact hdg) t
  simp only [arrV_size] at h1
  exact h1 st
theorem vx_zastZ {D : va_G} {cl : List vw_C} {ws : va_W} {tys : List (ClassId × FieldType)} {a : Nat} (hexec : p.tables.exec = Jvm.exec) (hb : c.code = cc) (hK : va_K D cl tys s) (hP : va_P D cl ws H) (q0 t0 : Nat) {cA : ClassId} {n : Nat} {f : Nat → Int32} (ha : ws[q0]? = some (a, .inl (cA, n, .inl f))) (ht : tys[t0]? = some (cA, .boolean)) {i : Int32} {x : Int32} (hout : ¬ vp_in i n) (hdg : decode cc pc = .ok (.bastore, 1))
    (k : ∀ tx : String, tx = (toString "Index " ++ toString i ++ toString " out of bounds for length " ++ toString n : String) → vx_Note p l e R s m args below meth c H locs cells slots Q (F0 m pc ls rest) "java/lang/ArrayIndexOutOfBoundsException" tx) : W p l e R s m args below meth c H locs cells slots Q (F0 m pc ls (.int x :: .int i :: .ref a :: rest)) := by
  intro T hT X
  obtain ⟨t, st, q⟩ := k _ rfl T hT X
  refine ⟨t, ?_, q⟩
  have h1 := X.bastoreOut hexec (by rw [hT]; exact hP q0 _ ha) ((hK.2 t0 _ ht).1 n (fun j => .int (f j))) (j := i) (by show (i < 0 ∨ (arrV _ _ _).slots.size ≤ _); rw [arrV_size]; exact Classical.byContradiction hout) (g := F0 m pc ls (.int x :: .int i :: .ref a :: rest)) rfl (rest := rest) rfl (by rw [hb]; exact hdg) t
  simp only [arrV_size] at h1
  exact h1 st
theorem vx_caldZ {D : va_G} {cl : List vw_C} {ws : va_W} {tys : List (ClassId × FieldType)} {a : Nat} (hexec : p.tables.exec = Jvm.exec) (hb : c.code = cc) (hK : va_K D cl tys s) (hP : va_P D cl ws H) (q0 t0 : Nat) {cA : ClassId} {n : Nat} {f : Nat → Int32} (ha : ws[q0]? = some (a, .inl (cA, n, .inl f))) (ht : tys[t0]? = some (cA, .char)) {i : Int32} (hout : ¬ vp_in i n) (hdg : decode cc pc = .ok (.caload, 1))
    (k : ∀ tx : String, tx = (toString "Index " ++ toString i ++ toString " out of bounds for length " ++ toString n : String) → vx_Note p l e R s m args below meth c H locs cells slots Q (F0 m pc ls rest) "java/lang/ArrayIndexOutOfBoundsException" tx) : W p l e R s m args below meth c H locs cells slots Q (F0 m pc ls (.int i :: .ref a :: rest)) := by
  intro T hT X
  obtain ⟨t, st, q⟩ := k _ rfl T hT X
  refine ⟨t, ?_, q⟩
  have h1 := X.caloadOut hexec (by rw [hT]; exact hP q0 _ ha) ((hK.2 t0 _ ht).1 n (fun j => .int (f j))) (j := i) (by show (i < 0 ∨ (arrV _ _ _).slots.size ≤ _); rw [arrV_size]; exact Classical.byContradiction hout) (g := F0 m pc ls (.int i :: .ref a :: rest)) rfl (rest := rest) rfl (by rw [hb]; exact hdg) t
  simp only [arrV_size] at h1
  exact h1 st
theorem vx_castZ {D : va_G} {cl : List vw_C} {ws : va_W} {tys : List (ClassId × FieldType)} {a : Nat} (hexec : p.tables.exec = Jvm.exec) (hb : c.code = cc) (hK : va_K D cl tys s) (hP : va_P D cl ws H) (q0 t0 : Nat) {cA : ClassId} {n : Nat} {f : Nat → Int32} (ha : ws[q0]? = some (a, .inl (cA, n, .inl f))) (ht : tys[t0]? = some (cA, .char)) {i : Int32} {x : Int32} (hout : ¬ vp_in i n) (hdg : decode cc pc = .ok (.castore, 1))
    (k : ∀ tx : String, tx = (toString "Index " ++ toString i ++ toString " out of bounds for length " ++ toString n : String) → vx_Note p l e R s m args below meth c H locs cells slots Q (F0 m pc ls rest) "java/lang/ArrayIndexOutOfBoundsException" tx) : W p l e R s m args below meth c H locs cells slots Q (F0 m pc ls (.int x :: .int i :: .ref a :: rest)) := by
  intro T hT X
  obtain ⟨t, st, q⟩ := k _ rfl T hT X
  refine ⟨t, ?_, q⟩
  have h1 := X.castoreOut hexec (by rw [hT]; exact hP q0 _ ha) ((hK.2 t0 _ ht).1 n (fun j => .int (f j))) (j := i) (by show (i < 0 ∨ (arrV _ _ _).slots.size ≤ _); rw [arrV_size]; exact Classical.byContradiction hout) (g := F0 m pc ls (.int x :: .int i :: .ref a :: rest)) rfl (rest := rest) rfl (by rw [hb]; exact hdg) t
  simp only [arrV_size] at h1
  exact h1 st
theorem vx_saldZ {D : va_G} {cl : List vw_C} {ws : va_W} {tys : List (ClassId × FieldType)} {a : Nat} (hexec : p.tables.exec = Jvm.exec) (hb : c.code = cc) (hK : va_K D cl tys s) (hP : va_P D cl ws H) (q0 t0 : Nat) {cA : ClassId} {n : Nat} {f : Nat → Int32} (ha : ws[q0]? = some (a, .inl (cA, n, .inl f))) (ht : tys[t0]? = some (cA, .short)) {i : Int32} (hout : ¬ vp_in i n) (hdg : decode cc pc = .ok (.saload, 1))
    (k : ∀ tx : String, tx = (toString "Index " ++ toString i ++ toString " out of bounds for length " ++ toString n : String) → vx_Note p l e R s m args below meth c H locs cells slots Q (F0 m pc ls rest) "java/lang/ArrayIndexOutOfBoundsException" tx) : W p l e R s m args below meth c H locs cells slots Q (F0 m pc ls (.int i :: .ref a :: rest)) := by
  intro T hT X
  obtain ⟨t, st, q⟩ := k _ rfl T hT X
  refine ⟨t, ?_, q⟩
  have h1 := X.saloadOut hexec (by rw [hT]; exact hP q0 _ ha) ((hK.2 t0 _ ht).1 n (fun j => .int (f j))) (j := i) (by show (i < 0 ∨ (arrV _ _ _).slots.size ≤ _); rw [arrV_size]; exact Classical.byContradiction hout) (g := F0 m pc ls (.int i :: .ref a :: rest)) rfl (rest := rest) rfl (by rw [hb]; exact hdg) t
  simp only [arrV_size] at h1
  exact h1 st
theorem vx_sastZ {D : va_G} {cl : List vw_C} {ws : va_W} {tys : List (ClassId × FieldType)} {a : Nat} (hexec : p.tables.exec = Jvm.exec) (hb : c.code = cc) (hK : va_K D cl tys s) (hP : va_P D cl ws H) (q0 t0 : Nat) {cA : ClassId} {n : Nat} {f : Nat → Int32} (ha : ws[q0]? = some (a, .inl (cA, n, .inl f))) (ht : tys[t0]? = some (cA, .short)) {i : Int32} {x : Int32} (hout : ¬ vp_in i n) (hdg : decode cc pc = .ok (.sastore, 1))
    (k : ∀ tx : String, tx = (toString "Index " ++ toString i ++ toString " out of bounds for length " ++ toString n : String) → vx_Note p l e R s m args below meth c H locs cells slots Q (F0 m pc ls rest) "java/lang/ArrayIndexOutOfBoundsException" tx) : W p l e R s m args below meth c H locs cells slots Q (F0 m pc ls (.int x :: .int i :: .ref a :: rest)) := by
  intro T hT X
  obtain ⟨t, st, q⟩ := k _ rfl T hT X
  refine ⟨t, ?_, q⟩
  have h1 := X.sastoreOut hexec (by rw [hT]; exact hP q0 _ ha) ((hK.2 t0 _ ht).1 n (fun j => .int (f j))) (j := i) (by show (i < 0 ∨ (arrV _ _ _).slots.size ≤ _); rw [arrV_size]; exact Classical.byContradiction hout) (g := F0 m pc ls (.int x :: .int i :: .ref a :: rest)) rfl (rest := rest) rfl (by rw [hb]; exact hdg) t
  simp only [arrV_size] at h1
  exact h1 st
theorem vx_laldZ {D : va_G} {cl : List vw_C} {ws : va_W} {tys : List (ClassId × FieldType)} {a : Nat} (hexec : p.tables.exec = Jvm.exec) (hb : c.code = cc) (hK : va_K D cl tys s) (hP : va_P D cl ws H) (q0 t0 : Nat) {cA : ClassId} {n : Nat} {f : Nat → Int64} (ha : ws[q0]? = some (a, .inl (cA, n, .inr (.inl f)))) (ht : tys[t0]? = some (cA, .long)) {i : Int32} (hout : ¬ vp_in i n) (hdg : decode cc pc = .ok (.laload, 1))
    (k : ∀ tx : String, tx = (toString "Index " ++ toString i ++ toString " out of bounds for length " ++ toString n : String) → vx_Note p l e R s m args below meth c H locs cells slots Q (F0 m pc ls rest) "java/lang/ArrayIndexOutOfBoundsException" tx) : W p l e R s m args below meth c H locs cells slots Q (F0 m pc ls (.int i :: .ref a :: rest)) := by
  intro T hT X
  obtain ⟨t, st, q⟩ := k _ rfl T hT X
  refine ⟨t, ?_, q⟩
  have h1 := X.laloadOut hexec (by rw [hT]; exact hP q0 _ ha) ((hK.2 t0 _ ht).1 n (fun j => .long (f j))) (j := i) (by show (i < 0 ∨ (arrV _ _ _).slots.size ≤ _); rw [arrV_size]; exact Classical.byContradiction hout) (g := F0 m pc ls (.int i :: .ref a :: rest)) rfl (rest := rest) rfl (by rw [hb]; exact hdg) t
  simp only [arrV_size] at h1
  exact h1 st
theorem vx_lastZ {D : va_G} {cl : List vw_C} {ws : va_W} {tys : List (ClassId × FieldType)} {a : Nat} (hexec : p.tables.exec = Jvm.exec) (hb : c.code = cc) (hK : va_K D cl tys s) (hP : va_P D cl ws H) (q0 t0 : Nat) {cA : ClassId} {n : Nat} {f : Nat → Int64} (ha : ws[q0]? = some (a, .inl (cA, n, .inr (.inl f)))) (ht : tys[t0]? = some (cA, .long)) {i : Int32} {x : Int64} (hout : ¬ vp_in i n) (hdg : decode cc pc = .ok (.lastore, 1))
    (k : ∀ tx : String, tx = (toString "Index " ++ toString i ++ toString " out of bounds for length " ++ toString n : String) → vx_Note p l e R s m args below meth c H locs cells slots Q (F0 m pc ls rest) "java/lang/ArrayIndexOutOfBoundsException" tx) : W p l e R s m args below meth c H locs cells slots Q (F0 m pc ls (.long x :: .int i :: .ref a :: rest)) := by
  intro T hT X
  obtain ⟨t, st, q⟩ := k _ rfl T hT X
  refine ⟨t, ?_, q⟩
  have h1 := X.lastoreOut hexec (by rw [hT]; exact hP q0 _ ha) ((hK.2 t0 _ ht).1 n (fun j => .long (f j))) (j := i) (by show (i < 0 ∨ (arrV _ _ _).slots.size ≤ _); rw [arrV_size]; exact Classical.byContradiction hout) (g := F0 m pc ls (.long x :: .int i :: .ref a :: rest)) rfl (rest := rest) rfl (by rw [hb]; exact hdg) t
  simp only [arrV_size] at h1
  exact h1 st
theorem vx_faldZ {D : va_G} {cl : List vw_C} {ws : va_W} {tys : List (ClassId × FieldType)} {a : Nat} (hexec : p.tables.exec = Jvm.exec) (hb : c.code = cc) (hK : va_K D cl tys s) (hP : va_P D cl ws H) (q0 t0 : Nat) {cA : ClassId} {n : Nat} {f : Nat → UInt32} (ha : ws[q0]? = some (a, .inl (cA, n, .inr (.inr (.inl f))))) (ht : tys[t0]? = some (cA, .float)) {i : Int32} (hout : ¬ vp_in i n) (hdg : decode cc pc = .ok (.faload, 1))
    (k : ∀ tx : String, tx = (toString "Index " ++ toString i ++ toString " out of bounds for length " ++ toString n : String) → vx_Note p l e R s m args below meth c H locs cells slots Q (F0 m pc ls rest) "java/lang/ArrayIndexOutOfBoundsException" tx) : W p l e R s m args below meth c H locs cells slots Q (F0 m pc ls (.int i :: .ref a :: rest)) := by
  intro T hT X
  obtain ⟨t, st, q⟩ := k _ rfl T hT X
  refine ⟨t, ?_, q⟩
  have h1 := X.faloadOut hexec (by rw [hT]; exact hP q0 _ ha) ((hK.2 t0 _ ht).1 n (fun j => .float (f j))) (j := i) (by show (i < 0 ∨ (arrV _ _ _).slots.size ≤ _); rw [arrV_size]; exact Classical.byContradiction hout) (g := F0 m pc ls (.int i :: .ref a :: rest)) rfl (rest := rest) rfl (by rw [hb]; exact hdg) t
  simp only [arrV_size] at h1
  exact h1 st
theorem vx_fastZ {D : va_G} {cl : List vw_C} {ws : va_W} {tys : List (ClassId × FieldType)} {a : Nat} (hexec : p.tables.exec = Jvm.exec) (hb : c.code = cc) (hK : va_K D cl tys s) (hP : va_P D cl ws H) (q0 t0 : Nat) {cA : ClassId} {n : Nat} {f : Nat → UInt32} (ha : ws[q0]? = some (a, .inl (cA, n, .inr (.inr (.inl f))))) (ht : tys[t0]? = some (cA, .float)) {i : Int32} {x : UInt32} (hout : ¬ vp_in i n) (hdg : decode cc pc = .ok (.fastore, 1))
    (k : ∀ tx : String, tx = (toString "Index " ++ toString i ++ toString " out of bounds for length " ++ toString n : String) → vx_Note p l e R s m args below meth c H locs cells slots Q (F0 m pc ls rest) "java/lang/ArrayIndexOutOfBoundsException" tx) : W p l e R s m args below meth c H locs cells slots Q (F0 m pc ls (.float x :: .int i :: .ref a :: rest)) := by
  intro T hT X
  obtain ⟨t, st, q⟩ := k _ rfl T hT X
  refine ⟨t, ?_, q⟩
  have h1 := X.fastoreOut hexec (by rw [hT]; exact hP q0 _ ha) ((hK.2 t0 _ ht).1 n (fun j => .float (f j))) (j := i) (by show (i < 0 ∨ (arrV _ _ _).slots.size ≤ _); rw [arrV_size]; exact Classical.byContradiction hout) (g := F0 m pc ls (.float x :: .int i :: .ref a :: rest)) rfl (rest := rest) rfl (by rw [hb]; exact hdg) t
  simp only [arrV_size] at h1
  exact h1 st
theorem vx_daldZ {D : va_G} {cl : List vw_C} {ws : va_W} {tys : List (ClassId × FieldType)} {a : Nat} (hexec : p.tables.exec = Jvm.exec) (hb : c.code = cc) (hK : va_K D cl tys s) (hP : va_P D cl ws H) (q0 t0 : Nat) {cA : ClassId} {n : Nat} {f : Nat → UInt64} (ha : ws[q0]? = some (a, .inl (cA, n, .inr (.inr (.inr (.inl f)))))) (ht : tys[t0]? = some (cA, .double)) {i : Int32} (hout : ¬ vp_in i n) (hdg : decode cc pc = .ok (.daload, 1))
    (k : ∀ tx : String, tx = (toString "Index " ++ toString i ++ toString " out of bounds for length " ++ toString n : String) → vx_Note p l e R s m args below meth c H locs cells slots Q (F0 m pc ls rest) "java/lang/ArrayIndexOutOfBoundsException" tx) : W p l e R s m args below meth c H locs cells slots Q (F0 m pc ls (.int i :: .ref a :: rest)) := by
  intro T hT X
  obtain ⟨t, st, q⟩ := k _ rfl T hT X
  refine ⟨t, ?_, q⟩
  have h1 := X.daloadOut hexec (by rw [hT]; exact hP q0 _ ha) ((hK.2 t0 _ ht).1 n (fun j => .double (f j))) (j := i) (by show (i < 0 ∨ (arrV _ _ _).slots.size ≤ _); rw [arrV_size]; exact Classical.byContradiction hout) (g := F0 m pc ls (.int i :: .ref a :: rest)) rfl (rest := rest) rfl (by rw [hb]; exact hdg) t
  simp only [arrV_size] at h1
  exact h1 st
theorem vx_dastZ {D : va_G} {cl : List vw_C} {ws : va_W} {tys : List (ClassId × FieldType)} {a : Nat} (hexec : p.tables.exec = Jvm.exec) (hb : c.code = cc) (hK : va_K D cl tys s) (hP : va_P D cl ws H) (q0 t0 : Nat) {cA : ClassId} {n : Nat} {f : Nat → UInt64} (ha : ws[q0]? = some (a, .inl (cA, n, .inr (.inr (.inr (.inl f)))))) (ht : tys[t0]? = some (cA, .double)) {i : Int32} {x : UInt64} (hout : ¬ vp_in i n) (hdg : decode cc pc = .ok (.dastore, 1))
    (k : ∀ tx : String, tx = (toString "Index " ++ toString i ++ toString " out of bounds for length " ++ toString n : String) → vx_Note p l e R s m args below meth c H locs cells slots Q (F0 m pc ls rest) "java/lang/ArrayIndexOutOfBoundsException" tx) : W p l e R s m args below meth c H locs cells slots Q (F0 m pc ls (.double x :: .int i :: .ref a :: rest)) := by
  intro T hT X
  obtain ⟨t, st, q⟩ := k _ rfl T hT X
  refine ⟨t, ?_, q⟩
  have h1 := X.dastoreOut hexec (by rw [hT]; exact hP q0 _ ha) ((hK.2 t0 _ ht).1 n (fun j => .double (f j))) (j := i) (by show (i < 0 ∨ (arrV _ _ _).slots.size ≤ _); rw [arrV_size]; exact Classical.byContradiction hout) (g := F0 m pc ls (.double x :: .int i :: .ref a :: rest)) rfl (rest := rest) rfl (by rw [hb]; exact hdg) t
  simp only [arrV_size] at h1
  exact h1 st
theorem vx_arraylengthN (hexec : p.tables.exec = Jvm.exec) (hb : c.code = cc) (hdg : decode cc pc = .ok (.arraylength, 1)) (k : vx_NoteN p l e R s m args below meth c H locs cells slots Q (F0 m pc ls rest)) : W p l e R s m args below meth c H locs cells slots Q (F0 m pc ls (.null :: rest)) := by
  intro T hT X
  obtain ⟨t, st, q⟩ := k T hT X
  exact ⟨t, X.arraylengthNull hexec (g := F0 m pc ls (.null :: rest)) rfl (rest := rest) rfl (by rw [hb]; exact hdg) t st, q⟩
theorem vx_ialoadN (hexec : p.tables.exec = Jvm.exec) (hb : c.code = cc) {i : Int32} (hdg : decode cc pc = .ok (.iaload, 1)) (k : vx_NoteN p l e R s m args below meth c H locs cells slots Q (F0 m pc ls rest)) : W p l e R s m args below meth c H locs cells slots Q (F0 m pc ls (.int i :: .null :: rest)) := by
  intro T hT X
  obtain ⟨t, st, q⟩ := k T hT X
  exact ⟨t, X.ialoadNull hexec (g := F0 m pc ls (.int i :: .null :: rest)) rfl (rest := rest) rfl (by rw [hb]; exact hdg) t st, q⟩
theorem vx_laloadN (hexec : p.tables.exec = Jvm.exec) (hb : c.code = cc) {i : Int32} (hdg : decode cc pc = .ok (.laload, 1)) (k : vx_NoteN p l e R s m args below meth c H locs cells slots Q (F0 m pc ls rest)) : W p l e R s m args below meth c H locs cells slots Q (F0 m pc ls (.int i :: .null :: rest)) := by
  intro T hT X
  obtain ⟨t, st, q⟩ := k T hT X
  exact ⟨t, X.laloadNull hexec (g := F0 m pc ls (.int i :: .null :: rest)) rfl (rest := rest) rfl (by rw [hb]; exact hdg) t st, q⟩
theorem vx_faloadN (hexec : p.tables.exec = Jvm.exec) (hb : c.code = cc) {i : Int32} (hdg : decode cc pc = .ok (.faload, 1)) (k : vx_NoteN p l e R s m args below meth c H locs cells slots Q (F0 m pc ls rest)) : W p l e R s m args below meth c H locs cells slots Q (F0 m pc ls (.int i :: .null :: rest)) := by
  intro T hT X
  obtain ⟨t, st, q⟩ := k T hT X
  exact ⟨t, X.faloadNull hexec (g := F0 m pc ls (.int i :: .null :: rest)) rfl (rest := rest) rfl (by rw [hb]; exact hdg) t st, q⟩
theorem vx_daloadN (hexec : p.tables.exec = Jvm.exec) (hb : c.code = cc) {i : Int32} (hdg : decode cc pc = .ok (.daload, 1)) (k : vx_NoteN p l e R s m args below meth c H locs cells slots Q (F0 m pc ls rest)) : W p l e R s m args below meth c H locs cells slots Q (F0 m pc ls (.int i :: .null :: rest)) := by
  intro T hT X
  obtain ⟨t, st, q⟩ := k T hT X
  exact ⟨t, X.daloadNull hexec (g := F0 m pc ls (.int i :: .null :: rest)) rfl (rest := rest) rfl (by rw [hb]; exact hdg) t st, q⟩
theorem vx_aaloadN (hexec : p.tables.exec = Jvm.exec) (hb : c.code = cc) {i : Int32} (hdg : decode cc pc = .ok (.aaload, 1)) (k : vx_NoteN p l e R s m args below meth c H locs cells slots Q (F0 m pc ls rest)) : W p l e R s m args below meth c H locs cells slots Q (F0 m pc ls (.int i :: .null :: rest)) := by
  intro T hT X
  obtain ⟨t, st, q⟩ := k T hT X
  exact ⟨t, X.aaloadNull hexec (g := F0 m pc ls (.int i :: .null :: rest)) rfl (rest := rest) rfl (by rw [hb]; exact hdg) t st, q⟩
theorem vx_baloadN (hexec : p.tables.exec = Jvm.exec) (hb : c.code = cc) {i : Int32} (hdg : decode cc pc = .ok (.baload, 1)) (k : vx_NoteN p l e R s m args below meth c H locs cells slots Q (F0 m pc ls rest)) : W p l e R s m args below meth c H locs cells slots Q (F0 m pc ls (.int i :: .null :: rest)) := by
  intro T hT X
  obtain ⟨t, st, q⟩ := k T hT X
  exact ⟨t, X.baloadNull hexec (g := F0 m pc ls (.int i :: .null :: rest)) rfl (rest := rest) rfl (by rw [hb]; exact hdg) t st, q⟩
theorem vx_caloadN (hexec : p.tables.exec = Jvm.exec) (hb : c.code = cc) {i : Int32} (hdg : decode cc pc = .ok (.caload, 1)) (k : vx_NoteN p l e R s m args below meth c H locs cells slots Q (F0 m pc ls rest)) : W p l e R s m args below meth c H locs cells slots Q (F0 m pc ls (.int i :: .null :: rest)) := by
  intro T hT X
  obtain ⟨t, st, q⟩ := k T hT X
  exact ⟨t, X.caloadNull hexec (g := F0 m pc ls (.int i :: .null :: rest)) rfl (rest := rest) rfl (by rw [hb]; exact hdg) t st, q⟩
theorem vx_saloadN (hexec : p.tables.exec = Jvm.exec) (hb : c.code = cc) {i : Int32} (hdg : decode cc pc = .ok (.saload, 1)) (k : vx_NoteN p l e R s m args below meth c H locs cells slots Q (F0 m pc ls rest)) : W p l e R s m args below meth c H locs cells slots Q (F0 m pc ls (.int i :: .null :: rest)) := by
  intro T hT X
  obtain ⟨t, st, q⟩ := k T hT X
  exact ⟨t, X.saloadNull hexec (g := F0 m pc ls (.int i :: .null :: rest)) rfl (rest := rest) rfl (by rw [hb]; exact hdg) t st, q⟩
theorem vx_iastoreN (hexec : p.tables.exec = Jvm.exec) (hb : c.code = cc) {x : Int32} {i : Int32} (hdg : decode cc pc = .ok (.iastore, 1)) (k : vx_NoteN p l e R s m args below meth c H locs cells slots Q (F0 m pc ls rest)) : W p l e R s m args below meth c H locs cells slots Q (F0 m pc ls (.int x :: .int i :: .null :: rest)) := by
  intro T hT X
  obtain ⟨t, st, q⟩ := k T hT X
  exact ⟨t, X.iastoreNull hexec (g := F0 m pc ls (.int x :: .int i :: .null :: rest)) rfl (rest := rest) rfl (by rw [hb]; exact hdg) t st, q⟩
theorem vx_lastoreN (hexec : p.tables.exec = Jvm.exec) (hb : c.code = cc) {x : Int64} {i : Int32} (hdg : decode cc pc = .ok (.lastore, 1)) (k : vx_NoteN p l e R s m args below meth c H locs cells slots Q (F0 m pc ls rest)) : W p l e R s m args below meth c H locs cells slots Q (F0 m pc ls (.long x :: .int i :: .null :: rest)) := by
  intro T hT X
  obtain ⟨t, st, q⟩ := k T hT X
  exact ⟨t, X.lastoreNull hexec (g := F0 m pc ls (.long x :: .int i :: .null :: rest)) rfl (rest := rest) rfl (by rw [hb]; exact hdg) t st, q⟩
theorem vx_fastoreN (hexec : p.tables.exec = Jvm.exec) (hb : c.code = cc) {x : UInt32} {i : Int32} (hdg : decode cc pc = .ok (.fastore, 1)) (k : vx_NoteN p l e R s m args below meth c H locs cells slots Q (F0 m pc ls rest)) : W p l e R s m args below meth c H locs cells slots Q (F0 m pc ls (.float x :: .int i :: .null :: rest)) := by
  intro T hT X
  obtain ⟨t, st, q⟩ := k T hT X
  exact ⟨t, X.fastoreNull hexec (g := F0 m pc ls (.float x :: .int i :: .null :: rest)) rfl (rest := rest) rfl (by rw [hb]; exact hdg) t st, q⟩
theorem vx_dastoreN (hexec : p.tables.exec = Jvm.exec) (hb : c.code = cc) {x : UInt64} {i : Int32} (hdg : decode cc pc = .ok (.dastore, 1)) (k : vx_NoteN p l e R s m args below meth c H locs cells slots Q (F0 m pc ls rest)) : W p l e R s m args below meth c H locs cells slots Q (F0 m pc ls (.double x :: .int i :: .null :: rest)) := by
  intro T hT X
  obtain ⟨t, st, q⟩ := k T hT X
  exact ⟨t, X.dastoreNull hexec (g := F0 m pc ls (.double x :: .int i :: .null :: rest)) rfl (rest := rest) rfl (by rw [hb]; exact hdg) t st, q⟩
theorem vx_bastoreN (hexec : p.tables.exec = Jvm.exec) (hb : c.code = cc) {x : Int32} {i : Int32} (hdg : decode cc pc = .ok (.bastore, 1)) (k : vx_NoteN p l e R s m args below meth c H locs cells slots Q (F0 m pc ls rest)) : W p l e R s m args below meth c H locs cells slots Q (F0 m pc ls (.int x :: .int i :: .null :: rest)) := by
  intro T hT X
  obtain ⟨t, st, q⟩ := k T hT X
  exact ⟨t, X.bastoreNull hexec (g := F0 m pc ls (.int x :: .int i :: .null :: rest)) rfl (rest := rest) rfl (by rw [hb]; exact hdg) t st, q⟩
theorem vx_castoreN (hexec : p.tables.exec = Jvm.exec) (hb : c.code = cc) {x : Int32} {i : Int32} (hdg : decode cc pc = .ok (.castore, 1)) (k : vx_NoteN p l e R s m args below meth c H locs cells slots Q (F0 m pc ls rest)) : W p l e R s m args below meth c H locs cells slots Q (F0 m pc ls (.int x :: .int i :: .null :: rest)) := by
  intro T hT X
  obtain ⟨t, st, q⟩ := k T hT X
  exact ⟨t, X.castoreNull hexec (g := F0 m pc ls (.int x :: .int i :: .null :: rest)) rfl (rest := rest) rfl (by rw [hb]; exact hdg) t st, q⟩
theorem vx_sastoreN (hexec : p.tables.exec = Jvm.exec) (hb : c.code = cc) {x : Int32} {i : Int32} (hdg : decode cc pc = .ok (.sastore, 1)) (k : vx_NoteN p l e R s m args below meth c H locs cells slots Q (F0 m pc ls rest)) : W p l e R s m args below meth c H locs cells slots Q (F0 m pc ls (.int x :: .int i :: .null :: rest)) := by
  intro T hT X
  obtain ⟨t, st, q⟩ := k T hT X
  exact ⟨t, X.sastoreNull hexec (g := F0 m pc ls (.int x :: .int i :: .null :: rest)) rfl (rest := rest) rfl (by rw [hb]; exact hdg) t st, q⟩
theorem vx_invokeN {own C : String} {index maxL : Nat} {y : MethodName} {bytes : ByteArray} {ret : Option FieldType} (hexec : p.tables.exec = Jvm.exec) (hb : c.code = cc) (hown : s.vm.findClass own = some m.cls) (hlink : (Cond.methodLink own index y).before args s = true) (hinst : (Cond.instanceMethod y).before args s = true) (hcode : (Cond.code y bytes maxL ret).before args s = true) (hsel : (Cond.selects C y y).before args s = true)
    (hx : y.cls ≠ "java/lang/invoke/MethodHandle" ∧ y.cls ≠ "java/lang/invoke/VarHandle") {As : List Value} (hlen : (parseMethodDescriptor y.desc).map (fun d => d.parameters.length) = some As.length) (hdg : decode cc pc = .ok (.invokevirtual index, 3))
    (k : vx_NoteN p l e R s m args below meth c H locs cells slots Q (F0 m pc ls rest)) {st0 : List Value} (hst : st0 = As.reverse ++ .null :: rest) : W p l e R s m args below meth c H locs cells slots Q (F0 m pc ls st0) := by
  intro T hT X
  obtain ⟨r0, r, hn, hrm, hstR, hsigR⟩ := va_Decl.of hinst hcode
  obtain ⟨c2, r2, m2, q1, q2, q3, q4, kP, hkP, hkPi⟩ := Cond.selects_spec hsel
  cases hn.symm.trans q3
  have hl9 : As.length = r.sig.parameters.length := by
    rw [hsigR] at hlen
    exact (Option.some.inj hlen).symm
  obtain ⟨vm', X1, st1⟩ := X.invokevirtualNull hexec hown hlink hn hrm hstR hkP hkPi hx (g := F0 m pc ls st0) rfl (argsL := As) (rest := rest) hl9 hst (by rw [hb]; exact hdg)
  obtain ⟨t, st, q⟩ := k (T.setVm vm') hT X1
  exact ⟨t, st1 t st, q⟩
theorem vx_newarrayZ {atype : ArrayType} (hexec : p.tables.exec = Jvm.exec) (hb : c.code = cc) {n : Int32} (h0 : n < 0) (hdg : decode cc pc = .ok (.newarray atype, 2)) (k : ∀ tx : String, tx = toString n → vx_Note p l e R s m args below meth c H locs cells slots Q (F0 m pc ls rest) "java/lang/NegativeArraySizeException" tx) : W p l e R s m args below meth c H locs cells slots Q (F0 m pc ls (.int n :: rest)) := by
  intro T hT X
  obtain ⟨t, st, q⟩ := k _ rfl T hT X
  exact ⟨t, X.newarrayNegative hexec (g := F0 m pc ls (.int n :: rest)) rfl h0 (rest := rest) rfl (by rw [hb]; exact hdg) t st, q⟩
end
end VXM
/-! ===== END ===== -/
end
section
def RX0 : String := "Termreckonry$Added"
def TX0 : u_T := fun k => match k with
  | 0 => ("Termreckonry$Added", "day", "I", true)
  | 1 => ("Termreckonry$Added", "left", "I", false)
  | _ => ("Termreckonry$Added", "next", "LTermreckonry$Added;", false)
def tyX0 : Nat → FieldType := fun k => match k with
  | 0 => .int
  | 1 => .int
  | _ => .object "Termreckonry$Added"
theorem nmX0 : ∀ a, a < 3 → ∀ b, b < 3 → a ≠ b → (TX0 a).2.1 ≠ (TX0 b).2.1 := by decide +kernel
theorem tyX0_ok : ∀ k, k < 3 → parseFieldDescriptor (TX0 k).2.2.1 = some (tyX0 k) := by decide +kernel
abbrev cX0_init : ByteArray := prog_2_method_1_code
def yX0_init : MethodName := ⟨RX0, "<init>", "(II)V"⟩
def RX1 : String := "Termreckonry$Calendar"
def TX1 : u_T := fun k => match k with
  | _ => ("", "", "", false)
def tyX1 : Nat → FieldType := fun k => match k with
  | _ => .int
theorem nmX1 : ∀ a, a < 0 → ∀ b, b < 0 → a ≠ b → (TX1 a).2.1 ≠ (TX1 b).2.1 := by decide +kernel
theorem tyX1_ok : ∀ k, k < 0 → parseFieldDescriptor (TX1 k).2.2.1 = some (tyX1 k) := by decide +kernel
abbrev cX1_isLeap : ByteArray := prog_3_method_2_code
def yX1_isLeap : MethodName := ⟨RX1, "isLeap", "(I)Z"⟩
abbrev cX1_daysOfMonth : ByteArray := prog_3_method_3_code
def yX1_daysOfMonth : MethodName := ⟨RX1, "daysOfMonth", "(ZI)I"⟩
abbrev cX1_numberOf : ByteArray := prog_3_method_4_code
def yX1_numberOf : MethodName := ⟨RX1, "numberOf", "(III)I"⟩
abbrev cX1_dateAt : ByteArray := prog_3_method_5_code
def yX1_dateAt : MethodName := ⟨RX1, "dateAt", "(I)I"⟩
def RX2 : String := "Termreckonry$Clerk"
def TX2 : u_T := fun k => match k with
  | _ => ("", "", "", false)
def tyX2 : Nat → FieldType := fun k => match k with
  | _ => .int
theorem nmX2 : ∀ a, a < 0 → ∀ b, b < 0 → a ≠ b → (TX2 a).2.1 ≠ (TX2 b).2.1 := by decide +kernel
theorem tyX2_ok : ∀ k, k < 0 → parseFieldDescriptor (TX2 k).2.2.1 = some (tyX2 k) := by decide +kernel
abbrev cX2_stateAfterDays : ByteArray := prog_4_method_2_code
def yX2_stateAfterDays : MethodName := ⟨RX2, "stateAfterDays", "(LTermreckonry$Person;I)C"⟩
abbrev cX2_agrees : ByteArray := prog_4_method_3_code
def yX2_agrees : MethodName := ⟨RX2, "agrees", "(LTermreckonry$Person;)Z"⟩
abbrev cX2_open : ByteArray := prog_4_method_4_code
def yX2_open : MethodName := ⟨RX2, "open", "(LTermreckonry$Person;)V"⟩
abbrev cX2_passDay : ByteArray := prog_4_method_5_code
def yX2_passDay : MethodName := ⟨RX2, "passDay", "(LTermreckonry$Person;I)C"⟩
abbrev cX2_readAdded : ByteArray := prog_4_method_6_code
def yX2_readAdded : MethodName := ⟨RX2, "readAdded", "(LTermreckonry$Person;I)V"⟩
abbrev cX2_passRecalls : ByteArray := prog_4_method_7_code
def yX2_passRecalls : MethodName := ⟨RX2, "passRecalls", "(LTermreckonry$Person;IZ)Z"⟩
abbrev cX2_endsOn : ByteArray := prog_4_method_8_code
def yX2_endsOn : MethodName := ⟨RX2, "endsOn", "(LTermreckonry$Recall;LTermreckonry$Person;I)Z"⟩
def RX3 : String := "Termreckonry$Days"
def TX3 : u_T := fun k => match k with
  | _ => ("Termreckonry$Days", "words", "[J", true)
def tyX3 : Nat → FieldType := fun k => match k with
  | _ => .array .long
theorem nmX3 : ∀ a, a < 1 → ∀ b, b < 1 → a ≠ b → (TX3 a).2.1 ≠ (TX3 b).2.1 := by decide +kernel
theorem tyX3_ok : ∀ k, k < 1 → parseFieldDescriptor (TX3 k).2.2.1 = some (tyX3 k) := by decide +kernel
abbrev cX3_init : ByteArray := prog_5_method_1_code
def yX3_init : MethodName := ⟨RX3, "<init>", "()V"⟩
abbrev cX3_clear : ByteArray := prog_5_method_2_code
def yX3_clear : MethodName := ⟨RX3, "clear", "()V"⟩
abbrev cX3_put : ByteArray := prog_5_method_3_code
def yX3_put : MethodName := ⟨RX3, "put", "(II)V"⟩
abbrev cX3_remove : ByteArray := prog_5_method_4_code
def yX3_remove : MethodName := ⟨RX3, "remove", "(LTermreckonry$Days;)V"⟩
abbrev cX3_has : ByteArray := prog_5_method_5_code
def yX3_has : MethodName := ⟨RX3, "has", "(I)Z"⟩
abbrev cX3_within : ByteArray := prog_5_method_6_code
def yX3_within : MethodName := ⟨RX3, "within", "(II)I"⟩
abbrev cX3_outside : ByteArray := prog_5_method_7_code
def yX3_outside : MethodName := ⟨RX3, "outside", "(LTermreckonry$Days;I)I"⟩
abbrev cX3_dayBehind : ByteArray := prog_5_method_8_code
def yX3_dayBehind : MethodName := ⟨RX3, "dayBehind", "(II)I"⟩
abbrev cX3_bitBehind : ByteArray := prog_5_method_9_code
def yX3_bitBehind : MethodName := ⟨RX3, "bitBehind", "(JI)I"⟩
abbrev cX3_bitsOf : ByteArray := prog_5_method_10_code
def yX3_bitsOf : MethodName := ⟨RX3, "bitsOf", "(III)J"⟩
def RX4 : String := "Termreckonry$Law"
def TX4 : u_T := fun k => match k with
  | 0 => ("Termreckonry$Law", "number", "I", true)
  | 1 => ("Termreckonry$Law", "byOffence", "Z", true)
  | 2 => ("Termreckonry$Law", "from", "I", true)
  | 3 => ("Termreckonry$Law", "eighths", "I", true)
  | _ => ("Termreckonry$Law", "needsBoard", "Z", true)
def tyX4 : Nat → FieldType := fun k => match k with
  | 0 => .int
  | 1 => .boolean
  | 2 => .int
  | 3 => .int
  | _ => .boolean
theorem nmX4 : ∀ a, a < 5 → ∀ b, b < 5 → a ≠ b → (TX4 a).2.1 ≠ (TX4 b).2.1 := by decide +kernel
theorem tyX4_ok : ∀ k, k < 5 → parseFieldDescriptor (TX4 k).2.2.1 = some (tyX4 k) := by decide +kernel
abbrev cX4_init : ByteArray := prog_6_method_1_code
def yX4_init : MethodName := ⟨RX4, "<init>", "(IZIIZ)V"⟩
def RX5 : String := "Termreckonry$Person"
def TX5 : u_T := fun k => match k with
  | 0 => ("Termreckonry$Person", "daysAtLarge", "LTermreckonry$Days;", true)
  | 1 => ("Termreckonry$Person", "daysHeld", "LTermreckonry$Days;", true)
  | 2 => ("Termreckonry$Person", "firstWarrant", "LTermreckonry$Warrant;", false)
  | 3 => ("Termreckonry$Person", "lastWarrant", "LTermreckonry$Warrant;", false)
  | 4 => ("Termreckonry$Person", "firstAdded", "LTermreckonry$Added;", false)
  | 5 => ("Termreckonry$Person", "unreadAdded", "LTermreckonry$Added;", false)
  | 6 => ("Termreckonry$Person", "firstRecall", "LTermreckonry$Recall;", false)
  | 7 => ("Termreckonry$Person", "lastRecall", "LTermreckonry$Recall;", false)
  | _ => ("Termreckonry$Person", "recalls", "I", false)
def tyX5 : Nat → FieldType := fun k => match k with
  | 0 => .object "Termreckonry$Days"
  | 1 => .object "Termreckonry$Days"
  | 2 => .object "Termreckonry$Warrant"
  | 3 => .object "Termreckonry$Warrant"
  | 4 => .object "Termreckonry$Added"
  | 5 => .object "Termreckonry$Added"
  | 6 => .object "Termreckonry$Recall"
  | 7 => .object "Termreckonry$Recall"
  | _ => .int
theorem nmX5 : ∀ a, a < 9 → ∀ b, b < 9 → a ≠ b → (TX5 a).2.1 ≠ (TX5 b).2.1 := by decide +kernel
theorem tyX5_ok : ∀ k, k < 9 → parseFieldDescriptor (TX5 k).2.2.1 = some (tyX5 k) := by decide +kernel
abbrev cX5_init : ByteArray := prog_7_method_1_code
def yX5_init : MethodName := ⟨RX5, "<init>", "()V"⟩
abbrev cX5_takeWarrant : ByteArray := prog_7_method_2_code
def yX5_takeWarrant : MethodName := ⟨RX5, "takeWarrant", "(LTermreckonry$Warrant;)V"⟩
abbrev cX5_takeRecall : ByteArray := prog_7_method_3_code
def yX5_takeRecall : MethodName := ⟨RX5, "takeRecall", "(LTermreckonry$Recall;)I"⟩
abbrev cX5_takeAdded : ByteArray := prog_7_method_4_code
def yX5_takeAdded : MethodName := ⟨RX5, "takeAdded", "(LTermreckonry$Added;)V"⟩
abbrev cX5_waitingWarrants : ByteArray := prog_7_method_5_code
def yX5_waitingWarrants : MethodName := ⟨RX5, "waitingWarrants", "()I"⟩
abbrev cX5_reckon : ByteArray := prog_7_method_6_code
def yX5_reckon : MethodName := ⟨RX5, "reckon", "()V"⟩
abbrev cX5_stateAt : ByteArray := prog_7_method_7_code
def yX5_stateAt : MethodName := ⟨RX5, "stateAt", "(I)C"⟩
abbrev cX5_keeperAt : ByteArray := prog_7_method_8_code
def yX5_keeperAt : MethodName := ⟨RX5, "keeperAt", "(I)LTermreckonry$Warrant;"⟩
abbrev cX5_recallAt : ByteArray := prog_7_method_9_code
def yX5_recallAt : MethodName := ⟨RX5, "recallAt", "(I)LTermreckonry$Recall;"⟩
abbrev cX5_isLicensed : ByteArray := prog_7_method_10_code
def yX5_isLicensed : MethodName := ⟨RX5, "isLicensed", "(I)Z"⟩
abbrev cX5_putDue : ByteArray := prog_7_method_11_code
def yX5_putDue : MethodName := ⟨RX5, "putDue", "(LTermreckonry$Days;)V"⟩
abbrev cX5_letter : ByteArray := prog_7_method_12_code
def yX5_letter : MethodName := ⟨RX5, "letter", "(ZZ)C"⟩
def RX6 : String := "Termreckonry$Recall"
def TX6 : u_T := fun k => match k with
  | 0 => ("Termreckonry$Recall", "owner", "LTermreckonry$Person;", true)
  | 1 => ("Termreckonry$Recall", "day", "I", true)
  | 2 => ("Termreckonry$Recall", "isFixed", "Z", true)
  | 3 => ("Termreckonry$Recall", "warrantsThen", "I", true)
  | 4 => ("Termreckonry$Recall", "letGoDay", "I", false)
  | 5 => ("Termreckonry$Recall", "until", "I", false)
  | 6 => ("Termreckonry$Recall", "clerksDays", "I", false)
  | 7 => ("Termreckonry$Recall", "clerksEnd", "Z", false)
  | _ => ("Termreckonry$Recall", "next", "LTermreckonry$Recall;", false)
def tyX6 : Nat → FieldType := fun k => match k with
  | 0 => .object "Termreckonry$Person"
  | 1 => .int
  | 2 => .boolean
  | 3 => .int
  | 4 => .int
  | 5 => .int
  | 6 => .int
  | 7 => .boolean
  | _ => .object "Termreckonry$Recall"
theorem nmX6 : ∀ a, a < 9 → ∀ b, b < 9 → a ≠ b → (TX6 a).2.1 ≠ (TX6 b).2.1 := by decide +kernel
theorem tyX6_ok : ∀ k, k < 9 → parseFieldDescriptor (TX6 k).2.2.1 = some (tyX6 k) := by decide +kernel
abbrev cX6_init : ByteArray := prog_8_method_1_code
def yX6_init : MethodName := ⟨RX6, "<init>", "(LTermreckonry$Person;IZI)V"⟩
abbrev cX6_reckon : ByteArray := prog_8_method_2_code
def yX6_reckon : MethodName := ⟨RX6, "reckon", "()V"⟩
abbrev cX6_firstDayUnlicensed : ByteArray := prog_8_method_3_code
def yX6_firstDayUnlicensed : MethodName := ⟨RX6, "firstDayUnlicensed", "()I"⟩
abbrev cX6_latestLicenceEnd : ByteArray := prog_8_method_4_code
def yX6_latestLicenceEnd : MethodName := ⟨RX6, "latestLicenceEnd", "(I)I"⟩
def RX7 : String := "Termreckonry$Tally"
def TX7 : u_T := fun k => match k with
  | 0 => ("Termreckonry$Tally", "begun", "I", false)
  | 1 => ("Termreckonry$Tally", "span", "I", false)
  | 2 => ("Termreckonry$Tally", "needs", "I", false)
  | 3 => ("Termreckonry$Tally", "served", "I", false)
  | 4 => ("Termreckonry$Tally", "missed", "I", false)
  | 5 => ("Termreckonry$Tally", "freed", "I", false)
  | _ => ("Termreckonry$Tally", "licenceEnd", "I", false)
def tyX7 : Nat → FieldType := fun k => match k with
  | 0 => .int
  | 1 => .int
  | 2 => .int
  | 3 => .int
  | 4 => .int
  | 5 => .int
  | _ => .int
theorem nmX7 : ∀ a, a < 7 → ∀ b, b < 7 → a ≠ b → (TX7 a).2.1 ≠ (TX7 b).2.1 := by decide +kernel
theorem tyX7_ok : ∀ k, k < 7 → parseFieldDescriptor (TX7 k).2.2.1 = some (tyX7 k) := by decide +kernel
abbrev cX7_init : ByteArray := prog_9_method_1_code
def yX7_init : MethodName := ⟨RX7, "<init>", "()V"⟩
abbrev cX7_open : ByteArray := prog_9_method_2_code
def yX7_open : MethodName := ⟨RX7, "open", "()V"⟩
abbrev cX7_runs : ByteArray := prog_9_method_3_code
def yX7_runs : MethodName := ⟨RX7, "runs", "()Z"⟩
abbrev cX7_licenses : ByteArray := prog_9_method_4_code
def yX7_licenses : MethodName := ⟨RX7, "licenses", "(I)Z"⟩
abbrev cX7_passDay : ByteArray := prog_9_method_5_code
def yX7_passDay : MethodName := ⟨RX7, "passDay", "(LTermreckonry$Warrant;IZ)V"⟩
abbrev cX7_putAdded : ByteArray := prog_9_method_6_code
def yX7_putAdded : MethodName := ⟨RX7, "putAdded", "(LTermreckonry$Warrant;LTermreckonry$Added;)V"⟩
abbrev cX7_mayBegin : ByteArray := prog_9_method_7_code
def yX7_mayBegin : MethodName := ⟨RX7, "mayBegin", "(LTermreckonry$Warrant;I)Z"⟩
abbrev cX7_mayLeave : ByteArray := prog_9_method_8_code
def yX7_mayLeave : MethodName := ⟨RX7, "mayLeave", "(LTermreckonry$Warrant;I)Z"⟩
abbrev cX7_endOfLicence : ByteArray := prog_9_method_9_code
def yX7_endOfLicence : MethodName := ⟨RX7, "endOfLicence", "(LTermreckonry$Warrant;)I"⟩
def RX8 : String := "Termreckonry$Term"
def TX8 : u_T := fun k => match k with
  | 0 => ("Termreckonry$Term", "years", "I", true)
  | 1 => ("Termreckonry$Term", "months", "I", true)
  | _ => ("Termreckonry$Term", "days", "I", true)
def tyX8 : Nat → FieldType := fun k => match k with
  | 0 => .int
  | 1 => .int
  | _ => .int
theorem nmX8 : ∀ a, a < 3 → ∀ b, b < 3 → a ≠ b → (TX8 a).2.1 ≠ (TX8 b).2.1 := by decide +kernel
theorem tyX8_ok : ∀ k, k < 3 → parseFieldDescriptor (TX8 k).2.2.1 = some (tyX8 k) := by decide +kernel
abbrev cX8_init : ByteArray := prog_10_method_1_code
def yX8_init : MethodName := ⟨RX8, "<init>", "(III)V"⟩
abbrev cX8_spanFrom : ByteArray := prog_10_method_2_code
def yX8_spanFrom : MethodName := ⟨RX8, "spanFrom", "(I)I"⟩
def RX9 : String := "Termreckonry$Warrant"
def TX9 : u_T := fun k => match k with
  | 0 => ("Termreckonry$Warrant", "number", "I", true)
  | 1 => ("Termreckonry$Warrant", "owner", "LTermreckonry$Person;", true)
  | 2 => ("Termreckonry$Warrant", "kind", "C", true)
  | 3 => ("Termreckonry$Warrant", "offence", "I", true)
  | 4 => ("Termreckonry$Warrant", "passed", "I", true)
  | 5 => ("Termreckonry$Warrant", "ahead", "LTermreckonry$Warrant;", true)
  | 6 => ("Termreckonry$Warrant", "tally", "LTermreckonry$Tally;", true)
  | 7 => ("Termreckonry$Warrant", "law", "LTermreckonry$Law;", false)
  | 8 => ("Termreckonry$Warrant", "term", "LTermreckonry$Term;", false)
  | 9 => ("Termreckonry$Warrant", "runsFrom", "I", false)
  | 10 => ("Termreckonry$Warrant", "yesDay", "I", false)
  | 11 => ("Termreckonry$Warrant", "countedWhole", "I", false)
  | 12 => ("Termreckonry$Warrant", "countedUnderTag", "I", false)
  | 13 => ("Termreckonry$Warrant", "quashed", "Z", false)
  | 14 => ("Termreckonry$Warrant", "begin", "I", false)
  | 15 => ("Termreckonry$Warrant", "neededDays", "I", false)
  | 16 => ("Termreckonry$Warrant", "releaseDay", "I", false)
  | 17 => ("Termreckonry$Warrant", "licenceEnd", "I", false)
  | _ => ("Termreckonry$Warrant", "next", "LTermreckonry$Warrant;", false)
def tyX9 : Nat → FieldType := fun k => match k with
  | 0 => .int
  | 1 => .object "Termreckonry$Person"
  | 2 => .char
  | 3 => .int
  | 4 => .int
  | 5 => .object "Termreckonry$Warrant"
  | 6 => .object "Termreckonry$Tally"
  | 7 => .object "Termreckonry$Law"
  | 8 => .object "Termreckonry$Term"
  | 9 => .int
  | 10 => .int
  | 11 => .int
  | 12 => .int
  | 13 => .boolean
  | 14 => .int
  | 15 => .int
  | 16 => .int
  | 17 => .int
  | _ => .object "Termreckonry$Warrant"
theorem nmX9 : ∀ a, a < 19 → ∀ b, b < 19 → a ≠ b → (TX9 a).2.1 ≠ (TX9 b).2.1 := by decide +kernel
theorem tyX9_ok : ∀ k, k < 19 → parseFieldDescriptor (TX9 k).2.2.1 = some (tyX9 k) := by decide +kernel
abbrev cX9_init : ByteArray := prog_11_method_1_code
def yX9_init : MethodName := ⟨RX9, "<init>", "(ILTermreckonry$Person;CIILTermreckonry$Warrant;LTermreckonry$Term;)V"⟩
abbrev cX9_apply : ByteArray := prog_11_method_2_code
def yX9_apply : MethodName := ⟨RX9, "apply", "(LTermreckonry$Law;)V"⟩
abbrev cX9_isLikeFixed : ByteArray := prog_11_method_3_code
def yX9_isLikeFixed : MethodName := ⟨RX9, "isLikeFixed", "()Z"⟩
abbrev cX9_waits : ByteArray := prog_11_method_4_code
def yX9_waits : MethodName := ⟨RX9, "waits", "()Z"⟩
abbrev cX9_counts : ByteArray := prog_11_method_5_code
def yX9_counts : MethodName := ⟨RX9, "counts", "()Z"⟩
abbrev cX9_ownDay : ByteArray := prog_11_method_6_code
def yX9_ownDay : MethodName := ⟨RX9, "ownDay", "()I"⟩
abbrev cX9_needsYes : ByteArray := prog_11_method_7_code
def yX9_needsYes : MethodName := ⟨RX9, "needsYes", "()Z"⟩
abbrev cX9_countedDays : ByteArray := prog_11_method_8_code
def yX9_countedDays : MethodName := ⟨RX9, "countedDays", "()I"⟩
abbrev cX9_neededOf : ByteArray := prog_11_method_9_code
def yX9_neededOf : MethodName := ⟨RX9, "neededOf", "(I)I"⟩
abbrev cX9_mostNeededOf : ByteArray := prog_11_method_10_code
def yX9_mostNeededOf : MethodName := ⟨RX9, "mostNeededOf", "(I)I"⟩
abbrev cX9_keepsOn : ByteArray := prog_11_method_11_code
def yX9_keepsOn : MethodName := ⟨RX9, "keepsOn", "(I)Z"⟩
abbrev cX9_licensesOn : ByteArray := prog_11_method_12_code
def yX9_licensesOn : MethodName := ⟨RX9, "licensesOn", "(I)Z"⟩
abbrev cX9_reckon : ByteArray := prog_11_method_13_code
def yX9_reckon : MethodName := ⟨RX9, "reckon", "()V"⟩
abbrev cX9_reckonBegin : ByteArray := prog_11_method_14_code
def yX9_reckonBegin : MethodName := ⟨RX9, "reckonBegin", "()I"⟩
abbrev cX9_releaseAfter : ByteArray := prog_11_method_15_code
def yX9_releaseAfter : MethodName := ⟨RX9, "releaseAfter", "(I)I"⟩
abbrev cX9_endAfter : ByteArray := prog_11_method_16_code
def yX9_endAfter : MethodName := ⟨RX9, "endAfter", "(I)I"⟩
def RX10 : String := "Termreckonry"
def TX10 : u_T := fun k => match k with
  | 0 => ("Termreckonry", "laws", "[LTermreckonry$Law;", true)
  | 1 => ("Termreckonry", "persons", "[LTermreckonry$Person;", true)
  | 2 => ("Termreckonry", "warrants", "[LTermreckonry$Warrant;", true)
  | 3 => ("Termreckonry", "additions", "[LTermreckonry$Added;", true)
  | 4 => ("Termreckonry", "due", "LTermreckonry$Days;", true)
  | 5 => ("Termreckonry", "lawCount", "I", false)
  | 6 => ("Termreckonry", "personCount", "I", false)
  | 7 => ("Termreckonry", "warrantCount", "I", false)
  | 8 => ("Termreckonry", "additionCount", "I", false)
  | _ => ("Termreckonry", "recallCount", "I", false)
def tyX10 : Nat → FieldType := fun k => match k with
  | 0 => .array (.object "Termreckonry$Law")
  | 1 => .array (.object "Termreckonry$Person")
  | 2 => .array (.object "Termreckonry$Warrant")
  | 3 => .array (.object "Termreckonry$Added")
  | 4 => .object "Termreckonry$Days"
  | 5 => .int
  | 6 => .int
  | 7 => .int
  | 8 => .int
  | _ => .int
theorem nmX10 : ∀ a, a < 10 → ∀ b, b < 10 → a ≠ b → (TX10 a).2.1 ≠ (TX10 b).2.1 := by decide +kernel
theorem tyX10_ok : ∀ k, k < 10 → parseFieldDescriptor (TX10 k).2.2.1 = some (tyX10 k) := by decide +kernel
abbrev cX10_init : ByteArray := prog_1_method_1_code
def yX10_init : MethodName := ⟨RX10, "<init>", "()V"⟩
abbrev cX10_dayOf : ByteArray := prog_1_method_2_code
def yX10_dayOf : MethodName := ⟨RX10, "dayOf", "(III)I"⟩
abbrev cX10_dateOf : ByteArray := prog_1_method_3_code
def yX10_dateOf : MethodName := ⟨RX10, "dateOf", "(I)I"⟩
abbrev cX10_length : ByteArray := prog_1_method_4_code
def yX10_length : MethodName := ⟨RX10, "length", "(IIII)I"⟩
abbrev cX10_law : ByteArray := prog_1_method_5_code
def yX10_law : MethodName := ⟨RX10, "law", "(CIIZ)I"⟩
abbrev cX10_lawOf : ByteArray := prog_1_method_6_code
def yX10_lawOf : MethodName := ⟨RX10, "lawOf", "(I)I"⟩
abbrev cX10_person : ByteArray := prog_1_method_7_code
def yX10_person : MethodName := ⟨RX10, "person", "()I"⟩
abbrev cX10_warrant : ByteArray := prog_1_method_8_code
def yX10_warrant : MethodName := ⟨RX10, "warrant", "(ICIIIIII)I"⟩
abbrev cX10_count : ByteArray := prog_1_method_9_code
def yX10_count : MethodName := ⟨RX10, "count", "(IIZ)I"⟩
abbrev cX10_activate : ByteArray := prog_1_method_10_code
def yX10_activate : MethodName := ⟨RX10, "activate", "(II)I"⟩
abbrev cX10_vary : ByteArray := prog_1_method_11_code
def yX10_vary : MethodName := ⟨RX10, "vary", "(IIII)I"⟩
abbrev cX10_quash : ByteArray := prog_1_method_12_code
def yX10_quash : MethodName := ⟨RX10, "quash", "(I)Z"⟩
abbrev cX10_approve : ByteArray := prog_1_method_13_code
def yX10_approve : MethodName := ⟨RX10, "approve", "(II)I"⟩
abbrev cX10_add : ByteArray := prog_1_method_14_code
def yX10_add : MethodName := ⟨RX10, "add", "(III)I"⟩
abbrev cX10_giveBack : ByteArray := prog_1_method_15_code
def yX10_giveBack : MethodName := ⟨RX10, "giveBack", "(II)I"⟩
abbrev cX10_atLarge : ByteArray := prog_1_method_16_code
def yX10_atLarge : MethodName := ⟨RX10, "atLarge", "(III)I"⟩
abbrev cX10_recall : ByteArray := prog_1_method_17_code
def yX10_recall : MethodName := ⟨RX10, "recall", "(IIC)I"⟩
abbrev cX10_letGo : ByteArray := prog_1_method_18_code
def yX10_letGo : MethodName := ⟨RX10, "letGo", "(II)I"⟩
abbrev cX10_begins : ByteArray := prog_1_method_19_code
def yX10_begins : MethodName := ⟨RX10, "begins", "(I)I"⟩
abbrev cX10_needed : ByteArray := prog_1_method_20_code
def yX10_needed : MethodName := ⟨RX10, "needed", "(I)I"⟩
abbrev cX10_release : ByteArray := prog_1_method_21_code
def yX10_release : MethodName := ⟨RX10, "release", "(I)I"⟩
abbrev cX10_end : ByteArray := prog_1_method_22_code
def yX10_end : MethodName := ⟨RX10, "end", "(I)I"⟩
abbrev cX10_stateOn : ByteArray := prog_1_method_23_code
def yX10_stateOn : MethodName := ⟨RX10, "stateOn", "(II)C"⟩
abbrev cX10_byClerk : ByteArray := prog_1_method_24_code
def yX10_byClerk : MethodName := ⟨RX10, "byClerk", "(II)C"⟩
abbrev cX10_keeper : ByteArray := prog_1_method_25_code
def yX10_keeper : MethodName := ⟨RX10, "keeper", "(II)I"⟩
abbrev cX10_held : ByteArray := prog_1_method_26_code
def yX10_held : MethodName := ⟨RX10, "held", "(III)I"⟩
abbrev cX10_tooLong : ByteArray := prog_1_method_27_code
def yX10_tooLong : MethodName := ⟨RX10, "tooLong", "(II)I"⟩
abbrev cX10_tooShort : ByteArray := prog_1_method_28_code
def yX10_tooShort : MethodName := ⟨RX10, "tooShort", "(II)I"⟩
abbrev cX10_warrants : ByteArray := prog_1_method_29_code
def yX10_warrants : MethodName := ⟨RX10, "warrants", "()I"⟩
abbrev cX10_owed : ByteArray := prog_1_method_30_code
def yX10_owed : MethodName := ⟨RX10, "owed", "()J"⟩
abbrev cX10_prisonShare : ByteArray := prog_1_method_31_code
def yX10_prisonShare : MethodName := ⟨RX10, "prisonShare", "(I)F"⟩
abbrev cX10_meanNeeded : ByteArray := prog_1_method_32_code
def yX10_meanNeeded : MethodName := ⟨RX10, "meanNeeded", "()D"⟩
abbrev cX10_isTrue : ByteArray := prog_1_method_33_code
def yX10_isTrue : MethodName := ⟨RX10, "isTrue", "()Z"⟩
abbrev cX10_knownPerson : ByteArray := prog_1_method_34_code
def yX10_knownPerson : MethodName := ⟨RX10, "knownPerson", "(I)LTermreckonry$Person;"⟩
abbrev cX10_knownWarrant : ByteArray := prog_1_method_35_code
def yX10_knownWarrant : MethodName := ⟨RX10, "knownWarrant", "(I)LTermreckonry$Warrant;"⟩
abbrev cX10_knownAdded : ByteArray := prog_1_method_36_code
def yX10_knownAdded : MethodName := ⟨RX10, "knownAdded", "(I)LTermreckonry$Added;"⟩
abbrev cX10_begunWarrant : ByteArray := prog_1_method_37_code
def yX10_begunWarrant : MethodName := ⟨RX10, "begunWarrant", "(I)LTermreckonry$Warrant;"⟩
abbrev cX10_sumNeeded : ByteArray := prog_1_method_38_code
def yX10_sumNeeded : MethodName := ⟨RX10, "sumNeeded", "()J"⟩
abbrev cX10_reckonAll : ByteArray := prog_1_method_39_code
def yX10_reckonAll : MethodName := ⟨RX10, "reckonAll", "()V"⟩
abbrev cX10_requireRange : ByteArray := prog_1_method_40_code
def yX10_requireRange : MethodName := ⟨RX10, "requireRange", "(III)V"⟩
abbrev cX10_requireDay : ByteArray := prog_1_method_41_code
def yX10_requireDay : MethodName := ⟨RX10, "requireDay", "(I)V"⟩
abbrev cX10_requireSpan : ByteArray := prog_1_method_42_code
def yX10_requireSpan : MethodName := ⟨RX10, "requireSpan", "(II)V"⟩
abbrev cX10_requireTerm : ByteArray := prog_1_method_43_code
def yX10_requireTerm : MethodName := ⟨RX10, "requireTerm", "(III)V"⟩
abbrev cX10_requireSomeTerm : ByteArray := prog_1_method_44_code
def yX10_requireSomeTerm : MethodName := ⟨RX10, "requireSomeTerm", "(III)V"⟩
abbrev cX10_requireKind : ByteArray := prog_1_method_45_code
def yX10_requireKind : MethodName := ⟨RX10, "requireKind", "(C)V"⟩
def RX11 : String := "TermreckonryModel$Added"
def TX11 : u_T := fun k => match k with
  | 0 => ("TermreckonryModel$Added", "person", "I", true)
  | 1 => ("TermreckonryModel$Added", "day", "I", true)
  | _ => ("TermreckonryModel$Added", "left", "I", false)
def tyX11 : Nat → FieldType := fun k => match k with
  | 0 => .int
  | 1 => .int
  | _ => .int
theorem nmX11 : ∀ a, a < 3 → ∀ b, b < 3 → a ≠ b → (TX11 a).2.1 ≠ (TX11 b).2.1 := by decide +kernel
theorem tyX11_ok : ∀ k, k < 3 → parseFieldDescriptor (TX11 k).2.2.1 = some (tyX11 k) := by decide +kernel
abbrev cX11_init : ByteArray := prog_14_method_1_code
def yX11_init : MethodName := ⟨RX11, "<init>", "(III)V"⟩
def RX12 : String := "TermreckonryModel$Fact"
def TX12 : u_T := fun k => match k with
  | 0 => ("TermreckonryModel$Fact", "begins", "Z", false)
  | 1 => ("TermreckonryModel$Fact", "begin", "I", false)
  | 2 => ("TermreckonryModel$Fact", "length", "I", false)
  | 3 => ("TermreckonryModel$Fact", "needed", "I", false)
  | 4 => ("TermreckonryModel$Fact", "release", "I", false)
  | _ => ("TermreckonryModel$Fact", "end", "I", false)
def tyX12 : Nat → FieldType := fun k => match k with
  | 0 => .boolean
  | 1 => .int
  | 2 => .int
  | 3 => .int
  | 4 => .int
  | _ => .int
theorem nmX12 : ∀ a, a < 6 → ∀ b, b < 6 → a ≠ b → (TX12 a).2.1 ≠ (TX12 b).2.1 := by decide +kernel
theorem tyX12_ok : ∀ k, k < 6 → parseFieldDescriptor (TX12 k).2.2.1 = some (tyX12 k) := by decide +kernel
abbrev cX12_init : ByteArray := prog_15_method_1_code
def yX12_init : MethodName := ⟨RX12, "<init>", "()V"⟩
def RX13 : String := "TermreckonryModel$Law"
def TX13 : u_T := fun k => match k with
  | 0 => ("TermreckonryModel$Law", "by", "C", true)
  | 1 => ("TermreckonryModel$Law", "from", "I", true)
  | 2 => ("TermreckonryModel$Law", "eighths", "I", true)
  | _ => ("TermreckonryModel$Law", "needsBoard", "Z", true)
def tyX13 : Nat → FieldType := fun k => match k with
  | 0 => .char
  | 1 => .int
  | 2 => .int
  | _ => .boolean
theorem nmX13 : ∀ a, a < 4 → ∀ b, b < 4 → a ≠ b → (TX13 a).2.1 ≠ (TX13 b).2.1 := by decide +kernel
theorem tyX13_ok : ∀ k, k < 4 → parseFieldDescriptor (TX13 k).2.2.1 = some (tyX13 k) := by decide +kernel
abbrev cX13_init : ByteArray := prog_16_method_1_code
def yX13_init : MethodName := ⟨RX13, "<init>", "(CIIZ)V"⟩
def RX14 : String := "TermreckonryModel$Person"
def TX14 : u_T := fun k => match k with
  | 0 => ("TermreckonryModel$Person", "free", "[I", true)
  | 1 => ("TermreckonryModel$Person", "isAway", "[Z", true)
  | _ => ("TermreckonryModel$Person", "isHeld", "[Z", true)
def tyX14 : Nat → FieldType := fun k => match k with
  | 0 => .array .int
  | 1 => .array .boolean
  | _ => .array .boolean
theorem nmX14 : ∀ a, a < 3 → ∀ b, b < 3 → a ≠ b → (TX14 a).2.1 ≠ (TX14 b).2.1 := by decide +kernel
theorem tyX14_ok : ∀ k, k < 3 → parseFieldDescriptor (TX14 k).2.2.1 = some (tyX14 k) := by decide +kernel
abbrev cX14_init : ByteArray := prog_17_method_1_code
def yX14_init : MethodName := ⟨RX14, "<init>", "()V"⟩
abbrev cX14_sums : ByteArray := prog_17_method_2_code
def yX14_sums : MethodName := ⟨RX14, "sums", "()V"⟩
abbrev cX14_behind : ByteArray := prog_17_method_3_code
def yX14_behind : MethodName := ⟨RX14, "behind", "(II)I"⟩
def RX15 : String := "TermreckonryModel$Recall"
def TX15 : u_T := fun k => match k with
  | 0 => ("TermreckonryModel$Recall", "person", "I", true)
  | 1 => ("TermreckonryModel$Recall", "day", "I", true)
  | 2 => ("TermreckonryModel$Recall", "kind", "C", true)
  | 3 => ("TermreckonryModel$Recall", "warrants", "I", true)
  | _ => ("TermreckonryModel$Recall", "letGo", "I", false)
def tyX15 : Nat → FieldType := fun k => match k with
  | 0 => .int
  | 1 => .int
  | 2 => .char
  | 3 => .int
  | _ => .int
theorem nmX15 : ∀ a, a < 5 → ∀ b, b < 5 → a ≠ b → (TX15 a).2.1 ≠ (TX15 b).2.1 := by decide +kernel
theorem tyX15_ok : ∀ k, k < 5 → parseFieldDescriptor (TX15 k).2.2.1 = some (tyX15 k) := by decide +kernel
abbrev cX15_init : ByteArray := prog_18_method_1_code
def yX15_init : MethodName := ⟨RX15, "<init>", "(IICI)V"⟩
def RX16 : String := "TermreckonryModel$Warrant"
def TX16 : u_T := fun k => match k with
  | 0 => ("TermreckonryModel$Warrant", "person", "I", true)
  | 1 => ("TermreckonryModel$Warrant", "kind", "C", true)
  | 2 => ("TermreckonryModel$Warrant", "offence", "I", true)
  | 3 => ("TermreckonryModel$Warrant", "passed", "I", true)
  | 4 => ("TermreckonryModel$Warrant", "behind", "I", true)
  | 5 => ("TermreckonryModel$Warrant", "years", "I", false)
  | 6 => ("TermreckonryModel$Warrant", "months", "I", false)
  | 7 => ("TermreckonryModel$Warrant", "days", "I", false)
  | 8 => ("TermreckonryModel$Warrant", "plain", "I", false)
  | 9 => ("TermreckonryModel$Warrant", "tagged", "I", false)
  | 10 => ("TermreckonryModel$Warrant", "runs", "I", false)
  | 11 => ("TermreckonryModel$Warrant", "isQuashed", "Z", false)
  | _ => ("TermreckonryModel$Warrant", "yes", "I", false)
def tyX16 : Nat → FieldType := fun k => match k with
  | 0 => .int
  | 1 => .char
  | 2 => .int
  | 3 => .int
  | 4 => .int
  | 5 => .int
  | 6 => .int
  | 7 => .int
  | 8 => .int
  | 9 => .int
  | 10 => .int
  | 11 => .boolean
  | _ => .int
theorem nmX16 : ∀ a, a < 13 → ∀ b, b < 13 → a ≠ b → (TX16 a).2.1 ≠ (TX16 b).2.1 := by decide +kernel
theorem tyX16_ok : ∀ k, k < 13 → parseFieldDescriptor (TX16 k).2.2.1 = some (tyX16 k) := by decide +kernel
abbrev cX16_init : ByteArray := prog_19_method_1_code
def yX16_init : MethodName := ⟨RX16, "<init>", "(ICIII)V"⟩
abbrev cX16_counted : ByteArray := prog_19_method_2_code
def yX16_counted : MethodName := ⟨RX16, "counted", "()I"⟩
abbrev cX16_counts : ByteArray := prog_19_method_3_code
def yX16_counts : MethodName := ⟨RX16, "counts", "()Z"⟩
abbrev cX16_isFixed : ByteArray := prog_19_method_4_code
def yX16_isFixed : MethodName := ⟨RX16, "isFixed", "()Z"⟩
abbrev cX16_length : ByteArray := prog_19_method_5_code
def yX16_length : MethodName := ⟨RX16, "length", "(I)I"⟩
def RX17 : String := "TermreckonryModel"
def TX17 : u_T := fun k => match k with
  | 0 => ("TermreckonryModel", "thrown", "I", false)
  | 1 => ("TermreckonryModel", "laws", "Ljava/util/ArrayList;", true)
  | 2 => ("TermreckonryModel", "persons", "Ljava/util/ArrayList;", true)
  | 3 => ("TermreckonryModel", "warrants", "Ljava/util/ArrayList;", true)
  | 4 => ("TermreckonryModel", "added", "Ljava/util/ArrayList;", true)
  | _ => ("TermreckonryModel", "recalls", "Ljava/util/ArrayList;", true)
def tyX17 : Nat → FieldType := fun k => match k with
  | 0 => .int
  | 1 => .object "java/util/ArrayList"
  | 2 => .object "java/util/ArrayList"
  | 3 => .object "java/util/ArrayList"
  | 4 => .object "java/util/ArrayList"
  | _ => .object "java/util/ArrayList"
theorem nmX17 : ∀ a, a < 6 → ∀ b, b < 6 → a ≠ b → (TX17 a).2.1 ≠ (TX17 b).2.1 := by decide +kernel
theorem tyX17_ok : ∀ k, k < 6 → parseFieldDescriptor (TX17 k).2.2.1 = some (tyX17 k) := by decide +kernel
abbrev cX17_in : ByteArray := prog_13_method_1_code
def yX17_in : MethodName := ⟨RX17, "in", "(III)Z"⟩
abbrev cX17_init : ByteArray := prog_13_method_2_code
def yX17_init : MethodName := ⟨RX17, "<init>", "()V"⟩
abbrev cX17_thrown : ByteArray := prog_13_method_3_code
def yX17_thrown : MethodName := ⟨RX17, "thrown", "()I"⟩
abbrev cX17_raises : ByteArray := prog_13_method_4_code
def yX17_raises : MethodName := ⟨RX17, "raises", "(I)I"⟩
abbrev cX17_isLeap : ByteArray := prog_13_method_5_code
def yX17_isLeap : MethodName := ⟨RX17, "isLeap", "(I)Z"⟩
abbrev cX17_daysOf : ByteArray := prog_13_method_6_code
def yX17_daysOf : MethodName := ⟨RX17, "daysOf", "(II)I"⟩
abbrev cX17_firstOf : ByteArray := prog_13_method_7_code
def yX17_firstOf : MethodName := ⟨RX17, "firstOf", "(I)I"⟩
abbrev cX17_monthOf : ByteArray := prog_13_method_8_code
def yX17_monthOf : MethodName := ⟨RX17, "monthOf", "(I)I"⟩
abbrev cX17_lengthOf : ByteArray := prog_13_method_9_code
def yX17_lengthOf : MethodName := ⟨RX17, "lengthOf", "(IIII)I"⟩
abbrev cX17_dayOf : ByteArray := prog_13_method_10_code
def yX17_dayOf : MethodName := ⟨RX17, "dayOf", "(III)I"⟩
abbrev cX17_noDay : ByteArray := prog_13_method_11_code
def yX17_noDay : MethodName := ⟨RX17, "noDay", "(I)Z"⟩
abbrev cX17_dateOf : ByteArray := prog_13_method_12_code
def yX17_dateOf : MethodName := ⟨RX17, "dateOf", "(I)I"⟩
abbrev cX17_areTerm : ByteArray := prog_13_method_13_code
def yX17_areTerm : MethodName := ⟨RX17, "areTerm", "(III)Z"⟩
abbrev cX17_length : ByteArray := prog_13_method_14_code
def yX17_length : MethodName := ⟨RX17, "length", "(IIII)I"⟩
abbrev cX17_law : ByteArray := prog_13_method_15_code
def yX17_law : MethodName := ⟨RX17, "law", "(CIIZ)I"⟩
abbrev cX17_lawFor : ByteArray := prog_13_method_16_code
def yX17_lawFor : MethodName := ⟨RX17, "lawFor", "(LTermreckonryModel$Warrant;)I"⟩
abbrev cX17_isWarrant : ByteArray := prog_13_method_17_code
def yX17_isWarrant : MethodName := ⟨RX17, "isWarrant", "(I)Z"⟩
abbrev cX17_noWarrant : ByteArray := prog_13_method_18_code
def yX17_noWarrant : MethodName := ⟨RX17, "noWarrant", "(I)Z"⟩
abbrev cX17_lawOf : ByteArray := prog_13_method_19_code
def yX17_lawOf : MethodName := ⟨RX17, "lawOf", "(I)I"⟩
abbrev cX17_person : ByteArray := prog_13_method_20_code
def yX17_person : MethodName := ⟨RX17, "person", "()I"⟩
abbrev cX17_isPerson : ByteArray := prog_13_method_21_code
def yX17_isPerson : MethodName := ⟨RX17, "isPerson", "(I)Z"⟩
abbrev cX17_warrant : ByteArray := prog_13_method_22_code
def yX17_warrant : MethodName := ⟨RX17, "warrant", "(ICIIIIII)I"⟩
abbrev cX17_count : ByteArray := prog_13_method_23_code
def yX17_count : MethodName := ⟨RX17, "count", "(IIZ)I"⟩
abbrev cX17_activate : ByteArray := prog_13_method_24_code
def yX17_activate : MethodName := ⟨RX17, "activate", "(II)I"⟩
abbrev cX17_vary : ByteArray := prog_13_method_25_code
def yX17_vary : MethodName := ⟨RX17, "vary", "(IIII)I"⟩
abbrev cX17_quash : ByteArray := prog_13_method_26_code
def yX17_quash : MethodName := ⟨RX17, "quash", "(I)Z"⟩
abbrev cX17_approve : ByteArray := prog_13_method_27_code
def yX17_approve : MethodName := ⟨RX17, "approve", "(II)I"⟩
abbrev cX17_noPerson : ByteArray := prog_13_method_28_code
def yX17_noPerson : MethodName := ⟨RX17, "noPerson", "(IZ)Z"⟩
abbrev cX17_add : ByteArray := prog_13_method_29_code
def yX17_add : MethodName := ⟨RX17, "add", "(III)I"⟩
abbrev cX17_giveBack : ByteArray := prog_13_method_30_code
def yX17_giveBack : MethodName := ⟨RX17, "giveBack", "(II)I"⟩
abbrev cX17_marks : ByteArray := prog_13_method_31_code
def yX17_marks : MethodName := ⟨RX17, "marks", "([ZII)I"⟩
abbrev cX17_areSpan : ByteArray := prog_13_method_32_code
def yX17_areSpan : MethodName := ⟨RX17, "areSpan", "(II)Z"⟩
abbrev cX17_atLarge : ByteArray := prog_13_method_33_code
def yX17_atLarge : MethodName := ⟨RX17, "atLarge", "(III)I"⟩
abbrev cX17_releaseBy : ByteArray := prog_13_method_34_code
def yX17_releaseBy : MethodName := ⟨RX17, "releaseBy", "(LTermreckonryModel$Warrant;II)I"⟩
abbrev cX17_addedOf : ByteArray := prog_13_method_35_code
def yX17_addedOf : MethodName := ⟨RX17, "addedOf", "(I)Ljava/util/ArrayList;"⟩
abbrev cX17_factOf : ByteArray := prog_13_method_36_code
def yX17_factOf : MethodName := ⟨RX17, "factOf", "(LTermreckonryModel$Warrant;[LTermreckonryModel$Fact;)LTermreckonryModel$Fact;"⟩
abbrev cX17_facts : ByteArray := prog_13_method_37_code
def yX17_facts : MethodName := ⟨RX17, "facts", "()[LTermreckonryModel$Fact;"⟩
abbrev cX17_hasLicence : ByteArray := prog_13_method_38_code
def yX17_hasLicence : MethodName := ⟨RX17, "hasLicence", "(LTermreckonryModel$Warrant;LTermreckonryModel$Fact;I)Z"⟩
abbrev cX17_isLicensed : ByteArray := prog_13_method_39_code
def yX17_isLicensed : MethodName := ⟨RX17, "isLicensed", "(II[LTermreckonryModel$Fact;I)Z"⟩
abbrev cX17_goesOn : ByteArray := prog_13_method_40_code
def yX17_goesOn : MethodName := ⟨RX17, "goesOn", "(LTermreckonryModel$Recall;I[LTermreckonryModel$Fact;)Z"⟩
abbrev cX17_isIn : ByteArray := prog_13_method_41_code
def yX17_isIn : MethodName := ⟨RX17, "isIn", "(II[LTermreckonryModel$Fact;)Z"⟩
abbrev cX17_stateOf : ByteArray := prog_13_method_42_code
def yX17_stateOf : MethodName := ⟨RX17, "stateOf", "(II[LTermreckonryModel$Fact;)C"⟩
abbrev cX17_recall : ByteArray := prog_13_method_43_code
def yX17_recall : MethodName := ⟨RX17, "recall", "(IIC)I"⟩
abbrev cX17_letGo : ByteArray := prog_13_method_44_code
def yX17_letGo : MethodName := ⟨RX17, "letGo", "(II)I"⟩
abbrev cX17_begun : ByteArray := prog_13_method_45_code
def yX17_begun : MethodName := ⟨RX17, "begun", "(I)LTermreckonryModel$Fact;"⟩
abbrev cX17_begins : ByteArray := prog_13_method_46_code
def yX17_begins : MethodName := ⟨RX17, "begins", "(I)I"⟩
abbrev cX17_needed : ByteArray := prog_13_method_47_code
def yX17_needed : MethodName := ⟨RX17, "needed", "(I)I"⟩
abbrev cX17_release : ByteArray := prog_13_method_48_code
def yX17_release : MethodName := ⟨RX17, "release", "(I)I"⟩
abbrev cX17_end : ByteArray := prog_13_method_49_code
def yX17_end : MethodName := ⟨RX17, "end", "(I)I"⟩
abbrev cX17_stateOn : ByteArray := prog_13_method_50_code
def yX17_stateOn : MethodName := ⟨RX17, "stateOn", "(II)C"⟩
abbrev cX17_byClerk : ByteArray := prog_13_method_51_code
def yX17_byClerk : MethodName := ⟨RX17, "byClerk", "(II)C"⟩
abbrev cX17_keeper : ByteArray := prog_13_method_52_code
def yX17_keeper : MethodName := ⟨RX17, "keeper", "(II)I"⟩
abbrev cX17_held : ByteArray := prog_13_method_53_code
def yX17_held : MethodName := ⟨RX17, "held", "(III)I"⟩
abbrev cX17_counted : ByteArray := prog_13_method_54_code
def yX17_counted : MethodName := ⟨RX17, "counted", "(IIZLjava/lang/String;)I"⟩
abbrev cX17_endOf : ByteArray := prog_13_method_55_code
def yX17_endOf : MethodName := ⟨RX17, "endOf", "(LTermreckonryModel$Recall;[LTermreckonryModel$Fact;)I"⟩
abbrev cX17_fast : ByteArray := prog_13_method_56_code
def yX17_fast : MethodName := ⟨RX17, "fast", "(II[LTermreckonryModel$Fact;[I)C"⟩
abbrev cX17_tooLong : ByteArray := prog_13_method_57_code
def yX17_tooLong : MethodName := ⟨RX17, "tooLong", "(II)I"⟩
abbrev cX17_tooShort : ByteArray := prog_13_method_58_code
def yX17_tooShort : MethodName := ⟨RX17, "tooShort", "(II)I"⟩
abbrev cX17_warrants : ByteArray := prog_13_method_59_code
def yX17_warrants : MethodName := ⟨RX17, "warrants", "()I"⟩
abbrev cX17_owed : ByteArray := prog_13_method_60_code
def yX17_owed : MethodName := ⟨RX17, "owed", "()J"⟩
abbrev cX17_prisonShare : ByteArray := prog_13_method_61_code
def yX17_prisonShare : MethodName := ⟨RX17, "prisonShare", "(I)F"⟩
abbrev cX17_meanNeeded : ByteArray := prog_13_method_62_code
def yX17_meanNeeded : MethodName := ⟨RX17, "meanNeeded", "()D"⟩
abbrev cX17_isTrue : ByteArray := prog_13_method_63_code
def yX17_isTrue : MethodName := ⟨RX17, "isTrue", "()Z"⟩
def RJx145de : String := "java/io/Serializable"
def TJx145de : u_T := fun k => match k with
  | _ => ("", "", "", false)
def tyJx145de : Nat → FieldType := fun k => match k with
  | _ => .int
theorem nmJx145de : ∀ a, a < 0 → ∀ b, b < 0 → a ≠ b → (TJx145de a).2.1 ≠ (TJx145de b).2.1 := by decide +kernel
theorem tyJx145de_ok : ∀ k, k < 0 → parseFieldDescriptor (TJx145de k).2.2.1 = some (tyJx145de k) := by decide +kernel
def RJ5 : String := "java/lang/AbstractStringBuilder"
def TJ5 : u_T := fun k => match k with
  | _ => ("", "", "", false)
def tyJ5 : Nat → FieldType := fun k => match k with
  | _ => .int
theorem nmJ5 : ∀ a, a < 0 → ∀ b, b < 0 → a ≠ b → (TJ5 a).2.1 ≠ (TJ5 b).2.1 := by decide +kernel
theorem tyJ5_ok : ∀ k, k < 0 → parseFieldDescriptor (TJ5 k).2.2.1 = some (tyJ5 k) := by decide +kernel
abbrev cJ5_init_d00df : ByteArray := prog_21_method_2_code
def yJ5_init_d00df : MethodName := ⟨RJ5, "<init>", "(I)V"⟩
abbrev cJ5_length_8abf5 : ByteArray := prog_21_method_6_code
def yJ5_length_8abf5 : MethodName := ⟨RJ5, "length", "()I"⟩
abbrev cJ5_ensureCapacityInternal_d00df : ByteArray := prog_21_method_9_code
def yJ5_ensureCapacityInternal_d00df : MethodName := ⟨RJ5, "ensureCapacityInternal", "(I)V"⟩
abbrev cJ5_newCapacity_0f7a4 : ByteArray := prog_21_method_10_code
def yJ5_newCapacity_0f7a4 : MethodName := ⟨RJ5, "newCapacity", "(I)I"⟩
abbrev cJ5_inflate_da8c8 : ByteArray := prog_21_method_11_code
def yJ5_inflate_da8c8 : MethodName := ⟨RJ5, "inflate", "()V"⟩
abbrev cJ5_append_cf1ce : ByteArray := prog_21_method_22_code
def yJ5_append_cf1ce : MethodName := ⟨RJ5, "append", "(Ljava/lang/String;)Ljava/lang/AbstractStringBuilder;"⟩
abbrev cJ5_appendNull_278bc : ByteArray := prog_21_method_26_code
def yJ5_appendNull_278bc : MethodName := ⟨RJ5, "appendNull", "()Ljava/lang/AbstractStringBuilder;"⟩
abbrev cJ5_append_c97b9 : ByteArray := prog_21_method_32_code
def yJ5_append_c97b9 : MethodName := ⟨RJ5, "append", "(I)Ljava/lang/AbstractStringBuilder;"⟩
abbrev cJ5_getValue_6d5f1 : ByteArray := prog_21_method_64_code
def yJ5_getValue_6d5f1 : MethodName := ⟨RJ5, "getValue", "()[B"⟩
abbrev cJ5_isLatin1_aae02 : ByteArray := prog_21_method_68_code
def yJ5_isLatin1_aae02 : MethodName := ⟨RJ5, "isLatin1", "()Z"⟩
abbrev cJ5_inflateIfNeededFor_a7421 : ByteArray := prog_21_method_71_code
def yJ5_inflateIfNeededFor_a7421 : MethodName := ⟨RJ5, "inflateIfNeededFor", "(Ljava/lang/String;)V"⟩
abbrev cJ5_putStringAt_47b60 : ByteArray := prog_21_method_73_code
def yJ5_putStringAt_47b60 : MethodName := ⟨RJ5, "putStringAt", "(ILjava/lang/String;)V"⟩
def RJx2cfe8 : String := "java/lang/Appendable"
def TJx2cfe8 : u_T := fun k => match k with
  | _ => ("", "", "", false)
def tyJx2cfe8 : Nat → FieldType := fun k => match k with
  | _ => .int
theorem nmJx2cfe8 : ∀ a, a < 0 → ∀ b, b < 0 → a ≠ b → (TJx2cfe8 a).2.1 ≠ (TJx2cfe8 b).2.1 := by decide +kernel
theorem tyJx2cfe8_ok : ∀ k, k < 0 → parseFieldDescriptor (TJx2cfe8 k).2.2.1 = some (tyJx2cfe8 k) := by decide +kernel
def RJx00060 : String := "java/lang/ArrayIndexOutOfBoundsException"
def TJx00060 : u_T := fun k => match k with
  | 0 => ("java/lang/Throwable", "backtrace", "Ljava/lang/Object;", false)
  | 1 => ("java/lang/Throwable", "detailMessage", "Ljava/lang/String;", false)
  | 2 => ("java/lang/Throwable", "cause", "Ljava/lang/Throwable;", false)
  | 3 => ("java/lang/Throwable", "stackTrace", "[Ljava/lang/StackTraceElement;", false)
  | 4 => ("java/lang/Throwable", "depth", "I", false)
  | _ => ("java/lang/Throwable", "suppressedExceptions", "Ljava/util/List;", false)
def tyJx00060 : Nat → FieldType := fun k => match k with
  | 0 => .object "java/lang/Object"
  | 1 => .object "java/lang/String"
  | 2 => .object "java/lang/Throwable"
  | 3 => .array (.object "java/lang/StackTraceElement")
  | 4 => .int
  | _ => .object "java/util/List"
theorem nmJx00060 : ∀ a, a < 6 → ∀ b, b < 6 → a ≠ b → (TJx00060 a).2.1 ≠ (TJx00060 b).2.1 := by decide +kernel
theorem tyJx00060_ok : ∀ k, k < 6 → parseFieldDescriptor (TJx00060 k).2.2.1 = some (tyJx00060 k) := by decide +kernel
abbrev cJx00060_init_a7421 : ByteArray := prog_24_method_2_code
def yJx00060_init_a7421 : MethodName := ⟨RJx00060, "<init>", "(Ljava/lang/String;)V"⟩
def RJx9f9b0 : String := "java/lang/CharSequence"
def TJx9f9b0 : u_T := fun k => match k with
  | _ => ("", "", "", false)
def tyJx9f9b0 : Nat → FieldType := fun k => match k with
  | _ => .int
theorem nmJx9f9b0 : ∀ a, a < 0 → ∀ b, b < 0 → a ≠ b → (TJx9f9b0 a).2.1 ≠ (TJx9f9b0 b).2.1 := by decide +kernel
theorem tyJx9f9b0_ok : ∀ k, k < 0 → parseFieldDescriptor (TJx9f9b0 k).2.2.1 = some (tyJx9f9b0 k) := by decide +kernel
def RJ11 : String := "java/lang/Character"
def TJ11 : u_T := fun k => match k with
  | _ => ("", "", "", false)
def tyJ11 : Nat → FieldType := fun k => match k with
  | _ => .int
theorem nmJ11 : ∀ a, a < 0 → ∀ b, b < 0 → a ≠ b → (TJ11 a).2.1 ≠ (TJ11 b).2.1 := by decide +kernel
theorem tyJ11_ok : ∀ k, k < 0 → parseFieldDescriptor (TJ11 k).2.2.1 = some (tyJ11 k) := by decide +kernel
abbrev cJ11_isValidCodePoint_9a6ad : ByteArray := prog_26_method_11_code
def yJ11_isValidCodePoint_9a6ad : MethodName := ⟨RJ11, "isValidCodePoint", "(I)Z"⟩
abbrev cJ11_highSurrogate_5068e : ByteArray := prog_26_method_28_code
def yJ11_highSurrogate_5068e : MethodName := ⟨RJ11, "highSurrogate", "(I)C"⟩
abbrev cJ11_lowSurrogate_5068e : ByteArray := prog_26_method_29_code
def yJ11_lowSurrogate_5068e : MethodName := ⟨RJ11, "lowSurrogate", "(I)C"⟩
def RJx8e188 : String := "java/lang/Cloneable"
def TJx8e188 : u_T := fun k => match k with
  | _ => ("", "", "", false)
def tyJx8e188 : Nat → FieldType := fun k => match k with
  | _ => .int
theorem nmJx8e188 : ∀ a, a < 0 → ∀ b, b < 0 → a ≠ b → (TJx8e188 a).2.1 ≠ (TJx8e188 b).2.1 := by decide +kernel
theorem tyJx8e188_ok : ∀ k, k < 0 → parseFieldDescriptor (TJx8e188 k).2.2.1 = some (tyJx8e188 k) := by decide +kernel
def RJxb160c : String := "java/lang/Comparable"
def TJxb160c : u_T := fun k => match k with
  | _ => ("", "", "", false)
def tyJxb160c : Nat → FieldType := fun k => match k with
  | _ => .int
theorem nmJxb160c : ∀ a, a < 0 → ∀ b, b < 0 → a ≠ b → (TJxb160c a).2.1 ≠ (TJxb160c b).2.1 := by decide +kernel
theorem tyJxb160c_ok : ∀ k, k < 0 → parseFieldDescriptor (TJxb160c k).2.2.1 = some (tyJxb160c k) := by decide +kernel
def RJ6 : String := "java/lang/Integer"
def TJ6 : u_T := fun k => match k with
  | _ => ("", "", "", false)
def tyJ6 : Nat → FieldType := fun k => match k with
  | _ => .int
theorem nmJ6 : ∀ a, a < 0 → ∀ b, b < 0 → a ≠ b → (TJ6 a).2.1 ≠ (TJ6 b).2.1 := by decide +kernel
theorem tyJ6_ok : ∀ k, k < 0 → parseFieldDescriptor (TJ6 k).2.2.1 = some (tyJ6 k) := by decide +kernel
abbrev cJ6_getChars_ba4f3 : ByteArray := prog_33_method_12_code
def yJ6_getChars_ba4f3 : MethodName := ⟨RJ6, "getChars", "(II[B)I"⟩
abbrev cJ6_stringSize_0f7a4 : ByteArray := prog_33_method_13_code
def yJ6_stringSize_0f7a4 : MethodName := ⟨RJ6, "stringSize", "(I)I"⟩
def RJxab1ab : String := "java/lang/Iterable"
def TJxab1ab : u_T := fun k => match k with
  | _ => ("", "", "", false)
def tyJxab1ab : Nat → FieldType := fun k => match k with
  | _ => .int
theorem nmJxab1ab : ∀ a, a < 0 → ∀ b, b < 0 → a ≠ b → (TJxab1ab a).2.1 ≠ (TJxab1ab b).2.1 := by decide +kernel
theorem tyJxab1ab_ok : ∀ k, k < 0 → parseFieldDescriptor (TJxab1ab k).2.2.1 = some (tyJxab1ab k) := by decide +kernel
def RJ13 : String := "java/lang/Long"
def TJ13 : u_T := fun k => match k with
  | _ => ("", "", "", false)
def tyJ13 : Nat → FieldType := fun k => match k with
  | _ => .int
theorem nmJ13 : ∀ a, a < 0 → ∀ b, b < 0 → a ≠ b → (TJ13 a).2.1 ≠ (TJ13 b).2.1 := by decide +kernel
theorem tyJ13_ok : ∀ k, k < 0 → parseFieldDescriptor (TJ13 k).2.2.1 = some (tyJ13 k) := by decide +kernel
abbrev cJ13_bitCount_95d88 : ByteArray := prog_35_method_50_code
def yJ13_bitCount_95d88 : MethodName := ⟨RJ13, "bitCount", "(J)I"⟩
def RJ9 : String := "java/lang/Math"
def TJ9 : u_T := fun k => match k with
  | _ => ("", "", "", false)
def tyJ9 : Nat → FieldType := fun k => match k with
  | _ => .int
theorem nmJ9 : ∀ a, a < 0 → ∀ b, b < 0 → a ≠ b → (TJ9 a).2.1 ≠ (TJ9 b).2.1 := by decide +kernel
theorem tyJ9_ok : ∀ k, k < 0 → parseFieldDescriptor (TJ9 k).2.2.1 = some (tyJ9 k) := by decide +kernel
abbrev cJ9_max_7cf53 : ByteArray := prog_36_method_65_code
def yJ9_max_7cf53 : MethodName := ⟨RJ9, "max", "(II)I"⟩
abbrev cJ9_min_7cf53 : ByteArray := prog_36_method_69_code
def yJ9_min_7cf53 : MethodName := ⟨RJ9, "min", "(II)I"⟩
def RJxd2413 : String := "java/lang/Number"
def TJxd2413 : u_T := fun k => match k with
  | _ => ("", "", "", false)
def tyJxd2413 : Nat → FieldType := fun k => match k with
  | _ => .int
theorem nmJxd2413 : ∀ a, a < 0 → ∀ b, b < 0 → a ≠ b → (TJxd2413 a).2.1 ≠ (TJxd2413 b).2.1 := by decide +kernel
theorem tyJxd2413_ok : ∀ k, k < 0 → parseFieldDescriptor (TJxd2413 k).2.2.1 = some (tyJxd2413 k) := by decide +kernel
def RJ0 : String := "java/lang/String"
def TJ0 : u_T := fun k => match k with
  | 0 => ("java/lang/String", "value", "[B", true)
  | 1 => ("java/lang/String", "coder", "B", true)
  | 2 => ("java/lang/String", "hash", "I", false)
  | _ => ("java/lang/String", "hashIsZero", "Z", false)
def tyJ0 : Nat → FieldType := fun k => match k with
  | 0 => .array .byte
  | 1 => .byte
  | 2 => .int
  | _ => .boolean
theorem nmJ0 : ∀ a, a < 4 → ∀ b, b < 4 → a ≠ b → (TJ0 a).2.1 ≠ (TJ0 b).2.1 := by decide +kernel
theorem tyJ0_ok : ∀ k, k < 4 → parseFieldDescriptor (TJ0 k).2.2.1 = some (tyJ0 k) := by decide +kernel
abbrev cJ0_init_81219 : ByteArray := prog_39_method_53_code
def yJ0_init_81219 : MethodName := ⟨RJ0, "<init>", "(Ljava/lang/StringBuilder;)V"⟩
abbrev cJ0_length_8abf5 : ByteArray := prog_39_method_54_code
def yJ0_length_8abf5 : MethodName := ⟨RJ0, "length", "()I"⟩
abbrev cJ0_indexOf_0f7a4 : ByteArray := prog_39_method_79_code
def yJ0_indexOf_0f7a4 : MethodName := ⟨RJ0, "indexOf", "(I)I"⟩
abbrev cJ0_indexOf_7cf53 : ByteArray := prog_39_method_80_code
def yJ0_indexOf_7cf53 : MethodName := ⟨RJ0, "indexOf", "(II)I"⟩
abbrev cJ0_getBytes_840e7 : ByteArray := prog_39_method_147_code
def yJ0_getBytes_840e7 : MethodName := ⟨RJ0, "getBytes", "([BIB)V"⟩
abbrev cJ0_init_db425 : ByteArray := prog_39_method_150_code
def yJ0_init_db425 : MethodName := ⟨RJ0, "<init>", "(Ljava/lang/AbstractStringBuilder;Ljava/lang/Void;)V"⟩
abbrev cJ0_coder_7d493 : ByteArray := prog_39_method_152_code
def yJ0_coder_7d493 : MethodName := ⟨RJ0, "coder", "()B"⟩
abbrev cJ0_isLatin1_aae02 : ByteArray := prog_39_method_154_code
def yJ0_isLatin1_aae02 : MethodName := ⟨RJ0, "isLatin1", "()Z"⟩
abbrev cJ0_checkBoundsOffCount_cabcc : ByteArray := prog_39_method_157_code
def yJ0_checkBoundsOffCount_cabcc : MethodName := ⟨RJ0, "checkBoundsOffCount", "(III)I"⟩
abbrev cJ0_checkBoundsBeginEnd_23922 : ByteArray := prog_39_method_158_code
def yJ0_checkBoundsBeginEnd_23922 : MethodName := ⟨RJ0, "checkBoundsBeginEnd", "(III)V"⟩
def RJ4 : String := "java/lang/StringBuilder"
def TJ4 : u_T := fun k => match k with
  | 0 => ("java/lang/AbstractStringBuilder", "value", "[B", false)
  | 1 => ("java/lang/AbstractStringBuilder", "coder", "B", false)
  | 2 => ("java/lang/AbstractStringBuilder", "maybeLatin1", "Z", false)
  | _ => ("java/lang/AbstractStringBuilder", "count", "I", false)
def tyJ4 : Nat → FieldType := fun k => match k with
  | 0 => .array .byte
  | 1 => .byte
  | 2 => .boolean
  | _ => .int
theorem nmJ4 : ∀ a, a < 4 → ∀ b, b < 4 → a ≠ b → (TJ4 a).2.1 ≠ (TJ4 b).2.1 := by decide +kernel
theorem tyJ4_ok : ∀ k, k < 4 → parseFieldDescriptor (TJ4 k).2.2.1 = some (tyJ4 k) := by decide +kernel
abbrev cJ4_init_da8c8 : ByteArray := prog_40_method_1_code
def yJ4_init_da8c8 : MethodName := ⟨RJ4, "<init>", "()V"⟩
abbrev cJ4_append_15ec4 : ByteArray := prog_40_method_7_code
def yJ4_append_15ec4 : MethodName := ⟨RJ4, "append", "(Ljava/lang/String;)Ljava/lang/StringBuilder;"⟩
abbrev cJ4_append_bf812 : ByteArray := prog_40_method_15_code
def yJ4_append_bf812 : MethodName := ⟨RJ4, "append", "(I)Ljava/lang/StringBuilder;"⟩
abbrev cJ4_toString_0e30d : ByteArray := prog_40_method_42_code
def yJ4_toString_0e30d : MethodName := ⟨RJ4, "toString", "()Ljava/lang/String;"⟩
abbrev cJ4_length_8abf5 : ByteArray := prog_40_method_93_code
def yJ4_length_8abf5 : MethodName := ⟨RJ4, "length", "()I"⟩
def RJ1 : String := "java/lang/StringLatin1"
def TJ1 : u_T := fun k => match k with
  | _ => ("", "", "", false)
def tyJ1 : Nat → FieldType := fun k => match k with
  | _ => .int
theorem nmJ1 : ∀ a, a < 0 → ∀ b, b < 0 → a ≠ b → (TJ1 a).2.1 ≠ (TJ1 b).2.1 := by decide +kernel
theorem tyJ1_ok : ∀ k, k < 0 → parseFieldDescriptor (TJ1 k).2.2.1 = some (tyJ1 k) := by decide +kernel
abbrev cJ1_canEncode_9a6ad : ByteArray := prog_41_method_4_code
def yJ1_canEncode_9a6ad : MethodName := ⟨RJ1, "canEncode", "(I)Z"⟩
abbrev cJ1_indexOf_4cfef : ByteArray := prog_41_method_22_code
def yJ1_indexOf_4cfef : MethodName := ⟨RJ1, "indexOf", "([BIII)I"⟩
abbrev cJ1_indexOfChar_4cfef : ByteArray := prog_41_method_23_code
def yJ1_indexOfChar_4cfef : MethodName := ⟨RJ1, "indexOfChar", "([BIII)I"⟩
abbrev cJ1_inflate_0e8fd : ByteArray := prog_41_method_50_code
def yJ1_inflate_0e8fd : MethodName := ⟨RJ1, "inflate", "([BI[BII)V"⟩
def RJ2 : String := "java/lang/StringUTF16"
def TJ2 : u_T := fun k => match k with
  | _ => ("", "", "", false)
def tyJ2 : Nat → FieldType := fun k => match k with
  | _ => .int
theorem nmJ2 : ∀ a, a < 0 → ∀ b, b < 0 → a ≠ b → (TJ2 a).2.1 ≠ (TJ2 b).2.1 := by decide +kernel
theorem tyJ2_ok : ∀ k, k < 0 → parseFieldDescriptor (TJ2 k).2.2.1 = some (tyJ2 k) := by decide +kernel
abbrev cJ2_newBytesFor_77867 : ByteArray := prog_42_method_2_code
def yJ2_newBytesFor_77867 : MethodName := ⟨RJ2, "newBytesFor", "(I)[B"⟩
abbrev cJ2_newBytesLength_0f7a4 : ByteArray := prog_42_method_3_code
def yJ2_newBytesLength_0f7a4 : MethodName := ⟨RJ2, "newBytesLength", "(I)I"⟩
abbrev cJ2_putChar_b72d1 : ByteArray := prog_42_method_4_code
def yJ2_putChar_b72d1 : MethodName := ⟨RJ2, "putChar", "([BII)V"⟩
abbrev cJ2_getChar_3b067 : ByteArray := prog_42_method_5_code
def yJ2_getChar_3b067 : MethodName := ⟨RJ2, "getChar", "([BI)C"⟩
abbrev cJ2_length_9d52b : ByteArray := prog_42_method_6_code
def yJ2_length_9d52b : MethodName := ⟨RJ2, "length", "([B)I"⟩
abbrev cJ2_coderFromArrayLen_85cad : ByteArray := prog_42_method_15_code
def yJ2_coderFromArrayLen_85cad : MethodName := ⟨RJ2, "coderFromArrayLen", "([BI)B"⟩
abbrev cJ2_compress_39247 : ByteArray := prog_42_method_17_code
def yJ2_compress_39247 : MethodName := ⟨RJ2, "compress", "([BII)[B"⟩
abbrev cJ2_compress_5af95 : ByteArray := prog_42_method_22_code
def yJ2_compress_5af95 : MethodName := ⟨RJ2, "compress", "([BI[BII)I"⟩
abbrev cJ2_indexOf_4cfef : ByteArray := prog_42_method_40_code
def yJ2_indexOf_4cfef : MethodName := ⟨RJ2, "indexOf", "([BIII)I"⟩
abbrev cJ2_indexOfChar_4cfef : ByteArray := prog_42_method_47_code
def yJ2_indexOfChar_4cfef : MethodName := ⟨RJ2, "indexOfChar", "([BIII)I"⟩
abbrev cJ2_indexOfCharUnsafe_4cfef : ByteArray := prog_42_method_48_code
def yJ2_indexOfCharUnsafe_4cfef : MethodName := ⟨RJ2, "indexOfCharUnsafe", "([BIII)I"⟩
abbrev cJ2_indexOfSupplementary_4cfef : ByteArray := prog_42_method_49_code
def yJ2_indexOfSupplementary_4cfef : MethodName := ⟨RJ2, "indexOfSupplementary", "([BIII)I"⟩
abbrev cJ2_getChars_46870 : ByteArray := prog_42_method_77_code
def yJ2_getChars_46870 : MethodName := ⟨RJ2, "getChars", "(III[B)I"⟩
abbrev cJ2_putCharsAt_cd4e5 : ByteArray := prog_42_method_81_code
def yJ2_putCharsAt_cd4e5 : MethodName := ⟨RJ2, "putCharsAt", "([BICCCC)I"⟩
abbrev cJ2_inflate_0e8fd : ByteArray := prog_42_method_86_code
def yJ2_inflate_0e8fd : MethodName := ⟨RJ2, "inflate", "([BI[BII)V"⟩
abbrev cJ2_getChars_ba4f3 : ByteArray := prog_42_method_89_code
def yJ2_getChars_ba4f3 : MethodName := ⟨RJ2, "getChars", "(II[B)I"⟩
abbrev cJ2_checkBoundsBeginEnd_d044e : ByteArray := prog_42_method_93_code
def yJ2_checkBoundsBeginEnd_d044e : MethodName := ⟨RJ2, "checkBoundsBeginEnd", "(II[B)V"⟩
abbrev cJ2_checkBoundsOffCount_d044e : ByteArray := prog_42_method_94_code
def yJ2_checkBoundsOffCount_d044e : MethodName := ⟨RJ2, "checkBoundsOffCount", "(II[B)V"⟩
def RJ10 : String := "java/lang/System"
def TJ10 : u_T := fun k => match k with
  | _ => ("", "", "", false)
def tyJ10 : Nat → FieldType := fun k => match k with
  | _ => .int
theorem nmJ10 : ∀ a, a < 0 → ∀ b, b < 0 → a ≠ b → (TJ10 a).2.1 ≠ (TJ10 b).2.1 := by decide +kernel
theorem tyJ10_ok : ∀ k, k < 0 → parseFieldDescriptor (TJ10 k).2.2.1 = some (tyJ10 k) := by decide +kernel
def RJxfd54e : String := "java/lang/constant/Constable"
def TJxfd54e : u_T := fun k => match k with
  | _ => ("", "", "", false)
def tyJxfd54e : Nat → FieldType := fun k => match k with
  | _ => .int
theorem nmJxfd54e : ∀ a, a < 0 → ∀ b, b < 0 → a ≠ b → (TJxfd54e a).2.1 ≠ (TJxfd54e b).2.1 := by decide +kernel
theorem tyJxfd54e_ok : ∀ k, k < 0 → parseFieldDescriptor (TJxfd54e k).2.2.1 = some (tyJxfd54e k) := by decide +kernel
def RJx3cf43 : String := "java/lang/constant/ConstantDesc"
def TJx3cf43 : u_T := fun k => match k with
  | _ => ("", "", "", false)
def tyJx3cf43 : Nat → FieldType := fun k => match k with
  | _ => .int
theorem nmJx3cf43 : ∀ a, a < 0 → ∀ b, b < 0 → a ≠ b → (TJx3cf43 a).2.1 ≠ (TJx3cf43 b).2.1 := by decide +kernel
theorem tyJx3cf43_ok : ∀ k, k < 0 → parseFieldDescriptor (TJx3cf43 k).2.2.1 = some (tyJx3cf43 k) := by decide +kernel
def RJxa1e45 : String := "java/util/AbstractCollection"
def TJxa1e45 : u_T := fun k => match k with
  | _ => ("", "", "", false)
def tyJxa1e45 : Nat → FieldType := fun k => match k with
  | _ => .int
theorem nmJxa1e45 : ∀ a, a < 0 → ∀ b, b < 0 → a ≠ b → (TJxa1e45 a).2.1 ≠ (TJxa1e45 b).2.1 := by decide +kernel
theorem tyJxa1e45_ok : ∀ k, k < 0 → parseFieldDescriptor (TJxa1e45 k).2.2.1 = some (tyJxa1e45 k) := by decide +kernel
abbrev cJxa1e45_init_da8c8 : ByteArray := prog_48_method_1_code
def yJxa1e45_init_da8c8 : MethodName := ⟨RJxa1e45, "<init>", "()V"⟩
def RJxc12de : String := "java/util/AbstractList"
def TJxc12de : u_T := fun k => match k with
  | _ => ("", "", "", false)
def tyJxc12de : Nat → FieldType := fun k => match k with
  | _ => .int
theorem nmJxc12de : ∀ a, a < 0 → ∀ b, b < 0 → a ≠ b → (TJxc12de a).2.1 ≠ (TJxc12de b).2.1 := by decide +kernel
theorem tyJxc12de_ok : ∀ k, k < 0 → parseFieldDescriptor (TJxc12de k).2.2.1 = some (tyJxc12de k) := by decide +kernel
abbrev cJxc12de_init_da8c8 : ByteArray := prog_49_method_1_code
def yJxc12de_init_da8c8 : MethodName := ⟨RJxc12de, "<init>", "()V"⟩
def RJx35411 : String := "java/util/ArrayList$Itr"
def TJx35411 : u_T := fun k => match k with
  | 0 => ("java/util/ArrayList$Itr", "cursor", "I", false)
  | 1 => ("java/util/ArrayList$Itr", "lastRet", "I", false)
  | 2 => ("java/util/ArrayList$Itr", "expectedModCount", "I", false)
  | _ => ("java/util/ArrayList$Itr", "this$0", "Ljava/util/ArrayList;", true)
def tyJx35411 : Nat → FieldType := fun k => match k with
  | 0 => .int
  | 1 => .int
  | 2 => .int
  | _ => .object "java/util/ArrayList"
theorem nmJx35411 : ∀ a, a < 4 → ∀ b, b < 4 → a ≠ b → (TJx35411 a).2.1 ≠ (TJx35411 b).2.1 := by decide +kernel
theorem tyJx35411_ok : ∀ k, k < 4 → parseFieldDescriptor (TJx35411 k).2.2.1 = some (tyJx35411 k) := by decide +kernel
abbrev cJx35411_init_45d68 : ByteArray := prog_51_method_1_code
def yJx35411_init_45d68 : MethodName := ⟨RJx35411, "<init>", "(Ljava/util/ArrayList;)V"⟩
abbrev cJx35411_hasNext_aae02 : ByteArray := prog_51_method_2_code
def yJx35411_hasNext_aae02 : MethodName := ⟨RJx35411, "hasNext", "()Z"⟩
abbrev cJx35411_next_0502b : ByteArray := prog_51_method_3_code
def yJx35411_next_0502b : MethodName := ⟨RJx35411, "next", "()Ljava/lang/Object;"⟩
abbrev cJx35411_checkForComodification_da8c8 : ByteArray := prog_51_method_6_code
def yJx35411_checkForComodification_da8c8 : MethodName := ⟨RJx35411, "checkForComodification", "()V"⟩
def RJx4a65c : String := "java/util/ArrayList"
def TJx4a65c : u_T := fun k => match k with
  | 0 => ("java/util/AbstractList", "modCount", "I", false)
  | 1 => ("java/util/ArrayList", "elementData", "[Ljava/lang/Object;", false)
  | _ => ("java/util/ArrayList", "size", "I", false)
def tyJx4a65c : Nat → FieldType := fun k => match k with
  | 0 => .int
  | 1 => .array (.object "java/lang/Object")
  | _ => .int
theorem nmJx4a65c : ∀ a, a < 3 → ∀ b, b < 3 → a ≠ b → (TJx4a65c a).2.1 ≠ (TJx4a65c b).2.1 := by decide +kernel
theorem tyJx4a65c_ok : ∀ k, k < 3 → parseFieldDescriptor (TJx4a65c k).2.2.1 = some (tyJx4a65c k) := by decide +kernel
abbrev cJx4a65c_init_da8c8 : ByteArray := prog_50_method_2_code
def yJx4a65c_init_da8c8 : MethodName := ⟨RJx4a65c, "<init>", "()V"⟩
abbrev cJx4a65c_grow_92f84 : ByteArray := prog_50_method_6_code
def yJx4a65c_grow_92f84 : MethodName := ⟨RJx4a65c, "grow", "(I)[Ljava/lang/Object;"⟩
abbrev cJx4a65c_grow_d5877 : ByteArray := prog_50_method_7_code
def yJx4a65c_grow_d5877 : MethodName := ⟨RJx4a65c, "grow", "()[Ljava/lang/Object;"⟩
abbrev cJx4a65c_size_8abf5 : ByteArray := prog_50_method_8_code
def yJx4a65c_size_8abf5 : MethodName := ⟨RJx4a65c, "size", "()I"⟩
abbrev cJx4a65c_isEmpty_aae02 : ByteArray := prog_50_method_9_code
def yJx4a65c_isEmpty_aae02 : MethodName := ⟨RJx4a65c, "isEmpty", "()Z"⟩
abbrev cJx4a65c_elementData_915e3 : ByteArray := prog_50_method_18_code
def yJx4a65c_elementData_915e3 : MethodName := ⟨RJx4a65c, "elementData", "(I)Ljava/lang/Object;"⟩
abbrev cJx4a65c_get_915e3 : ByteArray := prog_50_method_20_code
def yJx4a65c_get_915e3 : MethodName := ⟨RJx4a65c, "get", "(I)Ljava/lang/Object;"⟩
abbrev cJx4a65c_add_72be8 : ByteArray := prog_50_method_24_code
def yJx4a65c_add_72be8 : MethodName := ⟨RJx4a65c, "add", "(Ljava/lang/Object;[Ljava/lang/Object;I)V"⟩
abbrev cJx4a65c_add_9ea2d : ByteArray := prog_50_method_25_code
def yJx4a65c_add_9ea2d : MethodName := ⟨RJx4a65c, "add", "(Ljava/lang/Object;)Z"⟩
abbrev cJx4a65c_add_7a177 : ByteArray := prog_50_method_26_code
def yJx4a65c_add_7a177 : MethodName := ⟨RJx4a65c, "add", "(ILjava/lang/Object;)V"⟩
abbrev cJx4a65c_rangeCheckForAdd_d00df : ByteArray := prog_50_method_45_code
def yJx4a65c_rangeCheckForAdd_d00df : MethodName := ⟨RJx4a65c, "rangeCheckForAdd", "(I)V"⟩
abbrev cJx4a65c_outOfBoundsMsg_b52d3 : ByteArray := prog_50_method_46_code
def yJx4a65c_outOfBoundsMsg_b52d3 : MethodName := ⟨RJx4a65c, "outOfBoundsMsg", "(I)Ljava/lang/String;"⟩
abbrev cJx4a65c_iterator_32c93 : ByteArray := prog_50_method_55_code
def yJx4a65c_iterator_32c93 : MethodName := ⟨RJx4a65c, "iterator", "()Ljava/util/Iterator;"⟩
def RJ7 : String := "java/util/Arrays"
def TJ7 : u_T := fun k => match k with
  | _ => ("", "", "", false)
def tyJ7 : Nat → FieldType := fun k => match k with
  | _ => .int
theorem nmJ7 : ∀ a, a < 0 → ∀ b, b < 0 → a ≠ b → (TJ7 a).2.1 ≠ (TJ7 b).2.1 := by decide +kernel
theorem tyJ7_ok : ∀ k, k < 0 → parseFieldDescriptor (TJ7 k).2.2.1 = some (tyJ7 k) := by decide +kernel
abbrev cJ7_copyOf_1904c : ByteArray := prog_52_method_119_code
def yJ7_copyOf_1904c : MethodName := ⟨RJ7, "copyOf", "([Ljava/lang/Object;I)[Ljava/lang/Object;"⟩
abbrev cJ7_copyOf_6403c : ByteArray := prog_52_method_120_code
def yJ7_copyOf_6403c : MethodName := ⟨RJ7, "copyOf", "([Ljava/lang/Object;ILjava/lang/Class;)[Ljava/lang/Object;"⟩
abbrev cJ7_copyOf_9075b : ByteArray := prog_52_method_121_code
def yJ7_copyOf_9075b : MethodName := ⟨RJ7, "copyOf", "([BI)[B"⟩
abbrev cJ7_checkLength_df160 : ByteArray := prog_52_method_131_code
def yJ7_checkLength_df160 : MethodName := ⟨RJ7, "checkLength", "(II)V"⟩
abbrev cJ7_copyOfRange_39247 : ByteArray := prog_52_method_132_code
def yJ7_copyOfRange_39247 : MethodName := ⟨RJ7, "copyOfRange", "([BII)[B"⟩
abbrev cJ7_copyOfRangeByte_39247 : ByteArray := prog_52_method_133_code
def yJ7_copyOfRangeByte_39247 : MethodName := ⟨RJ7, "copyOfRangeByte", "([BII)[B"⟩
def RJx5ef63 : String := "java/util/Collection"
def TJx5ef63 : u_T := fun k => match k with
  | _ => ("", "", "", false)
def tyJx5ef63 : Nat → FieldType := fun k => match k with
  | _ => .int
theorem nmJx5ef63 : ∀ a, a < 0 → ∀ b, b < 0 → a ≠ b → (TJx5ef63 a).2.1 ≠ (TJx5ef63 b).2.1 := by decide +kernel
theorem tyJx5ef63_ok : ∀ k, k < 0 → parseFieldDescriptor (TJx5ef63 k).2.2.1 = some (tyJx5ef63 k) := by decide +kernel
def RJx4d0d8 : String := "java/util/Iterator"
def TJx4d0d8 : u_T := fun k => match k with
  | _ => ("", "", "", false)
def tyJx4d0d8 : Nat → FieldType := fun k => match k with
  | _ => .int
theorem nmJx4d0d8 : ∀ a, a < 0 → ∀ b, b < 0 → a ≠ b → (TJx4d0d8 a).2.1 ≠ (TJx4d0d8 b).2.1 := by decide +kernel
theorem tyJx4d0d8_ok : ∀ k, k < 0 → parseFieldDescriptor (TJx4d0d8 k).2.2.1 = some (tyJx4d0d8 k) := by decide +kernel
def RJxbd725 : String := "java/util/List"
def TJxbd725 : u_T := fun k => match k with
  | _ => ("", "", "", false)
def tyJxbd725 : Nat → FieldType := fun k => match k with
  | _ => .int
theorem nmJxbd725 : ∀ a, a < 0 → ∀ b, b < 0 → a ≠ b → (TJxbd725 a).2.1 ≠ (TJxbd725 b).2.1 := by decide +kernel
theorem tyJxbd725_ok : ∀ k, k < 0 → parseFieldDescriptor (TJxbd725 k).2.2.1 = some (tyJxbd725 k) := by decide +kernel
def RJ15 : String := "java/util/Objects"
def TJ15 : u_T := fun k => match k with
  | _ => ("", "", "", false)
def tyJ15 : Nat → FieldType := fun k => match k with
  | _ => .int
theorem nmJ15 : ∀ a, a < 0 → ∀ b, b < 0 → a ≠ b → (TJ15 a).2.1 ≠ (TJ15 b).2.1 := by decide +kernel
theorem tyJ15_ok : ∀ k, k < 0 → parseFieldDescriptor (TJ15 k).2.2.1 = some (tyJ15 k) := by decide +kernel
abbrev cJ15_checkIndex_7cf53 : ByteArray := prog_57_method_17_code
def yJ15_checkIndex_7cf53 : MethodName := ⟨RJ15, "checkIndex", "(II)I"⟩
def RJxf0a74 : String := "java/util/RandomAccess"
def TJxf0a74 : u_T := fun k => match k with
  | _ => ("", "", "", false)
def tyJxf0a74 : Nat → FieldType := fun k => match k with
  | _ => .int
theorem nmJxf0a74 : ∀ a, a < 0 → ∀ b, b < 0 → a ≠ b → (TJxf0a74 a).2.1 ≠ (TJxf0a74 b).2.1 := by decide +kernel
theorem tyJxf0a74_ok : ∀ k, k < 0 → parseFieldDescriptor (TJxf0a74 k).2.2.1 = some (tyJxf0a74 k) := by decide +kernel
def RJxa66e6 : String := "java/util/SequencedCollection"
def TJxa66e6 : u_T := fun k => match k with
  | _ => ("", "", "", false)
def tyJxa66e6 : Nat → FieldType := fun k => match k with
  | _ => .int
theorem nmJxa66e6 : ∀ a, a < 0 → ∀ b, b < 0 → a ≠ b → (TJxa66e6 a).2.1 ≠ (TJxa66e6 b).2.1 := by decide +kernel
theorem tyJxa66e6_ok : ∀ k, k < 0 → parseFieldDescriptor (TJxa66e6 k).2.2.1 = some (tyJxa66e6 k) := by decide +kernel
def RJ8 : String := "jdk/internal/util/ArraysSupport"
def TJ8 : u_T := fun k => match k with
  | _ => ("", "", "", false)
def tyJ8 : Nat → FieldType := fun k => match k with
  | _ => .int
theorem nmJ8 : ∀ a, a < 0 → ∀ b, b < 0 → a ≠ b → (TJ8 a).2.1 ≠ (TJ8 b).2.1 := by decide +kernel
theorem tyJ8_ok : ∀ k, k < 0 → parseFieldDescriptor (TJ8 k).2.2.1 = some (tyJ8 k) := by decide +kernel
abbrev cJ8_newLength_cabcc : ByteArray := prog_60_method_27_code
def yJ8_newLength_cabcc : MethodName := ⟨RJ8, "newLength", "(III)I"⟩
abbrev cJ8_hugeLength_7cf53 : ByteArray := prog_60_method_28_code
def yJ8_hugeLength_7cf53 : MethodName := ⟨RJ8, "hugeLength", "(II)I"⟩
def RJ3 : String := "jdk/internal/util/Preconditions"
def TJ3 : u_T := fun k => match k with
  | _ => ("", "", "", false)
def tyJ3 : Nat → FieldType := fun k => match k with
  | _ => .int
theorem nmJ3 : ∀ a, a < 0 → ∀ b, b < 0 → a ≠ b → (TJ3 a).2.1 ≠ (TJ3 b).2.1 := by decide +kernel
theorem tyJ3_ok : ∀ k, k < 0 → parseFieldDescriptor (TJ3 k).2.2.1 = some (tyJ3 k) := by decide +kernel
abbrev cJ3_checkIndex_8e157 : ByteArray := prog_61_method_11_code
def yJ3_checkIndex_8e157 : MethodName := ⟨RJ3, "checkIndex", "(IILjava/util/function/BiFunction;)I"⟩
abbrev cJ3_checkFromToIndex_8c36e : ByteArray := prog_61_method_12_code
def yJ3_checkFromToIndex_8c36e : MethodName := ⟨RJ3, "checkFromToIndex", "(IIILjava/util/function/BiFunction;)I"⟩
abbrev cJ3_checkFromIndexSize_8c36e : ByteArray := prog_61_method_13_code
def yJ3_checkFromIndexSize_8c36e : MethodName := ⟨RJ3, "checkFromIndexSize", "(IIILjava/util/function/BiFunction;)I"⟩
def RL : String := "TermreckonryLaw"
abbrev cL_dayOf : ByteArray := method_3_code
def yL_dayOf : MethodName := ⟨RL, "dayOf", "(LTermreckonry;III[J)I"⟩
abbrev cL_dateOf : ByteArray := method_4_code
def yL_dateOf : MethodName := ⟨RL, "dateOf", "(LTermreckonry;I[J)I"⟩
abbrev cL_length : ByteArray := method_5_code
def yL_length : MethodName := ⟨RL, "length", "(LTermreckonry;IIII[J)I"⟩
abbrev cL_law : ByteArray := method_6_code
def yL_law : MethodName := ⟨RL, "law", "(LTermreckonry;CIIZ[J)I"⟩
abbrev cL_lawOf : ByteArray := method_7_code
def yL_lawOf : MethodName := ⟨RL, "lawOf", "(LTermreckonry;I[J)I"⟩
abbrev cL_person : ByteArray := method_8_code
def yL_person : MethodName := ⟨RL, "person", "(LTermreckonry;[J)I"⟩
abbrev cL_warrant : ByteArray := method_9_code
def yL_warrant : MethodName := ⟨RL, "warrant", "(LTermreckonry;ICIIIIII[J)I"⟩
abbrev cL_count : ByteArray := method_10_code
def yL_count : MethodName := ⟨RL, "count", "(LTermreckonry;IIZ[J)I"⟩
abbrev cL_activate : ByteArray := method_11_code
def yL_activate : MethodName := ⟨RL, "activate", "(LTermreckonry;II[J)I"⟩
abbrev cL_vary : ByteArray := method_12_code
def yL_vary : MethodName := ⟨RL, "vary", "(LTermreckonry;IIII[J)I"⟩
abbrev cL_quash : ByteArray := method_13_code
def yL_quash : MethodName := ⟨RL, "quash", "(LTermreckonry;I[J)I"⟩
abbrev cL_approve : ByteArray := method_14_code
def yL_approve : MethodName := ⟨RL, "approve", "(LTermreckonry;II[J)I"⟩
abbrev cL_add : ByteArray := method_15_code
def yL_add : MethodName := ⟨RL, "add", "(LTermreckonry;III[J)I"⟩
abbrev cL_giveBack : ByteArray := method_16_code
def yL_giveBack : MethodName := ⟨RL, "giveBack", "(LTermreckonry;II[J)I"⟩
abbrev cL_atLarge : ByteArray := method_17_code
def yL_atLarge : MethodName := ⟨RL, "atLarge", "(LTermreckonry;III[J)I"⟩
abbrev cL_recall : ByteArray := method_18_code
def yL_recall : MethodName := ⟨RL, "recall", "(LTermreckonry;IIC[J)I"⟩
abbrev cL_letGo : ByteArray := method_19_code
def yL_letGo : MethodName := ⟨RL, "letGo", "(LTermreckonry;II[J)I"⟩
abbrev cL_begins : ByteArray := method_20_code
def yL_begins : MethodName := ⟨RL, "begins", "(LTermreckonry;I[J)I"⟩
abbrev cL_needed : ByteArray := method_21_code
def yL_needed : MethodName := ⟨RL, "needed", "(LTermreckonry;I[J)I"⟩
abbrev cL_release : ByteArray := method_22_code
def yL_release : MethodName := ⟨RL, "release", "(LTermreckonry;I[J)I"⟩
abbrev cL_end : ByteArray := method_23_code
def yL_end : MethodName := ⟨RL, "end", "(LTermreckonry;I[J)I"⟩
abbrev cL_stateOn : ByteArray := method_24_code
def yL_stateOn : MethodName := ⟨RL, "stateOn", "(LTermreckonry;II[J)I"⟩
abbrev cL_byClerk : ByteArray := method_25_code
def yL_byClerk : MethodName := ⟨RL, "byClerk", "(LTermreckonry;II[J)I"⟩
abbrev cL_keeper : ByteArray := method_26_code
def yL_keeper : MethodName := ⟨RL, "keeper", "(LTermreckonry;II[J)I"⟩
abbrev cL_held : ByteArray := method_27_code
def yL_held : MethodName := ⟨RL, "held", "(LTermreckonry;III[J)I"⟩
abbrev cL_tooLong : ByteArray := method_28_code
def yL_tooLong : MethodName := ⟨RL, "tooLong", "(LTermreckonry;II[J)I"⟩
abbrev cL_tooShort : ByteArray := method_29_code
def yL_tooShort : MethodName := ⟨RL, "tooShort", "(LTermreckonry;II[J)I"⟩
abbrev cL_prisonShare : ByteArray := method_30_code
def yL_prisonShare : MethodName := ⟨RL, "prisonShare", "(LTermreckonry;I[D)I"⟩
abbrev cL_meanNeeded : ByteArray := method_31_code
def yL_meanNeeded : MethodName := ⟨RL, "meanNeeded", "(LTermreckonry;[D)I"⟩
abbrev cL_law_ : ByteArray := code
def yL_law_ : MethodName := ⟨RL, "law", "([I)Z"⟩
abbrev vwCl : List vw_C := [(RJ0, TJ0, 4), (RJ4, TJ4, 4), (RJx00060, TJx00060, 6), (RJx35411, TJx35411, 4), (RJx4a65c, TJx4a65c, 3), (RX0, TX0, 3), (RX3, TX3, 1), (RX4, TX4, 5), (RX5, TX5, 9), (RX6, TX6, 9), (RX7, TX7, 7), (RX8, TX8, 3), (RX9, TX9, 19), (RX10, TX10, 10), (RX11, TX11, 3), (RX12, TX12, 6), (RX13, TX13, 4), (RX14, TX14, 3), (RX15, TX15, 5), (RX16, TX16, 13), (RX17, TX17, 6)]
end
section
/-! WORDS, ROWS: what the tables are made of -/
/-- the words of the tables that stay good from state to state -/
def fw_GW : List Cond := lw_tbl.filter goodWord
theorem fw_gw (i : Nat) {w : Cond} (h : lw_tbl[i]? = some w) (hg : goodWord w = true) : w ∈ fw_GW := List.mem_filter.mpr ⟨List.mem_of_getElem? h, hg⟩
theorem fw_good {w : Cond} (h : w ∈ fw_GW) : (w.onTables && w.keeps) = true ∨ ∃ ty, w = .arrayClass ty := good_of_word (List.mem_filter.mp h).2
/-- words that stay true while the tables grow warmer, by laws of their own -/
def fw_ww : Cond → Bool
  | .fieldLinkNest .. | .methodLinkNest .. | .declares _ | .castable .. | .publicMethod _ | .unhidden .. => true
  | .interfaceMethod r o n d => (Cond.interfaceMethod r o n d).faceAtom
  | _ => false
theorem fw_ww_on {w : Cond} (h : fw_ww w = true) : w.onTables = true := by cases w <;> first | rfl | (simp [fw_ww] at h)
def fw_NW : List Cond := lw_tbl.filter fw_ww
theorem fw_nw (i : Nat) {w : Cond} (h : lw_tbl[i]? = some w) (hg : fw_ww w = true) : w ∈ fw_NW := List.mem_filter.mpr ⟨List.mem_of_getElem? h, hg⟩
theorem fw_Nw_warm {s U : State} {w : Cond} (hW : s.WarmedH U.vm) (h : fw_ww w = true) (hZ : va_Nw w s) : va_Nw w U := by
  cases w with
  | fieldLinkNest a i b n d x => exact va_Nw.warmF hW hZ
  | methodLinkNest a i x y => exact va_Nw.warmM hW hZ
  | declares x => exact va_Nw.warmD hW hZ
  | castable a b => exact va_Nw.warmC hW hZ
  | publicMethod x => exact va_tabs rfl (rfl : (s.setVm U.vm).vm = U.vm) (Cond.before_warmed hW (.publicMethod x) trivial hZ)
  | unhidden a b c => exact va_tabs rfl (rfl : (s.setVm U.vm).vm = U.vm) (Cond.before_warmed hW (.unhidden a b c) trivial hZ)
  | interfaceMethod r o n d => exact va_tabs rfl (rfl : (s.setVm U.vm).vm = U.vm) (Cond.before_warmed hW (.interfaceMethod r o n d) h hZ)
  | _ => exact absurd h (by simp [fw_ww])
/-- a method: its name, bytes, locals, answer's type, handlers -/
abbrev fw_M : Type := MethodName × ByteArray × Nat × Option FieldType × List (Nat × Nat × Nat × Nat)
def fw_cw (y : fw_M) : Cond := match y.2.2.2.2 with
  | [] => .code y.1 y.2.1 y.2.2.1 y.2.2.2.1
  | hh => .codeWith y.1 y.2.1 y.2.2.1 y.2.2.2.1 hh
/-- a row of a method's table: place, instruction, the next place, its target or local, its number -/
abbrev fw_R : Type := Nat × Instr × Nat × Nat × Int32
def fw_len (i : Instr) : Nat := match i with
  | .aload _ | .astore _ | .iload _ | .istore _ | .lload _ | .lstore _ | .fload _ | .fstore _ | .dload _ | .dstore _ | .bipush _ | .ldc _ | .newarray _ => 2
  | .anewarray _ | .checkcast _ | .getfield _ | .getstatic _ | .goto _ | .if_acmp _ _ | .if_icmp _ _ | .ifCond _ _ | .ifnonnull _ | .ifnull _ | .iinc _ _ | .instanceof _ | .invokespecial _ | .invokestatic _ | .invokevirtual _ | .ldc_w _ | .ldc2_w _ | .new _ | .putfield _ | .putstatic _ | .sipush _ => 3
  | .invokeinterface _ _ => 5
  | _ => 1
def fw_xk (maxL : Nat) (i : Instr) (pc a : Nat) (v : Int32) : Bool := match i with
  | .iload j | .lload j | .aload j | .fload j | .dload j => Nat.beq a j
  | .iload_n j | .lload_n j | .aload_n j | .fload_n j | .dload_n j => Nat.beq a j.val
  | .istore j | .astore j | .fstore j => Nat.beq a j && Nat.blt a maxL
  | .istore_n j | .astore_n j | .fstore_n j => Nat.beq a j.val && Nat.blt a maxL
  | .lstore j | .dstore j => Nat.beq a j && Nat.blt (a + 1) maxL
  | .lstore_n j | .dstore_n j => Nat.beq a j.val && Nat.blt (a + 1) maxL
  | .iinc j n => Nat.beq a j && Nat.blt a maxL && decide (Int32.ofInt n = v)
  | .iconst n => decide (Int32.ofInt n = v)
  | .bipush n => decide ((Int8.ofInt n).toInt32 = v)
  | .sipush n => decide ((Int16.ofInt n).toInt32 = v)
  | .goto off | .if_acmp _ off | .if_icmp _ off | .ifCond _ off | .ifnonnull off | .ifnull off => decide ((pc : Int) + off = (a : Int))
  | _ => true
def fw_rok (y : fw_M) (r : fw_R) : Prop := decode y.2.1 r.1 = .ok (r.2.1, fw_len r.2.1) ∧ r.2.2.1 = r.1 + fw_len r.2.1 ∧ fw_xk y.2.2.1 r.2.1 r.1 r.2.2.2.1 r.2.2.2.2 = true
def fw_tok (y : fw_M) (tb : List fw_R) : Prop := ∀ r ∈ tb, decode y.2.1 r.1 = .ok (r.2.1, fw_len r.2.1) ∧ r.2.2.1 = r.1 + fw_len r.2.1 ∧ fw_xk y.2.2.1 r.2.1 r.1 r.2.2.2.1 r.2.2.2.2 = true
def fw_at : List fw_R → Nat → Option (Instr × Nat × Nat × Int32)
  | [], _ => none
  | r :: tb, pc => bif Nat.beq r.1 pc then some r.2 else fw_at tb pc
theorem fw_row {y : fw_M} {tb : List fw_R} (hT : fw_tok y tb) {pc : Nat} {q : Instr × Nat × Nat × Int32} (h : fw_at tb pc = some q) : fw_rok y (pc, q) := by
  induction tb with
  | nil => cases h
  | cons r tb ih =>
    unfold fw_at at h
    cases hb : Nat.beq r.1 pc with
    | true =>
      rw [hb] at h
      have e : r.1 = pc := Nat.eq_of_beq_eq_true hb
      cases h
      subst e
      exact hT r List.mem_cons_self
    | false =>
      rw [hb] at h
      exact ih (fun r hr => hT r (List.mem_cons_of_mem _ hr)) h

theorem fw_sub {ws : List Cond} (ps : List Nat) (hp : ws = ps.filterMap (fun i => lw_tbl[i]?)) (hg : ws.all goodWord = true) : ∀ w ∈ ws, w ∈ fw_GW := by
  intro w hw
  have h1 := List.all_eq_true.mp hg w hw
  rw [hp] at hw
  obtain ⟨i, -, hi⟩ := List.mem_filterMap.mp hw
  exact fw_gw i hi h1
/-- the class number ci, its fields, their words -/
def fw_cls (ci : Nat) (C : String) (T : u_T) (N : Nat) (ty : Nat → FieldType) : Prop :=
  vwCl[ci]? = some (C, T, N) ∧ (∀ w ∈ u_ws C T N, w ∈ fw_GW) ∧ (∀ k, k < N → parseFieldDescriptor (T k).2.2.1 = some (ty k)) ∧ ∀ a, a < N → ∀ b, b < N → a ≠ b → (T a).2.1 ≠ (T b).2.1
/-- the pool's entry idx of the class own is the field k of the class ci -/
def fw_fld (own : String) (idx ci k : Nat) : Prop := ∃ (C : String) (T : u_T) (N : Nat) (ty : Nat → FieldType), fw_cls ci C T N ty ∧ k < N ∧
  (Cond.fieldLink own idx (T k).1 (T k).2.1 (T k).2.2.1 ∈ fw_GW ∨ (∃ host, Cond.fieldLinkNest own idx (T k).1 (T k).2.1 (T k).2.2.1 host ∈ fw_NW) ∨ ∃ ref, Cond.fieldLink own idx ref (T k).2.1 (T k).2.2.1 ∈ fw_GW ∧ Cond.sameField ref (T k).1 (T k).2.1 (T k).2.2.1 ∈ fw_GW)
/-- and it may be written, with the type tt -/
def fw_fldW (own : String) (idx ci k : Nat) (tt : FieldType) : Prop := ∃ (C : String) (T : u_T) (N : Nat) (ty : Nat → FieldType), fw_cls ci C T N ty ∧ k < N ∧
  (Cond.fieldLink own idx (T k).1 (T k).2.1 (T k).2.2.1 ∈ fw_GW ∨ (∃ host, Cond.fieldLinkNest own idx (T k).1 (T k).2.1 (T k).2.2.1 host ∈ fw_NW) ∨ ∃ ref, Cond.fieldLink own idx ref (T k).2.1 (T k).2.2.1 ∈ fw_GW ∧ Cond.sameField ref (T k).1 (T k).2.1 (T k).2.2.1 ∈ fw_GW) ∧
  (T k).2.2.2 = false ∧ parseFieldDescriptor (T k).2.2.1 = some tt
/-- a final field, written by its class's own constructor -/
def fw_fldF (own : String) (idx ci k : Nat) (tt : FieldType) : Prop := ∃ (C : String) (T : u_T) (N : Nat) (ty : Nat → FieldType), fw_cls ci C T N ty ∧ k < N ∧
  Cond.fieldLink own idx (T k).1 (T k).2.1 (T k).2.2.1 ∈ fw_GW ∧ (T k).2.2.2 = true ∧ (T k).1 = own ∧ parseFieldDescriptor (T k).2.2.1 = some tt
/-- 'new' of the class number ci, N fields -/
def fw_new (own : String) (idx ci N : Nat) (fs : List Value) : Prop := ∃ (C : String) (T : u_T) (ty : Nat → FieldType), fw_cls ci C T N ty ∧ Cond.classLink own idx C ∈ fw_GW ∧ Cond.instantiable C N ∈ fw_GW ∧ Cond.initialized C ∈ fw_GW ∧ ∀ j, j < N → defaultValue (ty j) = vp_V fs j
/-- what a call's words say: the callee's own, n parameters -/
def fw_cal (y' : fw_M) (n : Nat) : Prop := fw_cw y' ∈ fw_GW ∧ Cond.initialized y'.1.cls ∈ fw_GW ∧ (y'.1.cls ≠ "java/lang/invoke/MethodHandle" ∧ y'.1.cls ≠ "java/lang/invoke/VarHandle" ∧ (parseMethodDescriptor y'.1.desc).map (fun d => d.parameters.length) = some n) ∧ y'.2.2.2.2 = [] ∧ Nat.ble y'.2.2.1 30 = true
theorem fw_goodc {y' : fw_M} (hw : fw_cw y' ∈ fw_GW) : GoodIn fw_GW (fw_cw y' :: fw_GW) := fun w h => (List.mem_cons.mp h).elim (fun e => by rw [e]; exact ⟨hw, fw_good hw⟩) (fun h => ⟨h, fw_good h⟩)
theorem fw_code {y' : fw_M} (h : y'.2.2.2.2 = []) : fw_cw y' = Cond.code y'.1 y'.2.1 y'.2.2.1 y'.2.2.2.1 := by
  unfold fw_cw
  rw [h]
end
section
/-! FRAME: one judgement over an abstract heap, a rule an instruction kind -/
/-- an object: an array of the type number t, or an object of the class number ci -/
abbrev fw_O : Type := (Nat × vp_A) ⊕ (Nat × List Value)
abbrev fw_H : Type := Nat → Option fw_O
def fw_up (h : fw_H) (a : Nat) (o : fw_O) : fw_H := fun b => if b = a then some o else h b
theorem fw_up_s {h : fw_H} {a : Nat} {o : fw_O} : fw_up h a o a = some o := if_pos rfl
theorem fw_up_n {h : fw_H} {a b : Nat} {o : fw_O} (n : b ≠ a) : fw_up h a o b = h b := if_neg n
/-- launch, first address of the run's own, classes' numbers, array classes, the script: its cell, its length, its numbers -/
abbrev fw_G : Type := Launch × Nat × va_G × (Nat → ClassId) × (Nat × Nat × (Nat → Int32))
def fw_E (cT : Nat → ClassId) (o : fw_O) : va_E := match o with
  | .inl x => .inl (cT x.1, x.2)
  | .inr x => .inr x
def fw_ty : Nat → FieldType := fun t => match t with
  | 0 => .int
  | 1 => .long
  | 2 => .boolean
  | 3 => .double
  | 4 => .byte
  | 5 => .object "Termreckonry$Law"
  | 6 => .object "Termreckonry$Person"
  | 7 => .object "Termreckonry$Warrant"
  | 8 => .object "Termreckonry$Added"
  | 9 => .object "TermreckonryModel$Fact"
  | _ => .object "java/lang/Object"
def fw_tys (cT : Nat → ClassId) : List (ClassId × FieldType) := (List.range 11).map (fun t => (cT t, fw_ty t))
theorem fw_tys_at (cT : Nat → ClassId) {t : Nat} (h : t < 11) : (fw_tys cT)[t]? = some (cT t, fw_ty t) := by
  unfold fw_tys
  rw [List.getElem?_map, List.getElem?_range h]
  rfl
/-- the heap holds the abstract heap -/
def fw_P (G : fw_G) (h : fw_H) (H : Heap) : Prop := ∃ ws : va_W, va_P G.2.2.1 vwCl ws H ∧ va_D (fun q => G.2.1 ≤ q) ws ∧ ∀ (a : Nat) (o : fw_O), h a = some o → (a, fw_E G.2.2.2.1 o) ∈ ws
theorem fw_P.get {G : fw_G} {h : fw_H} {H : Heap} (hP : fw_P G h H) {a : Nat} {o : fw_O} (ho : h a = some o) : ∃ (ws : va_W) (k : Nat), va_P G.2.2.1 vwCl ws H ∧ va_D (fun q => G.2.1 ≤ q) ws ∧ (∀ (a : Nat) (o : fw_O), h a = some o → (a, fw_E G.2.2.2.1 o) ∈ ws) ∧ ws[k]? = some (a, fw_E G.2.2.2.1 o) := by
  obtain ⟨ws, h1, h2, h3⟩ := hP
  obtain ⟨k, hk⟩ := List.getElem?_of_mem (h3 a o ho)
  exact ⟨ws, k, h1, h2, h3, hk⟩
theorem fw_P.set {G : fw_G} {h : fw_H} {H1 : Heap} {ws : va_W} {k a : Nat} {o o' : fw_O} (h3 : ∀ (a : Nat) (o : fw_O), h a = some o → (a, fw_E G.2.2.2.1 o) ∈ ws) (hk : ws[k]? = some (a, fw_E G.2.2.2.1 o)) (h1 : va_P G.2.2.1 vwCl (ws.set k (a, fw_E G.2.2.2.1 o')) H1) (h2 : va_D (fun q => G.2.1 ≤ q) (ws.set k (a, fw_E G.2.2.2.1 o'))) : fw_P G (fw_up h a o') H1 := by
  refine ⟨_, h1, h2, fun b x hb => ?_⟩
  have hl := (List.getElem?_eq_some_iff.mp hk).1
  by_cases e : b = a
  · subst e
    rw [fw_up_s] at hb
    cases hb
    exact List.mem_of_getElem? (i := k) (List.getElem?_set_self hl)
  · rw [fw_up_n e] at hb
    obtain ⟨j, hj⟩ := List.getElem?_of_mem (h3 b x hb)
    have hjk : k ≠ j := fun z => by subst z; rw [hk] at hj; exact e (congrArg Prod.fst (Option.some.inj hj)).symm
    exact List.mem_of_getElem? (i := j) (by rw [List.getElem?_set_ne hjk]; exact hj)
theorem fw_P.push {G : fw_G} {h : fw_H} {H1 : Heap} {ws : va_W} {a : Nat} {o : fw_O} (h3 : ∀ (a : Nat) (o : fw_O), h a = some o → (a, fw_E G.2.2.2.1 o) ∈ ws) (h1 : va_P G.2.2.1 vwCl (ws ++ [(a, fw_E G.2.2.2.1 o)]) H1) (h2 : va_D (fun q => G.2.1 ≤ q) (ws ++ [(a, fw_E G.2.2.2.1 o)])) : h a = none ∧ G.2.1 ≤ a ∧ fw_P G (fw_up h a o) H1 := by
  have hlast : (ws ++ [(a, fw_E G.2.2.2.1 o)])[ws.length]? = some (a, fw_E G.2.2.2.1 o) := by
    rw [List.getElem?_append_right (Nat.le_refl _), Nat.sub_self]; rfl
  refine ⟨?_, h2.2 _ _ hlast, _, h1, h2, fun b x hb => ?_⟩
  · cases hx : h a with
    | none => rfl
    | some x =>
      obtain ⟨j, hj⟩ := List.getElem?_of_mem (h3 a x hx)
      have hl := (List.getElem?_eq_some_iff.mp hj).1
      have hj2 : (ws ++ [(a, fw_E G.2.2.2.1 o)])[j]? = some (a, fw_E G.2.2.2.1 x) := by rw [List.getElem?_append_left hl]; exact hj
      have := h2.1 _ _ _ _ hj2 hlast rfl
      omega
  · by_cases e : b = a
    · subst e
      rw [fw_up_s] at hb
      cases hb
      exact List.mem_of_getElem? hlast
    · rw [fw_up_n e] at hb
      exact List.mem_append_left _ (h3 b x hb)
theorem fw_P.lt {G : fw_G} {h : fw_H} {H : Heap} (hP : fw_P G h H) {a : Nat} {o : fw_O} (ho : h a = some o) : a < H.size ∧ G.2.1 ≤ a := by
  obtain ⟨ws, k, h1, h2, -, hk⟩ := hP.get ho
  exact ⟨(h1 k _ hk).lt, h2.2 k _ hk⟩
/-- array classes are told by their names -/
theorem fw_RA1 {U : State} {c1 c2 : ClassId} {ty : FieldType} (h1 : va_RA U c1 ty) (h2 : va_RA U c2 ty) : c1 = c2 := by
  cases ty with
  | object C =>
    obtain ⟨_, _, _, _, _, e1⟩ := h1
    obtain ⟨_, _, _, _, _, e2⟩ := h2
    exact Option.some.inj (e1.symm.trans e2)
  | _ => exact Option.some.inj (Eq.trans (Eq.symm h1) h2)
def fw_md : Nat → Value := fun j => .int (([31, 28, 31, 30, 31, 30, 31, 31, 30, 31, 30, 31] : List Int32).getD j 0)
/-- the messages of the exceptions, by their places in the class's pool -/
def fw_strs : List (Nat × String) := [(44, "no such year"), (57, "no such date"), (342, "a number is out of range"), (82, "no such way"), (93, "no more laws"), (336, "no such warrant"), (116, "no law for this kind"), (125, "no law counts"), (131, "no more persons"), (333, "no such person"), (346, "no such kind of warrant"), (344, "the term is nothing"), (149, "another person's warrant"), (154, "no more warrants"), (180, "not suspended, or it runs"), (202, "no more added days"), (338, "no such added days"), (231, "no such kind of recall"), (240, "not on licence"), (245, "no more recalls"), (260, "no recall goes on"), (340, "it counts for nothing, or never begins"), (281, "no release"), (286, "no licence, or one for ever"), (297, "no warrant keeps"), (322, "no persons"), (325, "no warrant has begun")]
def fw_exs : List String := ["java/lang/IllegalArgumentException", "java/lang/IllegalStateException", "java/lang/IndexOutOfBoundsException", "java/lang/UnsupportedOperationException", "java/util/NoSuchElementException", "java/lang/ArithmeticException"]
def fw_aos : List String := ["Termreckonry$Law", "Termreckonry$Person", "Termreckonry$Warrant", "Termreckonry$Added", "TermreckonryModel$Fact", "java/lang/Object"]
def fw_A (N0 : Nat) : Nat → Prop := fun q => N0 ≤ q
/-- what lies in the heap from the start on and is only read -/
def fw_F (N0 : Nat) (sc : Nat × Nat × (Nat → Int32)) (U : State) (H : Heap) : Prop :=
  (∃ t, va_Z "Termreckonry$Calendar" "MONTH_DAYS" "[I" (.ref t) (fw_A N0) U H ∧ va_T .int t 12 fw_md (fw_A N0) U H) ∧
  (vx_Zq Bundle.tN "UNASSIGNED_STACK" Bundle.steD (fw_A N0) U H ∧ vx_Zq Bundle.tN "SUPPRESSED_SENTINEL" Bundle.listD (fw_A N0) U H) ∧
  (∀ q ∈ fw_strs, ∃ a, vk_R "Termreckonry" q.1 q.2 a U) ∧
  (∃ t, va_Z "java/util/ArrayList" "DEFAULTCAPACITY_EMPTY_ELEMENTDATA" "[Ljava/lang/Object;" (.ref t) (fw_A N0) U H ∧ va_T (.object "java/lang/Object") t 0 (fun _ => .null) (fw_A N0) U H) ∧
  (va_Z "java/lang/String" "COMPACT_STRINGS" "Z" (.int 1) (fw_A N0) U H) ∧
  (∃ adK adV : Nat → Nat, vk_R "TermreckonryModel" 121 "flds" (adK 0) U ∧ vk_R "TermreckonryModel" 324 "lo" (adK 1) U ∧ vk_R "TermreckonryModel" 329 "pr" (adK 2) U ∧ vk_S 3 [4, 2, 2] [[102, 108, 100, 115], [108, 111], [112, 114]] adK adV (fw_A N0) U H) ∧
  (∃ mi, va_Mi "[Ljava/lang/Object;" mi U) ∧
  ((∀ w ∈ fw_NW, va_Nw w U) ∧ (∀ a ∈ fw_exs, ∀ b ∈ fw_exs, a ≠ b → va_Nc a b U) ∧ (∀ C ∈ fw_aos, va_AO C U) ∧ va_T .int sc.1 sc.2.1 (fun j => .int (sc.2.2 j)) (fw_A N0) U H)
theorem fw_F.kept {N0 : Nat} {sc : Nat × Nat × (Nat → Int32)} {U : State} {H H1 : Heap} (h : fw_F N0 sc U H) (hq : ∀ a : Nat, a < H.size → ¬ fw_A N0 a → H1[a]? = H[a]?) : fw_F N0 sc U H1 := by
  obtain ⟨⟨t, a1, a2⟩, ⟨b1, b2⟩, c1, ⟨t2, d1, d2⟩, e1, ⟨k, v, f1, f2, f3, f4⟩, g, i1, i2, i3, i4⟩ := h
  exact ⟨⟨t, a1.kept hq, a2.kept hq⟩, ⟨b1.kept hq, b2.kept hq⟩, c1, ⟨t2, d1.kept hq, d2.kept hq⟩, e1.kept hq, ⟨k, v, f1, f2, f3, f4.kept hq⟩, g, i1, i2, i3, i4.kept hq⟩
theorem fw_F.warm {N0 : Nat} {sc : Nat × Nat × (Nat → Int32)} {s U : State} {H : Heap} (hW : s.WarmedH U.vm) (h : fw_F N0 sc s H) : fw_F N0 sc U H := by
  obtain ⟨⟨t, a1, a2⟩, ⟨b1, b2⟩, c1, ⟨t2, d1, d2⟩, e1, ⟨k, v, f1, f2, f3, f4⟩, ⟨mi, g⟩, i1, i2, i3, i4⟩ := h
  have hA : s.vm.Alike U.vm := hW.alike
  exact ⟨⟨t, va_Z.moved hA a1, va_T.moved hA a2⟩, ⟨vx_Zq.moved hA b1, vx_Zq.moved hA b2⟩, fun q hq => (c1 q hq).imp fun a ha => vk_R.warm hW ha, ⟨t2, va_Z.moved hA d1, va_T.moved hA d2⟩, va_Z.moved hA e1, ⟨k, v, vk_R.warm hW f1, vk_R.warm hW f2, vk_R.warm hW f3, vk_S.moved hA f4⟩, ⟨mi, va_Mi.moved hA g⟩, fun w hw => fw_Nw_warm hW (List.mem_filter.mp hw).2 (i1 w hw), fun a ha b hb n => va_Nc.moved hA (i2 a ha b hb n), fun C hC => va_AO.moved hA (i3 C hC), va_T.moved hA i4⟩
theorem fw_F.same {N0 : Nat} {sc : Nat × Nat × (Nat → Int32)} {u U : State} {H : Heap} (hv : U.vm = u.vm) (h : fw_F N0 sc u H) : fw_F N0 sc U H := by
  obtain ⟨⟨t, a1, a2⟩, ⟨b1, b2⟩, c1, ⟨t2, d1, d2⟩, e1, ⟨k, v, f1, f2, f3, f4⟩, ⟨mi, g⟩, i1, i2, i3, i4⟩ := h
  have hA : u.vm.Alike U.vm := by rw [hv]; exact Vm.Alike.refl u.vm
  exact ⟨⟨t, va_Z.moved hA a1, va_T.moved hA a2⟩, ⟨vx_Zq.moved hA b1, vx_Zq.moved hA b2⟩, fun q hq => (c1 q hq).imp fun a ha => vk_R.same hv ha, ⟨t2, va_Z.moved hA d1, va_T.moved hA d2⟩, va_Z.moved hA e1, ⟨k, v, vk_R.same hv f1, vk_R.same hv f2, vk_R.same hv f3, vk_S.moved hA f4⟩, ⟨mi, va_Mi.moved hA g⟩, fun w hw => va_tabs (fw_ww_on (List.mem_filter.mp hw).2) hv.symm (i1 w hw), fun a ha b hb n => va_Nc.moved hA (i2 a ha b hb n), fun C hC => va_AO.moved hA (i3 C hC), va_T.moved hA i4⟩
/-- what every method's start holds: tables, statics -/
def fw_K (G : fw_G) (U : State) (H : Heap) : Prop := va_K G.2.2.1 vwCl (fw_tys G.2.2.2.1) U ∧ fw_F G.2.1 G.2.2.2.2 U H
/-- locals, a later store before an older one -/
def fw_lk : List (Nat × Value) → Nat → Option Value
  | [], _ => none
  | q :: L, i => bif Nat.beq q.1 i then some q.2 else fw_lk L i
theorem fw_lk_c (i j : Nat) (v : Value) (L : List (Nat × Value)) : fw_lk ((i, v) :: L) j = if i = j then some v else fw_lk L j := by
  show (bif Nat.beq i j then some v else fw_lk L j) = _
  by_cases h : i = j
  · subst h; simp
  · rw [if_neg h]
    have : Nat.beq i j = false := by
      cases hb : Nat.beq i j with
      | false => rfl
      | true => exact absurd (Nat.eq_of_beq_eq_true hb) h
    rw [this]; rfl
def fw_has (ls : Array Slot) (n : Nat) (L : List (Nat × Value)) : Prop := ls.size = n ∧ lv_wf ls ∧ ∀ (i : Nat) (v : Value), fw_lk L i = some v → ls[i]? = some (.val v)
def fw_all (n : Nat) (L : List (Nat × Value)) : List (Nat × Value) := (List.range n).filterMap (fun i => (fw_lk L i).map (fun v => (i, v)))
theorem fw_has.lv {ls : Array Slot} {n : Nat} {L : List (Nat × Value)} (h : fw_has ls n L) : lv_has ls n (fw_all n L) := by
  refine ⟨h.1, h.2.1, fun q hq => ?_⟩
  obtain ⟨i, -, hi⟩ := List.mem_filterMap.mp hq
  cases hv : fw_lk L i with
  | none => rw [hv] at hi; cases hi
  | some v =>
    rw [hv] at hi
    cases hi
    exact h.2.2 i v hv
theorem fw_all_mem {ls : Array Slot} {n : Nat} {L : List (Nat × Value)} (h : fw_has ls n L) {i : Nat} {v : Value} (hv : fw_lk L i = some v) : (i, v) ∈ fw_all n L := by
  have hl := h.2.2 i v hv
  have hi : i < n := by rw [← h.1]; exact lv_lt hl
  refine List.mem_filterMap.mpr ⟨i, List.mem_range.mpr hi, ?_⟩
  rw [hv]; rfl
def fw_c2 (o : Option Value) : Bool := match o with
  | some v => Nat.beq v.category 2
  | none => false
/-- a store at i harms no long below -/
def fw_ok1 (L : List (Nat × Value)) (i : Nat) : Bool := match i with
  | 0 => true
  | j + 1 => !fw_c2 (fw_lk L j)
def fw_ok2 (L : List (Nat × Value)) (i : Nat) : Bool := fw_ok1 L i && (match fw_lk L (i + 1) with | none => true | some _ => false)
theorem fw_cat2 {v : Value} (h : Nat.beq v.category 2 = false) : (v.category == 2) = false := by
  cases hc : (v.category == 2) with
  | false => rfl
  | true =>
    have e : v.category = 2 := by simpa using hc
    rw [e] at h; cases h
theorem fw_store1 {ls ls' : Array Slot} {n : Nat} {L : List (Nat × Value)} {i : Nat} {v : Value} (h : fw_has ls n L) (ho : fw_ok1 L i = true)
    (h' : lv_has ls' n ((i, v) :: (fw_all n L).filter (fun q => !(q.1 == i) && !(q.1 + 1 == i && q.2.category == 2)))) : fw_has ls' n ((i, v) :: L) := by
  refine ⟨h'.1, h'.2.1, fun j w hj => ?_⟩
  rw [fw_lk_c] at hj
  by_cases e : i = j
  · rw [if_pos e] at hj
    cases hj
    subst e
    exact h'.2.2 (i, v) List.mem_cons_self
  · rw [if_neg e] at hj
    refine h'.2.2 (j, w) (List.mem_cons_of_mem _ (List.mem_filter.mpr ⟨fw_all_mem h hj, ?_⟩))
    have e1 : (j == i) = false := by simpa using fun z => e (Eq.symm z)
    by_cases e2 : j + 1 = i
    · subst e2
      have e3 : fw_c2 (fw_lk L j) = false := by simpa [fw_ok1] using ho
      rw [hj] at e3
      simp only [e1, fw_cat2 e3, Bool.and_false, Bool.not_false, Bool.and_self]
    · have e3 : (j + 1 == i) = false := by simpa using e2
      simp only [e1, e3, Bool.false_and, Bool.not_false, Bool.and_self]
theorem fw_store2 {ls ls' : Array Slot} {n : Nat} {L : List (Nat × Value)} {i : Nat} {v : Value} (h : fw_has ls n L) (ho : fw_ok2 L i = true)
    (h' : lv_has ls' n ((i, v) :: (fw_all n L).filter (fun q => !(q.1 == i) && (!(q.1 == i + 1) && !(q.1 + 1 == i && q.2.category == 2))))) : fw_has ls' n ((i, v) :: L) := by
  unfold fw_ok2 at ho
  obtain ⟨ho1, ho2⟩ := Bool.and_eq_true_iff.mp ho
  refine ⟨h'.1, h'.2.1, fun j w hj => ?_⟩
  rw [fw_lk_c] at hj
  by_cases e : i = j
  · rw [if_pos e] at hj
    cases hj
    subst e
    exact h'.2.2 (i, v) List.mem_cons_self
  · rw [if_neg e] at hj
    refine h'.2.2 (j, w) (List.mem_cons_of_mem _ (List.mem_filter.mpr ⟨fw_all_mem h hj, ?_⟩))
    have e1 : (j == i) = false := by simpa using fun z => e (Eq.symm z)
    have e4 : (j == i + 1) = false := by
      cases hb : (j == i + 1) with
      | false => rfl
      | true =>
        have hz : j = i + 1 := by simpa using hb
        subst hz
        rw [hj] at ho2
        cases ho2
    by_cases e2 : j + 1 = i
    · subst e2
      have e3 : fw_c2 (fw_lk L j) = false := by simpa [fw_ok1] using ho1
      rw [hj] at e3
      simp only [e1, e4, fw_cat2 e3, Bool.and_false, Bool.not_false, Bool.and_self]
    · have e3 : (j + 1 == i) = false := by simpa using e2
      simp only [e1, e4, e3, Bool.false_and, Bool.not_false, Bool.and_self]
theorem fw_has.sub {ls : Array Slot} {n : Nat} {L L' : List (Nat × Value)} (h : fw_has ls n L) (hs : ∀ q ∈ L', fw_lk L q.1 = some q.2) : fw_has ls n L' := by
  refine ⟨h.1, h.2.1, fun i v hi => h.2.2 i v ?_⟩
  induction L' with
  | nil => cases hi
  | cons q L' ih =>
    obtain ⟨j, w⟩ := q
    rw [fw_lk_c] at hi
    by_cases e : j = i
    · rw [if_pos e] at hi
      cases hi
      subst e
      exact hs (j, _) List.mem_cons_self
    · rw [if_neg e] at hi
      exact ih (fun q hq => hs q (List.mem_cons_of_mem _ hq)) hi
/-- what is to hold at its end: by an answer, by a throw -/
abbrev fw_Q : Type := (Option Value → fw_H → Prop) × (String → fw_H → Prop)
def fw_Qc (G : fw_G) (Q : fw_Q) : Array Value → State → Outcome → State → Prop := fun _ _ o t => ∃ (r : Option Value) (h : fw_H), o = .returned r ∧ Q.1 r h ∧ fw_P G h t.heap
def fw_XC (G : fw_G) (Q : fw_Q) : String → State → State → Prop := fun E _ t => ∃ h : fw_H, Q.2 E h ∧ fw_P G h t.heap
/-- the frame's surroundings -/
def fw_C (G : fw_G) (y : fw_M) (p : Program) (R : Room) (s : State) (m : MethodId) (args : Array Value) (meth : Method) (c : Code) : Prop :=
  p.tables.exec = Jvm.exec ∧ c.code = y.2.1 ∧ meth.sig.returnType = y.2.2.2.1 ∧ meth.locks = false ∧ c.maxLocals = y.2.2.1 ∧ s.vm.findClass y.1.cls = some m.cls ∧ meth.name = y.1.name ∧ (∀ w ∈ fw_GW, w.before args s = true) ∧ c.exceptionTable.toList = tableOf y.2.2.2.2 ∧ fw_K G s s.heap ∧ G.2.1 ≤ s.heap.size
def fw_D (G : fw_G) (y : fw_M) (d kc ks : Nat) (h : fw_H) (L : List (Nat × Value)) (R : Room) (s : State) (H : Heap) (locs : List Loc) (cells slots : Nat) (ls : Array Slot) : Prop :=
  fw_P G h H ∧ va_S (fw_A G.2.1) s.heap H locs ∧ (d + 20 ≤ R.frames ∧ 60 * d + 400 ≤ R.locals ∧ cells + kc ≤ R.cells ∧ slots + ks ≤ R.slots) ∧ fw_has ls y.2.2.1 L
/-- from this frame on, the method comes to its end, with Q; d: how deep it may call, kc, ks: cells and slots that it may make -/
def PW (G : fw_G) (y : fw_M) (Q : fw_Q) (d kc ks : Nat) (h : fw_H) (pc : Nat) (L : List (Nat × Value)) (st : List Value) : Prop :=
  ∀ (p : Program) (e : Env) (R : Room) (s : State) (m : MethodId) (args : Array Value) (below : List Frame) (meth : Method) (c : Code) (H : Heap) (locs : List Loc) (cells slots : Nat) (ls : Array Slot),
    fw_C G y p R s m args meth c → fw_D G y d kc ks h L R s H locs cells slots ls →
    W p G.1 e R s m args below meth c H locs cells slots (vx_MQ below (fw_Qc G Q) (fw_XC G Q) args s R.cells R.slots (fw_A G.2.1)) (F0 m pc ls st)
/-- a method's contract -/
def fw_pre (G : fw_G) (h : fw_H) (U : State) : Prop := G.2.1 ≤ U.heap.size ∧ fw_P G h U.heap ∧ fw_K G U U.heap
def fw_rm (d mc ms : Nat) : Room := { frames := d + 20, cells := mc, slots := ms, locals := 60 * d + 400 }
def PM (G : fw_G) (d mc ms : Nat) (y : fw_M) (av : List Value) (h : fw_H) (Q : fw_Q) : Prop :=
  vx_Met G.1 y.1 (fw_cw y :: fw_GW) (fw_rm d mc ms) (va_Pc av (fw_pre G h)) (fw_Qc G Q) (fw_XC G Q) mc ms (fw_A G.2.1)
end
section
/-! RULES: what touches no heap -/
def fw_ldi (L : List (Nat × Value)) (a nx : Nat) (st : List Value) : Option (Nat × List (Nat × Value) × List Value) := match fw_lk L a with
  | some (.int x) => some (nx, L, .int x :: st)
  | _ => none
def fw_ldl (L : List (Nat × Value)) (a nx : Nat) (st : List Value) : Option (Nat × List (Nat × Value) × List Value) := match fw_lk L a with
  | some (.long x) => some (nx, L, .long x :: st)
  | _ => none
def fw_ldf (L : List (Nat × Value)) (a nx : Nat) (st : List Value) : Option (Nat × List (Nat × Value) × List Value) := match fw_lk L a with
  | some (.float x) => some (nx, L, .float x :: st)
  | _ => none
def fw_ldd (L : List (Nat × Value)) (a nx : Nat) (st : List Value) : Option (Nat × List (Nat × Value) × List Value) := match fw_lk L a with
  | some (.double x) => some (nx, L, .double x :: st)
  | _ => none
def fw_lda (L : List (Nat × Value)) (a nx : Nat) (st : List Value) : Option (Nat × List (Nat × Value) × List Value) := match fw_lk L a with
  | some (.ref x) => some (nx, L, .ref x :: st)
  | some .null => some (nx, L, .null :: st)
  | _ => none
def fw_svi (L : List (Nat × Value)) (a nx : Nat) (st : List Value) : Option (Nat × List (Nat × Value) × List Value) := match st with
  | .int x :: r => bif fw_ok1 L a then some (nx, (a, .int x) :: L, r) else none
  | _ => none
def fw_svl (L : List (Nat × Value)) (a nx : Nat) (st : List Value) : Option (Nat × List (Nat × Value) × List Value) := match st with
  | .long x :: r => bif fw_ok2 L a then some (nx, (a, .long x) :: L, r) else none
  | _ => none
def fw_svf (L : List (Nat × Value)) (a nx : Nat) (st : List Value) : Option (Nat × List (Nat × Value) × List Value) := match st with
  | .float x :: r => bif fw_ok1 L a then some (nx, (a, .float x) :: L, r) else none
  | _ => none
def fw_svd (L : List (Nat × Value)) (a nx : Nat) (st : List Value) : Option (Nat × List (Nat × Value) × List Value) := match st with
  | .double x :: r => bif fw_ok2 L a then some (nx, (a, .double x) :: L, r) else none
  | _ => none
def fw_sva (L : List (Nat × Value)) (a nx : Nat) (st : List Value) : Option (Nat × List (Nat × Value) × List Value) := match st with
  | .ref x :: r => bif fw_ok1 L a then some (nx, (a, .ref x) :: L, r) else none
  | .null :: r => bif fw_ok1 L a then some (nx, (a, .null) :: L, r) else none
  | _ => none
def fw_inc (L : List (Nat × Value)) (a nx : Nat) (v : Int32) (st : List Value) : Option (Nat × List (Nat × Value) × List Value) := match fw_lk L a with
  | some (.int x) => bif fw_ok1 L a then some (nx, (a, .int (x + v)) :: L, st) else none
  | _ => none
def fw_o_iadd (L : List (Nat × Value)) (nx : Nat) (st : List Value) : Option (Nat × List (Nat × Value) × List Value) := match st with
  | .int y :: .int x :: r => some (nx, L, .int (x + y) :: r)
  | _ => none
def fw_o_isub (L : List (Nat × Value)) (nx : Nat) (st : List Value) : Option (Nat × List (Nat × Value) × List Value) := match st with
  | .int y :: .int x :: r => some (nx, L, .int (x - y) :: r)
  | _ => none
def fw_o_imul (L : List (Nat × Value)) (nx : Nat) (st : List Value) : Option (Nat × List (Nat × Value) × List Value) := match st with
  | .int y :: .int x :: r => some (nx, L, .int (x * y) :: r)
  | _ => none
def fw_o_iand (L : List (Nat × Value)) (nx : Nat) (st : List Value) : Option (Nat × List (Nat × Value) × List Value) := match st with
  | .int y :: .int x :: r => some (nx, L, .int (x &&& y) :: r)
  | _ => none
def fw_o_ior (L : List (Nat × Value)) (nx : Nat) (st : List Value) : Option (Nat × List (Nat × Value) × List Value) := match st with
  | .int y :: .int x :: r => some (nx, L, .int (x ||| y) :: r)
  | _ => none
def fw_o_ishl (L : List (Nat × Value)) (nx : Nat) (st : List Value) : Option (Nat × List (Nat × Value) × List Value) := match st with
  | .int y :: .int x :: r => some (nx, L, .int (x <<< (y &&& 31)) :: r)
  | _ => none
def fw_o_ishr (L : List (Nat × Value)) (nx : Nat) (st : List Value) : Option (Nat × List (Nat × Value) × List Value) := match st with
  | .int y :: .int x :: r => some (nx, L, .int (x >>> (y &&& 31)) :: r)
  | _ => none
def fw_o_iushr (L : List (Nat × Value)) (nx : Nat) (st : List Value) : Option (Nat × List (Nat × Value) × List Value) := match st with
  | .int y :: .int x :: r => some (nx, L, .int (x.toUInt32 >>> (y.toUInt32 &&& Int32.toUInt32 31)).toInt32 :: r)
  | _ => none
def fw_o_ineg (L : List (Nat × Value)) (nx : Nat) (st : List Value) : Option (Nat × List (Nat × Value) × List Value) := match st with
  | .int x :: r => some (nx, L, .int (-x) :: r)
  | _ => none
def fw_o_ladd (L : List (Nat × Value)) (nx : Nat) (st : List Value) : Option (Nat × List (Nat × Value) × List Value) := match st with
  | .long y :: .long x :: r => some (nx, L, .long (x + y) :: r)
  | _ => none
def fw_o_lsub (L : List (Nat × Value)) (nx : Nat) (st : List Value) : Option (Nat × List (Nat × Value) × List Value) := match st with
  | .long y :: .long x :: r => some (nx, L, .long (x - y) :: r)
  | _ => none
def fw_o_land (L : List (Nat × Value)) (nx : Nat) (st : List Value) : Option (Nat × List (Nat × Value) × List Value) := match st with
  | .long y :: .long x :: r => some (nx, L, .long (x &&& y) :: r)
  | _ => none
def fw_o_lor (L : List (Nat × Value)) (nx : Nat) (st : List Value) : Option (Nat × List (Nat × Value) × List Value) := match st with
  | .long y :: .long x :: r => some (nx, L, .long (x ||| y) :: r)
  | _ => none
def fw_o_lxor (L : List (Nat × Value)) (nx : Nat) (st : List Value) : Option (Nat × List (Nat × Value) × List Value) := match st with
  | .long y :: .long x :: r => some (nx, L, .long (x ^^^ y) :: r)
  | _ => none
def fw_o_lshl (L : List (Nat × Value)) (nx : Nat) (st : List Value) : Option (Nat × List (Nat × Value) × List Value) := match st with
  | .int y :: .long x :: r => some (nx, L, .long (x <<< (y.toInt64 &&& 63)) :: r)
  | _ => none
def fw_o_lushr (L : List (Nat × Value)) (nx : Nat) (st : List Value) : Option (Nat × List (Nat × Value) × List Value) := match st with
  | .int y :: .long x :: r => some (nx, L, .long (x.toUInt64 >>> (y.toInt64.toUInt64 &&& Int64.toUInt64 63)).toInt64 :: r)
  | _ => none
def fw_o_i2l (L : List (Nat × Value)) (nx : Nat) (st : List Value) : Option (Nat × List (Nat × Value) × List Value) := match st with
  | .int x :: r => some (nx, L, .long x.toInt64 :: r)
  | _ => none
def fw_o_l2i (L : List (Nat × Value)) (nx : Nat) (st : List Value) : Option (Nat × List (Nat × Value) × List Value) := match st with
  | .long x :: r => some (nx, L, .int x.toInt32 :: r)
  | _ => none
def fw_o_i2c (L : List (Nat × Value)) (nx : Nat) (st : List Value) : Option (Nat × List (Nat × Value) × List Value) := match st with
  | .int x :: r => some (nx, L, .int (x.toUInt32 % 65536).toInt32 :: r)
  | _ => none
def fw_o_i2b (L : List (Nat × Value)) (nx : Nat) (st : List Value) : Option (Nat × List (Nat × Value) × List Value) := match st with
  | .int x :: r => some (nx, L, .int x.toInt8.toInt32 :: r)
  | _ => none
def fw_o_i2f (L : List (Nat × Value)) (nx : Nat) (st : List Value) : Option (Nat × List (Nat × Value) × List Value) := match st with
  | .int x :: r => some (nx, L, .float (FP.i2f x) :: r)
  | _ => none
def fw_o_i2d (L : List (Nat × Value)) (nx : Nat) (st : List Value) : Option (Nat × List (Nat × Value) × List Value) := match st with
  | .int x :: r => some (nx, L, .double (FP.i2d x) :: r)
  | _ => none
def fw_o_l2d (L : List (Nat × Value)) (nx : Nat) (st : List Value) : Option (Nat × List (Nat × Value) × List Value) := match st with
  | .long x :: r => some (nx, L, .double (FP.l2d x) :: r)
  | _ => none
def fw_o_lcmp (L : List (Nat × Value)) (nx : Nat) (st : List Value) : Option (Nat × List (Nat × Value) × List Value) := match st with
  | .long y :: .long x :: r => some (nx, L, .int (lg_cmp x y) :: r)
  | _ => none
def fw_dup (L : List (Nat × Value)) (nx : Nat) (st : List Value) : Option (Nat × List (Nat × Value) × List Value) := match st with
  | v :: r => bif Nat.beq v.category 1 then some (nx, L, v :: v :: r) else none
  | _ => none
def fw_pop (L : List (Nat × Value)) (nx : Nat) (st : List Value) : Option (Nat × List (Nat × Value) × List Value) := match st with
  | v :: r => bif Nat.beq v.category 1 then some (nx, L, r) else none
  | _ => none
def fw_dupx1 (L : List (Nat × Value)) (nx : Nat) (st : List Value) : Option (Nat × List (Nat × Value) × List Value) := match st with
  | v :: u :: r => bif Nat.beq v.category 1 && Nat.beq u.category 1 then some (nx, L, v :: u :: v :: r) else none
  | _ => none
def fw_dup2 (L : List (Nat × Value)) (nx : Nat) (st : List Value) : Option (Nat × List (Nat × Value) × List Value) := match st with
  | v :: u :: r => bif Nat.beq v.category 1 && Nat.beq u.category 1 then some (nx, L, v :: u :: v :: u :: r) else none
  | _ => none
def fw_ifn (L : List (Nat × Value)) (nx a : Nat) (st : List Value) : Option (Nat × List (Nat × Value) × List Value) := match st with
  | .ref _ :: r => some (nx, L, r)
  | .null :: r => some (a, L, r)
  | _ => none
def fw_ifnn (L : List (Nat × Value)) (nx a : Nat) (st : List Value) : Option (Nat × List (Nat × Value) × List Value) := match st with
  | .ref _ :: r => some (a, L, r)
  | .null :: r => some (nx, L, r)
  | _ => none
def fw_st (i : Instr) (nx a : Nat) (v : Int32) (L : List (Nat × Value)) (st : List Value) : Option (Nat × List (Nat × Value) × List Value) := match i with
  | .iload _ => fw_ldi L a nx st
  | .iload_n _ => fw_ldi L a nx st
  | .lload _ => fw_ldl L a nx st
  | .lload_n _ => fw_ldl L a nx st
  | .fload _ => fw_ldf L a nx st
  | .fload_n _ => fw_ldf L a nx st
  | .dload _ => fw_ldd L a nx st
  | .dload_n _ => fw_ldd L a nx st
  | .aload _ => fw_lda L a nx st
  | .aload_n _ => fw_lda L a nx st
  | .istore _ => fw_svi L a nx st
  | .istore_n _ => fw_svi L a nx st
  | .astore _ => fw_sva L a nx st
  | .astore_n _ => fw_sva L a nx st
  | .fstore _ => fw_svf L a nx st
  | .lstore _ => fw_svl L a nx st
  | .lstore_n _ => fw_svl L a nx st
  | .dstore _ => fw_svd L a nx st
  | .iinc _ _ => fw_inc L a nx v st
  | .iconst _ => some (nx, L, .int v :: st)
  | .bipush _ => some (nx, L, .int v :: st)
  | .sipush _ => some (nx, L, .int v :: st)
  | .lconst n => some (nx, L, .long (Int64.ofNat (n : Nat)) :: st)
  | .iadd => fw_o_iadd L nx st
  | .isub => fw_o_isub L nx st
  | .imul => fw_o_imul L nx st
  | .iand => fw_o_iand L nx st
  | .ior => fw_o_ior L nx st
  | .ishl => fw_o_ishl L nx st
  | .ishr => fw_o_ishr L nx st
  | .iushr => fw_o_iushr L nx st
  | .ineg => fw_o_ineg L nx st
  | .ladd => fw_o_ladd L nx st
  | .lsub => fw_o_lsub L nx st
  | .land => fw_o_land L nx st
  | .lor => fw_o_lor L nx st
  | .lxor => fw_o_lxor L nx st
  | .lshl => fw_o_lshl L nx st
  | .lushr => fw_o_lushr L nx st
  | .i2l => fw_o_i2l L nx st
  | .l2i => fw_o_l2i L nx st
  | .i2c => fw_o_i2c L nx st
  | .i2b => fw_o_i2b L nx st
  | .i2f => fw_o_i2f L nx st
  | .i2d => fw_o_i2d L nx st
  | .l2d => fw_o_l2d L nx st
  | .lcmp => fw_o_lcmp L nx st
  | .dup => fw_dup L nx st
  | .pop => fw_pop L nx st
  | .dup_x1 => fw_dupx1 L nx st
  | .dup2 => fw_dup2 L nx st
  | .aconst_null => some (nx, L, .null :: st)
  | .goto _ => some (a, L, st)
  | .ifnull _ => fw_ifn L nx a st
  | .ifnonnull _ => fw_ifnn L nx a st
  | _ => none
section PWR
variable {G : fw_G} {y : fw_M} {Q : fw_Q} {d kc ks : Nat} {h : fw_H} {pc nx a : Nat} {v : Int32} {L L' : List (Nat × Value)} {st st' : List Value} {pc' : Nat}
theorem pw_iload {j : Nat} (hd : fw_rok y (pc, .iload j, nx, a, v)) (hs : fw_ldi L a nx st = some (pc', L', st')) (k : PW G y Q d kc ks h pc' L' st') : PW G y Q d kc ks h pc L st := by
  unfold fw_ldi at hs
  have ej : a = j := Nat.eq_of_beq_eq_true hd.2.2
  have en : nx = pc + 2 := hd.2.1
  split at hs
  · cases hs
    intro p e R s m args below meth c H locs cells slots ls C X
    exact lv_iload C.1 C.2.1 hd.1 (ej ▸ X.2.2.2.2.2 a _ ‹_›) (en ▸ k p e R s m args below meth c H locs cells slots ls C X)
  · cases hs
theorem pw_iload_n {j : Fin 4} (hd : fw_rok y (pc, .iload_n j, nx, a, v)) (hs : fw_ldi L a nx st = some (pc', L', st')) (k : PW G y Q d kc ks h pc' L' st') : PW G y Q d kc ks h pc L st := by
  unfold fw_ldi at hs
  have ej : a = j.val := Nat.eq_of_beq_eq_true hd.2.2
  have en : nx = pc + 1 := hd.2.1
  split at hs
  · cases hs
    intro p e R s m args below meth c H locs cells slots ls C X
    exact lv_iload_n C.1 C.2.1 hd.1 ej.symm (X.2.2.2.2.2 a _ ‹_›) (en ▸ k p e R s m args below meth c H locs cells slots ls C X)
  · cases hs
theorem pw_lload {j : Nat} (hd : fw_rok y (pc, .lload j, nx, a, v)) (hs : fw_ldl L a nx st = some (pc', L', st')) (k : PW G y Q d kc ks h pc' L' st') : PW G y Q d kc ks h pc L st := by
  unfold fw_ldl at hs
  have ej : a = j := Nat.eq_of_beq_eq_true hd.2.2
  have en : nx = pc + 2 := hd.2.1
  split at hs
  · cases hs
    intro p e R s m args below meth c H locs cells slots ls C X
    exact lv_lload C.1 C.2.1 hd.1 (ej ▸ X.2.2.2.2.2 a _ ‹_›) (en ▸ k p e R s m args below meth c H locs cells slots ls C X)
  · cases hs
theorem pw_lload_n {j : Fin 4} (hd : fw_rok y (pc, .lload_n j, nx, a, v)) (hs : fw_ldl L a nx st = some (pc', L', st')) (k : PW G y Q d kc ks h pc' L' st') : PW G y Q d kc ks h pc L st := by
  unfold fw_ldl at hs
  have ej : a = j.val := Nat.eq_of_beq_eq_true hd.2.2
  have en : nx = pc + 1 := hd.2.1
  split at hs
  · cases hs
    intro p e R s m args below meth c H locs cells slots ls C X
    exact lv_lload_n C.1 C.2.1 hd.1 ej.symm (X.2.2.2.2.2 a _ ‹_›) (en ▸ k p e R s m args below meth c H locs cells slots ls C X)
  · cases hs
theorem pw_fload {j : Nat} (hd : fw_rok y (pc, .fload j, nx, a, v)) (hs : fw_ldf L a nx st = some (pc', L', st')) (k : PW G y Q d kc ks h pc' L' st') : PW G y Q d kc ks h pc L st := by
  unfold fw_ldf at hs
  have ej : a = j := Nat.eq_of_beq_eq_true hd.2.2
  have en : nx = pc + 2 := hd.2.1
  split at hs
  · cases hs
    intro p e R s m args below meth c H locs cells slots ls C X
    exact lv_fload C.1 C.2.1 hd.1 (ej ▸ X.2.2.2.2.2 a _ ‹_›) (en ▸ k p e R s m args below meth c H locs cells slots ls C X)
  · cases hs
theorem pw_fload_n {j : Fin 4} (hd : fw_rok y (pc, .fload_n j, nx, a, v)) (hs : fw_ldf L a nx st = some (pc', L', st')) (k : PW G y Q d kc ks h pc' L' st') : PW G y Q d kc ks h pc L st := by
  unfold fw_ldf at hs
  have ej : a = j.val := Nat.eq_of_beq_eq_true hd.2.2
  have en : nx = pc + 1 := hd.2.1
  split at hs
  · cases hs
    intro p e R s m args below meth c H locs cells slots ls C X
    exact lv_fload_n C.1 C.2.1 hd.1 ej.symm (X.2.2.2.2.2 a _ ‹_›) (en ▸ k p e R s m args below meth c H locs cells slots ls C X)
  · cases hs
theorem pw_dload {j : Nat} (hd : fw_rok y (pc, .dload j, nx, a, v)) (hs : fw_ldd L a nx st = some (pc', L', st')) (k : PW G y Q d kc ks h pc' L' st') : PW G y Q d kc ks h pc L st := by
  unfold fw_ldd at hs
  have ej : a = j := Nat.eq_of_beq_eq_true hd.2.2
  have en : nx = pc + 2 := hd.2.1
  split at hs
  · cases hs
    intro p e R s m args below meth c H locs cells slots ls C X
    exact lv_dload C.1 C.2.1 hd.1 (ej ▸ X.2.2.2.2.2 a _ ‹_›) (en ▸ k p e R s m args below meth c H locs cells slots ls C X)
  · cases hs
theorem pw_dload_n {j : Fin 4} (hd : fw_rok y (pc, .dload_n j, nx, a, v)) (hs : fw_ldd L a nx st = some (pc', L', st')) (k : PW G y Q d kc ks h pc' L' st') : PW G y Q d kc ks h pc L st := by
  unfold fw_ldd at hs
  have ej : a = j.val := Nat.eq_of_beq_eq_true hd.2.2
  have en : nx = pc + 1 := hd.2.1
  split at hs
  · cases hs
    intro p e R s m args below meth c H locs cells slots ls C X
    exact lv_dload_n C.1 C.2.1 hd.1 ej.symm (X.2.2.2.2.2 a _ ‹_›) (en ▸ k p e R s m args below meth c H locs cells slots ls C X)
  · cases hs
theorem pw_aload {j : Nat} (hd : fw_rok y (pc, .aload j, nx, a, v)) (hs : fw_lda L a nx st = some (pc', L', st')) (k : PW G y Q d kc ks h pc' L' st') : PW G y Q d kc ks h pc L st := by
  unfold fw_lda at hs
  have ej : a = j := Nat.eq_of_beq_eq_true hd.2.2
  have en : nx = pc + 2 := hd.2.1
  split at hs
  · cases hs
    intro p e R s m args below meth c H locs cells slots ls C X
    exact lv_aload C.1 C.2.1 hd.1 (ej ▸ X.2.2.2.2.2 a _ ‹_›) (en ▸ k p e R s m args below meth c H locs cells slots ls C X)
  · cases hs
    intro p e R s m args below meth c H locs cells slots ls C X
    exact lv_aloadN C.1 C.2.1 hd.1 (ej ▸ X.2.2.2.2.2 a _ ‹_›) (en ▸ k p e R s m args below meth c H locs cells slots ls C X)
  · cases hs
theorem pw_aload_n {j : Fin 4} (hd : fw_rok y (pc, .aload_n j, nx, a, v)) (hs : fw_lda L a nx st = some (pc', L', st')) (k : PW G y Q d kc ks h pc' L' st') : PW G y Q d kc ks h pc L st := by
  unfold fw_lda at hs
  have ej : a = j.val := Nat.eq_of_beq_eq_true hd.2.2
  have en : nx = pc + 1 := hd.2.1
  split at hs
  · cases hs
    intro p e R s m args below meth c H locs cells slots ls C X
    exact lv_aload_n C.1 C.2.1 hd.1 ej.symm (X.2.2.2.2.2 a _ ‹_›) (en ▸ k p e R s m args below meth c H locs cells slots ls C X)
  · cases hs
    intro p e R s m args below meth c H locs cells slots ls C X
    exact lv_aload_nN C.1 C.2.1 hd.1 ej.symm (X.2.2.2.2.2 a _ ‹_›) (en ▸ k p e R s m args below meth c H locs cells slots ls C X)
  · cases hs
theorem pw_istore {j : Nat} (hd : fw_rok y (pc, .istore j, nx, a, v)) (hs : fw_svi L a nx st = some (pc', L', st')) (k : PW G y Q d kc ks h pc' L' st') : PW G y Q d kc ks h pc L st := by
  unfold fw_svi at hs
  obtain ⟨e1, e2⟩ := Bool.and_eq_true_iff.mp hd.2.2
  have ej : a = j := Nat.eq_of_beq_eq_true e1
  have el : a < y.2.2.1 := Nat.le_of_ble_eq_true e2
  have en : nx = pc + 2 := hd.2.1
  split at hs
  · cases ho : fw_ok1 L a with
    | false => rw [ho] at hs; cases hs
    | true =>
      rw [ho] at hs
      cases hs
      intro p e R s m args below meth c H locs cells slots ls C X
      subst ej
      exact lv_istore C.1 C.2.1 hd.1 X.2.2.2.lv el rfl (fun ls' h' => en ▸ k p e R s m args below meth c H locs cells slots ls' C ⟨X.1, X.2.1, X.2.2.1, fw_store1 X.2.2.2 ho h'⟩)
  · cases hs
theorem pw_istore_n {j : Fin 4} (hd : fw_rok y (pc, .istore_n j, nx, a, v)) (hs : fw_svi L a nx st = some (pc', L', st')) (k : PW G y Q d kc ks h pc' L' st') : PW G y Q d kc ks h pc L st := by
  unfold fw_svi at hs
  obtain ⟨e1, e2⟩ := Bool.and_eq_true_iff.mp hd.2.2
  have ej : a = j.val := Nat.eq_of_beq_eq_true e1
  have el : a < y.2.2.1 := Nat.le_of_ble_eq_true e2
  have en : nx = pc + 1 := hd.2.1
  split at hs
  · cases ho : fw_ok1 L a with
    | false => rw [ho] at hs; cases hs
    | true =>
      rw [ho] at hs
      cases hs
      intro p e R s m args below meth c H locs cells slots ls C X
      exact lv_istore_n C.1 C.2.1 hd.1 ej.symm X.2.2.2.lv el rfl (fun ls' h' => en ▸ k p e R s m args below meth c H locs cells slots ls' C ⟨X.1, X.2.1, X.2.2.1, fw_store1 X.2.2.2 ho h'⟩)
  · cases hs
theorem pw_astore {j : Nat} (hd : fw_rok y (pc, .astore j, nx, a, v)) (hs : fw_sva L a nx st = some (pc', L', st')) (k : PW G y Q d kc ks h pc' L' st') : PW G y Q d kc ks h pc L st := by
  unfold fw_sva at hs
  obtain ⟨e1, e2⟩ := Bool.and_eq_true_iff.mp hd.2.2
  have ej : a = j := Nat.eq_of_beq_eq_true e1
  have el : a < y.2.2.1 := Nat.le_of_ble_eq_true e2
  have en : nx = pc + 2 := hd.2.1
  split at hs
  · cases ho : fw_ok1 L a with
    | false => rw [ho] at hs; cases hs
    | true =>
      rw [ho] at hs
      cases hs
      intro p e R s m args below meth c H locs cells slots ls C X
      subst ej
      exact lv_astore C.1 C.2.1 hd.1 X.2.2.2.lv el rfl (fun ls' h' => en ▸ k p e R s m args below meth c H locs cells slots ls' C ⟨X.1, X.2.1, X.2.2.1, fw_store1 X.2.2.2 ho h'⟩)
  · cases ho : fw_ok1 L a with
    | false => rw [ho] at hs; cases hs
    | true =>
      rw [ho] at hs
      cases hs
      intro p e R s m args below meth c H locs cells slots ls C X
      subst ej
      exact lv_astoreN C.1 C.2.1 hd.1 X.2.2.2.lv el rfl (fun ls' h' => en ▸ k p e R s m args below meth c H locs cells slots ls' C ⟨X.1, X.2.1, X.2.2.1, fw_store1 X.2.2.2 ho h'⟩)
  · cases hs
theorem pw_astore_n {j : Fin 4} (hd : fw_rok y (pc, .astore_n j, nx, a, v)) (hs : fw_sva L a nx st = some (pc', L', st')) (k : PW G y Q d kc ks h pc' L' st') : PW G y Q d kc ks h pc L st := by
  unfold fw_sva at hs
  obtain ⟨e1, e2⟩ := Bool.and_eq_true_iff.mp hd.2.2
  have ej : a = j.val := Nat.eq_of_beq_eq_true e1
  have el : a < y.2.2.1 := Nat.le_of_ble_eq_true e2
  have en : nx = pc + 1 := hd.2.1
  split at hs
  · cases ho : fw_ok1 L a with
    | false => rw [ho] at hs; cases hs
    | true =>
      rw [ho] at hs
      cases hs
      intro p e R s m args below meth c H locs cells slots ls C X
      exact lv_astore_n C.1 C.2.1 hd.1 ej.symm X.2.2.2.lv el rfl (fun ls' h' => en ▸ k p e R s m args below meth c H locs cells slots ls' C ⟨X.1, X.2.1, X.2.2.1, fw_store1 X.2.2.2 ho h'⟩)
  · cases ho : fw_ok1 L a with
    | false => rw [ho] at hs; cases hs
    | true =>
      rw [ho] at hs
      cases hs
      intro p e R s m args below meth c H locs cells slots ls C X
      exact lv_astore_nN C.1 C.2.1 hd.1 ej.symm X.2.2.2.lv el rfl (fun ls' h' => en ▸ k p e R s m args below meth c H locs cells slots ls' C ⟨X.1, X.2.1, X.2.2.1, fw_store1 X.2.2.2 ho h'⟩)
  · cases hs
theorem pw_fstore {j : Nat} (hd : fw_rok y (pc, .fstore j, nx, a, v)) (hs : fw_svf L a nx st = some (pc', L', st')) (k : PW G y Q d kc ks h pc' L' st') : PW G y Q d kc ks h pc L st := by
  unfold fw_svf at hs
  obtain ⟨e1, e2⟩ := Bool.and_eq_true_iff.mp hd.2.2
  have ej : a = j := Nat.eq_of_beq_eq_true e1
  have el : a < y.2.2.1 := Nat.le_of_ble_eq_true e2
  have en : nx = pc + 2 := hd.2.1
  split at hs
  · cases ho : fw_ok1 L a with
    | false => rw [ho] at hs; cases hs
    | true =>
      rw [ho] at hs
      cases hs
      intro p e R s m args below meth c H locs cells slots ls C X
      subst ej
      exact lv_fstore C.1 C.2.1 hd.1 X.2.2.2.lv el rfl (fun ls' h' => en ▸ k p e R s m args below meth c H locs cells slots ls' C ⟨X.1, X.2.1, X.2.2.1, fw_store1 X.2.2.2 ho h'⟩)
  · cases hs
theorem pw_lstore {j : Nat} (hd : fw_rok y (pc, .lstore j, nx, a, v)) (hs : fw_svl L a nx st = some (pc', L', st')) (k : PW G y Q d kc ks h pc' L' st') : PW G y Q d kc ks h pc L st := by
  unfold fw_svl at hs
  obtain ⟨e1, e2⟩ := Bool.and_eq_true_iff.mp hd.2.2
  have ej : a = j := Nat.eq_of_beq_eq_true e1
  have el : a + 1 < y.2.2.1 := Nat.le_of_ble_eq_true e2
  have en : nx = pc + 2 := hd.2.1
  split at hs
  · cases ho : fw_ok2 L a with
    | false => rw [ho] at hs; cases hs
    | true =>
      rw [ho] at hs
      cases hs
      intro p e R s m args below meth c H locs cells slots ls C X
      subst ej
      exact lv_lstore C.1 C.2.1 hd.1 X.2.2.2.lv el rfl (fun ls' h' => en ▸ k p e R s m args below meth c H locs cells slots ls' C ⟨X.1, X.2.1, X.2.2.1, fw_store2 X.2.2.2 ho h'⟩)
  · cases hs
theorem pw_lstore_n {j : Fin 4} (hd : fw_rok y (pc, .lstore_n j, nx, a, v)) (hs : fw_svl L a nx st = some (pc', L', st')) (k : PW G y Q d kc ks h pc' L' st') : PW G y Q d kc ks h pc L st := by
  unfold fw_svl at hs
  obtain ⟨e1, e2⟩ := Bool.and_eq_true_iff.mp hd.2.2
  have ej : a = j.val := Nat.eq_of_beq_eq_true e1
  have el : a + 1 < y.2.2.1 := Nat.le_of_ble_eq_true e2
  have en : nx = pc + 1 := hd.2.1
  split at hs
  · cases ho : fw_ok2 L a with
    | false => rw [ho] at hs; cases hs
    | true =>
      rw [ho] at hs
      cases hs
      intro p e R s m args below meth c H locs cells slots ls C X
      exact lv_lstore_n C.1 C.2.1 hd.1 ej.symm X.2.2.2.lv el rfl (fun ls' h' => en ▸ k p e R s m args below meth c H locs cells slots ls' C ⟨X.1, X.2.1, X.2.2.1, fw_store2 X.2.2.2 ho h'⟩)
  · cases hs
theorem pw_dstore {j : Nat} (hd : fw_rok y (pc, .dstore j, nx, a, v)) (hs : fw_svd L a nx st = some (pc', L', st')) (k : PW G y Q d kc ks h pc' L' st') : PW G y Q d kc ks h pc L st := by
  unfold fw_svd at hs
  obtain ⟨e1, e2⟩ := Bool.and_eq_true_iff.mp hd.2.2
  have ej : a = j := Nat.eq_of_beq_eq_true e1
  have el : a + 1 < y.2.2.1 := Nat.le_of_ble_eq_true e2
  have en : nx = pc + 2 := hd.2.1
  split at hs
  · cases ho : fw_ok2 L a with
    | false => rw [ho] at hs; cases hs
    | true =>
      rw [ho] at hs
      cases hs
      intro p e R s m args below meth c H locs cells slots ls C X
      subst ej
      exact lv_dstore C.1 C.2.1 hd.1 X.2.2.2.lv el rfl (fun ls' h' => en ▸ k p e R s m args below meth c H locs cells slots ls' C ⟨X.1, X.2.1, X.2.2.1, fw_store2 X.2.2.2 ho h'⟩)
  · cases hs
theorem pw_iinc {j : Nat} {n : Int} (hd : fw_rok y (pc, .iinc j n, nx, a, v)) (hs : fw_inc L a nx v st = some (pc', L', st')) (k : PW G y Q d kc ks h pc' L' st') : PW G y Q d kc ks h pc L st := by
  unfold fw_inc at hs
  obtain ⟨e0, e3⟩ := Bool.and_eq_true_iff.mp hd.2.2
  obtain ⟨e1, e2⟩ := Bool.and_eq_true_iff.mp e0
  have ej : a = j := Nat.eq_of_beq_eq_true e1
  have el : a < y.2.2.1 := Nat.le_of_ble_eq_true e2
  have ev : Int32.ofInt n = v := of_decide_eq_true e3
  have en : nx = pc + 3 := hd.2.1
  split at hs
  · rename_i x hx
    cases ho : fw_ok1 L a with
    | false => rw [ho] at hs; cases hs
    | true =>
      rw [ho] at hs
      cases hs
      intro p e R s m args below meth c H locs cells slots ls C X
      subst ej
      obtain ⟨k9, h9⟩ := List.getElem?_of_mem (fw_all_mem X.2.2.2 hx)
      exact lv_iinc C.1 C.2.1 hd.1 X.2.2.2.lv h9 (by rw [ev]) el rfl (fun ls' h' => en ▸ k p e R s m args below meth c H locs cells slots ls' C ⟨X.1, X.2.1, X.2.2.1, fw_store1 X.2.2.2 ho h'⟩)
  · cases hs
theorem pw_iconst {n : Int} (hd : fw_rok y (pc, .iconst n, nx, a, v)) (hs : some (nx, L, Value.int v :: st) = some (pc', L', st')) (k : PW G y Q d kc ks h pc' L' st') : PW G y Q d kc ks h pc L st := by
  cases hs
  have en : nx = pc + 1 := hd.2.1
  intro p e R s m args below meth c H locs cells slots ls C X
  exact lv_iconst C.1 C.2.1 hd.1 (of_decide_eq_true hd.2.2) (en ▸ k p e R s m args below meth c H locs cells slots ls C X)
theorem pw_bipush {n : Int} (hd : fw_rok y (pc, .bipush n, nx, a, v)) (hs : some (nx, L, Value.int v :: st) = some (pc', L', st')) (k : PW G y Q d kc ks h pc' L' st') : PW G y Q d kc ks h pc L st := by
  cases hs
  have en : nx = pc + 2 := hd.2.1
  intro p e R s m args below meth c H locs cells slots ls C X
  exact lv_bipush C.1 C.2.1 hd.1 (of_decide_eq_true hd.2.2) (en ▸ k p e R s m args below meth c H locs cells slots ls C X)
theorem pw_sipush {n : Int} (hd : fw_rok y (pc, .sipush n, nx, a, v)) (hs : some (nx, L, Value.int v :: st) = some (pc', L', st')) (k : PW G y Q d kc ks h pc' L' st') : PW G y Q d kc ks h pc L st := by
  cases hs
  have en : nx = pc + 3 := hd.2.1
  intro p e R s m args below meth c H locs cells slots ls C X
  exact lv_sipush C.1 C.2.1 hd.1 (of_decide_eq_true hd.2.2) (en ▸ k p e R s m args below meth c H locs cells slots ls C X)
theorem pw_lconst {n : Fin 2} (hd : fw_rok y (pc, .lconst n, nx, a, v)) (hs : some (nx, L, Value.long (Int64.ofNat (n : Nat)) :: st) = some (pc', L', st')) (k : PW G y Q d kc ks h pc' L' st') : PW G y Q d kc ks h pc L st := by
  cases hs
  have en : nx = pc + 1 := hd.2.1
  intro p e R s m args below meth c H locs cells slots ls C X
  exact lv_lconst C.1 C.2.1 hd.1 rfl (en ▸ k p e R s m args below meth c H locs cells slots ls C X)
theorem pw_iadd (hd : fw_rok y (pc, .iadd, nx, a, v)) (hs : fw_o_iadd L nx st = some (pc', L', st')) (k : PW G y Q d kc ks h pc' L' st') : PW G y Q d kc ks h pc L st := by
  unfold fw_o_iadd at hs
  have en : nx = pc + 1 := hd.2.1
  split at hs
  · cases hs
    intro p e R s m args below meth c H locs cells slots ls C X
    exact lv_iadd C.1 C.2.1 hd.1  (en ▸ k p e R s m args below meth c H locs cells slots ls C X)
  · cases hs
theorem pw_isub (hd : fw_rok y (pc, .isub, nx, a, v)) (hs : fw_o_isub L nx st = some (pc', L', st')) (k : PW G y Q d kc ks h pc' L' st') : PW G y Q d kc ks h pc L st := by
  unfold fw_o_isub at hs
  have en : nx = pc + 1 := hd.2.1
  split at hs
  · cases hs
    intro p e R s m args below meth c H locs cells slots ls C X
    exact lv_isub C.1 C.2.1 hd.1  (en ▸ k p e R s m args below meth c H locs cells slots ls C X)
  · cases hs
theorem pw_imul (hd : fw_rok y (pc, .imul, nx, a, v)) (hs : fw_o_imul L nx st = some (pc', L', st')) (k : PW G y Q d kc ks h pc' L' st') : PW G y Q d kc ks h pc L st := by
  unfold fw_o_imul at hs
  have en : nx = pc + 1 := hd.2.1
  split at hs
  · cases hs
    intro p e R s m args below meth c H locs cells slots ls C X
    exact lv_imul C.1 C.2.1 hd.1  (en ▸ k p e R s m args below meth c H locs cells slots ls C X)
  · cases hs
theorem pw_iand (hd : fw_rok y (pc, .iand, nx, a, v)) (hs : fw_o_iand L nx st = some (pc', L', st')) (k : PW G y Q d kc ks h pc' L' st') : PW G y Q d kc ks h pc L st := by
  unfold fw_o_iand at hs
  have en : nx = pc + 1 := hd.2.1
  split at hs
  · cases hs
    intro p e R s m args below meth c H locs cells slots ls C X
    exact lv_iand C.1 C.2.1 hd.1  (en ▸ k p e R s m args below meth c H locs cells slots ls C X)
  · cases hs
theorem pw_ior (hd : fw_rok y (pc, .ior, nx, a, v)) (hs : fw_o_ior L nx st = some (pc', L', st')) (k : PW G y Q d kc ks h pc' L' st') : PW G y Q d kc ks h pc L st := by
  unfold fw_o_ior at hs
  have en : nx = pc + 1 := hd.2.1
  split at hs
  · cases hs
    intro p e R s m args below meth c H locs cells slots ls C X
    exact lv_ior C.1 C.2.1 hd.1  (en ▸ k p e R s m args below meth c H locs cells slots ls C X)
  · cases hs
theorem pw_ishl (hd : fw_rok y (pc, .ishl, nx, a, v)) (hs : fw_o_ishl L nx st = some (pc', L', st')) (k : PW G y Q d kc ks h pc' L' st') : PW G y Q d kc ks h pc L st := by
  unfold fw_o_ishl at hs
  have en : nx = pc + 1 := hd.2.1
  split at hs
  · cases hs
    intro p e R s m args below meth c H locs cells slots ls C X
    exact lv_ishl C.1 C.2.1 hd.1  (en ▸ k p e R s m args below meth c H locs cells slots ls C X)
  · cases hs
theorem pw_ishr (hd : fw_rok y (pc, .ishr, nx, a, v)) (hs : fw_o_ishr L nx st = some (pc', L', st')) (k : PW G y Q d kc ks h pc' L' st') : PW G y Q d kc ks h pc L st := by
  unfold fw_o_ishr at hs
  have en : nx = pc + 1 := hd.2.1
  split at hs
  · cases hs
    intro p e R s m args below meth c H locs cells slots ls C X
    exact lv_ishr C.1 C.2.1 hd.1  (en ▸ k p e R s m args below meth c H locs cells slots ls C X)
  · cases hs
theorem pw_iushr (hd : fw_rok y (pc, .iushr, nx, a, v)) (hs : fw_o_iushr L nx st = some (pc', L', st')) (k : PW G y Q d kc ks h pc' L' st') : PW G y Q d kc ks h pc L st := by
  unfold fw_o_iushr at hs
  have en : nx = pc + 1 := hd.2.1
  split at hs
  · cases hs
    intro p e R s m args below meth c H locs cells slots ls C X
    exact lv_iushr C.1 C.2.1 hd.1 rfl (en ▸ k p e R s m args below meth c H locs cells slots ls C X)
  · cases hs
theorem pw_ineg (hd : fw_rok y (pc, .ineg, nx, a, v)) (hs : fw_o_ineg L nx st = some (pc', L', st')) (k : PW G y Q d kc ks h pc' L' st') : PW G y Q d kc ks h pc L st := by
  unfold fw_o_ineg at hs
  have en : nx = pc + 1 := hd.2.1
  split at hs
  · cases hs
    intro p e R s m args below meth c H locs cells slots ls C X
    exact lv_ineg C.1 C.2.1 hd.1  (en ▸ k p e R s m args below meth c H locs cells slots ls C X)
  · cases hs
theorem pw_ladd (hd : fw_rok y (pc, .ladd, nx, a, v)) (hs : fw_o_ladd L nx st = some (pc', L', st')) (k : PW G y Q d kc ks h pc' L' st') : PW G y Q d kc ks h pc L st := by
  unfold fw_o_ladd at hs
  have en : nx = pc + 1 := hd.2.1
  split at hs
  · cases hs
    intro p e R s m args below meth c H locs cells slots ls C X
    exact lv_ladd C.1 C.2.1 hd.1  (en ▸ k p e R s m args below meth c H locs cells slots ls C X)
  · cases hs
theorem pw_lsub (hd : fw_rok y (pc, .lsub, nx, a, v)) (hs : fw_o_lsub L nx st = some (pc', L', st')) (k : PW G y Q d kc ks h pc' L' st') : PW G y Q d kc ks h pc L st := by
  unfold fw_o_lsub at hs
  have en : nx = pc + 1 := hd.2.1
  split at hs
  · cases hs
    intro p e R s m args below meth c H locs cells slots ls C X
    exact lv_lsub C.1 C.2.1 hd.1  (en ▸ k p e R s m args below meth c H locs cells slots ls C X)
  · cases hs
theorem pw_land (hd : fw_rok y (pc, .land, nx, a, v)) (hs : fw_o_land L nx st = some (pc', L', st')) (k : PW G y Q d kc ks h pc' L' st') : PW G y Q d kc ks h pc L st := by
  unfold fw_o_land at hs
  have en : nx = pc + 1 := hd.2.1
  split at hs
  · cases hs
    intro p e R s m args below meth c H locs cells slots ls C X
    exact lv_land C.1 C.2.1 hd.1  (en ▸ k p e R s m args below meth c H locs cells slots ls C X)
  · cases hs
theorem pw_lor (hd : fw_rok y (pc, .lor, nx, a, v)) (hs : fw_o_lor L nx st = some (pc', L', st')) (k : PW G y Q d kc ks h pc' L' st') : PW G y Q d kc ks h pc L st := by
  unfold fw_o_lor at hs
  have en : nx = pc + 1 := hd.2.1
  split at hs
  · cases hs
    intro p e R s m args below meth c H locs cells slots ls C X
    exact lv_lor C.1 C.2.1 hd.1  (en ▸ k p e R s m args below meth c H locs cells slots ls C X)
  · cases hs
theorem pw_lxor (hd : fw_rok y (pc, .lxor, nx, a, v)) (hs : fw_o_lxor L nx st = some (pc', L', st')) (k : PW G y Q d kc ks h pc' L' st') : PW G y Q d kc ks h pc L st := by
  unfold fw_o_lxor at hs
  have en : nx = pc + 1 := hd.2.1
  split at hs
  · cases hs
    intro p e R s m args below meth c H locs cells slots ls C X
    exact lv_lxor C.1 C.2.1 hd.1  (en ▸ k p e R s m args below meth c H locs cells slots ls C X)
  · cases hs
theorem pw_lshl (hd : fw_rok y (pc, .lshl, nx, a, v)) (hs : fw_o_lshl L nx st = some (pc', L', st')) (k : PW G y Q d kc ks h pc' L' st') : PW G y Q d kc ks h pc L st := by
  unfold fw_o_lshl at hs
  have en : nx = pc + 1 := hd.2.1
  split at hs
  · cases hs
    intro p e R s m args below meth c H locs cells slots ls C X
    exact lv_lshl C.1 C.2.1 hd.1 rfl (en ▸ k p e R s m args below meth c H locs cells slots ls C X)
  · cases hs
theorem pw_lushr (hd : fw_rok y (pc, .lushr, nx, a, v)) (hs : fw_o_lushr L nx st = some (pc', L', st')) (k : PW G y Q d kc ks h pc' L' st') : PW G y Q d kc ks h pc L st := by
  unfold fw_o_lushr at hs
  have en : nx = pc + 1 := hd.2.1
  split at hs
  · cases hs
    intro p e R s m args below meth c H locs cells slots ls C X
    exact lv_lushr C.1 C.2.1 hd.1 rfl (en ▸ k p e R s m args below meth c H locs cells slots ls C X)
  · cases hs
theorem pw_i2l (hd : fw_rok y (pc, .i2l, nx, a, v)) (hs : fw_o_i2l L nx st = some (pc', L', st')) (k : PW G y Q d kc ks h pc' L' st') : PW G y Q d kc ks h pc L st := by
  unfold fw_o_i2l at hs
  have en : nx = pc + 1 := hd.2.1
  split at hs
  · cases hs
    intro p e R s m args below meth c H locs cells slots ls C X
    exact lv_i2l C.1 C.2.1 hd.1 rfl (en ▸ k p e R s m args below meth c H locs cells slots ls C X)
  · cases hs
theorem pw_l2i (hd : fw_rok y (pc, .l2i, nx, a, v)) (hs : fw_o_l2i L nx st = some (pc', L', st')) (k : PW G y Q d kc ks h pc' L' st') : PW G y Q d kc ks h pc L st := by
  unfold fw_o_l2i at hs
  have en : nx = pc + 1 := hd.2.1
  split at hs
  · cases hs
    intro p e R s m args below meth c H locs cells slots ls C X
    exact lv_l2i C.1 C.2.1 hd.1 rfl (en ▸ k p e R s m args below meth c H locs cells slots ls C X)
  · cases hs
theorem pw_i2c (hd : fw_rok y (pc, .i2c, nx, a, v)) (hs : fw_o_i2c L nx st = some (pc', L', st')) (k : PW G y Q d kc ks h pc' L' st') : PW G y Q d kc ks h pc L st := by
  unfold fw_o_i2c at hs
  have en : nx = pc + 1 := hd.2.1
  split at hs
  · cases hs
    intro p e R s m args below meth c H locs cells slots ls C X
    exact lv_i2c C.1 C.2.1 hd.1 rfl (en ▸ k p e R s m args below meth c H locs cells slots ls C X)
  · cases hs
theorem pw_i2b (hd : fw_rok y (pc, .i2b, nx, a, v)) (hs : fw_o_i2b L nx st = some (pc', L', st')) (k : PW G y Q d kc ks h pc' L' st') : PW G y Q d kc ks h pc L st := by
  unfold fw_o_i2b at hs
  have en : nx = pc + 1 := hd.2.1
  split at hs
  · cases hs
    intro p e R s m args below meth c H locs cells slots ls C X
    exact lv_i2b C.1 C.2.1 hd.1 rfl (en ▸ k p e R s m args below meth c H locs cells slots ls C X)
  · cases hs
theorem pw_i2f (hd : fw_rok y (pc, .i2f, nx, a, v)) (hs : fw_o_i2f L nx st = some (pc', L', st')) (k : PW G y Q d kc ks h pc' L' st') : PW G y Q d kc ks h pc L st := by
  unfold fw_o_i2f at hs
  have en : nx = pc + 1 := hd.2.1
  split at hs
  · cases hs
    intro p e R s m args below meth c H locs cells slots ls C X
    exact lv_i2f C.1 C.2.1 hd.1  (en ▸ k p e R s m args below meth c H locs cells slots ls C X)
  · cases hs
theorem pw_i2d (hd : fw_rok y (pc, .i2d, nx, a, v)) (hs : fw_o_i2d L nx st = some (pc', L', st')) (k : PW G y Q d kc ks h pc' L' st') : PW G y Q d kc ks h pc L st := by
  unfold fw_o_i2d at hs
  have en : nx = pc + 1 := hd.2.1
  split at hs
  · cases hs
    intro p e R s m args below meth c H locs cells slots ls C X
    exact lv_i2d C.1 C.2.1 hd.1  (en ▸ k p e R s m args below meth c H locs cells slots ls C X)
  · cases hs
theorem pw_l2d (hd : fw_rok y (pc, .l2d, nx, a, v)) (hs : fw_o_l2d L nx st = some (pc', L', st')) (k : PW G y Q d kc ks h pc' L' st') : PW G y Q d kc ks h pc L st := by
  unfold fw_o_l2d at hs
  have en : nx = pc + 1 := hd.2.1
  split at hs
  · cases hs
    intro p e R s m args below meth c H locs cells slots ls C X
    exact lv_l2d C.1 C.2.1 hd.1  (en ▸ k p e R s m args below meth c H locs cells slots ls C X)
  · cases hs
theorem pw_lcmp (hd : fw_rok y (pc, .lcmp, nx, a, v)) (hs : fw_o_lcmp L nx st = some (pc', L', st')) (k : PW G y Q d kc ks h pc' L' st') : PW G y Q d kc ks h pc L st := by
  unfold fw_o_lcmp at hs
  have en : nx = pc + 1 := hd.2.1
  split at hs
  · cases hs
    intro p e R s m args below meth c H locs cells slots ls C X
    exact W.lcmp C.1 C.2.1 hd.1  (en ▸ k p e R s m args below meth c H locs cells slots ls C X)
  · cases hs
theorem pw_dup (hd : fw_rok y (pc, .dup, nx, a, v)) (hs : fw_dup L nx st = some (pc', L', st')) (k : PW G y Q d kc ks h pc' L' st') : PW G y Q d kc ks h pc L st := by
  unfold fw_dup at hs
  have en : nx = pc + 1 := hd.2.1
  split at hs
  · rename_i v9 r9
    cases hc : Nat.beq v9.category 1 with
    | false => rw [hc] at hs; cases hs
    | true =>
      rw [hc] at hs
      cases hs
      intro p e R s m args below meth c H locs cells slots ls C X
      exact lv_dup C.1 C.2.1 hd.1 (Nat.eq_of_beq_eq_true hc) (en ▸ k p e R s m args below meth c H locs cells slots ls C X)
  · cases hs
theorem pw_pop (hd : fw_rok y (pc, .pop, nx, a, v)) (hs : fw_pop L nx st = some (pc', L', st')) (k : PW G y Q d kc ks h pc' L' st') : PW G y Q d kc ks h pc L st := by
  unfold fw_pop at hs
  have en : nx = pc + 1 := hd.2.1
  split at hs
  · rename_i v9 r9
    cases hc : Nat.beq v9.category 1 with
    | false => rw [hc] at hs; cases hs
    | true =>
      rw [hc] at hs
      cases hs
      intro p e R s m args below meth c H locs cells slots ls C X
      exact lv_pop C.1 C.2.1 hd.1 (Nat.eq_of_beq_eq_true hc) (en ▸ k p e R s m args below meth c H locs cells slots ls C X)
  · cases hs
theorem pw_dup_x1 (hd : fw_rok y (pc, .dup_x1, nx, a, v)) (hs : fw_dupx1 L nx st = some (pc', L', st')) (k : PW G y Q d kc ks h pc' L' st') : PW G y Q d kc ks h pc L st := by
  unfold fw_dupx1 at hs
  have en : nx = pc + 1 := hd.2.1
  split at hs
  · rename_i v9 u9 r9
    cases hc : (Nat.beq v9.category 1 && Nat.beq u9.category 1) with
    | false => rw [hc] at hs; cases hs
    | true =>
      rw [hc] at hs
      obtain ⟨h1, h2⟩ := Bool.and_eq_true_iff.mp hc
      cases hs
      intro p e R s m args below meth c H locs cells slots ls C X
      exact lv_dup_x1 C.1 C.2.1 hd.1 (Nat.eq_of_beq_eq_true h1) (Nat.eq_of_beq_eq_true h2) (en ▸ k p e R s m args below meth c H locs cells slots ls C X)
  · cases hs
theorem pw_dup2 (hd : fw_rok y (pc, .dup2, nx, a, v)) (hs : fw_dup2 L nx st = some (pc', L', st')) (k : PW G y Q d kc ks h pc' L' st') : PW G y Q d kc ks h pc L st := by
  unfold fw_dup2 at hs
  have en : nx = pc + 1 := hd.2.1
  split at hs
  · rename_i v9 u9 r9
    cases hc : (Nat.beq v9.category 1 && Nat.beq u9.category 1) with
    | false => rw [hc] at hs; cases hs
    | true =>
      rw [hc] at hs
      obtain ⟨h1, h2⟩ := Bool.and_eq_true_iff.mp hc
      cases hs
      intro p e R s m args below meth c H locs cells slots ls C X
      exact lv_dup2_11 C.1 C.2.1 hd.1 (Nat.eq_of_beq_eq_true h1) (Nat.eq_of_beq_eq_true h2) (en ▸ k p e R s m args below meth c H locs cells slots ls C X)
  · cases hs
theorem pw_aconst_null (hd : fw_rok y (pc, .aconst_null, nx, a, v)) (hs : some (nx, L, Value.null :: st) = some (pc', L', st')) (k : PW G y Q d kc ks h pc' L' st') : PW G y Q d kc ks h pc L st := by
  cases hs
  have en : nx = pc + 1 := hd.2.1
  intro p e R s m args below meth c H locs cells slots ls C X
  exact lv_null C.1 C.2.1 hd.1 (en ▸ k p e R s m args below meth c H locs cells slots ls C X)
theorem pw_goto {off : Int} (hd : fw_rok y (pc, .goto off, nx, a, v)) (hs : some (a, L, st) = some (pc', L', st')) (k : PW G y Q d kc ks h pc' L' st') : PW G y Q d kc ks h pc L st := by
  cases hs
  intro p e R s m args below meth c H locs cells slots ls C X
  exact lv_goto C.1 C.2.1 hd.1 (of_decide_eq_true hd.2.2) (k p e R s m args below meth c H locs cells slots ls C X)
theorem pw_ifnull {off : Int} (hd : fw_rok y (pc, .ifnull off, nx, a, v)) (hs : fw_ifn L nx a st = some (pc', L', st')) (k : PW G y Q d kc ks h pc' L' st') : PW G y Q d kc ks h pc L st := by
  unfold fw_ifn at hs
  have en : nx = pc + 3 := hd.2.1
  split at hs
  · cases hs
    intro p e R s m args below meth c H locs cells slots ls C X
    exact lv_ifnull C.1 C.2.1 hd.1 (en ▸ k p e R s m args below meth c H locs cells slots ls C X)
  · cases hs
    intro p e R s m args below meth c H locs cells slots ls C X
    exact lv_ifnullN C.1 C.2.1 hd.1 (of_decide_eq_true hd.2.2) (k p e R s m args below meth c H locs cells slots ls C X)
  · cases hs
theorem pw_ifnonnull {off : Int} (hd : fw_rok y (pc, .ifnonnull off, nx, a, v)) (hs : fw_ifnn L nx a st = some (pc', L', st')) (k : PW G y Q d kc ks h pc' L' st') : PW G y Q d kc ks h pc L st := by
  unfold fw_ifnn at hs
  have en : nx = pc + 3 := hd.2.1
  split at hs
  · cases hs
    intro p e R s m args below meth c H locs cells slots ls C X
    exact lv_ifnonnull C.1 C.2.1 hd.1 (of_decide_eq_true hd.2.2) (k p e R s m args below meth c H locs cells slots ls C X)
  · cases hs
    intro p e R s m args below meth c H locs cells slots ls C X
    exact lv_ifnonnullN C.1 C.2.1 hd.1 (en ▸ k p e R s m args below meth c H locs cells slots ls C X)
  · cases hs
/-- a step that needs no fact -/
theorem pw_go {tb : List fw_R} {i : Instr} (hT : fw_tok y tb) (hr : fw_at tb pc = some (i, nx, a, v)) (hs : fw_st i nx a v L st = some (pc', L', st')) (k : PW G y Q d kc ks h pc' L' st') : PW G y Q d kc ks h pc L st := by
  have hd := fw_row hT hr
  cases i with
  | iload j => exact pw_iload hd hs k
  | iload_n j => exact pw_iload_n hd hs k
  | lload j => exact pw_lload hd hs k
  | lload_n j => exact pw_lload_n hd hs k
  | fload j => exact pw_fload hd hs k
  | fload_n j => exact pw_fload_n hd hs k
  | dload j => exact pw_dload hd hs k
  | dload_n j => exact pw_dload_n hd hs k
  | aload j => exact pw_aload hd hs k
  | aload_n j => exact pw_aload_n hd hs k
  | istore j => exact pw_istore hd hs k
  | istore_n j => exact pw_istore_n hd hs k
  | astore j => exact pw_astore hd hs k
  | astore_n j => exact pw_astore_n hd hs k
  | fstore j => exact pw_fstore hd hs k
  | lstore j => exact pw_lstore hd hs k
  | lstore_n j => exact pw_lstore_n hd hs k
  | dstore j => exact pw_dstore hd hs k
  | iinc j n => exact pw_iinc hd hs k
  | iconst j => exact pw_iconst hd hs k
  | bipush j => exact pw_bipush hd hs k
  | sipush j => exact pw_sipush hd hs k
  | lconst n => exact pw_lconst hd hs k
  | iadd => exact pw_iadd hd hs k
  | isub => exact pw_isub hd hs k
  | imul => exact pw_imul hd hs k
  | iand => exact pw_iand hd hs k
  | ior => exact pw_ior hd hs k
  | ishl => exact pw_ishl hd hs k
  | ishr => exact pw_ishr hd hs k
  | iushr => exact pw_iushr hd hs k
  | ineg => exact pw_ineg hd hs k
  | ladd => exact pw_ladd hd hs k
  | lsub => exact pw_lsub hd hs k
  | land => exact pw_land hd hs k
  | lor => exact pw_lor hd hs k
  | lxor => exact pw_lxor hd hs k
  | lshl => exact pw_lshl hd hs k
  | lushr => exact pw_lushr hd hs k
  | i2l => exact pw_i2l hd hs k
  | l2i => exact pw_l2i hd hs k
  | i2c => exact pw_i2c hd hs k
  | i2b => exact pw_i2b hd hs k
  | i2f => exact pw_i2f hd hs k
  | i2d => exact pw_i2d hd hs k
  | l2d => exact pw_l2d hd hs k
  | lcmp => exact pw_lcmp hd hs k
  | dup => exact pw_dup hd hs k
  | pop => exact pw_pop hd hs k
  | dup_x1 => exact pw_dup_x1 hd hs k
  | dup2 => exact pw_dup2 hd hs k
  | aconst_null => exact pw_aconst_null hd hs k
  | goto j => exact pw_goto hd hs k
  | ifnull j => exact pw_ifnull hd hs k
  | ifnonnull j => exact pw_ifnonnull hd hs k
  | _ => cases hs
def fw_br (i : Instr) (st : List Value) : Option (Prop × List Value) := match i with
  | .if_icmp .eq _ => (match st with | .int y :: .int x :: r => some (x = y, r) | _ => none)
  | .if_icmp .ne _ => (match st with | .int y :: .int x :: r => some (¬ x = y, r) | _ => none)
  | .if_icmp .lt _ => (match st with | .int y :: .int x :: r => some (x < y, r) | _ => none)
  | .if_icmp .ge _ => (match st with | .int y :: .int x :: r => some (y ≤ x, r) | _ => none)
  | .if_icmp .gt _ => (match st with | .int y :: .int x :: r => some (y < x, r) | _ => none)
  | .if_icmp .le _ => (match st with | .int y :: .int x :: r => some (x ≤ y, r) | _ => none)
  | .ifCond .eq _ => (match st with | .int x :: r => some (x = 0, r) | _ => none)
  | .ifCond .ne _ => (match st with | .int x :: r => some (¬ x = 0, r) | _ => none)
  | .ifCond .lt _ => (match st with | .int x :: r => some (x < 0, r) | _ => none)
  | .ifCond .ge _ => (match st with | .int x :: r => some (0 ≤ x, r) | _ => none)
  | .ifCond .gt _ => (match st with | .int x :: r => some (0 < x, r) | _ => none)
  | .ifCond .le _ => (match st with | .int x :: r => some (x ≤ 0, r) | _ => none)
  | _ => none
/-- a branch -/
theorem pw_br {tb : List fw_R} {i : Instr} {c9 : Prop} (hT : fw_tok y tb) (hr : fw_at tb pc = some (i, nx, a, v)) (hs : fw_br i st = some (c9, st')) (kt : c9 → PW G y Q d kc ks h a L st') (kf : ¬ c9 → PW G y Q d kc ks h nx L st') : PW G y Q d kc ks h pc L st := by
  have hd := fw_row hT hr
  cases i with
  | if_icmp cc off =>
    have en : nx = pc + 3 := hd.2.1
    cases cc <;> (simp only [fw_br] at hs; split at hs)
    · cases hs
      intro p e R s m args below meth c H locs cells slots ls C X
      exact lv_icmp_eq C.1 C.2.1 hd.1 (of_decide_eq_true hd.2.2) (fun z => kt z p e R s m args below meth c H locs cells slots ls C X) (fun z => en ▸ kf z p e R s m args below meth c H locs cells slots ls C X)
    · cases hs
    · cases hs
      intro p e R s m args below meth c H locs cells slots ls C X
      exact lv_icmp_ne C.1 C.2.1 hd.1 (of_decide_eq_true hd.2.2) (fun z => kt z p e R s m args below meth c H locs cells slots ls C X) (fun z => en ▸ kf (fun q => q z) p e R s m args below meth c H locs cells slots ls C X)
    · cases hs
    · cases hs
      intro p e R s m args below meth c H locs cells slots ls C X
      exact lv_icmp_lt C.1 C.2.1 hd.1 (of_decide_eq_true hd.2.2) (fun z => kt z p e R s m args below meth c H locs cells slots ls C X) (fun z => en ▸ kf z p e R s m args below meth c H locs cells slots ls C X)
    · cases hs
    · cases hs
      intro p e R s m args below meth c H locs cells slots ls C X
      exact lv_icmp_ge C.1 C.2.1 hd.1 (of_decide_eq_true hd.2.2) (fun z => kt z p e R s m args below meth c H locs cells slots ls C X) (fun z => en ▸ kf z p e R s m args below meth c H locs cells slots ls C X)
    · cases hs
    · cases hs
      intro p e R s m args below meth c H locs cells slots ls C X
      exact lv_icmp_gt C.1 C.2.1 hd.1 (of_decide_eq_true hd.2.2) (fun z => kt z p e R s m args below meth c H locs cells slots ls C X) (fun z => en ▸ kf z p e R s m args below meth c H locs cells slots ls C X)
    · cases hs
    · cases hs
      intro p e R s m args below meth c H locs cells slots ls C X
      exact lv_icmp_le C.1 C.2.1 hd.1 (of_decide_eq_true hd.2.2) (fun z => kt z p e R s m args below meth c H locs cells slots ls C X) (fun z => en ▸ kf z p e R s m args below meth c H locs cells slots ls C X)
    · cases hs
  | ifCond cc off =>
    have en : nx = pc + 3 := hd.2.1
    cases cc <;> (simp only [fw_br] at hs; split at hs)
    · cases hs
      intro p e R s m args below meth c H locs cells slots ls C X
      exact lv_if_eq C.1 C.2.1 hd.1 (of_decide_eq_true hd.2.2) (fun z => kt z p e R s m args below meth c H locs cells slots ls C X) (fun z => en ▸ kf z p e R s m args below meth c H locs cells slots ls C X)
    · cases hs
    · cases hs
      intro p e R s m args below meth c H locs cells slots ls C X
      exact lv_if_ne C.1 C.2.1 hd.1 (of_decide_eq_true hd.2.2) (fun z => kt z p e R s m args below meth c H locs cells slots ls C X) (fun z => en ▸ kf (fun q => q z) p e R s m args below meth c H locs cells slots ls C X)
    · cases hs
    · cases hs
      intro p e R s m args below meth c H locs cells slots ls C X
      exact lv_if_lt C.1 C.2.1 hd.1 (of_decide_eq_true hd.2.2) (fun z => kt z p e R s m args below meth c H locs cells slots ls C X) (fun z => en ▸ kf z p e R s m args below meth c H locs cells slots ls C X)
    · cases hs
    · cases hs
      intro p e R s m args below meth c H locs cells slots ls C X
      exact lv_if_ge C.1 C.2.1 hd.1 (of_decide_eq_true hd.2.2) (fun z => kt z p e R s m args below meth c H locs cells slots ls C X) (fun z => en ▸ kf z p e R s m args below meth c H locs cells slots ls C X)
    · cases hs
    · cases hs
      intro p e R s m args below meth c H locs cells slots ls C X
      exact lv_if_gt C.1 C.2.1 hd.1 (of_decide_eq_true hd.2.2) (fun z => kt z p e R s m args below meth c H locs cells slots ls C X) (fun z => en ▸ kf z p e R s m args below meth c H locs cells slots ls C X)
    · cases hs
    · cases hs
      intro p e R s m args below meth c H locs cells slots ls C X
      exact lv_if_le C.1 C.2.1 hd.1 (of_decide_eq_true hd.2.2) (fun z => kt z p e R s m args below meth c H locs cells slots ls C X) (fun z => en ▸ kf z p e R s m args below meth c H locs cells slots ls C X)
    · cases hs
  | _ => cases hs
theorem pw_ifnullq {tb : List fw_R} {off : Int} {r : Option Nat} {rest : List Value} (hT : fw_tok y tb) (hr : fw_at tb pc = some (.ifnull off, nx, a, v)) (kt : r = none → PW G y Q d kc ks h a L rest) (kf : ∀ b, r = some b → PW G y Q d kc ks h nx L rest) : PW G y Q d kc ks h pc L (va_rf r :: rest) := by
  cases r with
  | none => exact pw_ifnull (fw_row hT hr) rfl (kt rfl)
  | some b => exact pw_ifnull (fw_row hT hr) rfl (kf b rfl)
theorem pw_ifnonnullq {tb : List fw_R} {off : Int} {r : Option Nat} {rest : List Value} (hT : fw_tok y tb) (hr : fw_at tb pc = some (.ifnonnull off, nx, a, v)) (kt : ∀ b, r = some b → PW G y Q d kc ks h a L rest) (kf : r = none → PW G y Q d kc ks h nx L rest) : PW G y Q d kc ks h pc L (va_rf r :: rest) := by
  cases r with
  | none => exact pw_ifnonnull (fw_row hT hr) rfl (kf rfl)
  | some b => exact pw_ifnonnull (fw_row hT hr) rfl (kt b rfl)
theorem pw_acmpeq {tb : List fw_R} {off : Int} {rx ry : Option Nat} {rest : List Value} (hT : fw_tok y tb) (hr : fw_at tb pc = some (.if_acmp .eq off, nx, a, v)) (kt : rx = ry → PW G y Q d kc ks h a L rest) (kf : ¬ rx = ry → PW G y Q d kc ks h nx L rest) : PW G y Q d kc ks h pc L (va_rf ry :: va_rf rx :: rest) := by
  have hd := fw_row hT hr
  have en : nx = pc + 3 := hd.2.1
  intro p e R s m args below meth c H locs cells slots ls C X
  exact lv_acmp_eq C.1 C.2.1 hd.1 (of_decide_eq_true hd.2.2) (fun z => kt z p e R s m args below meth c H locs cells slots ls C X) (fun z => en ▸ kf z p e R s m args below meth c H locs cells slots ls C X)
theorem pw_acmpne {tb : List fw_R} {off : Int} {rx ry : Option Nat} {rest : List Value} (hT : fw_tok y tb) (hr : fw_at tb pc = some (.if_acmp .ne off, nx, a, v)) (kt : ¬ rx = ry → PW G y Q d kc ks h a L rest) (kf : rx = ry → PW G y Q d kc ks h nx L rest) : PW G y Q d kc ks h pc L (va_rf ry :: va_rf rx :: rest) := by
  have hd := fw_row hT hr
  have en : nx = pc + 3 := hd.2.1
  intro p e R s m args below meth c H locs cells slots ls C X
  exact lv_acmp_ne C.1 C.2.1 hd.1 (of_decide_eq_true hd.2.2) (fun z => kt z p e R s m args below meth c H locs cells slots ls C X) (fun z => en ▸ kf z p e R s m args below meth c H locs cells slots ls C X)
theorem pw_div {tb : List fw_R} {x1 x2 : Int32} {rest : List Value} (hT : fw_tok y tb) (hr : fw_at tb pc = some (.idiv, nx, a, v)) (hz : ¬ x2 = 0) (k : PW G y Q d kc ks h nx L (.int (x1 / x2) :: rest)) : PW G y Q d kc ks h pc L (.int x2 :: .int x1 :: rest) := by
  have hd := fw_row hT hr
  have en : nx = pc + 1 := hd.2.1
  intro p e R s m args below meth c H locs cells slots ls C X
  exact lv_idiv C.1 C.2.1 hd.1 hz (en ▸ k p e R s m args below meth c H locs cells slots ls C X)
theorem pw_rem {tb : List fw_R} {x1 x2 : Int32} {rest : List Value} (hT : fw_tok y tb) (hr : fw_at tb pc = some (.irem, nx, a, v)) (hz : ¬ x2 = 0) (k : PW G y Q d kc ks h nx L (.int (x1 - x1 / x2 * x2) :: rest)) : PW G y Q d kc ks h pc L (.int x2 :: .int x1 :: rest) := by
  have hd := fw_row hT hr
  have en : nx = pc + 1 := hd.2.1
  intro p e R s m args below meth c H locs cells slots ls C X
  exact lv_irem C.1 C.2.1 hd.1 hz (en ▸ k p e R s m args below meth c H locs cells slots ls C X)
/-- other locals: fewer, in another order -/
theorem pw_L (hs : ∀ q ∈ L', fw_lk L q.1 = some q.2) (k : PW G y Q d kc ks h pc L' st) : PW G y Q d kc ks h pc L st := by
  intro p e R s m args below meth c H locs cells slots ls C X
  exact k p e R s m args below meth c H locs cells slots ls C ⟨X.1, X.2.1, X.2.2.1, X.2.2.2.sub hs⟩
theorem pw_e {st2 : List Value} (hs : st = st2) (k : PW G y Q d kc ks h pc L st2) : PW G y Q d kc ks h pc L st := hs ▸ k
theorem pw_mono {d' kc' ks' : Nat} {Q' : fw_Q} (h1 : d' ≤ d) (h2 : kc' ≤ kc) (h3 : ks' ≤ ks) (k : PW G y Q d' kc' ks' h pc L st) : PW G y Q d kc ks h pc L st := by
  intro p e R s m args below meth c H locs cells slots ls C X
  obtain ⟨x1, x2, ⟨x3, x4, x5, x6⟩, x7⟩ := X
  exact k p e R s m args below meth c H locs cells slots ls C ⟨x1, x2, ⟨by omega, by omega, by omega, by omega⟩, x7⟩
theorem fw_end {p : Program} {l : Launch} {e : Env} {R : Room} {s : State} {m : MethodId} {args : Array Value} {below : List Frame} {meth : Method} {c : Code} {H : Heap} {locs : List Loc} {cells slots : Nat} {g : JFrame} {Qc : Array Value → State → Outcome → State → Prop} {XC : String → State → State → Prop} {free : Addr → Prop} (h1 : cells ≤ R.cells) (h2 : slots ≤ R.slots) (k : W p l e R s m args below meth c H locs R.cells R.slots (MQ below Qc args s R.cells R.slots free) g) : W p l e R s m args below meth c H locs cells slots (vx_MQ below Qc XC args s R.cells R.slots free) g := W.widen (k := R.cells) (n := R.slots) h1 h2 (vx_ret k)
theorem pw_iret {tb : List fw_R} {r : Int32} {ty : FieldType} (hT : fw_tok y tb) (hr : fw_at tb pc = some (.ireturn, nx, a, v)) (hy : y.2.2.2.1 = some ty) (hn : narrow ty (.int r) = .int r) (hq : Q.1 (some (.int r)) h) : PW G y Q d kc ks h pc L [.int r] := by
  have hd := fw_row hT hr
  intro p e R s m args below meth c H locs cells slots ls C X
  obtain ⟨x1, x2, ⟨x3, x4, x5, x6⟩, x7⟩ := X
  refine fw_end (by omega) (by omega) (W.zret C.1 C.2.1 (C.2.2.1.trans hy) hn (fun t ht hW => ⟨_, h, rfl, hq, by rw [ht]; exact x1⟩) (fun q hq => x2.2.2 q hq) hd.1 C.2.2.2.1)
theorem pw_lret {tb : List fw_R} {r : Int64} (hT : fw_tok y tb) (hr : fw_at tb pc = some (.lreturn, nx, a, v)) (hy : y.2.2.2.1 = some .long) (hq : Q.1 (some (.long r)) h) : PW G y Q d kc ks h pc L [.long r] := by
  have hd := fw_row hT hr
  intro p e R s m args below meth c H locs cells slots ls C X
  obtain ⟨x1, x2, ⟨x3, x4, x5, x6⟩, x7⟩ := X
  refine fw_end (by omega) (by omega) (W.lret C.1 C.2.1 (C.2.2.1.trans hy) (fun t ht hW => ⟨_, h, rfl, hq, by rw [ht]; exact x1⟩) (fun q hq => x2.2.2 q hq) hd.1 C.2.2.2.1)
theorem pw_fret {tb : List fw_R} {r : UInt32} (hT : fw_tok y tb) (hr : fw_at tb pc = some (.freturn, nx, a, v)) (hy : y.2.2.2.1 = some .float) (hq : Q.1 (some (.float r)) h) : PW G y Q d kc ks h pc L [.float r] := by
  have hd := fw_row hT hr
  intro p e R s m args below meth c H locs cells slots ls C X
  obtain ⟨x1, x2, ⟨x3, x4, x5, x6⟩, x7⟩ := X
  refine fw_end (by omega) (by omega) (W.fret C.1 C.2.1 (C.2.2.1.trans hy) (fun t ht hW => ⟨_, h, rfl, hq, by rw [ht]; exact x1⟩) (fun q hq => x2.2.2 q hq) hd.1 C.2.2.2.1)
theorem pw_dret {tb : List fw_R} {r : UInt64} (hT : fw_tok y tb) (hr : fw_at tb pc = some (.dreturn, nx, a, v)) (hy : y.2.2.2.1 = some .double) (hq : Q.1 (some (.double r)) h) : PW G y Q d kc ks h pc L [.double r] := by
  have hd := fw_row hT hr
  intro p e R s m args below meth c H locs cells slots ls C X
  obtain ⟨x1, x2, ⟨x3, x4, x5, x6⟩, x7⟩ := X
  refine fw_end (by omega) (by omega) (W.dret C.1 C.2.1 (C.2.2.1.trans hy) (fun t ht hW => ⟨_, h, rfl, hq, by rw [ht]; exact x1⟩) (fun q hq => x2.2.2 q hq) hd.1 C.2.2.2.1)
theorem pw_aret {tb : List fw_R} {r : Option Nat} {rt : FieldType} (hT : fw_tok y tb) (hr : fw_at tb pc = some (.areturn, nx, a, v)) (hy : y.2.2.2.1 = some rt) (hrt : (∃ n, rt = .object n) ∨ ∃ t, rt = .array t) (hq : Q.1 (some (va_rf r)) h) : PW G y Q d kc ks h pc L [va_rf r] := by
  have hd := fw_row hT hr
  intro p e R s m args below meth c H locs cells slots ls C X
  obtain ⟨x1, x2, ⟨x3, x4, x5, x6⟩, x7⟩ := X
  refine fw_end (by omega) (by omega) (W.aret C.1 C.2.1 (C.2.2.1.trans hy) hrt (by cases r with | none => exact Or.inl rfl | some b => exact Or.inr ⟨b, rfl⟩) (fun t ht hW => ⟨_, h, rfl, hq, by rw [ht]; exact x1⟩) (fun q hq => x2.2.2 q hq) hd.1 C.2.2.2.1)
theorem pw_vret {tb : List fw_R} (hT : fw_tok y tb) (hr : fw_at tb pc = some (.return_, nx, a, v)) (hy : y.2.2.2.1 = none) (hq : Q.1 none h) : PW G y Q d kc ks h pc L [] := by
  have hd := fw_row hT hr
  intro p e R s m args below meth c H locs cells slots ls C X
  obtain ⟨x1, x2, ⟨x3, x4, x5, x6⟩, x7⟩ := X
  exact fw_end (by omega) (by omega) (W.vret C.1 C.2.1 (C.2.2.1.trans hy) (fun t ht hW => ⟨_, h, rfl, hq, by rw [ht]; exact x1⟩) (fun q hq => x2.2.2 q hq) hd.1 C.2.2.2.1)
end PWR
end
section
/-! HEAP: what touches the heap, calls, contracts -/
section PWH
variable {G : fw_G} {y : fw_M} {Q : fw_Q} {d kc ks : Nat} {h : fw_H} {pc nx a : Nat} {v : Int32} {L : List (Nat × Value)} {st : List Value} {tb : List fw_R}
theorem pw_get {b idx ci k : Nat} {fs : List Value} {w : Value} (hT : fw_tok y tb) (hr : fw_at tb pc = some (.getfield idx, nx, a, v)) (hf : fw_fld y.1.cls idx ci k) (ho : h b = some (.inr (ci, fs))) (hv : fs[k]? = some w) (kk : PW G y Q d kc ks h nx L (w :: st)) : PW G y Q d kc ks h pc L (.ref b :: st) := by
  have hd := fw_row hT hr
  have en : nx = pc + 3 := hd.2.1
  obtain ⟨Cn, T, N, ty, ⟨c1, c2, c3, c4⟩, hk, hl⟩ := hf
  intro p e R s m args below meth c H locs cells slots ls C X
  have C0 := C
  obtain ⟨hx, hb, hre, hlk, hml, hown, hnm, hts, htab, hK, hN⟩ := C
  obtain ⟨ws, q0, hP, hD, h3, hq⟩ := X.1.get ho
  have kk' := kk p e R s m args below meth c H locs cells slots ls C0 X
  rw [en] at kk'
  rcases hl with hl | ⟨host, hl⟩ | ⟨ref, hl, hs⟩
  · exact va_get hx hb hts c2 hown hK.1 hP q0 hq c1 k hk (hts _ hl) (fun _ z => z) hv hd.1 kk'
  · exact va_getN hx hb hts c2 hown hK.1 hP q0 hq c1 k hk (va_Nw.use (fw_ww_on (List.mem_filter.mp hl).2) (hK.2.2.2.2.2.2.2.2.1 _ hl)) (fun _ z => z) hv hd.1 kk'
  · exact va_get hx hb hts c2 hown hK.1 hP q0 hq c1 k hk (hts _ hl) (u_same (hts _ hs)) hv hd.1 kk'
theorem pw_put {b idx ci k : Nat} {fs : List Value} {w : Value} {tt : FieldType} (hT : fw_tok y tb) (hr : fw_at tb pc = some (.putfield idx, nx, a, v)) (hf : fw_fldW y.1.cls idx ci k tt) (ho : h b = some (.inr (ci, fs))) (hn : narrow tt w = w) (hfit : fits tt w = true) (hlen : k < fs.length) (kk : PW G y Q d kc ks (fw_up h b (.inr (ci, fs.set k w))) nx L st) : PW G y Q d kc ks h pc L (w :: .ref b :: st) := by
  have hd := fw_row hT hr
  have en : nx = pc + 3 := hd.2.1
  obtain ⟨Cn, T, N, ty, ⟨c1, c2, c3, c4⟩, hk, hl, hfin, hdt⟩ := hf
  intro p e R s m args below meth c H locs cells slots ls C X
  have C0 := C
  obtain ⟨hx, hb, hre, hlk, hml, hown, hnm, hts, htab, hK, hN⟩ := C
  obtain ⟨ws, q0, hP, hD, h3, hq⟩ := X.1.get ho
  have kk' : ∀ (H1 : Heap) (locs1 : List Loc), va_P G.2.2.1 vwCl (ws.set q0 (b, .inr (ci, fs.set k w))) H1 → va_D (fun q => G.2.1 ≤ q) (ws.set q0 (b, .inr (ci, fs.set k w))) → va_S (fw_A G.2.1) s.heap H1 locs1 → W p G.1 e R s m args below meth c H1 locs1 cells slots (vx_MQ below (fw_Qc G Q) (fw_XC G Q) args s R.cells R.slots (fw_A G.2.1)) (F0 m (pc + 3) ls st) := fun H1 locs1 g1 g2 g3 => en ▸ kk p e R s m args below meth c H1 locs1 cells slots ls C0 ⟨fw_P.set (o' := .inr (ci, fs.set k w)) h3 hq g1 g2, g3, X.2.2⟩
  rcases hl with hl | ⟨host, hl⟩ | ⟨ref, hl, hs⟩
  · exact va_put hx hb hts c2 ty c3 c4 hown hK.1 hP hD X.2.1 q0 hq c1 k hk (hts _ hl) (fun _ z => z) hfin hdt hn hfit hlen hd.1 kk'
  · exact va_putN hx hb hts c2 ty c3 c4 hown hK.1 hP hD X.2.1 q0 hq c1 k hk (va_Nw.use (fw_ww_on (List.mem_filter.mp hl).2) (hK.2.2.2.2.2.2.2.2.1 _ hl)) (fun _ z => z) hfin hdt hn hfit hlen hd.1 kk'
  · exact va_put hx hb hts c2 ty c3 c4 hown hK.1 hP hD X.2.1 q0 hq c1 k hk (hts _ hl) (u_same (hts _ hs)) hfin hdt hn hfit hlen hd.1 kk'
theorem pw_putF {b idx ci k : Nat} {fs : List Value} {w : Value} {tt : FieldType} (hT : fw_tok y tb) (hr : fw_at tb pc = some (.putfield idx, nx, a, v)) (hf : fw_fldF y.1.cls idx ci k tt) (hi : y.1.name = "<init>") (ho : h b = some (.inr (ci, fs))) (hn : narrow tt w = w) (hfit : fits tt w = true) (hlen : k < fs.length) (kk : PW G y Q d kc ks (fw_up h b (.inr (ci, fs.set k w))) nx L st) : PW G y Q d kc ks h pc L (w :: .ref b :: st) := by
  have hd := fw_row hT hr
  have en : nx = pc + 3 := hd.2.1
  obtain ⟨Cn, T, N, ty, ⟨c1, c2, c3, c4⟩, hk, hl, hfin, hdecl, hdt⟩ := hf
  intro p e R s m args below meth c H locs cells slots ls C X
  have C0 := C
  obtain ⟨hx, hb, hre, hlk, hml, hown, hnm, hts, htab, hK, hN⟩ := C
  obtain ⟨ws, q0, hP, hD, h3, hq⟩ := X.1.get ho
  exact va_putF hx hb hts c2 ty c3 c4 hown hK.1 hP hD X.2.1 q0 hq c1 k hk (hts _ hl) (fun _ z => z) hfin (hnm.trans hi) hdecl hdt hn hfit hlen hd.1 (fun H1 locs1 g1 g2 g3 => en ▸ kk p e R s m args below meth c H1 locs1 cells slots ls C0 ⟨fw_P.set (o' := .inr (ci, fs.set k w)) h3 hq g1 g2, g3, X.2.2⟩)
theorem pw_iald {b n : Nat} {f : Nat → Int32} {i : Int32} (hT : fw_tok y tb) (hr : fw_at tb pc = some (.iaload, nx, a, v)) (ho : h b = some (.inl (0, n, .inl f))) (hin : vp_in i n) (kk : PW G y Q d kc ks h nx L (.int (f i.toNatClampNeg) :: st)) : PW G y Q d kc ks h pc L (.int i :: .ref b :: st) := by
  have hd := fw_row hT hr
  have en : nx = pc + 1 := hd.2.1
  intro p e R s m args below meth c H locs cells slots ls C X
  obtain ⟨ws, q0, hP, hD, h3, hq⟩ := X.1.get ho
  exact va_iald C.1 C.2.1 C.2.2.2.2.2.2.2.2.2.1.1 hP q0 0 hq (fw_tys_at _ (by decide)) hin hd.1 (en ▸ kk p e R s m args below meth c H locs cells slots ls C X)
theorem pw_zald {b n : Nat} {f : Nat → Int32} {i : Int32} (hT : fw_tok y tb) (hr : fw_at tb pc = some (.baload, nx, a, v)) (ho : h b = some (.inl (2, n, .inl f))) (hin : vp_in i n) (kk : PW G y Q d kc ks h nx L (.int (f i.toNatClampNeg) :: st)) : PW G y Q d kc ks h pc L (.int i :: .ref b :: st) := by
  have hd := fw_row hT hr
  have en : nx = pc + 1 := hd.2.1
  intro p e R s m args below meth c H locs cells slots ls C X
  obtain ⟨ws, q0, hP, hD, h3, hq⟩ := X.1.get ho
  exact va_zald C.1 C.2.1 C.2.2.2.2.2.2.2.2.2.1.1 hP q0 2 hq (fw_tys_at _ (by decide)) hin hd.1 (en ▸ kk p e R s m args below meth c H locs cells slots ls C X)
theorem pw_lald {b n : Nat} {f : Nat → Int64} {i : Int32} (hT : fw_tok y tb) (hr : fw_at tb pc = some (.laload, nx, a, v)) (ho : h b = some (.inl (1, n, .inr (.inl f)))) (hin : vp_in i n) (kk : PW G y Q d kc ks h nx L (.long (f i.toNatClampNeg) :: st)) : PW G y Q d kc ks h pc L (.int i :: .ref b :: st) := by
  have hd := fw_row hT hr
  have en : nx = pc + 1 := hd.2.1
  intro p e R s m args below meth c H locs cells slots ls C X
  obtain ⟨ws, q0, hP, hD, h3, hq⟩ := X.1.get ho
  exact va_lald C.1 C.2.1 C.2.2.2.2.2.2.2.2.2.1.1 hP q0 1 hq (fw_tys_at _ (by decide)) hin hd.1 (en ▸ kk p e R s m args below meth c H locs cells slots ls C X)
theorem pw_dald {b n : Nat} {f : Nat → UInt64} {i : Int32} (hT : fw_tok y tb) (hr : fw_at tb pc = some (.daload, nx, a, v)) (ho : h b = some (.inl (3, n, .inr (.inr (.inr (.inl f)))))) (hin : vp_in i n) (kk : PW G y Q d kc ks h nx L (.double (f i.toNatClampNeg) :: st)) : PW G y Q d kc ks h pc L (.int i :: .ref b :: st) := by
  have hd := fw_row hT hr
  have en : nx = pc + 1 := hd.2.1
  intro p e R s m args below meth c H locs cells slots ls C X
  obtain ⟨ws, q0, hP, hD, h3, hq⟩ := X.1.get ho
  exact va_dald C.1 C.2.1 C.2.2.2.2.2.2.2.2.2.1.1 hP q0 3 hq (fw_tys_at _ (by decide)) hin hd.1 (en ▸ kk p e R s m args below meth c H locs cells slots ls C X)
theorem pw_aald {b n t : Nat} {f : Nat → Option Nat} {Cn : String} {i : Int32} (hT : fw_tok y tb) (hr : fw_at tb pc = some (.aaload, nx, a, v)) (ho : h b = some (.inl (t, n, .inr (.inr (.inr (.inr f)))))) (ht : t < 11) (hc : fw_ty t = .object Cn) (hin : vp_in i n) (kk : PW G y Q d kc ks h nx L (va_rf (f i.toNatClampNeg) :: st)) : PW G y Q d kc ks h pc L (.int i :: .ref b :: st) := by
  have hd := fw_row hT hr
  have en : nx = pc + 1 := hd.2.1
  intro p e R s m args below meth c H locs cells slots ls C X
  obtain ⟨ws, q0, hP, hD, h3, hq⟩ := X.1.get ho
  exact va_aldq C.1 C.2.1 C.2.2.2.2.2.2.2.2.2.1.1 hP q0 t hq (hc ▸ fw_tys_at _ ht) hin hd.1 (en ▸ kk p e R s m args below meth c H locs cells slots ls C X)
theorem pw_alen {b t : Nat} {x : vp_A} (hT : fw_tok y tb) (hr : fw_at tb pc = some (.arraylength, nx, a, v)) (ho : h b = some (.inl (t, x))) (ht : t < 11) (kk : PW G y Q d kc ks h nx L (.int (nI x.1) :: st)) : PW G y Q d kc ks h pc L (.ref b :: st) := by
  have hd := fw_row hT hr
  have en : nx = pc + 1 := hd.2.1
  intro p e R s m args below meth c H locs cells slots ls C X
  obtain ⟨ws, q0, hP, hD, h3, hq⟩ := X.1.get ho
  exact va_alen C.1 C.2.1 C.2.2.2.2.2.2.2.2.2.1.1 hP q0 t hq (fw_tys_at _ ht) rfl hd.1 (en ▸ kk p e R s m args below meth c H locs cells slots ls C X)
theorem pw_iast {b n : Nat} {f : Nat → Int32} {i x : Int32} (hT : fw_tok y tb) (hr : fw_at tb pc = some (.iastore, nx, a, v)) (ho : h b = some (.inl (0, n, .inl f))) (hin : vp_in i n) (kk : PW G y Q d kc ks (fw_up h b (.inl (0, n, .inl (upd f i.toNatClampNeg x)))) nx L st) : PW G y Q d kc ks h pc L (.int x :: .int i :: .ref b :: st) := by
  have hd := fw_row hT hr
  have en : nx = pc + 1 := hd.2.1
  intro p e R s m args below meth c H locs cells slots ls C X
  obtain ⟨ws, q0, hP, hD, h3, hq⟩ := X.1.get ho
  exact va_iast C.1 C.2.1 C.2.2.2.2.2.2.2.2.2.1.1 hP hD X.2.1 q0 0 hq (fw_tys_at _ (by decide)) hin hd.1 (fun H1 locs1 g1 g2 g3 => en ▸ kk p e R s m args below meth c H1 locs1 cells slots ls C ⟨fw_P.set (o' := .inl (0, n, .inl (upd f i.toNatClampNeg x))) h3 hq g1 g2, g3, X.2.2⟩)
theorem pw_zast {b n : Nat} {f : Nat → Int32} {i x : Int32} (hT : fw_tok y tb) (hr : fw_at tb pc = some (.bastore, nx, a, v)) (ho : h b = some (.inl (2, n, .inl f))) (hin : vp_in i n) (kk : PW G y Q d kc ks (fw_up h b (.inl (2, n, .inl (upd f i.toNatClampNeg (vp_nar .boolean x))))) nx L st) : PW G y Q d kc ks h pc L (.int x :: .int i :: .ref b :: st) := by
  have hd := fw_row hT hr
  have en : nx = pc + 1 := hd.2.1
  intro p e R s m args below meth c H locs cells slots ls C X
  obtain ⟨ws, q0, hP, hD, h3, hq⟩ := X.1.get ho
  exact va_zast C.1 C.2.1 C.2.2.2.2.2.2.2.2.2.1.1 hP hD X.2.1 q0 2 hq (fw_tys_at _ (by decide)) hin hd.1 (fun H1 locs1 g1 g2 g3 => en ▸ kk p e R s m args below meth c H1 locs1 cells slots ls C ⟨fw_P.set (o' := .inl (2, n, .inl (upd f i.toNatClampNeg (vp_nar .boolean x)))) h3 hq g1 g2, g3, X.2.2⟩)
theorem pw_last {b n : Nat} {f : Nat → Int64} {i : Int32} {x : Int64} (hT : fw_tok y tb) (hr : fw_at tb pc = some (.lastore, nx, a, v)) (ho : h b = some (.inl (1, n, .inr (.inl f)))) (hin : vp_in i n) (kk : PW G y Q d kc ks (fw_up h b (.inl (1, n, .inr (.inl (vp_updL f i.toNatClampNeg x))))) nx L st) : PW G y Q d kc ks h pc L (.long x :: .int i :: .ref b :: st) := by
  have hd := fw_row hT hr
  have en : nx = pc + 1 := hd.2.1
  intro p e R s m args below meth c H locs cells slots ls C X
  obtain ⟨ws, q0, hP, hD, h3, hq⟩ := X.1.get ho
  exact va_last C.1 C.2.1 C.2.2.2.2.2.2.2.2.2.1.1 hP hD X.2.1 q0 1 hq (fw_tys_at _ (by decide)) hin hd.1 (fun H1 locs1 g1 g2 g3 => en ▸ kk p e R s m args below meth c H1 locs1 cells slots ls C ⟨fw_P.set (o' := .inl (1, n, .inr (.inl (vp_updL f i.toNatClampNeg x)))) h3 hq g1 g2, g3, X.2.2⟩)
end PWH
end
section
/-! CALLS: new cells, calls, throws, contracts -/
section PWN
variable {G : fw_G} {y : fw_M} {Q : fw_Q} {d kc ks : Nat} {h : fw_H} {pc nx a : Nat} {v : Int32} {L : List (Nat × Value)} {st : List Value} {tb : List fw_R}
theorem pw_dast {b n : Nat} {f : Nat → UInt64} {i : Int32} {x : UInt64} (hT : fw_tok y tb) (hr : fw_at tb pc = some (.dastore, nx, a, v)) (ho : h b = some (.inl (3, n, .inr (.inr (.inr (.inl f)))))) (hin : vp_in i n) (kk : ∀ f', f' = vf_upd f i.toNatClampNeg x → PW G y Q d kc ks (fw_up h b (.inl (3, n, .inr (.inr (.inr (.inl f')))))) nx L st) : PW G y Q d kc ks h pc L (.double x :: .int i :: .ref b :: st) := by
  have hd := fw_row hT hr
  have en : nx = pc + 1 := hd.2.1
  intro p e R s m args below meth c H locs cells slots ls C X
  obtain ⟨ws, q0, hP, hD, h3, hq⟩ := X.1.get ho
  exact va_dast C.1 C.2.1 C.2.2.2.2.2.2.2.2.2.1.1 hP hD X.2.1 q0 3 hq (fw_tys_at _ (by decide)) hin hd.1 (fun H1 locs1 g1 g2 g3 => en ▸ kk _ rfl p e R s m args below meth c H1 locs1 cells slots ls C ⟨fw_P.set (o' := .inl (3, n, .inr (.inr (.inr (.inl _))))) h3 hq g1 g2, g3, X.2.2⟩)
/-- an object of a class of ours into an array of that class -/
theorem pw_aast {b n t ci w : Nat} {f : Nat → Option Nat} {i : Int32} {r : vw_C} {fs : List Value} (hT : fw_tok y tb) (hr : fw_at tb pc = some (.aastore, nx, a, v)) (ho : h b = some (.inl (t, n, .inr (.inr (.inr (.inr f)))))) (ht : t < 11) (hw : h w = some (.inr (ci, fs))) (hc : vwCl[ci]? = some r) (hty : fw_ty t = .object r.1) (hin : vp_in i n) (kk : PW G y Q d kc ks (fw_up h b (.inl (t, n, .inr (.inr (.inr (.inr (va_up f i.toNatClampNeg (some w)))))))) nx L st) : PW G y Q d kc ks h pc L (.ref w :: .int i :: .ref b :: st) := by
  have hd := fw_row hT hr
  have en : nx = pc + 1 := hd.2.1
  intro p e R s m args below meth c H locs cells slots ls C X
  obtain ⟨ws, q0, hP, hD, h3, hq⟩ := X.1.get ho
  obtain ⟨qk, hqk⟩ := List.getElem?_of_mem (h3 w _ hw)
  exact va_astq C.1 C.2.1 C.2.2.2.2.2.2.2.2.2.1.1 hP hD X.2.1 q0 t qk ci hq (hty ▸ fw_tys_at _ ht) hqk hc hin hd.1 (fun H1 locs1 g1 g2 g3 => en ▸ kk p e R s m args below meth c H1 locs1 cells slots ls C ⟨fw_P.set (o' := .inl (t, n, .inr (.inr (.inr (.inr (va_up f i.toNatClampNeg (some w))))))) h3 hq g1 g2, g3, X.2.2⟩)
theorem pw_new {idx ci N : Nat} {fs : List Value} (hT : fw_tok y tb) (hr : fw_at tb pc = some (.new idx, nx, a, v)) (hn : fw_new y.1.cls idx ci N fs) (kk : ∀ q, h q = none → G.2.1 ≤ q → PW G y Q d kc ks (fw_up h q (.inr (ci, fs))) nx L (.ref q :: st)) : PW G y Q d (kc + 1) (ks + N) h pc L st := by
  have hd := fw_row hT hr
  have en : nx = pc + 3 := hd.2.1
  obtain ⟨Cn, T, ty, ⟨c1, c2, c3, c4⟩, w1, w2, w3, hfs⟩ := hn
  intro p e R s m args below meth c H locs cells slots ls C X
  have C0 := C
  obtain ⟨hx, hb, hre, hlk, hml, hown, hnm, hts, htab, hK, hN⟩ := C
  obtain ⟨⟨ws, hP, hD, h3⟩, x2, ⟨x3, x4, x5, x6⟩, x7⟩ := X
  refine va_new hx hb hts c2 ty c3 hown (hts _ w1) (hts _ w2) (hts _ w3) hK.1 hP hD x2 (fun q hq => Nat.le_trans hN hq) c1 hfs (by omega) (by omega) hd.1 (fun q H1 g1 g2 g3 => ?_)
  obtain ⟨e1, e2, e3⟩ := fw_P.push (o := .inr (ci, fs)) h3 g1 g2
  exact en ▸ kk q e1 e2 p e R s m args below meth c H1 locs (cells + 1) (slots + N) ls C0 ⟨e3, g3, ⟨x3, x4, by omega, by omega⟩, x7⟩
/-- a new array of a primitive type -/
theorem pw_newa {t N' : Nat} {n : Int32} {a0 : vp_A} {atype : ArrayType} {ty : FieldType} (hT : fw_tok y tb) (hr : fw_at tb pc = some (.newarray atype, nx, a, v)) (ht : t < 11) (hty : newarray.typeOf atype = ty) (hty2 : fw_ty t = ty) (hw : Cond.arrayClass ty ∈ fw_GW) (ha : ∀ cA : ClassId, vp_cell cA a0 = arrV cA N' (fun _ => defaultValue ty)) (hn : ¬ n < 0) (hN9 : n.toNatClampNeg = N') (hbytes : N' * componentBytes ty ≤ 536870912) (kk : ∀ q, h q = none → G.2.1 ≤ q → PW G y Q d kc ks (fw_up h q (.inl (t, a0))) nx L (.ref q :: st)) : PW G y Q d (kc + 1) (ks + N') h pc L (.int n :: st) := by
  have hd := fw_row hT hr
  have en : nx = pc + 2 := hd.2.1
  intro p e R s m args below meth c H locs cells slots ls C X
  have C0 := C
  obtain ⟨hx, hb, hre, hlk, hml, hown, hnm, hts, htab, hK, hN⟩ := C
  obtain ⟨⟨ws, hP, hD, h3⟩, x2, ⟨x3, x4, x5, x6⟩, x7⟩ := X
  refine va_newa hx hb (by rw [hty]; exact hts _ hw) hty hK.1 hP hD x2 (fun q hq => Nat.le_trans hN hq) ha hn hN9 hbytes (by omega) (by omega) hd.1 (fun q cA H1 g0 g1 g2 g3 => ?_)
  have e9 : cA = G.2.2.2.1 t := by
    have r1 := (g0.2 (fw_tys G.2.2.2.1).length (cA, ty) (by rw [List.getElem?_append_right (Nat.le_refl _), Nat.sub_self]; rfl)).2
    have r2 := (hK.1.2 t _ (fw_tys_at G.2.2.2.1 ht)).2
    rw [hty2] at r2
    exact fw_RA1 r1 r2
  subst e9
  obtain ⟨e1, e2, e3⟩ := fw_P.push (o := .inl (t, a0)) h3 g1 g2
  exact en ▸ kk q e1 e2 p e R s m args below meth c H1 locs (cells + 1) (slots + N') ls C0 ⟨e3, g3, ⟨x3, x4, by omega, by omega⟩, x7⟩
/-- a new array of references -/
theorem pw_newq {t N' idx : Nat} {n : Int32} {Cn : String} (hT : fw_tok y tb) (hr : fw_at tb pc = some (.anewarray idx, nx, a, v)) (ht : t < 11) (hty : fw_ty t = .object Cn) (hao : Cn ∈ fw_aos) (hw : Cond.classLink y.1.cls idx Cn ∈ fw_GW) (hn : ¬ n < 0) (hN9 : n.toNatClampNeg = N') (hbytes : N' * 4 ≤ 536870912) (kk : ∀ q, h q = none → G.2.1 ≤ q → PW G y Q d kc ks (fw_up h q (.inl (t, N', .inr (.inr (.inr (.inr (fun _ => none))))))) nx L (.ref q :: st)) : PW G y Q d (kc + 1) (ks + N') h pc L (.int n :: st) := by
  have hd := fw_row hT hr
  have en : nx = pc + 3 := hd.2.1
  intro p e R s m args below meth c H locs cells slots ls C X
  have C0 := C
  obtain ⟨hx, hb, hre, hlk, hml, hown, hnm, hts, htab, hK, hN⟩ := C
  obtain ⟨⟨ws, hP, hD, h3⟩, x2, ⟨x3, x4, x5, x6⟩, x7⟩ := X
  refine va_newq hx hb hown (hts _ hw) (hK.2.2.2.2.2.2.2.2.2.2.1 _ hao) hK.1 hP hD x2 (fun q hq => Nat.le_trans hN hq) hn hN9 hbytes (by omega) (by omega) hd.1 (fun q cA H1 g0 g1 g2 g3 => ?_)
  have e9 : cA = G.2.2.2.1 t := by
    have r1 := (g0.2 (fw_tys G.2.2.2.1).length (cA, .object Cn) (by rw [List.getElem?_append_right (Nat.le_refl _), Nat.sub_self]; rfl)).2
    have r2 := (hK.1.2 t _ (fw_tys_at G.2.2.2.1 ht)).2
    rw [hty] at r2
    exact fw_RA1 r1 r2
  subst e9
  obtain ⟨e1, e2, e3⟩ := fw_P.push (o := .inl (t, N', .inr (.inr (.inr (.inr (fun _ => none)))))) h3 g1 g2
  exact en ▸ kk q e1 e2 p e R s m args below meth c H1 locs (cells + 1) (slots + N') ls C0 ⟨e3, g3, ⟨x3, x4, by omega, by omega⟩, x7⟩
theorem pw_ldc {idx : Nat} {n : Int32} (hT : fw_tok y tb) (hr : fw_at tb pc = some (.ldc idx, nx, a, v)) (hw : Cond.constant y.1.cls idx n ∈ fw_GW) (kk : PW G y Q d kc ks h nx L (.int n :: st)) : PW G y Q d kc ks h pc L st := by
  have hd := fw_row hT hr
  have en : nx = pc + 2 := hd.2.1
  intro p e R s m args below meth c H locs cells slots ls C X
  exact lv_ldc C.1 C.2.1 C.2.2.2.2.2.1 (C.2.2.2.2.2.2.2.1 _ hw) hd.1 (en ▸ kk p e R s m args below meth c H locs cells slots ls C X)
theorem pw_ldc2 {idx : Nat} {n : Int64} (hT : fw_tok y tb) (hr : fw_at tb pc = some (.ldc2_w idx, nx, a, v)) (hw : Cond.constantLong y.1.cls idx n ∈ fw_GW) (kk : PW G y Q d kc ks h nx L (.long n :: st)) : PW G y Q d kc ks h pc L st := by
  have hd := fw_row hT hr
  have en : nx = pc + 3 := hd.2.1
  intro p e R s m args below meth c H locs cells slots ls C X
  exact lv_ldc2 C.1 C.2.1 C.2.2.2.2.2.1 (C.2.2.2.2.2.2.2.1 _ hw) hd.1 (en ▸ kk p e R s m args below meth c H locs cells slots ls C X)
/-- Object.<init> -/
theorem pw_oinit {idx b : Nat} (hT : fw_tok y tb) (hr : fw_at tb pc = some (.invokespecial idx, nx, a, v)) (hw : Cond.methodLink y.1.cls idx Lib.objectInit ∈ fw_GW) (hw2 : Cond.instanceMethod Lib.objectInit ∈ fw_GW) (hw3 : Cond.code Lib.objectInit ⟨#[0xb1]⟩ 1 none ∈ fw_GW) (hst : Nat.ble ((st.map fun v => v.category).sum) 8 = true) (kk : PW G y Q d kc ks h nx L st) : PW G y Q d kc ks h pc L (.ref b :: st) := by
  have hd := fw_row hT hr
  have en : nx = pc + 3 := hd.2.1
  intro p e R s m args below meth c H locs cells slots ls C X
  have h8 : (st.map fun v => v.category).sum ≤ 8 := Nat.le_of_ble_eq_true hst
  obtain ⟨x3, x4, x5, x6⟩ := X.2.2.1
  refine W.objInit C.1 C.2.1 C.2.2.2.2.2.1 (C.2.2.2.2.2.2.2.1 _ hw) (C.2.2.2.2.2.2.2.1 _ hw2) (C.2.2.2.2.2.2.2.1 _ hw3) rfl (by rw [C.2.2.2.2.1]; exact X.2.2.2.1) rfl hd.1 (by omega) (by have := lv_room (m := m) (pc := pc) (ls := ls) (rest := .ref b :: st) h8; omega) ?_
  exact W.eq (g2 := F0 m (pc + 3) ls st) rfl (en ▸ kk p e R s m args below meth c H locs cells slots ls C X)
end PWN
/-! contracts -/
theorem fw_has_of {ls : Array Slot} {n : Nat} {L : List (Nat × Value)} (h : lv_has ls n L) : fw_has ls n L := by
  refine ⟨h.1, h.2.1, fun i v hi => h.2.2 (i, v) ?_⟩
  clear h
  induction L with
  | nil => cases hi
  | cons q L ih =>
    obtain ⟨j, w⟩ := q
    rw [fw_lk_c] at hi
    by_cases e : j = i
    · rw [if_pos e] at hi
      cases hi
      subst e
      exact List.mem_cons_self
    · rw [if_neg e] at hi
      exact List.mem_cons_of_mem _ (ih hi)
theorem fw_blind (G : fw_G) (av : List Value) (h : fw_H) : FrameBlind (va_Pc av (fw_pre G h)) := fun a U g mk q => ⟨q.1, q.2.1, q.2.2.1, va_K.moved (u := U) (U := U.calling g mk a) (Vm.Alike.refl U.vm) q.2.2.2.1, fw_F.same (u := U) (U := U.calling g mk a) rfl q.2.2.2.2⟩
theorem pm_of {G : fw_G} {y : fw_M} {Q : fw_Q} {d mc ms : Nat} {av : List Value} {h : fw_H} {L : List (Nat × Value)} (hn : plainName y.1.cls = true) (hh : y.2.2.2.2 = []) (hL : lv_args 0 av = L) (hlen : Nat.ble (lg_sl av).length y.2.2.1 = true) (k : PW G y Q d mc ms h 0 L []) : PM G d mc ms y av h Q := by
  obtain ⟨y1, y2, y3, y4, y5⟩ := y
  cases hh
  refine vx_ofW (cc := y2) (maxL := y3) (ret := y4) hn rfl ?_
  intro p e s m args below meth c s₁ B hml htab hv
  obtain ⟨rfl, hN, hP, hK⟩ := hv
  have hts := atoms_spec (ws := Cond.code y1 y2 y3 y4 :: fw_GW) B.pre
  have hown : s.vm.findClass y1.cls = some m.cls := findClass_of_methodNamed B.named
  have hin : meth.name = y1.name := (name_of_methodNamed B.named B.method).1
  have hl := lv_entry av (n := y3) (Nat.le_of_ble_eq_true hlen)
  rw [lg_entry_eq]
  rw [hL] at hl
  refine k p e (fw_rm d mc ms) s m _ below meth c s.heap [] 0 0 _ ⟨B.exec, B.bytes, B.returns, B.notSynchronized, hml, hown, hin, fun w hw => hts w (List.mem_cons_of_mem _ hw), ?_, hK, hN⟩ ⟨hP, va_S.rf, ⟨Nat.le_refl _, Nat.le_refl _, by show 0 + mc ≤ mc; omega, by show 0 + ms ≤ ms; omega⟩, fw_has_of hl⟩
  show c.exceptionTable.toList = []
  exact List.eq_nil_iff_forall_not_mem.mpr (fun x hx => htab x hx)
/-- a throw stands over the frame -/
def PX (G : fw_G) (y : fw_M) (Q : fw_Q) (d kc ks : Nat) (h : fw_H) (pc : Nat) (L : List (Nat × Value)) (E : String) : Prop :=
  ∀ (p : Program) (e : Env) (R : Room) (s : State) (m : MethodId) (args : Array Value) (below : List Frame) (meth : Method) (c : Code) (H : Heap) (locs : List Loc) (cells slots : Nat) (ls : Array Slot) (rest : List Value) (q : Addr) (ce : Cell),
    fw_C G y p R s m args meth c → fw_D G y d kc ks h L R s H locs cells slots ls → H[q]? = some ce → ce.vm = .none → s.vm.findClass E = some ce.cls →
    vx_W p G.1 e R s m args below meth c H locs cells slots (vx_MQ below (fw_Qc G Q) (fw_XC G Q) args s R.cells R.slots (fw_A G.2.1)) (F0 m pc ls rest) q
theorem px_out {G : fw_G} {y : fw_M} {Q : fw_Q} {d kc ks : Nat} {h : fw_H} {pc : Nat} {L : List (Nat × Value)} {E : String} (hh : y.2.2.2.2 = []) (hq : Q.2 E h) : PX G y Q d kc ks h pc L E := by
  intro p e R s m args below meth c H locs cells slots ls rest q ce C X h1 h2 h3
  obtain ⟨hx, hb, hre, hlk, hml, hown, hnm, hts, htab, hK, hN⟩ := C
  obtain ⟨x1, x2, ⟨x3, x4, x5, x6⟩, x7⟩ := X
  rw [hh] at htab
  refine vx_out (fun x hx => ?_) hlk h1 h2 h3 (fun t ht _ => ⟨h, hq, by rw [ht]; exact x1⟩) (fun z hz => x2.2.2 z hz) (by omega) (by omega)
  rw [htab] at hx
  cases hx
section PWC
variable {p : Program} {l : Launch} {e : Env} {R : Room} {s : State} {m : MethodId} {args : Array Value} {below : List Frame} {meth : Method} {c : Code} {H : Heap} {locs : List Loc} {cells slots : Nat}
theorem fw_S9 {N0 : Nat} {T' : State} {L : List Loc} {k n : Nat} (X : Stand p l e R s m args below meth c T' (locs ++ L) k n) (h1 : ∀ q ∈ locs, fw_A N0 q.base) (h2 : ∀ q ∈ L, fw_A N0 q.base) : va_S (fw_A N0) s.heap T'.heap (locs ++ L) := by
  have hall : ∀ q ∈ locs ++ L, fw_A N0 q.base := fun q hq => (List.mem_append.mp hq).elim (h1 q) (h2 q)
  obtain ⟨f1, f2⟩ := vx_frame (U := T') X.same
  exact ⟨f1, fun q hq hn => f2 q hq (fun z hz e => hn (e ▸ hall z hz)), hall⟩
/-- behind a call -/
theorem fw_after {G : fw_G} {y : fw_M} {Q Q' : fw_Q} {d kc ks kc' ks' mc ms pc : Nat} {h : fw_H} {L : List (Nat × Value)} {ls : Array Slot} {st rest : List Value} {a : Array Value}
    (hr : vx_Run p G.1 e R s m args below meth c H locs cells slots mc ms (F0 m pc ls st) rest (fw_Qc G Q' a) (fw_XC G Q') (fw_A G.2.1)) (C : fw_C G y p R s m args meth c) (X : fw_D G y d kc ks h L R s H locs cells slots ls) (hc : mc + kc' ≤ kc) (hs : ms + ks' ≤ ks)
    (kr : ∀ r h', Q'.1 r h' → PW G y Q d kc' ks' h' (pc + 3) L (r.toList ++ rest)) (kx : ∀ E h', Q'.2 E h' → PX G y Q d kc' ks' h' pc L E) : W p G.1 e R s m args below meth c H locs cells slots (vx_MQ below (fw_Qc G Q) (fw_XC G Q) args s R.cells R.slots (fw_A G.2.1)) (F0 m pc ls st) := by
  intro T hT XS
  obtain ⟨x1, x2, ⟨x3, x4, x5, x6⟩, x7⟩ := X
  rcases hr T hT XS with ⟨r0, st₀, t, T', L9, e0, X', hL, e1, e2, ⟨r, h', e3, hq, hP⟩, st9⟩ | ⟨q, st₀, t, T', L9, E, ce, e0, X', hL, e1, e2, ⟨h', hq, hP⟩, hce, hcv, hcl, st9⟩
  · cases e3
    have hS := fw_S9 X' x2.2.2 hL
    obtain ⟨t2, a1, b1⟩ := kr _ h' hq p e R s m args below meth c T'.heap (locs ++ L9) (cells + mc) (slots + ms) ls C ⟨by rw [e1]; exact hP, hS, ⟨x3, x4, by omega, by omega⟩, x7⟩ T' rfl X'
    exact ⟨t2, st9 t2 a1, b1⟩
  · have hS := fw_S9 X' x2.2.2 hL
    obtain ⟨t2, a1, b1⟩ := kx E h' hq p e R s m args below meth c T'.heap (locs ++ L9) (cells + mc) (slots + ms) ls rest q ce C ⟨by rw [e1]; exact hP, hS, ⟨x3, x4, by omega, by omega⟩, x7⟩ (by rw [e1]; exact hce) hcv hcl T' rfl X'
    exact ⟨t2, st9.trans a1, b1⟩
theorem fw_pre_at {G : fw_G} {y : fw_M} {d kc ks : Nat} {h : fw_H} {L : List (Nat × Value)} {ls : Array Slot} {av : List Value} (C : fw_C G y p R s m args meth c) (X : fw_D G y d kc ks h L R s H locs cells slots ls) : ∀ U : State, U.heap = H → s.WarmedH U.vm → va_Pc av (fw_pre G h) av.toArray U := by
  intro U hU hW
  obtain ⟨hx, hb, hre, hlk, hml, hown, hnm, hts, htab, hK, hN⟩ := C
  refine ⟨rfl, by rw [hU]; exact Nat.le_trans hN X.2.1.1, by rw [hU]; exact X.1, va_K.moved hW.alike hK.1, ?_⟩
  rw [hU]
  exact fw_F.warm hW (fw_F.kept hK.2 (fun a ha hn => X.2.1.2.1 a ha hn))
end PWC
theorem fw_met {l : Launch} {y : MethodName} {ws : List Cond} {rm : Room} {Pc : Array Value → State → Prop} {Qc : Array Value → State → Outcome → State → Prop} {XC : String → State → State → Prop} {mc ms : Nat} {free : Addr → Prop} (h : vx_Met l y ws rm Pc Qc XC mc ms free) (hX : ∀ E s t, ¬ XC E s t) : Met l y ws rm Pc Qc mc ms free := by
  intro p e h1 h2 h3 s m args below h4 h5 h6 h7
  obtain ⟨n, o, a, b, c, d⟩ := h p e h1 h2 h3 s m args below h4 h5 h6 h7
  refine ⟨n, o, a, b, c, ?_⟩
  rcases d with d | ⟨q, -, E, ce, L, hx, -⟩
  · exact d
  · exact absurd hx (hX E _ _)
theorem fw_run_x {p : Program} {l : Launch} {e : Env} {R : Room} {s : State} {m : MethodId} {args : Array Value} {below : List Frame} {meth : Method} {c : Code} {H : Heap} {locs : List Loc} {cells slots mc ms : Nat} {g : JFrame} {rest : List Value} {Qa : State → Outcome → State → Prop} {XC : String → State → State → Prop} {free : Addr → Prop} (h : va_Run p l e R s m args below meth c H locs cells slots mc ms g rest Qa free) : vx_Run p l e R s m args below meth c H locs cells slots mc ms g rest Qa XC free := fun T hT X => by
  obtain ⟨v, st₀, t, T', L, h1, h2, h3, h4, h5, h6, h7⟩ := h T hT X
  exact Or.inl ⟨v, st₀, t, T', L, h1, h2, h3, h4, h5, h6, h7⟩
set_option maxRecDepth 20000 in
theorem fw_fr {R : Room} {d d' mc ms maxL : Nat} (h1 : d + 20 ≤ R.frames) (h2 : 60 * d + 400 ≤ R.locals) (h3 : d' < d) (h4 : maxL ≤ 30) : (fw_rm d' mc ms).frames + 1 ≤ R.frames ∧ 8 + (maxL + 11) + (fw_rm d' mc ms).locals ≤ R.locals := by
  refine ⟨?_, ?_⟩
  · simp only [fw_rm]; omega
  · simp only [fw_rm]; omega
section PWC2
variable {G : fw_G} {y : fw_M} {Q Q' : fw_Q} {d d' kc ks kc' ks' mc ms : Nat} {h : fw_H} {pc nx a idx n : Nat} {v : Int32} {L : List (Nat × Value)} {st rest As : List Value} {tb : List fw_R} {y' : fw_M}
/-- invokestatic -/
theorem pw_cs (hT : fw_tok y tb) (hr : fw_at tb pc = some (.invokestatic idx, nx, a, v)) (hc : fw_cal y' n) (hw : Cond.methodLink y.1.cls idx y'.1 ∈ fw_GW) (hw2 : Cond.static y'.1 ∈ fw_GW) (hM : PM G d' mc ms y' As h Q') (hst : st = As.reverse ++ rest) (hn : As.length = n) (h8 : Nat.ble ((rest.map fun v => v.category).sum) 8 = true) (hd : d' < d) (hmc : mc + kc' ≤ kc) (hms : ms + ks' ≤ ks)
    (kr : ∀ r h', Q'.1 r h' → PW G y Q d kc' ks' h' nx L (r.toList ++ rest)) (kx : ∀ E h', Q'.2 E h' → PX G y Q d kc' ks' h' pc L E) : PW G y Q d kc ks h pc L st := by
  have hd9 := fw_row hT hr
  have en : nx = pc + 3 := hd9.2.1
  subst en
  obtain ⟨c1, c2, c3, c4, c5⟩ := hc
  have c5 := Nat.le_of_ble_eq_true c5
  intro p e R s m args below meth c H locs cells slots ls C X
  obtain ⟨x3, x4, x5, x6⟩ := X.2.2.1
  have hts := C.2.2.2.2.2.2.2.1
  have hfr : (fw_rm d' mc ms).frames + 1 ≤ R.frames ∧ 8 + (y'.2.2.1 + 11) + (fw_rm d' mc ms).locals ≤ R.locals := fw_fr x3 x4 hd c5
  refine fw_after (st := st) (vx_runS (As := As) (rest := rest) ⟨C.1, C.2.1, C.2.2.2.2.1, C.2.2.2.2.2.1, hts⟩ hM ⟨callB_of n hts (fw_goodc c1) (by rw [fw_code c4]) rfl rfl (hts _ c2) (hts _ hw) c3 hfr, hts _ hw2⟩ ⟨fw_blind G As h, fw_pre_at C X⟩ rfl hn X.2.2.2.1 hst (lv_room (Nat.le_of_ble_eq_true h8)) hd9.1 ⟨by omega, by omega⟩) C X hmc hms kr kx
/-- invokevirtual, the receiver of the method's own class -/
theorem pw_cv {b ci : Nat} {fs : List Value} {r9 : vw_C} (hT : fw_tok y tb) (hr : fw_at tb pc = some (.invokevirtual idx, nx, a, v)) (hc : fw_cal y' n) (hw : Cond.methodLink y.1.cls idx y'.1 ∈ fw_GW) (hw2 : Cond.instanceMethod y'.1 ∈ fw_GW) (hw3 : Cond.selects y'.1.cls y'.1 y'.1 ∈ fw_GW) (ho : h b = some (.inr (ci, fs))) (hci : vwCl[ci]? = some r9) (hr9 : r9.1 = y'.1.cls) (hM : PM G d' mc ms y' (.ref b :: As) h Q') (hst : st = As.reverse ++ .ref b :: rest) (hn : As.length = n) (h8 : Nat.ble ((rest.map fun v => v.category).sum) 8 = true) (hd : d' < d) (hmc : mc + kc' ≤ kc) (hms : ms + ks' ≤ ks)
    (kr : ∀ r h', Q'.1 r h' → PW G y Q d kc' ks' h' nx L (r.toList ++ rest)) (kx : ∀ E h', Q'.2 E h' → PX G y Q d kc' ks' h' pc L E) : PW G y Q d kc ks h pc L st := by
  have hd9 := fw_row hT hr
  have en : nx = pc + 3 := hd9.2.1
  subst en
  obtain ⟨c1, c2, c3, c4, c5⟩ := hc
  have c5 := Nat.le_of_ble_eq_true c5
  intro p e R s m args below meth c H locs cells slots ls C X
  obtain ⟨x3, x4, x5, x6⟩ := X.2.2.1
  have hts := C.2.2.2.2.2.2.2.1
  have hK := C.2.2.2.2.2.2.2.2.2.1
  have hfr : (fw_rm d' mc ms).frames + 1 ≤ R.frames ∧ 8 + (y'.2.2.1 + 11) + (fw_rm d' mc ms).locals ≤ R.locals := fw_fr x3 x4 hd c5
  obtain ⟨ws, q0, hP, hD, h3, hq⟩ := X.1.get ho
  refine fw_after (st := st) (vx_runV (C := y'.1.cls) (b := b) (As := As) (rest := rest) ⟨C.1, C.2.1, C.2.2.2.2.1, C.2.2.2.2.2.1, hts⟩ hM ⟨callB_of n hts (fw_goodc c1) (by rw [fw_code c4]) rfl rfl (hts _ c2) (hts _ hw) c3 hfr, hts _ hw2, hts _ hw3⟩ ⟨fw_blind G (.ref b :: As) h, hr9 ▸ va_recv hK.1 hP hci hq, fw_pre_at C X⟩ rfl hn X.2.2.2.1 hst (lv_room (Nat.le_of_ble_eq_true h8)) hd9.1 ⟨by omega, by omega⟩) C X hmc hms kr kx
/-- a constructor (it throws nothing), of a class or of a nest mate -/
theorem pw_ci {b : Nat} (hT : fw_tok y tb) (hr : fw_at tb pc = some (.invokespecial idx, nx, a, v)) (hc : fw_cal y' n) (hw : Cond.methodLink y.1.cls idx y'.1 ∈ fw_GW ∨ ∃ host, Cond.methodLinkNest y.1.cls idx y'.1 host ∈ fw_NW) (hw2 : Cond.instanceMethod y'.1 ∈ fw_GW) (hi : y'.1.name = "<init>") (hret : y'.2.2.2.1 = none) (hM : PM G d' mc ms y' (.ref b :: As) h Q') (hX : ∀ E h', ¬ Q'.2 E h') (hst : st = As.reverse ++ .ref b :: rest) (hn : As.length = n) (h8 : Nat.ble ((rest.map fun v => v.category).sum) 8 = true) (hd : d' < d) (hmc : mc + kc' ≤ kc) (hms : ms + ks' ≤ ks)
    (kr : ∀ r h', Q'.1 r h' → PW G y Q d kc' ks' h' nx L (r.toList ++ rest)) : PW G y Q d kc ks h pc L st := by
  have hd9 := fw_row hT hr
  have en : nx = pc + 3 := hd9.2.1
  subst en
  obtain ⟨c1, c2, c3, c4, c5⟩ := hc
  have c5 := Nat.le_of_ble_eq_true c5
  obtain ⟨y1, y2, y3, y4, y5⟩ := y'
  cases hret
  cases c4
  intro p e R s m args below meth c H locs cells slots ls C X
  obtain ⟨x3, x4, x5, x6⟩ := X.2.2.1
  have hts := C.2.2.2.2.2.2.2.1
  have hK := C.2.2.2.2.2.2.2.2.2.1
  have c5 : y3 ≤ 30 := c5
  have hfr : (fw_rm d' mc ms).frames + 1 ≤ R.frames ∧ 8 + (y3 + 11) + (fw_rm d' mc ms).locals ≤ R.locals := fw_fr x3 x4 hd c5
  have hMet := fw_met hM (fun E s t hx => hX E _ hx.choose_spec.1)
  rcases hw with hw | ⟨host, hw⟩
  · exact fw_after (st := st) (fw_run_x (va_runI (b := b) (As := As) (rest := rest) ⟨C.1, C.2.1, C.2.2.2.2.1, C.2.2.2.2.2.1, hts⟩ hMet (cwI n hts (fw_goodc c1) rfl rfl rfl (hts _ c2) (hts _ hw) (hts _ hw2) hi c3 hfr) ⟨fw_blind G (.ref b :: As) h, fw_pre_at C X⟩ rfl hn X.2.2.2.1 hst (lv_room (Nat.le_of_ble_eq_true h8)) hd9.1 ⟨by omega, by omega⟩)) C X hmc hms kr (fun E h' hx => absurd hx (hX E h'))
  · exact fw_after (st := st) (fw_run_x (va_runIN (b := b) (As := As) (rest := rest) ⟨C.1, C.2.1, C.2.2.2.2.1, C.2.2.2.2.2.1, hts⟩ hMet ⟨va_cnB n hts (fw_goodc c1) rfl rfl rfl (hK.2.2.2.2.2.2.2.2.1 _ hw) (hts _ c2) c3 hfr, hi, hts _ hw2⟩ ⟨fw_blind G (.ref b :: As) h, fw_pre_at C X⟩ rfl hn X.2.2.2.1 hst (lv_room (Nat.le_of_ble_eq_true h8)) hd9.1 ⟨by omega, by omega⟩)) C X hmc hms kr (fun E h' hx => absurd hx (hX E h'))
/-- invokestatic of a nest mate's private method (it throws nothing) -/
theorem pw_csN {host : String} (hT : fw_tok y tb) (hr : fw_at tb pc = some (.invokestatic idx, nx, a, v)) (hc : fw_cal y' n) (hw : Cond.methodLinkNest y.1.cls idx y'.1 host ∈ fw_NW) (hw2 : Cond.static y'.1 ∈ fw_GW) (hM : PM G d' mc ms y' As h Q') (hX : ∀ E h', ¬ Q'.2 E h') (hst : st = As.reverse ++ rest) (hn : As.length = n) (h8 : Nat.ble ((rest.map fun v => v.category).sum) 8 = true) (hd : d' < d) (hmc : mc + kc' ≤ kc) (hms : ms + ks' ≤ ks)
    (kr : ∀ r h', Q'.1 r h' → PW G y Q d kc' ks' h' nx L (r.toList ++ rest)) : PW G y Q d kc ks h pc L st := by
  have hd9 := fw_row hT hr
  have en : nx = pc + 3 := hd9.2.1
  subst en
  obtain ⟨c1, c2, c3, c4, c5⟩ := hc
  have c5 := Nat.le_of_ble_eq_true c5
  intro p e R s m args below meth c H locs cells slots ls C X
  obtain ⟨x3, x4, x5, x6⟩ := X.2.2.1
  have hts := C.2.2.2.2.2.2.2.1
  have hK := C.2.2.2.2.2.2.2.2.2.1
  have hfr : (fw_rm d' mc ms).frames + 1 ≤ R.frames ∧ 8 + (y'.2.2.1 + 11) + (fw_rm d' mc ms).locals ≤ R.locals := fw_fr x3 x4 hd c5
  have hMet := fw_met hM (fun E s t hx => hX E _ hx.choose_spec.1)
  exact fw_after (st := st) (fw_run_x (va_runSN (As := As) (rest := rest) ⟨C.1, C.2.1, C.2.2.2.2.1, C.2.2.2.2.2.1, hts⟩ hMet ⟨va_cnB n hts (fw_goodc c1) (by rw [fw_code c4]) rfl rfl (hK.2.2.2.2.2.2.2.2.1 _ hw) (hts _ c2) c3 hfr, hts _ hw2, trivial⟩ ⟨fw_blind G As h, fw_pre_at C X⟩ rfl hn X.2.2.2.1 hst (lv_room (Nat.le_of_ble_eq_true h8)) hd9.1 ⟨by omega, by omega⟩)) C X hmc hms kr (fun E h' hx => absurd hx (hX E h'))
end PWC2
end
