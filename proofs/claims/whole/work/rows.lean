section
-- ===== PART A: goes FIRST, ahead of the names: the tables' words, and 'selects' of the private methods out of them =====
/-- a private method of a class that the tables say can be made, by its rows of tables_1 -/
def lw_okq (q : MethodName × Nat) : Prop := (q.1.cls ≠ "java/lang/invoke/MethodHandle" ∧ q.1.cls ≠ "java/lang/invoke/VarHandle") ∧ Cond.instantiable q.1.cls q.2 ∈ tables_1 ∧ Cond.privateMethod q.1 ∈ tables_1 ∧ Cond.instanceMethod q.1 ∈ tables_1
theorem lw_p0 : lw_okq (⟨"Termreckonry", "reckonAll", "()V"⟩, 10) := ⟨⟨by decide +kernel, by decide +kernel⟩, List.mem_of_getElem? (i := 49) (by decide +kernel), List.mem_of_getElem? (i := 115) (by decide +kernel), List.mem_of_getElem? (i := 116) (by decide +kernel)⟩
theorem lw_p1 : lw_okq (⟨"Termreckonry$Warrant", "reckonBegin", "()I"⟩, 19) := ⟨⟨by decide +kernel, by decide +kernel⟩, List.mem_of_getElem? (i := 129) (by decide +kernel), List.mem_of_getElem? (i := 127) (by decide +kernel), List.mem_of_getElem? (i := 128) (by decide +kernel)⟩
theorem lw_p2 : lw_okq (⟨"Termreckonry$Warrant", "releaseAfter", "(I)I"⟩, 19) := ⟨⟨by decide +kernel, by decide +kernel⟩, List.mem_of_getElem? (i := 129) (by decide +kernel), List.mem_of_getElem? (i := 183) (by decide +kernel), List.mem_of_getElem? (i := 184) (by decide +kernel)⟩
theorem lw_p3 : lw_okq (⟨"Termreckonry$Warrant", "endAfter", "(I)I"⟩, 19) := ⟨⟨by decide +kernel, by decide +kernel⟩, List.mem_of_getElem? (i := 129) (by decide +kernel), List.mem_of_getElem? (i := 216) (by decide +kernel), List.mem_of_getElem? (i := 217) (by decide +kernel)⟩
theorem lw_p4 : lw_okq (⟨"Termreckonry$Recall", "firstDayUnlicensed", "()I"⟩, 9) := ⟨⟨by decide +kernel, by decide +kernel⟩, List.mem_of_getElem? (i := 234) (by decide +kernel), List.mem_of_getElem? (i := 232) (by decide +kernel), List.mem_of_getElem? (i := 233) (by decide +kernel)⟩
theorem lw_p5 : lw_okq (⟨"Termreckonry$Recall", "latestLicenceEnd", "(I)I"⟩, 9) := ⟨⟨by decide +kernel, by decide +kernel⟩, List.mem_of_getElem? (i := 234) (by decide +kernel), List.mem_of_getElem? (i := 237) (by decide +kernel), List.mem_of_getElem? (i := 238) (by decide +kernel)⟩
theorem lw_p6 : lw_okq (⟨"Termreckonry", "sumNeeded", "()J"⟩, 10) := ⟨⟨by decide +kernel, by decide +kernel⟩, List.mem_of_getElem? (i := 49) (by decide +kernel), List.mem_of_getElem? (i := 248) (by decide +kernel), List.mem_of_getElem? (i := 249) (by decide +kernel)⟩
theorem lw_p7 : lw_okq (⟨"Termreckonry$Tally", "endOfLicence", "(LTermreckonry$Warrant;)I"⟩, 7) := ⟨⟨by decide +kernel, by decide +kernel⟩, List.mem_of_getElem? (i := 297) (by decide +kernel), List.mem_of_getElem? (i := 295) (by decide +kernel), List.mem_of_getElem? (i := 296) (by decide +kernel)⟩
theorem lw_p8 : lw_okq (⟨"java/lang/Throwable", "fillInStackTrace", "(I)Ljava/lang/Throwable;"⟩, 6) := ⟨⟨by decide +kernel, by decide +kernel⟩, List.mem_of_getElem? (i := 395) (by decide +kernel), List.mem_of_getElem? (i := 393) (by decide +kernel), List.mem_of_getElem? (i := 394) (by decide +kernel)⟩
theorem lw_p9 : lw_okq (⟨"Termreckonry", "knownWarrant", "(I)LTermreckonry$Warrant;"⟩, 10) := ⟨⟨by decide +kernel, by decide +kernel⟩, List.mem_of_getElem? (i := 49) (by decide +kernel), List.mem_of_getElem? (i := 559) (by decide +kernel), List.mem_of_getElem? (i := 560) (by decide +kernel)⟩
theorem lw_p10 : lw_okq (⟨"Termreckonry", "knownPerson", "(I)LTermreckonry$Person;"⟩, 10) := ⟨⟨by decide +kernel, by decide +kernel⟩, List.mem_of_getElem? (i := 49) (by decide +kernel), List.mem_of_getElem? (i := 669) (by decide +kernel), List.mem_of_getElem? (i := 670) (by decide +kernel)⟩
theorem lw_p11 : lw_okq (⟨"Termreckonry", "knownAdded", "(I)LTermreckonry$Added;"⟩, 10) := ⟨⟨by decide +kernel, by decide +kernel⟩, List.mem_of_getElem? (i := 49) (by decide +kernel), List.mem_of_getElem? (i := 889) (by decide +kernel), List.mem_of_getElem? (i := 890) (by decide +kernel)⟩
theorem lw_p12 : lw_okq (⟨"Termreckonry", "begunWarrant", "(I)LTermreckonry$Warrant;"⟩, 10) := ⟨⟨by decide +kernel, by decide +kernel⟩, List.mem_of_getElem? (i := 49) (by decide +kernel), List.mem_of_getElem? (i := 983) (by decide +kernel), List.mem_of_getElem? (i := 984) (by decide +kernel)⟩
theorem lw_p13 : lw_okq (⟨"TermreckonryModel", "noDay", "(I)Z"⟩, 6) := ⟨⟨by decide +kernel, by decide +kernel⟩, List.mem_of_getElem? (i := 1107) (by decide +kernel), List.mem_of_getElem? (i := 1185) (by decide +kernel), List.mem_of_getElem? (i := 1186) (by decide +kernel)⟩
theorem lw_p14 : lw_okq (⟨"java/util/ArrayList", "add", "(Ljava/lang/Object;[Ljava/lang/Object;I)V"⟩, 3) := ⟨⟨by decide +kernel, by decide +kernel⟩, List.mem_of_getElem? (i := 1113) (by decide +kernel), List.mem_of_getElem? (i := 1238) (by decide +kernel), List.mem_of_getElem? (i := 1239) (by decide +kernel)⟩
theorem lw_p15 : lw_okq (⟨"java/util/ArrayList", "grow", "()[Ljava/lang/Object;"⟩, 3) := ⟨⟨by decide +kernel, by decide +kernel⟩, List.mem_of_getElem? (i := 1113) (by decide +kernel), List.mem_of_getElem? (i := 1242) (by decide +kernel), List.mem_of_getElem? (i := 1243) (by decide +kernel)⟩
def lw_privs_1 : List (MethodName × Nat) := [(⟨"Termreckonry", "reckonAll", "()V"⟩, 10), (⟨"Termreckonry$Warrant", "reckonBegin", "()I"⟩, 19), (⟨"Termreckonry$Warrant", "releaseAfter", "(I)I"⟩, 19), (⟨"Termreckonry$Warrant", "endAfter", "(I)I"⟩, 19), (⟨"Termreckonry$Recall", "firstDayUnlicensed", "()I"⟩, 9), (⟨"Termreckonry$Recall", "latestLicenceEnd", "(I)I"⟩, 9), (⟨"Termreckonry", "sumNeeded", "()J"⟩, 10), (⟨"Termreckonry$Tally", "endOfLicence", "(LTermreckonry$Warrant;)I"⟩, 7), (⟨"java/lang/Throwable", "fillInStackTrace", "(I)Ljava/lang/Throwable;"⟩, 6), (⟨"Termreckonry", "knownWarrant", "(I)LTermreckonry$Warrant;"⟩, 10), (⟨"Termreckonry", "knownPerson", "(I)LTermreckonry$Person;"⟩, 10), (⟨"Termreckonry", "knownAdded", "(I)LTermreckonry$Added;"⟩, 10), (⟨"Termreckonry", "begunWarrant", "(I)LTermreckonry$Warrant;"⟩, 10), (⟨"TermreckonryModel", "noDay", "(I)Z"⟩, 6), (⟨"java/util/ArrayList", "add", "(Ljava/lang/Object;[Ljava/lang/Object;I)V"⟩, 3), (⟨"java/util/ArrayList", "grow", "()[Ljava/lang/Object;"⟩, 3)]
theorem lw_r1 : ∀ q ∈ lw_privs_1, lw_okq q := List.forall_mem_cons.mpr ⟨lw_p0, List.forall_mem_cons.mpr ⟨lw_p1, List.forall_mem_cons.mpr ⟨lw_p2, List.forall_mem_cons.mpr ⟨lw_p3, List.forall_mem_cons.mpr ⟨lw_p4, List.forall_mem_cons.mpr ⟨lw_p5, List.forall_mem_cons.mpr ⟨lw_p6, List.forall_mem_cons.mpr ⟨lw_p7, List.forall_mem_cons.mpr ⟨lw_p8, List.forall_mem_cons.mpr ⟨lw_p9, List.forall_mem_cons.mpr ⟨lw_p10, List.forall_mem_cons.mpr ⟨lw_p11, List.forall_mem_cons.mpr ⟨lw_p12, List.forall_mem_cons.mpr ⟨lw_p13, List.forall_mem_cons.mpr ⟨lw_p14, List.forall_mem_cons.mpr ⟨lw_p15, fun _ h => absurd h List.not_mem_nil⟩⟩⟩⟩⟩⟩⟩⟩⟩⟩⟩⟩⟩⟩⟩⟩
theorem lw_p16 : lw_okq (⟨"java/util/ArrayList", "grow", "(I)[Ljava/lang/Object;"⟩, 3) := ⟨⟨by decide +kernel, by decide +kernel⟩, List.mem_of_getElem? (i := 1113) (by decide +kernel), List.mem_of_getElem? (i := 1246) (by decide +kernel), List.mem_of_getElem? (i := 1247) (by decide +kernel)⟩
theorem lw_p17 : lw_okq (⟨"TermreckonryModel", "noWarrant", "(I)Z"⟩, 6) := ⟨⟨by decide +kernel, by decide +kernel⟩, List.mem_of_getElem? (i := 1107) (by decide +kernel), List.mem_of_getElem? (i := 1308) (by decide +kernel), List.mem_of_getElem? (i := 1309) (by decide +kernel)⟩
theorem lw_p18 : lw_okq (⟨"TermreckonryModel", "isWarrant", "(I)Z"⟩, 6) := ⟨⟨by decide +kernel, by decide +kernel⟩, List.mem_of_getElem? (i := 1107) (by decide +kernel), List.mem_of_getElem? (i := 1312) (by decide +kernel), List.mem_of_getElem? (i := 1313) (by decide +kernel)⟩
theorem lw_p19 : lw_okq (⟨"TermreckonryModel", "lawFor", "(LTermreckonryModel$Warrant;)I"⟩, 6) := ⟨⟨by decide +kernel, by decide +kernel⟩, List.mem_of_getElem? (i := 1107) (by decide +kernel), List.mem_of_getElem? (i := 1331) (by decide +kernel), List.mem_of_getElem? (i := 1332) (by decide +kernel)⟩
theorem lw_p20 : lw_okq (⟨"TermreckonryModel", "isPerson", "(I)Z"⟩, 6) := ⟨⟨by decide +kernel, by decide +kernel⟩, List.mem_of_getElem? (i := 1107) (by decide +kernel), List.mem_of_getElem? (i := 1372) (by decide +kernel), List.mem_of_getElem? (i := 1373) (by decide +kernel)⟩
theorem lw_p21 : lw_okq (⟨"TermreckonryModel", "raises", "(I)I"⟩, 6) := ⟨⟨by decide +kernel, by decide +kernel⟩, List.mem_of_getElem? (i := 1107) (by decide +kernel), List.mem_of_getElem? (i := 1376) (by decide +kernel), List.mem_of_getElem? (i := 1377) (by decide +kernel)⟩
theorem lw_p22 : lw_okq (⟨"TermreckonryModel", "noPerson", "(IZ)Z"⟩, 6) := ⟨⟨by decide +kernel, by decide +kernel⟩, List.mem_of_getElem? (i := 1107) (by decide +kernel), List.mem_of_getElem? (i := 1611) (by decide +kernel), List.mem_of_getElem? (i := 1612) (by decide +kernel)⟩
theorem lw_p23 : lw_okq (⟨"TermreckonryModel", "facts", "()[LTermreckonryModel$Fact;"⟩, 6) := ⟨⟨by decide +kernel, by decide +kernel⟩, List.mem_of_getElem? (i := 1107) (by decide +kernel), List.mem_of_getElem? (i := 1653) (by decide +kernel), List.mem_of_getElem? (i := 1654) (by decide +kernel)⟩
theorem lw_p24 : lw_okq (⟨"TermreckonryModel", "factOf", "(LTermreckonryModel$Warrant;[LTermreckonryModel$Fact;)LTermreckonryModel$Fact;"⟩, 6) := ⟨⟨by decide +kernel, by decide +kernel⟩, List.mem_of_getElem? (i := 1107) (by decide +kernel), List.mem_of_getElem? (i := 1659) (by decide +kernel), List.mem_of_getElem? (i := 1660) (by decide +kernel)⟩
theorem lw_p25 : lw_okq (⟨"TermreckonryModel", "addedOf", "(I)Ljava/util/ArrayList;"⟩, 6) := ⟨⟨by decide +kernel, by decide +kernel⟩, List.mem_of_getElem? (i := 1107) (by decide +kernel), List.mem_of_getElem? (i := 1694) (by decide +kernel), List.mem_of_getElem? (i := 1695) (by decide +kernel)⟩
theorem lw_p26 : lw_okq (⟨"java/util/ArrayList", "rangeCheckForAdd", "(I)V"⟩, 3) := ⟨⟨by decide +kernel, by decide +kernel⟩, List.mem_of_getElem? (i := 1113) (by decide +kernel), List.mem_of_getElem? (i := 1702) (by decide +kernel), List.mem_of_getElem? (i := 1703) (by decide +kernel)⟩
theorem lw_p27 : lw_okq (⟨"java/util/ArrayList", "outOfBoundsMsg", "(I)Ljava/lang/String;"⟩, 3) := ⟨⟨by decide +kernel, by decide +kernel⟩, List.mem_of_getElem? (i := 1113) (by decide +kernel), List.mem_of_getElem? (i := 1707) (by decide +kernel), List.mem_of_getElem? (i := 1708) (by decide +kernel)⟩
theorem lw_p28 : lw_okq (⟨"TermreckonryModel", "releaseBy", "(LTermreckonryModel$Warrant;II)I"⟩, 6) := ⟨⟨by decide +kernel, by decide +kernel⟩, List.mem_of_getElem? (i := 1107) (by decide +kernel), List.mem_of_getElem? (i := 1907) (by decide +kernel), List.mem_of_getElem? (i := 1908) (by decide +kernel)⟩
theorem lw_p29 : lw_okq (⟨"TermreckonryModel", "stateOf", "(II[LTermreckonryModel$Fact;)C"⟩, 6) := ⟨⟨by decide +kernel, by decide +kernel⟩, List.mem_of_getElem? (i := 1107) (by decide +kernel), List.mem_of_getElem? (i := 1915) (by decide +kernel), List.mem_of_getElem? (i := 1916) (by decide +kernel)⟩
theorem lw_p30 : lw_okq (⟨"TermreckonryModel", "isLicensed", "(II[LTermreckonryModel$Fact;I)Z"⟩, 6) := ⟨⟨by decide +kernel, by decide +kernel⟩, List.mem_of_getElem? (i := 1107) (by decide +kernel), List.mem_of_getElem? (i := 1919) (by decide +kernel), List.mem_of_getElem? (i := 1920) (by decide +kernel)⟩
theorem lw_p31 : lw_okq (⟨"TermreckonryModel", "goesOn", "(LTermreckonryModel$Recall;I[LTermreckonryModel$Fact;)Z"⟩, 6) := ⟨⟨by decide +kernel, by decide +kernel⟩, List.mem_of_getElem? (i := 1107) (by decide +kernel), List.mem_of_getElem? (i := 1927) (by decide +kernel), List.mem_of_getElem? (i := 1928) (by decide +kernel)⟩
def lw_privs_2 : List (MethodName × Nat) := [(⟨"java/util/ArrayList", "grow", "(I)[Ljava/lang/Object;"⟩, 3), (⟨"TermreckonryModel", "noWarrant", "(I)Z"⟩, 6), (⟨"TermreckonryModel", "isWarrant", "(I)Z"⟩, 6), (⟨"TermreckonryModel", "lawFor", "(LTermreckonryModel$Warrant;)I"⟩, 6), (⟨"TermreckonryModel", "isPerson", "(I)Z"⟩, 6), (⟨"TermreckonryModel", "raises", "(I)I"⟩, 6), (⟨"TermreckonryModel", "noPerson", "(IZ)Z"⟩, 6), (⟨"TermreckonryModel", "facts", "()[LTermreckonryModel$Fact;"⟩, 6), (⟨"TermreckonryModel", "factOf", "(LTermreckonryModel$Warrant;[LTermreckonryModel$Fact;)LTermreckonryModel$Fact;"⟩, 6), (⟨"TermreckonryModel", "addedOf", "(I)Ljava/util/ArrayList;"⟩, 6), (⟨"java/util/ArrayList", "rangeCheckForAdd", "(I)V"⟩, 3), (⟨"java/util/ArrayList", "outOfBoundsMsg", "(I)Ljava/lang/String;"⟩, 3), (⟨"TermreckonryModel", "releaseBy", "(LTermreckonryModel$Warrant;II)I"⟩, 6), (⟨"TermreckonryModel", "stateOf", "(II[LTermreckonryModel$Fact;)C"⟩, 6), (⟨"TermreckonryModel", "isLicensed", "(II[LTermreckonryModel$Fact;I)Z"⟩, 6), (⟨"TermreckonryModel", "goesOn", "(LTermreckonryModel$Recall;I[LTermreckonryModel$Fact;)Z"⟩, 6)]
theorem lw_r2 : ∀ q ∈ lw_privs_2, lw_okq q := List.forall_mem_cons.mpr ⟨lw_p16, List.forall_mem_cons.mpr ⟨lw_p17, List.forall_mem_cons.mpr ⟨lw_p18, List.forall_mem_cons.mpr ⟨lw_p19, List.forall_mem_cons.mpr ⟨lw_p20, List.forall_mem_cons.mpr ⟨lw_p21, List.forall_mem_cons.mpr ⟨lw_p22, List.forall_mem_cons.mpr ⟨lw_p23, List.forall_mem_cons.mpr ⟨lw_p24, List.forall_mem_cons.mpr ⟨lw_p25, List.forall_mem_cons.mpr ⟨lw_p26, List.forall_mem_cons.mpr ⟨lw_p27, List.forall_mem_cons.mpr ⟨lw_p28, List.forall_mem_cons.mpr ⟨lw_p29, List.forall_mem_cons.mpr ⟨lw_p30, List.forall_mem_cons.mpr ⟨lw_p31, fun _ h => absurd h List.not_mem_nil⟩⟩⟩⟩⟩⟩⟩⟩⟩⟩⟩⟩⟩⟩⟩⟩
theorem lw_p32 : lw_okq (⟨"TermreckonryModel", "isIn", "(II[LTermreckonryModel$Fact;)Z"⟩, 6) := ⟨⟨by decide +kernel, by decide +kernel⟩, List.mem_of_getElem? (i := 1107) (by decide +kernel), List.mem_of_getElem? (i := 1931) (by decide +kernel), List.mem_of_getElem? (i := 1932) (by decide +kernel)⟩
theorem lw_p33 : lw_okq (⟨"TermreckonryModel", "begun", "(I)LTermreckonryModel$Fact;"⟩, 6) := ⟨⟨by decide +kernel, by decide +kernel⟩, List.mem_of_getElem? (i := 1107) (by decide +kernel), List.mem_of_getElem? (i := 1969) (by decide +kernel), List.mem_of_getElem? (i := 1970) (by decide +kernel)⟩
theorem lw_p34 : lw_okq (⟨"TermreckonryModel", "counted", "(IIZLjava/lang/String;)I"⟩, 6) := ⟨⟨by decide +kernel, by decide +kernel⟩, List.mem_of_getElem? (i := 1107) (by decide +kernel), List.mem_of_getElem? (i := 2007) (by decide +kernel), List.mem_of_getElem? (i := 2008) (by decide +kernel)⟩
theorem lw_p35 : lw_okq (⟨"TermreckonryModel", "endOf", "(LTermreckonryModel$Recall;[LTermreckonryModel$Fact;)I"⟩, 6) := ⟨⟨by decide +kernel, by decide +kernel⟩, List.mem_of_getElem? (i := 1107) (by decide +kernel), List.mem_of_getElem? (i := 2011) (by decide +kernel), List.mem_of_getElem? (i := 2012) (by decide +kernel)⟩
theorem lw_p36 : lw_okq (⟨"TermreckonryModel", "fast", "(II[LTermreckonryModel$Fact;[I)C"⟩, 6) := ⟨⟨by decide +kernel, by decide +kernel⟩, List.mem_of_getElem? (i := 1107) (by decide +kernel), List.mem_of_getElem? (i := 2015) (by decide +kernel), List.mem_of_getElem? (i := 2016) (by decide +kernel)⟩
def lw_privs_3 : List (MethodName × Nat) := [(⟨"TermreckonryModel", "isIn", "(II[LTermreckonryModel$Fact;)Z"⟩, 6), (⟨"TermreckonryModel", "begun", "(I)LTermreckonryModel$Fact;"⟩, 6), (⟨"TermreckonryModel", "counted", "(IIZLjava/lang/String;)I"⟩, 6), (⟨"TermreckonryModel", "endOf", "(LTermreckonryModel$Recall;[LTermreckonryModel$Fact;)I"⟩, 6), (⟨"TermreckonryModel", "fast", "(II[LTermreckonryModel$Fact;[I)C"⟩, 6)]
theorem lw_r3 : ∀ q ∈ lw_privs_3, lw_okq q := List.forall_mem_cons.mpr ⟨lw_p32, List.forall_mem_cons.mpr ⟨lw_p33, List.forall_mem_cons.mpr ⟨lw_p34, List.forall_mem_cons.mpr ⟨lw_p35, List.forall_mem_cons.mpr ⟨lw_p36, fun _ h => absurd h List.not_mem_nil⟩⟩⟩⟩⟩
def lw_privs : List (MethodName × Nat) := lw_privs_1 ++ (lw_privs_2 ++ (lw_privs_3))
def lw_tbl : List Cond := k2_sels lw_privs ++ tables_1
theorem lw_privs_ok : ∀ q ∈ lw_privs, lw_okq q := by
  show ∀ q ∈ lw_privs_1 ++ (lw_privs_2 ++ (lw_privs_3)), lw_okq q
  exact List.forall_mem_append.mpr ⟨lw_r1, List.forall_mem_append.mpr ⟨lw_r2, lw_r3⟩⟩
/-- the streams that the claim lets the run draw from -/
abbrev lw_cs : List Choice := [Jvm.Choice.named "NaN.bits"]
theorem lw_bits : nanBits ∈ lw_cs := by first | decide | exact List.mem_cons_self | simp [lw_cs, nanBits]
end
section
/-! ===== BEGIN words of one list among another's, by their places ===== -/
theorem goodIn_r {big : List Cond} (ws : List Cond) (ps : List Nat) (hp : ws = ps.filterMap (fun i => big[i]?)) (h : ws.all goodWord = true) : GoodIn big ws := by
  intro w hw
  have h1 := List.all_eq_true.mp h w hw
  rw [hp] at hw
  obtain ⟨i, -, hi⟩ := List.mem_filterMap.mp hw
  have hm : w ∈ big := by first | exact List.mem_of_getElem? hi | exact List.getElem?_mem hi
  exact ⟨hm, good_of_word h1⟩
theorem goodIn_app {big a b : List Cond} (ha : GoodIn big a) (hb : GoodIn big b) : GoodIn big (a ++ b) := fun w h => (List.mem_append.mp h).elim (ha w) (hb w)
theorem goodIn_ca {big a b : List Cond} {c : Cond} (ha : GoodIn big (c :: a)) (hb : GoodIn big b) : GoodIn big (c :: (a ++ b)) := fun w h => (List.mem_cons.mp h).elim (fun e => ha w (List.mem_cons.mpr (Or.inl e))) (fun h => (List.mem_append.mp h).elim (fun h => ha w (List.mem_cons.mpr (Or.inr h))) (hb w))
theorem goodIn_sub {big ws : List Cond} (hm : ∀ w ∈ ws, w ∈ big) (h : ws.all goodWord = true) : GoodIn big ws := fun w hw => ⟨hm w hw, good_of_word (List.all_eq_true.mp h w hw)⟩
/-! ===== END ===== -/

/-! ===== BEGIN exceptions that leave a method, and their catching by the caller (launches without stack traces) ===== -/
section VXA
/-! The laws vx_back, vx_callV, vx_callS, vx_callSW, vx_throw0, vx_throwS follow proofs of the library, with one case more: JvmDerived/Free/Laws.lean (Back.of_free), Shelf42/LK1.lean (callV, callS), Shelf/KitTraced.lean (throwNew0V, throwNewS). -/
/-- where a method has thrown q: the class by its name, the cell, what was written, the world -/
def vx_T (XC : String → State → State → Prop) (st : State) (q : Addr) (t : State) (mc ms : Nat) (free : Addr → Prop) : Prop :=
  ∃ (E : String) (ce : Cell) (L : List Loc), XC E st t ∧ t.heap[q]? = some ce ∧ ce.vm = .none ∧ st.vm.findClass E = some ce.cls ∧ st.WarmedH t.vm ∧ st.sameButNew ({ t with vm := st.vm } : State) L mc ms ∧ ∀ z ∈ L, free z.base
def vx_Q (Qc : Array Value → State → Outcome → State → Prop) (XC : String → State → State → Prop) (mc ms : Nat) (free : Addr → Prop) : Array Value → State → Outcome → State → Prop := fun a st o t =>
  (Qc a st o t ∧ ∃ L, FrameEnd st o t L mc ms ∧ ∀ q ∈ L, free q.base) ∨ ∃ q, o = .threw q ∧ vx_T XC st q t mc ms free
/-- a callee that returns or throws -/
def vx_Met (l : Launch) (y : MethodName) (ws : List Cond) (rm : Room) (Pc : Array Value → State → Prop) (Qc : Array Value → State → Outcome → State → Prop) (XC : String → State → State → Prop) (mc ms : Nat) (free : Addr → Prop) : Prop :=
  MetFree l y (headSpec ws rm) Pc (fun _ _ _ _ _ => True) (vx_Q Qc XC mc ms free)
def vx_Post (XC : String → State → State → Prop) (mc ms : Nat) (free : Addr → Prop) : Pt → Array Value → Addr → Pt → Prop := fun A a q B =>
  ∃ (g : JFrame) (mk : MethodId) (t : State) (L : List Loc) (E : String) (ce : Cell), B.U.heap = t.heap ∧ B.U.vm = t.vm ∧ XC E (A.U.calling g mk a) t ∧ t.heap[q]? = some ce ∧ ce.vm = .none ∧ A.U.vm.findClass E = some ce.cls ∧ B.locs = A.locs ++ L ∧ (∀ z ∈ L, free z.base) ∧ B.cells = A.cells + mc ∧ B.slots = A.slots + ms
def vx_Back (l : Launch) (R : Room) (p : Program) (e : Env) (below : List Frame) (s : State) (sargs : Array Value) (y : MethodName) (len W9 : Nat)
    (Pre : Pt → Array Value → Prop) (Post : Pt → Array Value → Option Value → Pt → Prop) (PostX : Pt → Array Value → Addr → Pt → Prop) : Prop :=
  ∀ (m : MethodId) (meth : Method) (c : Code) (A : Pt) (g : JFrame) (ig : Instr) (mk : MethodId) (a : Array Value),
    Stand p l e R s m sargs below meth c A.U A.locs A.cells A.slots → g.method = m → g.locals.size = c.maxLocals → decode c.code g.pc = .ok (ig, len) →
    2 * g.monitorRoom + (g.stack.map fun v => v.category).sum ≤ W9 → A.U.methodNamed? y = some mk → Pre A a →
    (∃ (v : Option Value) (B : Pt), Stand p l e R s m sargs below meth c B.U B.locs B.cells B.slots ∧ Post A a v B ∧
      Steps p.tables e below (doInvoke e (A.U.setTop g) [] mk a).1 (B.U.setTop { g with pc := g.pc + len, stack := v.toList ++ g.stack })) ∨
    (∃ (q : Addr) (B : Pt), Stand p l e R s m sargs below meth c B.U B.locs B.cells B.slots ∧ PostX A a q B ∧
      Steps p.tables e below (doInvoke e (A.U.setTop g) [] mk a).1 ((B.U.setTop g).pushFrame (.throwing q)))
section Payer
variable {l : Launch} {R : Room} {p : Program} {e : Env} {below : List Frame} {s : State} {sargs : Array Value} {y : MethodName} {len W9 : Nat}
theorem vx_back {ws : List Cond} {rm : Room} {Pc : Array Value → State → Prop} {Qc : Array Value → State → Outcome → State → Prop} {XC : String → State → State → Prop} {mc ms : Nat} {free : Addr → Prop} {bytes : ByteArray} {maxL : Nat} {ret : Option FieldType}
    (hM : vx_Met l y ws rm Pc Qc XC mc ms free) (hblind : FrameBlind Pc) (hrc : rm.cells = mc) (hrs : rm.slots = ms)
    (hframes : rm.frames + 1 ≤ R.frames) (hlocals : W9 + (maxL + 11) + rm.locals ≤ R.locals)
    (hws : ∀ w ∈ ws, ∀ a' U, s.WarmedH U.vm → w.before a' U = true) (hcode : Cond.code y bytes maxL ret ∈ ws) (hinit : ∀ a' U, s.WarmedH U.vm → (Cond.initialized y.cls).before a' U = true) :
    vx_Back l R p e below s sargs y len W9 (PreOf R mc ms Pc) (PostOf Qc mc ms free) (vx_Post XC mc ms free) := by
  intro m meth c A g ig mk a X hg hsize hdg hW hn hp
  have h1 : (headSpec ws rm).pre.before a A.U = true := atoms_intro fun w hw => hws w hw _ _ X.warmed
  have h2 : (Cond.code y bytes maxL ret).before a A.U = true := hws _ hcode _ _ X.warmed
  have h3 : (Cond.initialized y.cls).before a A.U = true := hinit _ _ X.warmed
  have h4 : A.cells + (headSpec ws rm).room.cells ≤ R.cells := by rw [show (headSpec ws rm).room.cells = mc from hrc]; exact hp.1
  have h5 : A.slots + (headSpec ws rm).room.slots ≤ R.slots := by rw [show (headSpec ws rm).room.slots = ms from hrs]; exact hp.2.1
  have hPc : Pc a (A.U.calling g mk a) := hblind _ _ _ _ hp.2.2
  obtain ⟨U, Ls, c0, s0⟩ := A
  dsimp only [Pt.U, Pt.locs, Pt.cells, Pt.slots] at h1 h2 h3 h4 h5 X hn hPc ⊢
  obtain ⟨methY, cY, hmY, hcY, -, hlY, -, -, -, -⟩ := Cond.code_spec hn h2
  obtain ⟨kY, hkY, -⟩ := className_of_methodNamed hn
  have hinitY : kY.init = .initialized := Cond.initialized_spec (findClass_of_methodNamed hn) hkY h3
  have h : At U g.method c below := by rw [hg]; exact X.here
  have hlocals9 : W9 + (maxL + 11) + (headSpec ws rm).room.locals ≤ R.locals := hlocals
  have happ : (headSpec ws rm).appliesLoose y e.platform (U.calling g mk a) = true :=
    Spec.appliesLoose_calling (g := g) h hdg hn hkY hinitY
      (X.room_calling (g := g) (R' := (headSpec ws rm).room) hsize hmY hcY hframes (by rw [hlY]; omega) h4 h5) h1
  obtain ⟨mid, hmid⟩ := h.above
  have hfr : (U.setTop g).frames = (.java g :: mid) ++ below := by rw [State.frames_setTop' g h.top, hmid]; rfl
  obtain ⟨o, s₂, hsteps, -, hend, hq⟩ := Steps.callFree hM p X.admits X.cas X.clock (acts := []) hfr happ hPc trivial
  have hq' : vx_Q Qc XC mc ms free a (U.calling g mk a) o s₂ := hq
  rw [State.frames_setTop' g h.top] at hend
  obtain ⟨g₀, hg0⟩ := Option.isSome_iff_exists.mp h.top
  obtain ⟨r, hr⟩ := State.topJava?_eq_some.mp hg0
  have hr' : (({ U with heap := s₂.heap, slotsUsed := s₂.slotsUsed } : State).setVm s₂.vm).frames = .java g₀ :: r := hr
  rcases hq' with ⟨hqc, L, hfe, hL⟩ | ⟨q, rfl, E, ce, L, hx, hce, hcv, hcl, hW₂, hsm, hL⟩
  · obtain ⟨⟨v, rfl⟩, hW₂, e2, q2, q3, q4, q5, q6⟩ := id hfe
    have e3 : s₂ = ({ (U.calling g mk a).setFrames s₂.frames with heap := s₂.heap, slotsUsed := s₂.slotsUsed } : State).setVm s₂.vm := by
      have : s₂ = ({ s₂ with vm := (U.calling g mk a).vm } : State).setVm s₂.vm := rfl
      rw [e2] at this
      exact this
    obtain ⟨c₂, i₂, len₂, hc₂, hd₂, hf₂⟩ := hend
    have hW' : U.WarmedH s₂.vm := hW₂
    have hcc : c₂ = c := by
      have h1 : s₂.code? g.method = U.code? g.method := by
        rw [State.code?_eq, State.code?_eq, hW'.alike.method?]
      exact Option.some.inj (hc₂.symm.trans (h1.trans h.code))
    subst hcc
    have hlen : len₂ = len := by rw [hdg] at hd₂; cases hd₂; rfl
    subst hlen
    have hs₂ : s₂ = (({ U with heap := s₂.heap, slotsUsed := s₂.slotsUsed } : State).setVm s₂.vm).setTop { g with pc := g.pc + len₂, stack := v.toList ++ g.stack } := by
      refine e3.trans ?_
      rw [hf₂, State.calling_eq h.top, State.setFrames_setFrames, State.setTop_of_frames _ hr', hr]
      rfl
    have hsame : U.sameButNew ({ U with heap := s₂.heap, slotsUsed := s₂.slotsUsed } : State) L mc ms := by
      refine ⟨?_, q2, q3, q4, q5, q6⟩
      obtain ⟨t, ht, -⟩ := State.frames_cons hr
      show ({ U with heap := s₂.heap, slotsUsed := s₂.slotsUsed } : State) = { U.setFrames U.frames with heap := s₂.heap, slotsUsed := s₂.slotsUsed }
      rw [State.setFrames_self ht]
    subst hg
    refine Or.inl ⟨v, ⟨(({ U with heap := s₂.heap, slotsUsed := s₂.slotsUsed } : State).setVm s₂.vm), Ls ++ L, c0 + mc, s0 + ms⟩,
      ⟨X.admits, X.cas, X.clock, X.frames, X.room, X.hears, X.method, X.code, (X.here.setHeapUsed s₂.heap s₂.slotsUsed).setVm hW'.alike, X.tail, State.WarmedH.trans X.warmed hW', X.limits, X.bytes, X.same.trans (hsame.setVm s.vm)⟩,
      ⟨g, mk, s₂, L, rfl, rfl, hqc, rfl, hL, rfl, rfl⟩, ?_⟩
    show Steps p.tables e below _ ((({ U with heap := s₂.heap, slotsUsed := s₂.slotsUsed } : State).setVm s₂.vm).setTop { g with pc := g.pc + len₂, stack := v.toList ++ g.stack })
    rw [← hs₂]
    exact hsteps
  · obtain ⟨e2, q2, q3, q4, q5, q6⟩ := id hsm
    have e3 : s₂ = ({ (U.calling g mk a).setFrames s₂.frames with heap := s₂.heap, slotsUsed := s₂.slotsUsed } : State).setVm s₂.vm := by
      have : s₂ = ({ s₂ with vm := (U.calling g mk a).vm } : State).setVm s₂.vm := rfl
      rw [e2] at this
      exact this
    have hf₂ : s₂.frames = .throwing q :: .java g :: U.frames.tail := hend
    have hW' : U.WarmedH s₂.vm := hW₂
    have hs₂ : s₂ = ((({ U with heap := s₂.heap, slotsUsed := s₂.slotsUsed } : State).setVm s₂.vm).setTop g).pushFrame (.throwing q) := by
      refine e3.trans ?_
      rw [hf₂, State.calling_eq h.top, State.setFrames_setFrames, State.pushFrame, State.frames_setTop _ hr', State.setTop_of_frames _ hr', State.setFrames_setFrames, hr]
      rfl
    have hsame : U.sameButNew ({ U with heap := s₂.heap, slotsUsed := s₂.slotsUsed } : State) L mc ms := by
      refine ⟨?_, q2, q3, q4, q5, q6⟩
      obtain ⟨t, ht, -⟩ := State.frames_cons hr
      show ({ U with heap := s₂.heap, slotsUsed := s₂.slotsUsed } : State) = { U.setFrames U.frames with heap := s₂.heap, slotsUsed := s₂.slotsUsed }
      rw [State.setFrames_self ht]
    subst hg
    refine Or.inr ⟨q, ⟨(({ U with heap := s₂.heap, slotsUsed := s₂.slotsUsed } : State).setVm s₂.vm), Ls ++ L, c0 + mc, s0 + ms⟩,
      ⟨X.admits, X.cas, X.clock, X.frames, X.room, X.hears, X.method, X.code, (X.here.setHeapUsed s₂.heap s₂.slotsUsed).setVm hW'.alike, X.tail, State.WarmedH.trans X.warmed hW', X.limits, X.bytes, X.same.trans (hsame.setVm s.vm)⟩,
      ⟨g, mk, s₂, L, E, ce, rfl, rfl, hx, hce, hcv, hcl, rfl, hL, rfl, rfl⟩, ?_⟩
    show Steps p.tables e below _ (((({ U with heap := s₂.heap, slotsUsed := s₂.slotsUsed } : State).setVm s₂.vm).setTop g).pushFrame (.throwing q))
    rw [← hs₂]
    exact hsteps
end Payer
section Calls
variable {p : Program} {l : Launch} {e : Env} {R : Room} {s : State} {m : MethodId} {args : Array Value} {below : List Frame} {meth : Method} {c : Code} {T : State} {locs : List Loc} {cells slots : Nat}
theorem vx_callV (X : Stand p l e R s m args below meth c T locs cells slots) (hexec : p.tables.exec = Jvm.exec) {own C : String} {index : Nat} {y : MethodName} {bytes : ByteArray} {maxL : Nat} {ret : Option FieldType}
    (hown : s.vm.findClass own = some m.cls) (hlink : (Cond.methodLink own index y).before args s = true) (hinst : (Cond.instanceMethod y).before args s = true) (hsel : (Cond.selects C y y).before args s = true)
    (hcode : (Cond.code y bytes maxL ret).before args s = true) (hy : y.cls ≠ "java/lang/invoke/MethodHandle" ∧ y.cls ≠ "java/lang/invoke/VarHandle")
    {W9 : Nat} {Pre : Pt → Array Value → Prop} {Post : Pt → Array Value → Option Value → Pt → Prop} {PostX : Pt → Array Value → Addr → Pt → Prop} (hK : vx_Back l R p e below s args y 3 W9 Pre Post PostX)
    {b : Addr} {cellB : Cell} (hcell : T.heap[b]? = some cellB) (hobj : cellB.vm.isStatics = false) (hcls : s.vm.findClass C = some cellB.cls)
    {g : JFrame} (hg : g.method = m) (hsize : g.locals.size = c.maxLocals) {argsL rest : List Value} (hlen : ∀ sig, parseMethodDescriptor y.desc = some sig → argsL.length = sig.parameters.length)
    (hstack : g.stack = argsL.reverse ++ .ref b :: rest) (hW : 2 * g.monitorRoom + (rest.map fun v => v.category).sum ≤ W9) (hdg : decode c.code g.pc = .ok (.invokevirtual index, 3))
    (hpre : ∀ vm₁, s.WarmedH vm₁ → Pre ⟨T.setVm vm₁, locs, cells, slots⟩ (Value.ref b :: argsL).toArray) :
    (∃ (v : Option Value) (vm₁ : Vm) (B : Pt), s.WarmedH vm₁ ∧ Stand p l e R s m args below meth c B.U B.locs B.cells B.slots ∧ Post ⟨T.setVm vm₁, locs, cells, slots⟩ (Value.ref b :: argsL).toArray v B ∧
      ∀ target, Steps p.tables e below (B.U.setTop { g with pc := g.pc + 3, stack := v.toList ++ rest }) target → Steps p.tables e below (T.setTop g) target) ∨
    (∃ (q : Addr) (vm₁ : Vm) (B : Pt), s.WarmedH vm₁ ∧ Stand p l e R s m args below meth c B.U B.locs B.cells B.slots ∧ PostX ⟨T.setVm vm₁, locs, cells, slots⟩ (Value.ref b :: argsL).toArray q B ∧
      Steps p.tables e below (T.setTop g) ((B.U.setTop { g with stack := rest }).pushFrame (.throwing q))) := by
  obtain ⟨mk, methM, hnamed, hmethM, hstM, habM⟩ := Cond.instanceMethod_spec hinst
  obtain ⟨methM', cM, hmethM', -, -, -, -, -, -, hsigM⟩ := Cond.code_spec hnamed hcode
  cases hmethM.symm.trans hmethM'
  obtain ⟨c2, r2, m2, q1, q2, q3, q4, kP, hkP, hkPi⟩ := Cond.selects_spec hsel
  cases hcls.symm.trans q1
  cases (State.methodFound?_of_named hnamed hy).symm.trans q2
  cases hnamed.symm.trans q3
  have hselP : selectMethod e.platform s.vm cellB.cls mk = .method mk := by rw [Launch.admits_selectMethod X.admits]; exact q4
  obtain ⟨vm₁, X₁, hstep₁⟩ := X.invokevirtual hexec hown hlink hnamed hmethM hstM hkP hkPi hy (a := b) (cell := cellB) hcell
    (fun z h => by rw [h] at hobj; cases hobj) hselP hmethM habM hkP hkPi (g := g) hg (argsL := argsL) (rest := rest) (hlen _ hsigM) hstack hdg
  rcases hK m meth c ⟨T.setVm vm₁, locs, cells, slots⟩ { g with stack := rest } (.invokevirtual index) mk (Value.ref b :: argsL).toArray X₁ hg hsize hdg hW (X₁.named hnamed) (hpre vm₁ X₁.warmed) with ⟨v, B, X', hpost, hsteps⟩ | ⟨q, B, X', hpost, hsteps⟩
  · exact Or.inl ⟨v, vm₁, B, X₁.warmed, X', hpost, fun target h => hstep₁ _ fun acts => by rw [doInvoke_state]; exact hsteps.trans h⟩
  · exact Or.inr ⟨q, vm₁, B, X₁.warmed, X', hpost, hstep₁ _ fun acts => by rw [doInvoke_state]; exact hsteps⟩
theorem vx_callS (X : Stand p l e R s m args below meth c T locs cells slots) (hexec : p.tables.exec = Jvm.exec) {own : String} {index : Nat} {y : MethodName} {bytes : ByteArray} {maxL : Nat} {ret : Option FieldType}
    (hown : s.vm.findClass own = some m.cls) (hlink : (Cond.methodLink own index y).before args s = true) (hstat : (Cond.static y).before args s = true) (hinit : (Cond.initialized y.cls).before args s = true)
    (hcode : (Cond.code y bytes maxL ret).before args s = true) (hy : y.cls ≠ "java/lang/invoke/MethodHandle" ∧ y.cls ≠ "java/lang/invoke/VarHandle")
    {W9 : Nat} {Pre : Pt → Array Value → Prop} {Post : Pt → Array Value → Option Value → Pt → Prop} {PostX : Pt → Array Value → Addr → Pt → Prop} (hK : vx_Back l R p e below s args y 3 W9 Pre Post PostX)
    {g : JFrame} (hg : g.method = m) (hsize : g.locals.size = c.maxLocals) {argsL rest : List Value} (hlen : ∀ sig, parseMethodDescriptor y.desc = some sig → argsL.length = sig.parameters.length)
    (hstack : g.stack = argsL.reverse ++ rest) (hW : 2 * g.monitorRoom + (rest.map fun v => v.category).sum ≤ W9) (hdg : decode c.code g.pc = .ok (.invokestatic index, 3))
    (hpre : ∀ vm₁, s.WarmedH vm₁ → Pre ⟨T.setVm vm₁, locs, cells, slots⟩ argsL.toArray) :
    (∃ (v : Option Value) (vm₁ : Vm) (B : Pt), s.WarmedH vm₁ ∧ Stand p l e R s m args below meth c B.U B.locs B.cells B.slots ∧ Post ⟨T.setVm vm₁, locs, cells, slots⟩ argsL.toArray v B ∧
      ∀ target, Steps p.tables e below (B.U.setTop { g with pc := g.pc + 3, stack := v.toList ++ rest }) target → Steps p.tables e below (T.setTop g) target) ∨
    (∃ (q : Addr) (vm₁ : Vm) (B : Pt), s.WarmedH vm₁ ∧ Stand p l e R s m args below meth c B.U B.locs B.cells B.slots ∧ PostX ⟨T.setVm vm₁, locs, cells, slots⟩ argsL.toArray q B ∧
      Steps p.tables e below (T.setTop g) ((B.U.setTop { g with stack := rest }).pushFrame (.throwing q))) := by
  obtain ⟨mk, hnamed⟩ := Cond.code_named hcode
  obtain ⟨methM, cM, hmethM, -, -, -, -, -, -, hsigM⟩ := Cond.code_spec hnamed hcode
  have hstatic : methM.isStatic = true := Cond.static_spec hnamed hmethM hstat
  obtain ⟨kP, hkP, -⟩ := className_of_methodNamed hnamed
  have hinitP : kP.init = .initialized := Cond.initialized_spec (findClass_of_methodNamed hnamed) hkP hinit
  obtain ⟨vm₁, X₁, hstep₁⟩ := X.invokestatic hexec hown hlink hnamed hmethM hstatic hkP hinitP hy (g := g) hg (argsL := argsL) (rest := rest) (hlen _ hsigM) hstack hdg
  rcases hK m meth c ⟨T.setVm vm₁, locs, cells, slots⟩ { g with stack := rest } (.invokestatic index) mk argsL.toArray X₁ hg hsize hdg hW (X₁.named hnamed) (hpre vm₁ X₁.warmed) with ⟨v, B, X', hpost, hsteps⟩ | ⟨q, B, X', hpost, hsteps⟩
  · exact Or.inl ⟨v, vm₁, B, X₁.warmed, X', hpost, fun target h => hstep₁ _ fun acts => by rw [doInvoke_state]; exact hsteps.trans h⟩
  · exact Or.inr ⟨q, vm₁, B, X₁.warmed, X', hpost, hstep₁ _ fun acts => by rw [doInvoke_state]; exact hsteps⟩
end Calls
theorem vx_cls {s : State} {T : State} {vm₁ : Vm} {E : String} {k : ClassId} (hW : s.WarmedH vm₁) (h : (T.setVm vm₁).vm.findClass E = some k) : s.vm.findClass E = some k := by
  have h1 : vm₁.findClass E = some k := h
  rw [hW.alike.findClass] at h1
  exact h1
/-- the method's frame g, with q thrown over it -/
def vx_W (p : Program) (l : Launch) (e : Env) (R : Room) (s : State) (m : MethodId) (args : Array Value) (below : List Frame) (meth : Method) (c : Code) (H : Heap) (locs : List Loc) (cells slots : Nat) (Q : State → Prop) (g : JFrame) (q : Addr) : Prop :=
  ∀ T : State, T.heap = H → Stand p l e R s m args below meth c T locs cells slots → ∃ t, Steps p.tables e below ((T.setTop g).pushFrame (.throwing q)) t ∧ Q t
def vx_Run (p : Program) (l : Launch) (e : Env) (R : Room) (s : State) (m : MethodId) (args : Array Value) (below : List Frame) (meth : Method) (c : Code) (H : Heap) (locs : List Loc) (cells slots mc ms : Nat) (g : JFrame) (rest : List Value) (Qa : State → Outcome → State → Prop) (XC : String → State → State → Prop) (free : Addr → Prop) : Prop :=
  ∀ T : State, T.heap = H → Stand p l e R s m args below meth c T locs cells slots →
    (∃ (v : Option Value) (st₀ t T' : State) (L : List Loc), st₀.heap = H ∧ Stand p l e R s m args below meth c T' (locs ++ L) (cells + mc) (slots + ms) ∧ (∀ q ∈ L, free q.base) ∧ T'.heap = t.heap ∧ T'.vm = t.vm ∧ Qa st₀ (.returned v) t ∧
      Goes p e below T g T' { g with pc := g.pc + 3, stack := v.toList ++ rest }) ∨
    (∃ (q : Addr) (st₀ t T' : State) (L : List Loc) (E : String) (ce : Cell), st₀.heap = H ∧ Stand p l e R s m args below meth c T' (locs ++ L) (cells + mc) (slots + ms) ∧ (∀ z ∈ L, free z.base) ∧ T'.heap = t.heap ∧ T'.vm = t.vm ∧ XC E st₀ t ∧ t.heap[q]? = some ce ∧ ce.vm = .none ∧ s.vm.findClass E = some ce.cls ∧
      Steps p.tables e below (T.setTop g) ((T'.setTop { g with stack := rest }).pushFrame (.throwing q)))
def vx_X {S : Type} (px : S → Prop) (B : String → S → State → Prop) (A : Nat → Prop) : String → State → State → Prop := fun E st t => ∃ u : S, px u ∧ B E u t ∧ va_F A st t
section Runs
variable {p : Program} {l : Launch} {e : Env} {R : Room} {s : State} {m : MethodId} {args : Array Value} {below : List Frame} {meth : Method} {c : Code} {H : Heap} {locs : List Loc} {cells slots : Nat}
variable {y : MethodName} {bytes cc : ByteArray} {maxL nL mc ms n index : Nat} {ret : Option FieldType} {ws : List Cond} {rm : Room} {Pc : Array Value → State → Prop} {Qc : Array Value → State → Outcome → State → Prop} {XC : String → State → State → Prop} {free : Addr → Prop} {Ts : List Cond} {own C : String} {b : Addr} {As rest : List Value} {g : JFrame}
theorem vx_callBack (cb : CallB R s args own index y bytes maxL ret ws rm mc ms n) (hM : vx_Met l y ws rm Pc Qc XC mc ms free) (hbl : FrameBlind Pc) : vx_Back l R p e below s args y 3 8 (PreOf R mc ms Pc) (PostOf Qc mc ms free) (vx_Post XC mc ms free) := by
  obtain ⟨hrc, hrs, hfr, hlo, hws, hcw, -, hini, -⟩ := cb
  exact vx_back (bytes := bytes) (maxL := maxL) (ret := ret) hM hbl hrc hrs hfr hlo hws hcw (fun a' U hW => word_at hW (Or.inl (by first | rfl | simp [Cond.onTables, Cond.keeps, Cond.steady])) hini)
theorem vx_runV (S : CallFix p m c cc nL s args Ts own) (hM : vx_Met l y ws rm Pc Qc XC mc ms free) (cw : CallW R s args own C index y bytes maxL ret ws rm mc ms n) (hp : PreV s H C b Pc As)
    (hg : g.method = m) (hn : As.length = n) (hsize : g.locals.size = nL) (hstack : g.stack = As.reverse ++ .ref b :: rest) (hW : 2 * g.monitorRoom + (rest.map fun v => v.category).sum ≤ 8) (hdg : decode cc g.pc = .ok (.invokevirtual index, 3)) (hf : cells + mc ≤ R.cells ∧ slots + ms ≤ R.slots) :
    vx_Run p l e R s m args below meth c H locs cells slots mc ms g rest (Qc (Value.ref b :: As).toArray) XC free := by
  have hK : vx_Back l R p e below s args y 3 8 (PreOf R mc ms Pc) (PostOf Qc mc ms free) (vx_Post XC mc ms free) := vx_callBack cw.1 hM hp.1
  obtain ⟨⟨-, -, -, -, -, -, hcode, -, hy, hlen, hl⟩, hin, hse⟩ := cw
  obtain ⟨hx, hb, hml, ho, -⟩ := S
  obtain ⟨-, ⟨cellB, hcB, hoB, hclB⟩, hPc⟩ := hp
  intro T hT X
  rcases vx_callV X hx (C := C) (bytes := bytes) (maxL := maxL) (ret := ret) ho hl hin hse hcode hy hK (by rw [hT]; exact hcB) hoB hclB hg (hsize.trans hml.symm) (argsL := As) (rest := rest) (fun sig h => hn.trans (hlen sig h)) hstack hW (by rw [hb]; exact hdg)
    (fun vm₁ hW₁ => ⟨hf.1, hf.2, hPc (T.setVm vm₁) hT hW₁⟩) with ⟨v, vm₁, ⟨U', l2, c2, s2⟩, hW₁, X', ⟨g', mk, t, L, e1, e2, hq, h1, hL, h2, h3⟩, st⟩ | ⟨q, vm₁, ⟨U', l2, c2, s2⟩, hW₁, X', ⟨g', mk, t, L, E, ce, e1, e2, hq, hce, hcv, hcl, h1, hL, h2, h3⟩, st⟩
  · dsimp only [Pt.U, Pt.locs, Pt.cells, Pt.slots] at X' e1 e2 h1 h2 h3 st
    subst h1; subst h2; subst h3
    exact Or.inl ⟨v, (T.setVm vm₁).calling g' mk (Value.ref b :: As).toArray, t, U', L, hT, X', hL, e1, e2, hq, st⟩
  · dsimp only [Pt.U, Pt.locs, Pt.cells, Pt.slots] at X' e1 e2 h1 h2 h3 st hcl
    subst h1; subst h2; subst h3
    exact Or.inr ⟨q, (T.setVm vm₁).calling g' mk (Value.ref b :: As).toArray, t, U', L, E, ce, hT, X', hL, e1, e2, hq, hce, hcv, vx_cls hW₁ hcl, st⟩
theorem vx_runS (S : CallFix p m c cc nL s args Ts own) (hM : vx_Met l y ws rm Pc Qc XC mc ms free) (cw : CallB R s args own index y bytes maxL ret ws rm mc ms n ∧ (Cond.static y).before args s = true) (hp : PreS s H Pc As)
    (hg : g.method = m) (hn : As.length = n) (hsize : g.locals.size = nL) (hstack : g.stack = As.reverse ++ rest) (hW : 2 * g.monitorRoom + (rest.map fun v => v.category).sum ≤ 8) (hdg : decode cc g.pc = .ok (.invokestatic index, 3)) (hf : cells + mc ≤ R.cells ∧ slots + ms ≤ R.slots) :
    vx_Run p l e R s m args below meth c H locs cells slots mc ms g rest (Qc As.toArray) XC free := by
  have hK : vx_Back l R p e below s args y 3 8 (PreOf R mc ms Pc) (PostOf Qc mc ms free) (vx_Post XC mc ms free) := vx_callBack cw.1 hM hp.1
  obtain ⟨⟨-, -, -, -, -, -, hcode, hini, hy, hlen, hl⟩, hstt⟩ := cw
  obtain ⟨hx, hb, hml, ho, -⟩ := S
  intro T hT X
  rcases vx_callS X hx (bytes := bytes) (maxL := maxL) (ret := ret) ho hl hstt hini hcode hy hK hg (hsize.trans hml.symm) (argsL := As) (rest := rest) (fun sig h => hn.trans (hlen sig h)) hstack hW (by rw [hb]; exact hdg)
    (fun vm₁ hW₁ => ⟨hf.1, hf.2, hp.2 (T.setVm vm₁) hT hW₁⟩) with ⟨v, vm₁, ⟨U', l2, c2, s2⟩, hW₁, X', ⟨g', mk, t, L, e1, e2, hq, h1, hL, h2, h3⟩, st⟩ | ⟨q, vm₁, ⟨U', l2, c2, s2⟩, hW₁, X', ⟨g', mk, t, L, E, ce, e1, e2, hq, hce, hcv, hcl, h1, hL, h2, h3⟩, st⟩
  · dsimp only [Pt.U, Pt.locs, Pt.cells, Pt.slots] at X' e1 e2 h1 h2 h3 st
    subst h1; subst h2; subst h3
    exact Or.inl ⟨v, (T.setVm vm₁).calling g' mk As.toArray, t, U', L, hT, X', hL, e1, e2, hq, st⟩
  · dsimp only [Pt.U, Pt.locs, Pt.cells, Pt.slots] at X' e1 e2 h1 h2 h3 st hcl
    subst h1; subst h2; subst h3
    exact Or.inr ⟨q, (T.setVm vm₁).calling g' mk As.toArray, t, U', L, E, ce, hT, X', hL, e1, e2, hq, hce, hcv, vx_cls hW₁ hcl, st⟩
end Runs
section Rows
variable {p : Program} {l : Launch} {e : Env} {R : Room} {s : State} {m : MethodId} {args : Array Value} {below : List Frame} {meth : Method} {c : Code} {H : Heap} {locs : List Loc} {cells slots : Nat} {Q : State → Prop}
variable {mc ms : Nat} {free : Addr → Prop} {A0 A1 : Nat → Prop} {H0 : Heap} {a : Array Value} {pc : Nat} {ls : Array Slot} {st0 rest : List Value}
theorem vx_keep {st₀ t T' : State} {L : List Loc} (h0 : st₀.heap = H) (e1 : T'.heap = t.heap) (hS : va_S A0 H0 H locs) (hA : ∀ q, q < H.size → A1 q → A0 q) (hf : ∀ q, free q → A0 q) (hL : ∀ q ∈ L, free q.base) (hF : va_F A1 st₀ t) :
    H.size ≤ T'.heap.size ∧ (∀ q : Nat, q < H.size → ¬ A1 q → T'.heap[q]? = H[q]?) ∧ va_S A0 H0 T'.heap (locs ++ L) := by
  obtain ⟨hz, hk⟩ := hF
  rw [h0] at hz hk
  exact ⟨by rw [e1]; exact hz, fun q h1 h2 => by rw [e1]; exact hk q h1 h2,
    ⟨Nat.le_trans hS.1 (by rw [e1]; exact hz), fun q h1 h2 => by rw [e1, hk q (Nat.lt_of_lt_of_le h1 hS.1) (fun z => h2 (hA q (Nat.lt_of_lt_of_le h1 hS.1) z))]; exact hS.2.1 q h1 h2, fun q hq => by
      rcases List.mem_append.mp hq with h | h
      · exact hS.2.2 q h
      · exact hf _ (hL q h)⟩⟩
theorem vx_calli {S SX : Type} {post : Int32 → S → Prop} {px : SX → Prop} {B : S → State → Prop} {BX : String → SX → State → Prop} {AX : Nat → Prop} (hr : vx_Run p l e R s m args below meth c H locs cells slots mc ms (F0 m pc ls st0) rest (va_Qi post B A1 a) (vx_X px BX AX) free) (hS : va_S A0 H0 H locs) (hA : ∀ q, q < H.size → A1 q → A0 q) (hf : ∀ q, free q → A0 q) (hAX : ∀ q, q < H.size → AX q → A0 q)
    (kx : ∀ (E : String) (ce : Cell) (q9 : Addr) (u : SX) (t : State) (H1 : Heap) (locs1 : List Loc), t.heap = H1 → s.vm.Alike t.vm → px u → BX E u t → H.size ≤ H1.size → (∀ q : Nat, q < H.size → ¬ AX q → H1[q]? = H[q]?) → va_S A0 H0 H1 locs1 → H1[q9]? = some ce → ce.vm = .none → s.vm.findClass E = some ce.cls → vx_W p l e R s m args below meth c H1 locs1 (cells + mc) (slots + ms) Q (F0 m pc ls rest) q9)
    (kk : ∀ (r : Int32) (u : S) (t : State) (H1 : Heap) (locs1 : List Loc), t.heap = H1 → s.vm.Alike t.vm → post r u → B u t → H.size ≤ H1.size → (∀ q : Nat, q < H.size → ¬ A1 q → H1[q]? = H[q]?) → va_S A0 H0 H1 locs1 → W p l e R s m args below meth c H1 locs1 (cells + mc) (slots + ms) Q (F0 m (pc + 3) ls (.int r :: rest))) : W p l e R s m args below meth c H locs cells slots Q (F0 m pc ls st0) := by
  intro T hT X
  rcases hr T hT X with ⟨v, st₀, t, T', L, h0, X', hL, e1, e2, ⟨⟨r, u, hv, hp, hb⟩, hF⟩, st⟩ | ⟨q, st₀, t, T', L, E, ce, h0, X', hL, e1, e2, ⟨u, hp, hb, hF⟩, hce, hcv, hcl, st⟩
  · cases hv
    obtain ⟨k1, k2, k3⟩ := vx_keep h0 e1 hS hA hf hL hF
    obtain ⟨t2, a1, b1⟩ := kk r u t T'.heap (locs ++ L) e1.symm (by rw [← e2]; exact X'.warmed.alike) hp hb k1 k2 k3 T' rfl X'
    exact ⟨t2, st t2 a1, b1⟩
  · obtain ⟨k1, k2, k3⟩ := vx_keep h0 e1 hS hAX hf hL hF
    obtain ⟨t2, a1, b1⟩ := kx E ce q u t T'.heap (locs ++ L) e1.symm (by rw [← e2]; exact X'.warmed.alike) hp hb k1 k2 k3 (by rw [e1]; exact hce) hcv hcl T' rfl X'
    exact ⟨t2, st.trans a1, b1⟩
theorem vx_calll {S SX : Type} {post : Int64 → S → Prop} {px : SX → Prop} {B : S → State → Prop} {BX : String → SX → State → Prop} {AX : Nat → Prop} (hr : vx_Run p l e R s m args below meth c H locs cells slots mc ms (F0 m pc ls st0) rest (va_Ql post B A1 a) (vx_X px BX AX) free) (hS : va_S A0 H0 H locs) (hA : ∀ q, q < H.size → A1 q → A0 q) (hf : ∀ q, free q → A0 q) (hAX : ∀ q, q < H.size → AX q → A0 q)
    (kx : ∀ (E : String) (ce : Cell) (q9 : Addr) (u : SX) (t : State) (H1 : Heap) (locs1 : List Loc), t.heap = H1 → s.vm.Alike t.vm → px u → BX E u t → H.size ≤ H1.size → (∀ q : Nat, q < H.size → ¬ AX q → H1[q]? = H[q]?) → va_S A0 H0 H1 locs1 → H1[q9]? = some ce → ce.vm = .none → s.vm.findClass E = some ce.cls → vx_W p l e R s m args below meth c H1 locs1 (cells + mc) (slots + ms) Q (F0 m pc ls rest) q9)
    (kk : ∀ (r : Int64) (u : S) (t : State) (H1 : Heap) (locs1 : List Loc), t.heap = H1 → s.vm.Alike t.vm → post r u → B u t → H.size ≤ H1.size → (∀ q : Nat, q < H.size → ¬ A1 q → H1[q]? = H[q]?) → va_S A0 H0 H1 locs1 → W p l e R s m args below meth c H1 locs1 (cells + mc) (slots + ms) Q (F0 m (pc + 3) ls (.long r :: rest))) : W p l e R s m args below meth c H locs cells slots Q (F0 m pc ls st0) := by
  intro T hT X
  rcases hr T hT X with ⟨v, st₀, t, T', L, h0, X', hL, e1, e2, ⟨⟨r, u, hv, hp, hb⟩, hF⟩, st⟩ | ⟨q, st₀, t, T', L, E, ce, h0, X', hL, e1, e2, ⟨u, hp, hb, hF⟩, hce, hcv, hcl, st⟩
  · cases hv
    obtain ⟨k1, k2, k3⟩ := vx_keep h0 e1 hS hA hf hL hF
    obtain ⟨t2, a1, b1⟩ := kk r u t T'.heap (locs ++ L) e1.symm (by rw [← e2]; exact X'.warmed.alike) hp hb k1 k2 k3 T' rfl X'
    exact ⟨t2, st t2 a1, b1⟩
  · obtain ⟨k1, k2, k3⟩ := vx_keep h0 e1 hS hAX hf hL hF
    obtain ⟨t2, a1, b1⟩ := kx E ce q u t T'.heap (locs ++ L) e1.symm (by rw [← e2]; exact X'.warmed.alike) hp hb k1 k2 k3 (by rw [e1]; exact hce) hcv hcl T' rfl X'
    exact ⟨t2, st.trans a1, b1⟩
theorem vx_callf {S SX : Type} {post : UInt32 → S → Prop} {px : SX → Prop} {B : S → State → Prop} {BX : String → SX → State → Prop} {AX : Nat → Prop} (hr : vx_Run p l e R s m args below meth c H locs cells slots mc ms (F0 m pc ls st0) rest (va_Qf post B A1 a) (vx_X px BX AX) free) (hS : va_S A0 H0 H locs) (hA : ∀ q, q < H.size → A1 q → A0 q) (hf : ∀ q, free q → A0 q) (hAX : ∀ q, q < H.size → AX q → A0 q)
    (kx : ∀ (E : String) (ce : Cell) (q9 : Addr) (u : SX) (t : State) (H1 : Heap) (locs1 : List Loc), t.heap = H1 → s.vm.Alike t.vm → px u → BX E u t → H.size ≤ H1.size → (∀ q : Nat, q < H.size → ¬ AX q → H1[q]? = H[q]?) → va_S A0 H0 H1 locs1 → H1[q9]? = some ce → ce.vm = .none → s.vm.findClass E = some ce.cls → vx_W p l e R s m args below meth c H1 locs1 (cells + mc) (slots + ms) Q (F0 m pc ls rest) q9)
    (kk : ∀ (r : UInt32) (u : S) (t : State) (H1 : Heap) (locs1 : List Loc), t.heap = H1 → s.vm.Alike t.vm → post r u → B u t → H.size ≤ H1.size → (∀ q : Nat, q < H.size → ¬ A1 q → H1[q]? = H[q]?) → va_S A0 H0 H1 locs1 → W p l e R s m args below meth c H1 locs1 (cells + mc) (slots + ms) Q (F0 m (pc + 3) ls (.float r :: rest))) : W p l e R s m args below meth c H locs cells slots Q (F0 m pc ls st0) := by
  intro T hT X
  rcases hr T hT X with ⟨v, st₀, t, T', L, h0, X', hL, e1, e2, ⟨⟨r, u, hv, hp, hb⟩, hF⟩, st⟩ | ⟨q, st₀, t, T', L, E, ce, h0, X', hL, e1, e2, ⟨u, hp, hb, hF⟩, hce, hcv, hcl, st⟩
  · cases hv
    obtain ⟨k1, k2, k3⟩ := vx_keep h0 e1 hS hA hf hL hF
    obtain ⟨t2, a1, b1⟩ := kk r u t T'.heap (locs ++ L) e1.symm (by rw [← e2]; exact X'.warmed.alike) hp hb k1 k2 k3 T' rfl X'
    exact ⟨t2, st t2 a1, b1⟩
  · obtain ⟨k1, k2, k3⟩ := vx_keep h0 e1 hS hAX hf hL hF
    obtain ⟨t2, a1, b1⟩ := kx E ce q u t T'.heap (locs ++ L) e1.symm (by rw [← e2]; exact X'.warmed.alike) hp hb k1 k2 k3 (by rw [e1]; exact hce) hcv hcl T' rfl X'
    exact ⟨t2, st.trans a1, b1⟩
theorem vx_calld {S SX : Type} {post : UInt64 → S → Prop} {px : SX → Prop} {B : S → State → Prop} {BX : String → SX → State → Prop} {AX : Nat → Prop} (hr : vx_Run p l e R s m args below meth c H locs cells slots mc ms (F0 m pc ls st0) rest (va_Qd post B A1 a) (vx_X px BX AX) free) (hS : va_S A0 H0 H locs) (hA : ∀ q, q < H.size → A1 q → A0 q) (hf : ∀ q, free q → A0 q) (hAX : ∀ q, q < H.size → AX q → A0 q)
    (kx : ∀ (E : String) (ce : Cell) (q9 : Addr) (u : SX) (t : State) (H1 : Heap) (locs1 : List Loc), t.heap = H1 → s.vm.Alike t.vm → px u → BX E u t → H.size ≤ H1.size → (∀ q : Nat, q < H.size → ¬ AX q → H1[q]? = H[q]?) → va_S A0 H0 H1 locs1 → H1[q9]? = some ce → ce.vm = .none → s.vm.findClass E = some ce.cls → vx_W p l e R s m args below meth c H1 locs1 (cells + mc) (slots + ms) Q (F0 m pc ls rest) q9)
    (kk : ∀ (r : UInt64) (u : S) (t : State) (H1 : Heap) (locs1 : List Loc), t.heap = H1 → s.vm.Alike t.vm → post r u → B u t → H.size ≤ H1.size → (∀ q : Nat, q < H.size → ¬ A1 q → H1[q]? = H[q]?) → va_S A0 H0 H1 locs1 → W p l e R s m args below meth c H1 locs1 (cells + mc) (slots + ms) Q (F0 m (pc + 3) ls (.double r :: rest))) : W p l e R s m args below meth c H locs cells slots Q (F0 m pc ls st0) := by
  intro T hT X
  rcases hr T hT X with ⟨v, st₀, t, T', L, h0, X', hL, e1, e2, ⟨⟨r, u, hv, hp, hb⟩, hF⟩, st⟩ | ⟨q, st₀, t, T', L, E, ce, h0, X', hL, e1, e2, ⟨u, hp, hb, hF⟩, hce, hcv, hcl, st⟩
  · cases hv
    obtain ⟨k1, k2, k3⟩ := vx_keep h0 e1 hS hA hf hL hF
    obtain ⟨t2, a1, b1⟩ := kk r u t T'.heap (locs ++ L) e1.symm (by rw [← e2]; exact X'.warmed.alike) hp hb k1 k2 k3 T' rfl X'
    exact ⟨t2, st t2 a1, b1⟩
  · obtain ⟨k1, k2, k3⟩ := vx_keep h0 e1 hS hAX hf hL hF
    obtain ⟨t2, a1, b1⟩ := kx E ce q u t T'.heap (locs ++ L) e1.symm (by rw [← e2]; exact X'.warmed.alike) hp hb k1 k2 k3 (by rw [e1]; exact hce) hcv hcl T' rfl X'
    exact ⟨t2, st.trans a1, b1⟩
theorem vx_callv {S SX : Type} {post : S → Prop} {px : SX → Prop} {B : S → State → Prop} {BX : String → SX → State → Prop} {AX : Nat → Prop} (hr : vx_Run p l e R s m args below meth c H locs cells slots mc ms (F0 m pc ls st0) rest (va_Qv post B A1 a) (vx_X px BX AX) free) (hS : va_S A0 H0 H locs) (hA : ∀ q, q < H.size → A1 q → A0 q) (hf : ∀ q, free q → A0 q) (hAX : ∀ q, q < H.size → AX q → A0 q)
    (kx : ∀ (E : String) (ce : Cell) (q9 : Addr) (u : SX) (t : State) (H1 : Heap) (locs1 : List Loc), t.heap = H1 → s.vm.Alike t.vm → px u → BX E u t → H.size ≤ H1.size → (∀ q : Nat, q < H.size → ¬ AX q → H1[q]? = H[q]?) → va_S A0 H0 H1 locs1 → H1[q9]? = some ce → ce.vm = .none → s.vm.findClass E = some ce.cls → vx_W p l e R s m args below meth c H1 locs1 (cells + mc) (slots + ms) Q (F0 m pc ls rest) q9)
    (kk : ∀ (u : S) (t : State) (H1 : Heap) (locs1 : List Loc), t.heap = H1 → s.vm.Alike t.vm → post u → B u t → H.size ≤ H1.size → (∀ q : Nat, q < H.size → ¬ A1 q → H1[q]? = H[q]?) → va_S A0 H0 H1 locs1 → W p l e R s m args below meth c H1 locs1 (cells + mc) (slots + ms) Q (F0 m (pc + 3) ls (rest))) : W p l e R s m args below meth c H locs cells slots Q (F0 m pc ls st0) := by
  intro T hT X
  rcases hr T hT X with ⟨v, st₀, t, T', L, h0, X', hL, e1, e2, ⟨⟨u, hv, hp, hb⟩, hF⟩, st⟩ | ⟨q, st₀, t, T', L, E, ce, h0, X', hL, e1, e2, ⟨u, hp, hb, hF⟩, hce, hcv, hcl, st⟩
  · cases hv
    obtain ⟨k1, k2, k3⟩ := vx_keep h0 e1 hS hA hf hL hF
    obtain ⟨t2, a1, b1⟩ := kk u t T'.heap (locs ++ L) e1.symm (by rw [← e2]; exact X'.warmed.alike) hp hb k1 k2 k3 T' rfl X'
    exact ⟨t2, st t2 a1, b1⟩
  · obtain ⟨k1, k2, k3⟩ := vx_keep h0 e1 hS hAX hf hL hF
    obtain ⟨t2, a1, b1⟩ := kx E ce q u t T'.heap (locs ++ L) e1.symm (by rw [← e2]; exact X'.warmed.alike) hp hb k1 k2 k3 (by rw [e1]; exact hce) hcv hcl T' rfl X'
    exact ⟨t2, st.trans a1, b1⟩
/-- caught by the row x of this method's table; the rows ahead don't take it -/
theorem vx_catch {own name : String} {E : String} {ce : Cell} {q : Addr} (hown : s.vm.findClass own = some m.cls) (pre : List ExceptionTableEntry) (x : ExceptionTableEntry) (suf : List ExceptionTableEntry) (hsplit : c.exceptionTable.toList = pre ++ x :: suf)
    (hpass : ∀ z ∈ pre, covers z pc = false ∨ (z.catchType ≠ 0 ∧ ∃ nm : String, (Cond.classLink own z.catchType nm).before args s = true ∧ va_Nc E nm s)) (hx : covers x pc = true) (h0 : x.catchType ≠ 0)
    (hlink : (Cond.classLink own x.catchType name).before args s = true) (hcast : (Cond.castable E name).before args s = true) (hcell : H[q]? = some ce) (hv : ce.vm = .none) (hcl : s.vm.findClass E = some ce.cls)
    (kk : W p l e R s m args below meth c H locs cells slots Q (F0 m x.handlerPc ls [.ref q])) : vx_W p l e R s m args below meth c H locs cells slots Q (F0 m pc ls rest) q := by
  intro T hT X
  have hpl : e.platform.magicAccessors = ({} : Platform).magicAccessors := by rw [X.admits.platform]
  obtain ⟨c3, c4, hc3, hc4, hasg⟩ := Cond.castable_spec hcast
  cases Option.some.inj (hc3.symm.trans hcl)
  obtain ⟨c5, hc5, hcl5⟩ := Cond.classLink_spec hown hlink e.platform hpl
  cases Option.some.inj (hc4.symm.trans hc5)
  obtain ⟨vm', X', st⟩ := X.thenCaughtThrough q (g := F0 m pc ls rest) rfl (Steps.refl _) (by rw [hT]; exact hcell) (by rw [hv]; rfl) (by obtain ⟨k9, h9, -⟩ := Vm.findClass_spec hcl; exact ⟨k9, h9⟩) pre x suf hsplit
    (fun z hz => by
      rcases hpass z hz with h | ⟨hz0, nm, hl1, hn1⟩
      · exact Or.inl h
      · obtain ⟨c6, hc6, hcl6⟩ := Cond.classLink_spec hown hl1 e.platform hpl
        obtain ⟨a8, b8, h1, h2, h3⟩ := hn1
        cases Option.some.inj (h1.symm.trans hcl)
        cases Option.some.inj (h2.symm.trans hc6)
        exact Or.inr ⟨hz0, _, hcl6, h3⟩) hx (Or.inr ⟨h0, c4, hcl5, hasg⟩)
  obtain ⟨t, a1, b1⟩ := kk (T.setVm vm') hT X'
  exact ⟨t, st.trans a1, b1⟩
end Rows
section Ends
variable {p : Program} {l : Launch} {e : Env} {R : Room} {s : State} {m : MethodId} {args : Array Value} {below : List Frame} {meth : Method} {c : Code} {H : Heap} {locs : List Loc} {cells slots : Nat} {Q : State → Prop}
variable {mc ms : Nat} {free : Addr → Prop} {A0 A1 : Nat → Prop} {H0 : Heap} {a : Array Value} {ls : Array Slot} {st0 rest : List Value}
variable {Qc : Array Value → State → Outcome → State → Prop} {XC : String → State → State → Prop}
/-- what a body that may throw owes at its end -/
def vx_MQ (below : List Frame) (Qc : Array Value → State → Outcome → State → Prop) (XC : String → State → State → Prop) (a : Array Value) (s : State) (mc ms : Nat) (free : Addr → Prop) : State → Prop := fun t =>
  ∃ o, t.status = .running ∧ Ended t below o ∧ vx_Q Qc XC mc ms free a s o t
theorem vx_ret {g : JFrame} {mc ms : Nat} (k : W p l e R s m args below meth c H locs cells slots (MQ below Qc args s mc ms free) g) : W p l e R s m args below meth c H locs cells slots (vx_MQ below Qc XC args s mc ms free) g := by
  intro T hT X
  obtain ⟨t, a1, o, b1, b2, b3, b4⟩ := k T hT X
  exact ⟨t, a1, o, b1, b2, Or.inl ⟨b3, b4⟩⟩
/-- not caught here: it goes on to the caller -/
theorem vx_widen {g : JFrame} {q : Addr} {k n : Nat} (h1 : cells ≤ k) (h2 : slots ≤ n) (kk : vx_W p l e R s m args below meth c H locs k n Q g q) : vx_W p l e R s m args below meth c H locs cells slots Q g q := fun T hT X => kk T hT (stand_widen X h1 h2)
theorem vx_out {pc : Nat} {E : String} {ce : Cell} {q : Addr} {mc ms : Nat} (hout : ∀ x ∈ c.exceptionTable.toList, covers x pc = false) (hlocks : meth.locks = false) (hcell : H[q]? = some ce) (hv : ce.vm = .none) (hcl : s.vm.findClass E = some ce.cls)
    (hx : ∀ t : State, t.heap = H → s.vm.Alike t.vm → XC E s t) (hf : ∀ z ∈ locs, free z.base) (hc : cells ≤ mc) (hs : slots ≤ ms) :
    vx_W p l e R s m args below meth c H locs cells slots (vx_MQ below Qc XC args s mc ms free) (F0 m pc ls rest) q := by
  intro T hT X
  obtain ⟨st1, hrun, hend, hW, hsm⟩ := X.leaveThrown q (g := F0 m pc ls rest) rfl rfl rfl hout hlocks
  have hcell9 : (T.setFrames (.throwing q :: below)).heap[q]? = some ce := by
    show T.heap[q]? = some ce
    rw [hT]; exact hcell
  exact ⟨_, st1, .threw q, hrun, hend, Or.inr ⟨q, rfl, E, ce, locs, hx _ hT hW.alike, hcell9, hv, hcl, hW, hsm.mono hc hs, hf⟩⟩
theorem vx_frame {U : State} {k n : Nat} (h : s.sameButNew ({ U with vm := s.vm } : State) locs k n) : s.heap.size ≤ U.heap.size ∧ ∀ q : Nat, q < s.heap.size → (∀ z ∈ locs, z.base ≠ q) → U.heap[q]? = s.heap[q]? := by
  obtain ⟨-, h2, -, -, -, h6⟩ := h
  refine ⟨h2, fun q hq hz => ?_⟩
  obtain ⟨c9, e1, e2, e3, e4⟩ := h6 q _ (Array.getElem?_eq_getElem hq)
  have hs : c9.slots = (s.heap[q]).slots := Array.ext_getElem? fun i => e4 i fun hm => hz _ hm rfl
  have h9 : c9 = s.heap[q] := by
    rw [hs] at e2
    exact e2
  have e5 : U.heap[q]? = some c9 := e1
  rw [e5, h9, Array.getElem?_eq_getElem hq]
/-- the words of a throw but the four that speak of the heap -/
def vx_no (w : Cond) : Bool := decide (w ≠ .isRef (.static Bundle.tN "UNASSIGNED_STACK" Bundle.steD)) && decide (w ≠ .isRef (.static Bundle.tN "SUPPRESSED_SENTINEL" Bundle.listD)) && decide (w ≠ .laysStatic Bundle.tN "UNASSIGNED_STACK" Bundle.steD) && decide (w ≠ .laysStatic Bundle.tN "SUPPRESSED_SENTINEL" Bundle.listD)
def vx_at0 (own : String) (ic : Nat) (X : String) (names : List String) : List Cond := (Bundle.ownAtoms0 own ic X names).filter vx_no
def vx_atS (own : String) (ic : Nat) (X : String) (names : List String) : List Cond := (Bundle.ownAtoms own ic X names).filter vx_no
/-- a word that the tables alone decide, or a good one -/
def vx_ot (w : Cond) : Bool := w.onTables || goodWord w
theorem vx_ot_at {args a' : Array Value} {s U : State} {w : Cond} (hW : s.WarmedH U.vm) (hvm : s.vm = U.vm) (hg : vx_ot w = true) (h : w.before args s = true) : w.before a' U = true := by
  simp only [vx_ot, Bool.or_eq_true] at hg
  rcases hg with hg | hg
  · exact va_tabs hg hvm h
  · exact word_at hW (good_of_word hg) h
/-- a list's words: the good ones out of the method's own list, the others by premises of their own -/
theorem vx_hat {args : Array Value} {s : State} {L B : List Cond} (h1 : ∀ w ∈ L.filter goodWord, w.before args s = true) (h2 : ∀ w ∈ L.filter (fun w => !goodWord w), w ∈ B) (h3 : ∀ w ∈ B, w.before args s = true) : ∀ w ∈ L, w.before args s = true := by
  intro w hw
  by_cases g : goodWord w = true
  · exact h1 w (List.mem_filter.mpr ⟨hw, g⟩)
  · refine h3 w (h2 w (List.mem_filter.mpr ⟨hw, ?_⟩))
    show (!goodWord w) = true
    cases hgw : goodWord w
    · rfl
    · exact absurd hgw g
theorem vx_c {args : Array Value} {s : State} {w : Cond} {B : List Cond} (h : w.before args s = true) (t : ∀ w ∈ B, w.before args s = true) : ∀ w' ∈ w :: B, w'.before args s = true := fun w' h' => (List.mem_cons.mp h').elim (fun e => by rw [e]; exact h) (t w')
theorem vx_n {args : Array Value} {s : State} : ∀ w ∈ ([] : List Cond), w.before args s = true := fun _ h => nomatch h
theorem vx_own {args : Array Value} {s : State} {L : List Cond} (h1 : ∀ w ∈ L.filter vx_no, w.before args s = true)
    (hU : (Cond.isRef (.static Bundle.tN "UNASSIGNED_STACK" Bundle.steD)).before args s = true) (hN : (Cond.isRef (.static Bundle.tN "SUPPRESSED_SENTINEL" Bundle.listD)).before args s = true)
    (lU : (Cond.laysStatic Bundle.tN "UNASSIGNED_STACK" Bundle.steD).before args s = true) (lN : (Cond.laysStatic Bundle.tN "SUPPRESSED_SENTINEL" Bundle.listD).before args s = true) : ∀ w ∈ L, w.before args s = true := by
  intro w hw
  by_cases e1 : w = .isRef (.static Bundle.tN "UNASSIGNED_STACK" Bundle.steD)
  · rw [e1]; exact hU
  · by_cases e2 : w = .isRef (.static Bundle.tN "SUPPRESSED_SENTINEL" Bundle.listD)
    · rw [e2]; exact hN
    · by_cases e3 : w = .laysStatic Bundle.tN "UNASSIGNED_STACK" Bundle.steD
      · rw [e3]; exact lU
      · by_cases e4 : w = .laysStatic Bundle.tN "SUPPRESSED_SENTINEL" Bundle.listD
        · rw [e4]; exact lN
        · exact h1 w (List.mem_filter.mpr ⟨hw, by unfold vx_no; rw [decide_eq_true e1, decide_eq_true e2, decide_eq_true e3, decide_eq_true e4]; rfl⟩)
/-- where a static field lies, its class's statics cell in H -/
def vx_L (C n d : String) (A : Nat → Prop) (U : State) (H : Heap) : Prop := ∃ (c : ClassId) (k : Class) (i : Nat) (f : Field) (a : Nat) (cell : Cell), U.vm.findClass C = some c ∧ U.fieldFound? C n d = some (c, k, i, f) ∧ f.isStatic = true ∧ k.statics = some a ∧ H[a]? = some cell ∧ cell.vm.isStatics = true ∧ cell.cls = c ∧ f.slot < cell.slots.size ∧ k.staticTypes[f.slot]? = some f.type ∧ ¬ A a
theorem vx_L.moved {C n d : String} {A : Nat → Prop} {u U : State} {H : Heap} (hvm : u.vm.Alike U.vm) (h : vx_L C n d A u H) : vx_L C n d A U H := by
  obtain ⟨c, k, i, f, a, cell, h1, h2, h3, h4, h5, h6, h7, h8, h9, h10⟩ := h
  obtain ⟨k', hi', he⟩ := State.fieldFound?_setVm hvm h2
  exact ⟨c, k', i, f, a, cell, by rw [hvm.findClass]; exact h1, hi', h3, by rw [he]; exact h4, h5, h6, h7, h8, by rw [he]; exact h9, h10⟩
theorem vx_L.kept {C n d : String} {A : Nat → Prop} {U : State} {H H1 : Heap} (h : vx_L C n d A U H) (hq : ∀ a : Nat, a < H.size → ¬ A a → H1[a]? = H[a]?) : vx_L C n d A U H1 := by
  obtain ⟨c, k, i, f, a, cell, h1, h2, h3, h4, h5, h6, h7, h8, h9, h10⟩ := h
  exact ⟨c, k, i, f, a, cell, h1, h2, h3, h4, by rw [hq a (Array.getElem?_eq_some_iff.mp h5).1 h10]; exact h5, h6, h7, h8, h9, h10⟩
theorem vx_L.narrow {C n d : String} {A B : Nat → Prop} {U : State} {H : Heap} (h : vx_L C n d A U H) (hAB : ∀ q, B q → A q) : vx_L C n d B U H := by
  obtain ⟨c, k, i, f, a, cell, h1, h2, h3, h4, h5, h6, h7, h8, h9, h10⟩ := h
  exact ⟨c, k, i, f, a, cell, h1, h2, h3, h4, h5, h6, h7, h8, h9, fun z => h10 (hAB _ z)⟩
theorem vx_L.word {C n d : String} {A : Nat → Prop} {s : State} {args : Array Value} (h : vx_L C n d A s s.heap) : (Cond.laysStatic C n d).before args s = true := by
  obtain ⟨c, k, i, f, a, cell, h1, h2, h3, h4, h5, h6, h7, h8, h9, -⟩ := h
  show (Cond.laysStatic C n d).holds args s none s [] = true
  exact Cond.laysStatic_of h1 h2 h3 h4 h5 h6 h7 h8 h9
/-- .. and what it holds: null or some reference -/
def vx_Zq (C n d : String) (A : Nat → Prop) (U : State) (H : Heap) : Prop := va_Zq C n d A U H ∧ vx_L C n d A U H
theorem vx_Zq.moved {C n d : String} {A : Nat → Prop} {u U : State} {H : Heap} (hvm : u.vm.Alike U.vm) (h : vx_Zq C n d A u H) : vx_Zq C n d A U H := ⟨va_Zq.moved hvm h.1, vx_L.moved hvm h.2⟩
theorem vx_Zq.kept {C n d : String} {A : Nat → Prop} {U : State} {H H1 : Heap} (h : vx_Zq C n d A U H) (hq : ∀ a : Nat, a < H.size → ¬ A a → H1[a]? = H[a]?) : vx_Zq C n d A U H1 := ⟨va_Zq.kept h.1 hq, vx_L.kept h.2 hq⟩
theorem vx_Zq.narrow {C n d : String} {A B : Nat → Prop} {U : State} {H : Heap} (h : vx_Zq C n d A U H) (hAB : ∀ q, B q → A q) : vx_Zq C n d B U H := ⟨va_Zq.narrow h.1 hAB, vx_L.narrow h.2 hAB⟩
theorem vx_Zqof {args : Array Value} {s : State} {C n d : String} {A : Nat → Prop} (hl : (Cond.laysStatic C n d).before args s = true) (hini : (Cond.initialized C).before args s = true) (h : (Cond.isRef (.static C n d)).before args s = true) (hA : ∀ a : Nat, a < s.heap.size → ¬ A a) : vx_Zq C n d A s s.heap := by
  refine ⟨va_Zqof hl hini h hA, ?_⟩
  obtain ⟨c, k, i, f, a, cell, h1, h2, h3, h4, h5, h6, h7, h8, h9⟩ := Cond.laysStatic_spec hl
  exact ⟨c, k, i, f, a, cell, h1, h2, h3, h4, h5, h6, h7, h8, h9, hA a (Array.getElem?_eq_some_iff.mp h5).1⟩
theorem vx_isRef {C n d : String} {v : Value} {A : Nat → Prop} {s : State} {args : Array Value} (h : va_Z C n d v A s s.heap) (hv : v.isRef = true) : (Cond.isRef (.static C n d)).before args s = true := by
  obtain ⟨cf, kf, fi, f, a, cell, h1, h2, h3, h4, h5, h6, h7, -⟩ := h
  have he : (Term.static C n d).eval args s none [] s = some v := by
    simp [Term.eval, State.fieldNamed?, h1, h2, h4, h5, h6, h7]
  simp only [Cond.before, Cond.holds, Cond.value, he]
  cases v <;> simp_all [Value.isRef]
theorem vx_isRefq {C n d : String} {A : Nat → Prop} {s : State} {args : Array Value} (h : va_Zq C n d A s s.heap) : (Cond.isRef (.static C n d)).before args s = true := by
  rcases h with h | ⟨t, h⟩
  · exact vx_isRef h rfl
  · exact vx_isRef h rfl
/-- the same frame, seen from here: as if the method were called anew in this heap -/
theorem vx_rebase {T : State} (X : Stand p l e R s m args below meth c T locs cells slots) {R' : Room} (hf : R'.frames ≤ R.frames) (hl : R'.locals ≤ R.locals) (hc : cells + R'.cells ≤ R.cells) (hs : slots + R'.slots ≤ R.slots) :
    Stand p l e R' ((T.setVm s.vm).setFrames (.invoking m args :: below)) m args below meth c T [] 0 0 := by
  have htop : (T.setVm s.vm).topJava?.isSome := X.here.top
  have hF : ((T.setVm s.vm).setFrames (.invoking m args :: below)).frames = .invoking m args :: below := State.frames_setFrames _ (State.cur_lt_of_top htop)
  obtain ⟨g₀, hg0⟩ := Option.isSome_iff_exists.mp htop
  obtain ⟨r, hr⟩ := State.topJava?_eq_some.mp hg0
  have hl9 : e.platform.stackLimits (T.setVm s.vm).me = e.platform.stackLimits s.me := X.limits
  have hb9 : (T.setVm s.vm).me.stackBytes = s.me.stackBytes := X.bytes
  refine ⟨X.admits, X.cas, X.clock, hF, ?_, X.hears, X.method, X.code, X.here, X.tail, X.warmed, ?_, ?_, ?_⟩
  · have h := X.room
    have hU : ((T.setVm s.vm).setFrames (.invoking m args :: below)).localsInUse = s.localsInUse := by
      rw [State.localsInUse_invoking hF (meth := meth) (c := c) X.method X.code, State.localsInUse_invoking X.frames X.method X.code]
    simp only [State.hasRoom, Bool.and_eq_true, decide_eq_true_eq] at h ⊢
    obtain ⟨⟨⟨⟨h1, h2, h3, h4, h5, h6⟩, h7⟩, h8⟩, h9⟩ := h
    rw [X.frames, List.length_cons] at h2 h3
    have q1 := X.heapSize
    have q2 := X.used
    simp only [hF, hU, List.length_cons, State.stackLimits_setFrames, State.stackBytes_setFrames, hl9, hb9]
    refine ⟨⟨⟨⟨by omega, by omega, by omega, by omega, by omega, h6⟩, ?_⟩, ?_⟩, X.book⟩
    · show T.heap.size + R'.cells ≤ e.platform.maxCells
      omega
    · show T.slotsUsed + R'.slots ≤ e.platform.maxSlots
      omega
  · rw [State.stackLimits_setFrames]; rfl
  · rw [State.stackBytes_setFrames]; rfl
  · refine ⟨?_, Nat.le_refl _, Nat.le_refl _, ?_, ?_, fun a c9 h9 => ⟨c9, h9, rfl, rfl, fun _ _ => rfl⟩⟩
    · obtain ⟨t, ht, -⟩ := State.frames_cons hr
      show T.setVm s.vm = { ((T.setVm s.vm).setFrames (.invoking m args :: below)).setFrames (T.setVm s.vm).frames with heap := T.heap, slotsUsed := T.slotsUsed }
      rw [State.setFrames_setFrames, State.setFrames_self ht]
      rfl
    · show T.slotsUsed = T.slotsUsed + ((T.heap.toList.drop T.heap.size).map (·.slots.size)).sum
      rw [List.drop_eq_nil_of_le (Nat.le_of_eq Array.length_toList)]
      rfl
    · show ((T.heap.toList.drop T.heap.size).map (·.slots.size)).sum ≤ 0
      rw [List.drop_eq_nil_of_le (Nat.le_of_eq Array.length_toList)]
      exact Nat.le_refl _
/-- 'throw new E()': new; dup; invokespecial; athrow -/
theorem vx_throw0 {cc : ByteArray} {pc : Nat} (hexec : p.tables.exec = Jvm.exec) (hb : c.code = cc) (hl : l.stackTraces = false) {own cls : String} {names : List String} {ik ic mc ms : Nat} {A : Nat → Prop}
    (hown : s.vm.findClass own = some m.cls) (hcls : Bundle.fit cls = true) (hnames : ∀ n ∈ names, Bundle.fit n = true)
    (hk : (Cond.classLink own ik cls).before args s = true) (hini : (Cond.initialized cls).before args s = true) (hat : ∀ w ∈ vx_at0 own ic cls names, w.before args s = true)
    (hgood : ∀ w ∈ Cond.classLink own ik cls :: Cond.initialized cls :: vx_at0 own ic cls names, vx_ot w = true)
    (hU : vx_Zq Bundle.tN "UNASSIGNED_STACK" Bundle.steD A s s.heap) (hN : vx_Zq Bundle.tN "SUPPRESSED_SENTINEL" Bundle.listD A s s.heap) (hS : va_S A s.heap H locs) (hsize : ls.size = c.maxLocals)
    (d0 : decode cc pc = .ok (.new ik, 3)) (d3 : decode cc (pc + 3) = .ok (.dup, 1)) (d4 : decode cc (pc + 4) = .ok (.invokespecial ic, 3)) (d7 : decode cc (pc + 7) = .ok (.athrow, 1))
    (hout : ∀ x ∈ c.exceptionTable.toList, covers x (pc + 7) = false)
    (hRframes : names.length + 3 < R.frames) (hRlocals : (rest.map fun v => v.category).sum + (13 * (names.length + 1) + 42) ≤ R.locals) (hRcells : cells + 1 ≤ R.cells) (hRslots : slots + 6 ≤ R.slots) (hlocks : meth.locks = false)
    (hx : ∀ t : State, s.vm.Alike t.vm → H.size ≤ t.heap.size → (∀ q : Nat, q < H.size → t.heap[q]? = H[q]?) → XC cls s t)
    (hf : ∀ z ∈ locs, free z.base) (hc : cells + 1 ≤ mc) (hs : slots + 6 ≤ ms) :
    W p l e R s m args below meth c H locs cells slots (vx_MQ below Qc XC args s mc ms free) (F0 m pc ls rest) := by
  intro T hT X
  have htr : e.platform.stackTraces = false := (show e.platform.stackTraces = l.stackTraces by rw [X.admits.platform]).trans hl
  have Y := vx_rebase X (R' := { frames := R.frames, locals := R.locals, cells := 1, slots := 6 }) (Nat.le_refl _) (Nat.le_refl _) hRcells hRslots
  obtain ⟨s', hA⟩ : ∃ z, z = (T.setVm s.vm).setFrames (.invoking m args :: below) := ⟨_, rfl⟩
  rw [← hA] at Y
  have hvm : s'.vm = s.vm := by rw [hA]; rfl
  have hhp : s'.heap = H := by rw [hA]; exact hT
  have hW0 : s.WarmedH s'.vm := by rw [hvm]; exact State.WarmedH.refl s
  have hat' : ∀ w ∈ vx_at0 own ic cls names, w.before args s' = true := fun w hw => vx_ot_at hW0 hvm.symm (hgood w (List.mem_cons_of_mem _ (List.mem_cons_of_mem _ hw))) (hat w hw)
  have hk' : (Cond.classLink own ik cls).before args s' = true := vx_ot_at hW0 hvm.symm (hgood _ List.mem_cons_self) hk
  have hini' : (Cond.initialized cls).before args s' = true := vx_ot_at hW0 hvm.symm (hgood _ (List.mem_cons_of_mem _ List.mem_cons_self)) hini
  have hU' : vx_Zq Bundle.tN "UNASSIGNED_STACK" Bundle.steD A s' s'.heap := by rw [hhp]; exact vx_Zq.moved hW0.alike (hU.kept hS.2.1)
  have hN' : vx_Zq Bundle.tN "SUPPRESSED_SENTINEL" Bundle.listD A s' s'.heap := by rw [hhp]; exact vx_Zq.moved hW0.alike (hN.kept hS.2.1)
  have h : ∀ w ∈ Bundle.ownAtoms0 own ic cls names, w.before args s' = true := vx_own hat' (vx_isRefq hU'.1) (vx_isRefq hN'.1) hU'.2.word hN'.2.word
  have hown' : s'.vm.findClass own = some m.cls := by rw [hvm]; exact hown
  have hins : (Cond.instantiable cls 6).before args s' = true := h _ (by simp [Bundle.ownAtoms0])
  obtain ⟨vm₁, cX, kX, hfX, hkX, -, -, X₁, st1⟩ := Y.newCold hexec (own := own) (C := cls) (index := ik) (n := 6) hown' hk' hins hini'
    (g := F0 m pc ls rest) rfl (by rw [hb]; exact d0) (Nat.le_refl _) (Nat.le_refl _)
  generalize hT1 : (T.setVm vm₁).pushCell { cls := cX, slots := kX.instanceTypes.map defaultValue, vm := .none } = T1 at X₁ st1
  have hcat : (Value.ref T.heap.size).category = 1 := rfl
  have hcellA : T1.heap[T.heap.size]? = some (freshCell cX kX) := by rw [← hT1]; exact State.heap_pushCell_size _ _
  have d3' : decode c.code (pc + 3) = .ok (.dup, 1) := by rw [hb]; exact d3
  obtain ⟨U, hsteps, hrun, hend, hW, hsame, ce, hce, hO⟩ := X₁.ctorThrow0 hexec htr (own := own) (cls := cls) (names := names) (ic := ic) hown' hcls hnames h (fun x hx => nomatch hx) hfX hkX hcellA (by rw [hhp, hT]; exact Nat.le_refl _)
    (g := { method := m, pc := pc + 4, locals := ls, stack := .ref T.heap.size :: .ref T.heap.size :: rest, locked := none }) rfl hsize rfl rfl (rest := rest) rfl
    (by rw [hb]; exact d4) (by rw [hb]; exact d7) hout hRframes (by simp only [List.map_cons, List.sum_cons, hcat]; omega) hlocks
  obtain ⟨f1, f2⟩ := vx_frame hsame
  rw [hhp] at f1 f2
  have hWs : s.WarmedH U.vm := State.WarmedH.trans hW0 hW
  have hcl : s.vm.findClass cls = some ce.cls := by
    have h9 := hO.cls
    rw [hvm] at h9
    exact h9
  have hall : s.sameButNew ({ U with vm := s.vm } : State) locs mc ms := by
    subst hA
    obtain ⟨e1, e2⟩ := hsame
    rw [State.setFrames_setFrames] at e1
    have h2 : (T.setVm s.vm).sameButNew ({ U with vm := s.vm } : State) [] (0 + 1) (0 + 6) := ⟨e1, e2⟩
    have h3 := X.same.trans h2
    rw [List.append_nil] at h3
    exact h3.mono hc hs
  refine ⟨U, ?_, .threw T.heap.size, hrun, hend, Or.inr ⟨T.heap.size, rfl, cls, ce, locs, hx U hWs.alike f1 (fun q hq => f2 q hq (fun z hz => nomatch hz)), hce, hO.vm, hcl, hWs, hall, hf⟩⟩
  refine st1 _ ?_
  show Steps p.tables e below (T1.setTop { method := m, pc := pc + 3, locals := ls, stack := .ref T.heap.size :: rest, locked := none }) _
  jvm_step X₁.here [X₁.here.top, hexec, d3', Value.category]
  exact hsteps
/-- 'throw new E("text")': new; dup; ldc; invokespecial; athrow -/
theorem vx_throwS {cc : ByteArray} {pc : Nat} (hexec : p.tables.exec = Jvm.exec) (hb : c.code = cc) (hl : l.stackTraces = false) {own cls text : String} {names : List String} {ik is ic mc ms sa : Nat} {A : Nat → Prop}
    (hown : s.vm.findClass own = some m.cls) (hcls : Bundle.fit cls = true) (hnames : ∀ n ∈ names, Bundle.fit n = true)
    (hk : (Cond.classLink own ik cls).before args s = true) (hini : (Cond.initialized cls).before args s = true) (hstr : vk_R own is text sa s) (hat : ∀ w ∈ vx_atS own ic cls names, w.before args s = true)
    (hgood : ∀ w ∈ Cond.classLink own ik cls :: Cond.initialized cls :: vx_atS own ic cls names, vx_ot w = true)
    (hU : vx_Zq Bundle.tN "UNASSIGNED_STACK" Bundle.steD A s s.heap) (hN : vx_Zq Bundle.tN "SUPPRESSED_SENTINEL" Bundle.listD A s s.heap) (hS : va_S A s.heap H locs) (hsize : ls.size = c.maxLocals)
    (d0 : decode cc pc = .ok (.new ik, 3)) (d3 : decode cc (pc + 3) = .ok (.dup, 1)) (d4 : decode cc (pc + 4) = .ok (.ldc is, 2)) (d6 : decode cc (pc + 6) = .ok (.invokespecial ic, 3)) (d9 : decode cc (pc + 9) = .ok (.athrow, 1))
    (hout : ∀ x ∈ c.exceptionTable.toList, covers x (pc + 9) = false)
    (hRframes : names.length + 3 < R.frames) (hRlocals : (rest.map fun v => v.category).sum + (13 * (names.length + 1) + 43) ≤ R.locals) (hRcells : cells + 1 ≤ R.cells) (hRslots : slots + 6 ≤ R.slots) (hlocks : meth.locks = false)
    (hx : ∀ t : State, s.vm.Alike t.vm → H.size ≤ t.heap.size → (∀ q : Nat, q < H.size → t.heap[q]? = H[q]?) → XC cls s t)
    (hf : ∀ z ∈ locs, free z.base) (hc : cells + 1 ≤ mc) (hs : slots + 6 ≤ ms) :
    W p l e R s m args below meth c H locs cells slots (vx_MQ below Qc XC args s mc ms free) (F0 m pc ls rest) := by
  intro T hT X
  have htr : e.platform.stackTraces = false := (show e.platform.stackTraces = l.stackTraces by rw [X.admits.platform]).trans hl
  have Y := vx_rebase X (R' := { frames := R.frames, locals := R.locals, cells := 1, slots := 6 }) (Nat.le_refl _) (Nat.le_refl _) hRcells hRslots
  obtain ⟨s', hA⟩ : ∃ z, z = (T.setVm s.vm).setFrames (.invoking m args :: below) := ⟨_, rfl⟩
  rw [← hA] at Y
  have hvm : s'.vm = s.vm := by rw [hA]; rfl
  have hhp : s'.heap = H := by rw [hA]; exact hT
  have hW0 : s.WarmedH s'.vm := by rw [hvm]; exact State.WarmedH.refl s
  have hat' : ∀ w ∈ vx_atS own ic cls names, w.before args s' = true := fun w hw => vx_ot_at hW0 hvm.symm (hgood w (List.mem_cons_of_mem _ (List.mem_cons_of_mem _ hw))) (hat w hw)
  have hk' : (Cond.classLink own ik cls).before args s' = true := vx_ot_at hW0 hvm.symm (hgood _ List.mem_cons_self) hk
  have hini' : (Cond.initialized cls).before args s' = true := vx_ot_at hW0 hvm.symm (hgood _ (List.mem_cons_of_mem _ List.mem_cons_self)) hini
  have hU' : vx_Zq Bundle.tN "UNASSIGNED_STACK" Bundle.steD A s' s'.heap := by rw [hhp]; exact vx_Zq.moved hW0.alike (hU.kept hS.2.1)
  have hN' : vx_Zq Bundle.tN "SUPPRESSED_SENTINEL" Bundle.listD A s' s'.heap := by rw [hhp]; exact vx_Zq.moved hW0.alike (hN.kept hS.2.1)
  have h : ∀ w ∈ Bundle.ownAtoms own ic cls names, w.before args s' = true := vx_own hat' (vx_isRefq hU'.1) (vx_isRefq hN'.1) hU'.2.word hN'.2.word
  have hown' : s'.vm.findClass own = some m.cls := by rw [hvm]; exact hown
  have hins : (Cond.instantiable cls 6).before args s' = true := h _ (by simp [Bundle.ownAtoms])
  obtain ⟨vm₁, cX, kX, hfX, hkX, -, -, X₁, st1⟩ := Y.newCold hexec (own := own) (C := cls) (index := ik) (n := 6) hown' hk' hins hini'
    (g := F0 m pc ls rest) rfl (by rw [hb]; exact d0) (Nat.le_refl _) (Nat.le_refl _)
  generalize hT1 : (T.setVm vm₁).pushCell { cls := cX, slots := kX.instanceTypes.map defaultValue, vm := .none } = T1 at X₁ st1
  have hcat : (Value.ref T.heap.size).category = 1 := rfl
  have hcellA : T1.heap[T.heap.size]? = some (freshCell cX kX) := by rw [← hT1]; exact State.heap_pushCell_size _ _
  have d3' : decode c.code (pc + 3) = .ok (.dup, 1) := by rw [hb]; exact d3
  have d4' : decode c.code (pc + 4) = .ok (.ldc is, 2) := by rw [hb]; exact d4
  have hstr' : vk_R own is text sa s' := vk_R.warm hW0 hstr
  obtain ⟨U, hsteps, hrun, hend, hW, hsame, ce, hce, hO⟩ := X₁.ctorThrowS hexec htr (own := own) (cls := cls) (names := names) (ic := ic) hown' hcls hnames h (fun x hx => nomatch hx) hfX hkX hcellA (by rw [hhp, hT]; exact Nat.le_refl _) (msg := .ref sa) rfl
    (g := { method := m, pc := pc + 6, locals := ls, stack := .ref sa :: .ref T.heap.size :: .ref T.heap.size :: rest, locked := none }) rfl hsize rfl rfl (rest := rest) rfl
    (by rw [hb]; exact d6) (by rw [hb]; exact d9) hout hRframes (by simp only [List.map_cons, List.sum_cons, hcat]; omega) hlocks
  obtain ⟨f1, f2⟩ := vx_frame hsame
  rw [hhp] at f1 f2
  have hWs : s.WarmedH U.vm := State.WarmedH.trans hW0 hW
  have hcl : s.vm.findClass cls = some ce.cls := by
    have h9 := hO.cls
    rw [hvm] at h9
    exact h9
  have hall : s.sameButNew ({ U with vm := s.vm } : State) locs mc ms := by
    subst hA
    obtain ⟨e1, e2⟩ := hsame
    rw [State.setFrames_setFrames] at e1
    have h2 : (T.setVm s.vm).sameButNew ({ U with vm := s.vm } : State) [] (0 + 1) (0 + 6) := ⟨e1, e2⟩
    have h3 := X.same.trans h2
    rw [List.append_nil] at h3
    exact h3.mono hc hs
  refine ⟨U, ?_, .threw T.heap.size, hrun, hend, Or.inr ⟨T.heap.size, rfl, cls, ce, locs, hx U hWs.alike f1 (fun q hq => f2 q hq (fun z hz => nomatch hz)), hce, hO.vm, hcl, hWs, hall, hf⟩⟩
  refine st1 _ ?_
  show Steps p.tables e below (T1.setTop { method := m, pc := pc + 3, locals := ls, stack := .ref T.heap.size :: rest, locked := none }) _
  jvm_step X₁.here [X₁.here.top, hexec, d3', Value.category]
  exact X₁.ldcString hexec (own := own) (text := text) (index := is) (a := sa) hown' hstr'.1 hstr'.2
    (g := { method := m, pc := pc + 4, locals := ls, stack := .ref T.heap.size :: .ref T.heap.size :: rest, locked := none }) rfl d4' _ hsteps
/-- 'throw new E("text")', the text by a wide index -/
theorem vx_throwSW {cc : ByteArray} {pc : Nat} (hexec : p.tables.exec = Jvm.exec) (hb : c.code = cc) (hl : l.stackTraces = false) {own cls text : String} {names : List String} {ik is ic mc ms sa : Nat} {A : Nat → Prop}
    (hown : s.vm.findClass own = some m.cls) (hcls : Bundle.fit cls = true) (hnames : ∀ n ∈ names, Bundle.fit n = true)
    (hk : (Cond.classLink own ik cls).before args s = true) (hini : (Cond.initialized cls).before args s = true) (hstr : vk_R own is text sa s) (hat : ∀ w ∈ vx_atS own ic cls names, w.before args s = true)
    (hgood : ∀ w ∈ Cond.classLink own ik cls :: Cond.initialized cls :: vx_atS own ic cls names, vx_ot w = true)
    (hU : vx_Zq Bundle.tN "UNASSIGNED_STACK" Bundle.steD A s s.heap) (hN : vx_Zq Bundle.tN "SUPPRESSED_SENTINEL" Bundle.listD A s s.heap) (hS : va_S A s.heap H locs) (hsize : ls.size = c.maxLocals)
    (d0 : decode cc pc = .ok (.new ik, 3)) (d3 : decode cc (pc + 3) = .ok (.dup, 1)) (d4 : decode cc (pc + 4) = .ok (.ldc_w is, 3)) (d7 : decode cc (pc + 7) = .ok (.invokespecial ic, 3)) (d10 : decode cc (pc + 10) = .ok (.athrow, 1))
    (hout : ∀ x ∈ c.exceptionTable.toList, covers x (pc + 10) = false)
    (hRframes : names.length + 3 < R.frames) (hRlocals : (rest.map fun v => v.category).sum + (13 * (names.length + 1) + 43) ≤ R.locals) (hRcells : cells + 1 ≤ R.cells) (hRslots : slots + 6 ≤ R.slots) (hlocks : meth.locks = false)
    (hx : ∀ t : State, s.vm.Alike t.vm → H.size ≤ t.heap.size → (∀ q : Nat, q < H.size → t.heap[q]? = H[q]?) → XC cls s t)
    (hf : ∀ z ∈ locs, free z.base) (hc : cells + 1 ≤ mc) (hs : slots + 6 ≤ ms) :
    W p l e R s m args below meth c H locs cells slots (vx_MQ below Qc XC args s mc ms free) (F0 m pc ls rest) := by
  intro T hT X
  have htr : e.platform.stackTraces = false := (show e.platform.stackTraces = l.stackTraces by rw [X.admits.platform]).trans hl
  have Y := vx_rebase X (R' := { frames := R.frames, locals := R.locals, cells := 1, slots := 6 }) (Nat.le_refl _) (Nat.le_refl _) hRcells hRslots
  obtain ⟨s', hA⟩ : ∃ z, z = (T.setVm s.vm).setFrames (.invoking m args :: below) := ⟨_, rfl⟩
  rw [← hA] at Y
  have hvm : s'.vm = s.vm := by rw [hA]; rfl
  have hhp : s'.heap = H := by rw [hA]; exact hT
  have hW0 : s.WarmedH s'.vm := by rw [hvm]; exact State.WarmedH.refl s
  have hat' : ∀ w ∈ vx_atS own ic cls names, w.before args s' = true := fun w hw => vx_ot_at hW0 hvm.symm (hgood w (List.mem_cons_of_mem _ (List.mem_cons_of_mem _ hw))) (hat w hw)
  have hk' : (Cond.classLink own ik cls).before args s' = true := vx_ot_at hW0 hvm.symm (hgood _ List.mem_cons_self) hk
  have hini' : (Cond.initialized cls).before args s' = true := vx_ot_at hW0 hvm.symm (hgood _ (List.mem_cons_of_mem _ List.mem_cons_self)) hini
  have hU' : vx_Zq Bundle.tN "UNASSIGNED_STACK" Bundle.steD A s' s'.heap := by rw [hhp]; exact vx_Zq.moved hW0.alike (hU.kept hS.2.1)
  have hN' : vx_Zq Bundle.tN "SUPPRESSED_SENTINEL" Bundle.listD A s' s'.heap := by rw [hhp]; exact vx_Zq.moved hW0.alike (hN.kept hS.2.1)
  have h : ∀ w ∈ Bundle.ownAtoms own ic cls names, w.before args s' = true := vx_own hat' (vx_isRefq hU'.1) (vx_isRefq hN'.1) hU'.2.word hN'.2.word
  have hown' : s'.vm.findClass own = some m.cls := by rw [hvm]; exact hown
  have hins : (Cond.instantiable cls 6).before args s' = true := h _ (by simp [Bundle.ownAtoms])
  obtain ⟨vm₁, cX, kX, hfX, hkX, -, -, X₁, st1⟩ := Y.newCold hexec (own := own) (C := cls) (index := ik) (n := 6) hown' hk' hins hini'
    (g := F0 m pc ls rest) rfl (by rw [hb]; exact d0) (Nat.le_refl _) (Nat.le_refl _)
  generalize hT1 : (T.setVm vm₁).pushCell { cls := cX, slots := kX.instanceTypes.map defaultValue, vm := .none } = T1 at X₁ st1
  have hcat : (Value.ref T.heap.size).category = 1 := rfl
  have hcellA : T1.heap[T.heap.size]? = some (freshCell cX kX) := by rw [← hT1]; exact State.heap_pushCell_size _ _
  have d3' : decode c.code (pc + 3) = .ok (.dup, 1) := by rw [hb]; exact d3
  have d4' : decode c.code (pc + 4) = .ok (.ldc_w is, 3) := by rw [hb]; exact d4
  have hstr' : vk_R own is text sa s' := vk_R.warm hW0 hstr
  obtain ⟨U, hsteps, hrun, hend, hW, hsame, ce, hce, hO⟩ := X₁.ctorThrowS hexec htr (own := own) (cls := cls) (names := names) (ic := ic) hown' hcls hnames h (fun x hx => nomatch hx) hfX hkX hcellA (by rw [hhp, hT]; exact Nat.le_refl _) (msg := .ref sa) rfl
    (g := { method := m, pc := pc + 7, locals := ls, stack := .ref sa :: .ref T.heap.size :: .ref T.heap.size :: rest, locked := none }) rfl hsize rfl rfl (rest := rest) rfl
    (by rw [hb]; exact d7) (by rw [hb]; exact d10) hout hRframes (by simp only [List.map_cons, List.sum_cons, hcat]; omega) hlocks
  obtain ⟨f1, f2⟩ := vx_frame hsame
  rw [hhp] at f1 f2
  have hWs : s.WarmedH U.vm := State.WarmedH.trans hW0 hW
  have hcl : s.vm.findClass cls = some ce.cls := by
    have h9 := hO.cls
    rw [hvm] at h9
    exact h9
  have hall : s.sameButNew ({ U with vm := s.vm } : State) locs mc ms := by
    subst hA
    obtain ⟨e1, e2⟩ := hsame
    rw [State.setFrames_setFrames] at e1
    have h2 : (T.setVm s.vm).sameButNew ({ U with vm := s.vm } : State) [] (0 + 1) (0 + 6) := ⟨e1, e2⟩
    have h3 := X.same.trans h2
    rw [List.append_nil] at h3
    exact h3.mono hc hs
  refine ⟨U, ?_, .threw T.heap.size, hrun, hend, Or.inr ⟨T.heap.size, rfl, cls, ce, locs, hx U hWs.alike f1 (fun q hq => f2 q hq (fun z hz => nomatch hz)), hce, hO.vm, hcl, hWs, hall, hf⟩⟩
  refine st1 _ ?_
  show Steps p.tables e below (T1.setTop { method := m, pc := pc + 3, locals := ls, stack := .ref T.heap.size :: rest, locked := none }) _
  jvm_step X₁.here [X₁.here.top, hexec, d3', Value.category]
  exact X₁.ldcStringW hexec (own := own) (text := text) (index := is) (a := sa) hown' hstr'.1 hstr'.2
    (g := { method := m, pc := pc + 4, locals := ls, stack := .ref T.heap.size :: .ref T.heap.size :: rest, locked := none }) rfl d4' _ hsteps
end Ends
section Bodies
variable {l : Launch}
theorem vx_ofW {y : MethodName} {ws ws' : List Cond} {rm : Room} {Pc : Array Value → State → Prop} {Qc : Array Value → State → Outcome → State → Prop} {XC : String → State → State → Prop} {mc ms : Nat} {free : Addr → Prop} {cc : ByteArray} {maxL : Nat} {ret : Option FieldType}
    (hy : plainName y.cls = true) (hw : ws = Cond.code y cc maxL ret :: ws')
    (body : ∀ p e s m args below meth c s₁, BodyLoose p l y (headSpec ws rm) cc maxL ret e s m args below meth c s₁ → c.maxLocals = maxL → (∀ x ∈ c.exceptionTable.toList, False) → Pc args s →
      W p l e (headSpec ws rm).room s m args below meth c s.heap [] 0 0 (vx_MQ below Qc XC args s mc ms free) (entryFrame m args maxL)) : vx_Met l y ws rm Pc Qc XC mc ms free := by
  refine MetFree.of_bodyS (code := cc) (maxLocals := maxL) (ret := ret) hy ?_ ?_
  · intro args s m h hn
    obtain ⟨meth, c, h1, h2, h3, h4, h5, h6, -, -⟩ := Cond.code_spec hn (atoms_spec (ws := ws) h _ (by rw [hw]; exact List.mem_cons_self))
    exact ⟨meth, c, h1, h2, h3, h4, h5, h6⟩
  · intro p e s m args below meth c s₁ B hml hP _
    have hh0 : s₁.heap = s.heap := by rw [B.state]; rfl
    have ht : ∀ x ∈ c.exceptionTable.toList, False := by
      obtain ⟨meth9, c9, h1, h2, -, -, -, -, h7, -⟩ := Cond.code_spec B.named (atoms_spec (ws := ws) B.pre _ (by rw [hw]; exact List.mem_cons_self))
      cases Option.some.inj (h1.symm.trans B.method)
      cases Option.some.inj (h2.symm.trans (Stand.of_body B).code)
      intro x hx
      rw [Array.isEmpty_iff.mp h7] at hx
      cases hx
    obtain ⟨t, a1, o, b1, b2, b3⟩ := body p e s m args below meth c s₁ B hml ht hP s₁ hh0 (Stand.of_body B)
    exact ⟨t, o, a1, b1, b2, b3⟩
/-- the table of a body with handlers -/
theorem vx_table {p : Program} {x y : MethodName} {S : Spec} {cc bytes : ByteArray} {maxL maxL' : Nat} {ret ret' : Option FieldType} {e : Env} {s s₁ : State} {m : MethodId} {args : Array Value} {below : List Frame} {meth : Method} {c : Code} {hh : List (Nat × Nat × Nat × Nat)}
    (B : BodyLoose p l y S cc maxL ret e s m args below meth c s₁) (h : (Cond.codeWith y bytes maxL' ret' hh).before args s = true) : c.exceptionTable.toList = tableOf hh := by
  obtain ⟨m9, meth9, c9, hn9, h1, h2, -, -, h6, -⟩ := Cond.codeWith_spec h
  cases Option.some.inj (hn9.symm.trans B.named)
  cases Option.some.inj (h1.symm.trans B.method)
  cases Option.some.inj (h2.symm.trans (Stand.of_body B).code)
  rw [← h6, table_eq]
end Bodies
end VXA
/-! ===== END ===== -/
/-! ===== BEGIN a static call of a method with an exception table ===== -/
section VXS
variable {p : Program} {l : Launch} {e : Env} {R : Room} {s : State} {m : MethodId} {args : Array Value} {below : List Frame} {meth : Method} {c : Code} {T : State} {H : Heap} {locs : List Loc} {cells slots : Nat}
abbrev vx_CSW (R : Room) (s : State) (args : Array Value) (own : String) (index : Nat) (y : MethodName) (bytes : ByteArray) (maxL : Nat) (ret : Option FieldType) (hh : List (Nat × Nat × Nat × Nat)) (ws : List Cond) (rm : Room) (mc ms n : Nat) : Prop :=
  (rm.cells = mc ∧ rm.slots = ms ∧ rm.frames + 1 ≤ R.frames ∧ 8 + (maxL + 11) + rm.locals ≤ R.locals ∧ (∀ w ∈ ws, ∀ (a' : Array Value) (U : State), s.WarmedH U.vm → w.before a' U = true) ∧ Cond.codeWith y bytes maxL ret hh ∈ ws) ∧
  (Cond.codeWith y bytes maxL ret hh).before args s = true ∧ (Cond.initialized y.cls).before args s = true ∧ (y.cls ≠ "java/lang/invoke/MethodHandle" ∧ y.cls ≠ "java/lang/invoke/VarHandle") ∧
  (∀ sig, parseMethodDescriptor y.desc = some sig → n = sig.parameters.length) ∧ (Cond.methodLink own index y).before args s = true ∧ (Cond.static y).before args s = true
theorem vx_cwSW {own : String} {index maxL mc ms : Nat} {y : MethodName} {bytes : ByteArray} {ret : Option FieldType} {hh : List (Nat × Nat × Nat × Nat)} {Ts ws ws' : List Cond} {rm : Room} (n : Nat) (ht : ∀ w ∈ Ts, w.before args s = true) (hT : GoodIn Ts (va_wsS own index y ws)) (hw : ws = Cond.codeWith y bytes maxL ret hh :: ws') (hrc : rm.cells = mc) (hrs : rm.slots = ms)
    (hd : y.cls ≠ "java/lang/invoke/MethodHandle" ∧ y.cls ≠ "java/lang/invoke/VarHandle" ∧ (parseMethodDescriptor y.desc).map (fun d => d.parameters.length) = some n) (hR : rm.frames + 1 ≤ R.frames ∧ 8 + (maxL + 11) + rm.locals ≤ R.locals) :
    vx_CSW R s args own index y bytes maxL ret hh ws rm mc ms n := by
  have ok : ∀ w ∈ va_wsS own index y ws, w.before args s = true := fun w h => ht w (hT w h).1
  have hG : GoodIn Ts ws := fun w h => hT w (by unfold va_wsS; exact List.mem_append_right _ h)
  have hc : Cond.codeWith y bytes maxL ret hh ∈ ws := by rw [hw]; exact List.mem_cons_self
  refine ⟨⟨hrc, hrs, hR.1, hR.2, pay_in ht hG, hc⟩, ht _ (hG _ hc).1, ok _ (by simp [va_wsS]), ⟨hd.1, hd.2.1⟩, fun sig h => ?_, ok _ (by simp [va_wsS]), ok _ (by simp [va_wsS])⟩
  have h2 := hd.2.2
  rw [h] at h2
  exact (Option.some.inj h2).symm
theorem vx_callSW (X : Stand p l e R s m args below meth c T locs cells slots) (hexec : p.tables.exec = Jvm.exec) {own : String} {index : Nat} {y : MethodName} {bytes : ByteArray} {maxL : Nat} {ret : Option FieldType} {hh : List (Nat × Nat × Nat × Nat)}
    (hown : s.vm.findClass own = some m.cls) (hlink : (Cond.methodLink own index y).before args s = true) (hstat : (Cond.static y).before args s = true) (hinit : (Cond.initialized y.cls).before args s = true)
    (hcode : (Cond.codeWith y bytes maxL ret hh).before args s = true) (hy : y.cls ≠ "java/lang/invoke/MethodHandle" ∧ y.cls ≠ "java/lang/invoke/VarHandle")
    {W9 : Nat} {Pre : Pt → Array Value → Prop} {Post : Pt → Array Value → Option Value → Pt → Prop} (hK : Back l R p e below s args y 3 W9 Pre Post)
    {g : JFrame} (hg : g.method = m) (hsize : g.locals.size = c.maxLocals) {argsL rest : List Value} (hlen : ∀ sig, parseMethodDescriptor y.desc = some sig → argsL.length = sig.parameters.length)
    (hstack : g.stack = argsL.reverse ++ rest) (hW : 2 * g.monitorRoom + (rest.map fun v => v.category).sum ≤ W9) (hdg : decode c.code g.pc = .ok (.invokestatic index, 3))
    (hpre : ∀ vm₁, s.WarmedH vm₁ → Pre ⟨T.setVm vm₁, locs, cells, slots⟩ argsL.toArray) :
    ∃ (v : Option Value) (vm₁ : Vm) (B : Pt), s.WarmedH vm₁ ∧ Stand p l e R s m args below meth c B.U B.locs B.cells B.slots ∧ Post ⟨T.setVm vm₁, locs, cells, slots⟩ argsL.toArray v B ∧
      ∀ target, Steps p.tables e below (B.U.setTop { g with pc := g.pc + 3, stack := v.toList ++ rest }) target → Steps p.tables e below (T.setTop g) target := by
  obtain ⟨mk, methM, cM, hnamed, hmethM, -, -, -, -, -, -, hsigM⟩ := Cond.codeWith_spec hcode
  have hstatic : methM.isStatic = true := Cond.static_spec hnamed hmethM hstat
  obtain ⟨kP, hkP, -⟩ := className_of_methodNamed hnamed
  have hinitP : kP.init = .initialized := Cond.initialized_spec (findClass_of_methodNamed hnamed) hkP hinit
  obtain ⟨vm₁, X₁, hstep₁⟩ := X.invokestatic hexec hown hlink hnamed hmethM hstatic hkP hinitP hy (g := g) hg (argsL := argsL) (rest := rest) (hlen _ hsigM) hstack hdg
  obtain ⟨v, B, X', hpost, hsteps⟩ := hK m meth c ⟨T.setVm vm₁, locs, cells, slots⟩ { g with stack := rest } (.invokestatic index) mk argsL.toArray X₁ hg hsize hdg hW (X₁.named hnamed) (hpre vm₁ X₁.warmed)
  exact ⟨v, vm₁, B, X₁.warmed, X', hpost, fun target h => hstep₁ _ fun acts => by rw [doInvoke_state]; exact hsteps.trans h⟩
theorem vx_runSW {y : MethodName} {bytes cc : ByteArray} {maxL nL mc ms n index : Nat} {ret : Option FieldType} {hh : List (Nat × Nat × Nat × Nat)} {ws : List Cond} {rm : Room} {Pc : Array Value → State → Prop} {Qc : Array Value → State → Outcome → State → Prop} {free : Addr → Prop} {Ts : List Cond} {own : String} {As rest : List Value} {g : JFrame}
    (S : CallFix p m c cc nL s args Ts own) (hM : Met l y ws rm Pc Qc mc ms free) (cw : vx_CSW R s args own index y bytes maxL ret hh ws rm mc ms n) (hp : PreS s H Pc As)
    (hg : g.method = m) (hn : As.length = n) (hsize : g.locals.size = nL) (hstack : g.stack = As.reverse ++ rest) (hW : 2 * g.monitorRoom + (rest.map fun v => v.category).sum ≤ 8) (hdg : decode cc g.pc = .ok (.invokestatic index, 3)) (hf : cells + mc ≤ R.cells ∧ slots + ms ≤ R.slots) :
    va_Run p l e R s m args below meth c H locs cells slots mc ms g rest (Qc As.toArray) (free) := by
  obtain ⟨⟨hrc, hrs, hfr, hlo, hws, hcw⟩, hcode, hini, hy, hlen, hl, hstt⟩ := cw
  have hK : Back l R p e below s args y 3 8 (PreOf R mc ms Pc) (PostOf Qc mc ms free) := va_backW (hh := hh) (bytes := bytes) (maxL := maxL) (ret := ret) hM hp.1 hrc hrs hfr hlo hws hcw (fun a' U hW => word_at hW (Or.inl (by first | rfl | simp [Cond.onTables, Cond.keeps, Cond.steady])) hini)
  obtain ⟨hx, hb, hml, ho, -⟩ := S
  intro T hT X
  obtain ⟨v, vm₁, ⟨U', l2, c2, s2⟩, hW₁, X', ⟨g', mk, t, L, e1, e2, hq, h1, hL, h2, h3⟩, st⟩ := vx_callSW X hx (hh := hh) (bytes := bytes) (maxL := maxL) (ret := ret) ho hl hstt hini hcode hy hK hg (hsize.trans hml.symm) (argsL := As) (rest := rest) (fun sig h => hn.trans (hlen sig h)) hstack hW (by rw [hb]; exact hdg)
    (fun vm₁ hW₁ => ⟨hf.1, hf.2, hp.2 (T.setVm vm₁) hT hW₁⟩)
  dsimp only [Pt.U, Pt.locs, Pt.cells, Pt.slots] at X' e1 e2 h1 h2 h3 st
  subst h1; subst h2; subst h3
  exact ⟨v, (T.setVm vm₁).calling g' mk As.toArray, t, U', L, hT, X', hL, e1, e2, hq, st⟩
/-- not caught here, past rows that name other classes: it goes on to the caller -/
theorem vx_outP {p : Program} {l : Launch} {e : Env} {R : Room} {s : State} {m : MethodId} {args : Array Value} {below : List Frame} {meth : Method} {c : Code} {H : Heap} {locs : List Loc} {cells slots : Nat} {free : Addr → Prop} {ls : Array Slot} {rest : List Value} {Qc : Array Value → State → Outcome → State → Prop} {XC : String → State → State → Prop}
    {pc : Nat} {own E : String} {ce : Cell} {q : Addr} {mc ms : Nat} (hown : s.vm.findClass own = some m.cls) (hlocks : meth.locks = false)
    (hpass : ∀ z ∈ c.exceptionTable.toList, covers z pc = false ∨ (z.catchType ≠ 0 ∧ ∃ nm : String, (Cond.classLink own z.catchType nm).before args s = true ∧ va_Nc E nm s)) (hcell : H[q]? = some ce) (hv : ce.vm = .none) (hcl : s.vm.findClass E = some ce.cls)
    (hx : ∀ t : State, t.heap = H → s.vm.Alike t.vm → XC E s t) (hf : ∀ z ∈ locs, free z.base) (hc : cells ≤ mc) (hs : slots ≤ ms) :
    vx_W p l e R s m args below meth c H locs cells slots (vx_MQ below Qc XC args s mc ms free) (F0 m pc ls rest) q := by
  intro T hT X
  have hpl : e.platform.magicAccessors = ({} : Platform).magicAccessors := by rw [X.admits.platform]
  obtain ⟨vm', hW', X', st⟩ := X.outThrough hlocks q (g := F0 m pc ls rest) rfl rfl rfl (cell := ce) (by rw [hT]; exact hcell) (by rw [hv]; rfl)
    (by obtain ⟨k9, h9, -⟩ := Vm.findClass_spec hcl; exact ⟨k9, h9⟩) (fun z hz => by
      rcases hpass z hz with h | ⟨hz0, nm, hl1, hn1⟩
      · exact Or.inl h
      · obtain ⟨c6, hc6, hcl6⟩ := Cond.classLink_spec hown hl1 e.platform hpl
        obtain ⟨a8, b8, h1, h2, h3⟩ := hn1
        cases Option.some.inj (h1.symm.trans hcl)
        cases Option.some.inj (h2.symm.trans hc6)
        exact Or.inr ⟨hz0, _, hcl6, h3⟩)
  obtain ⟨g₀, hfr⟩ := X'.frames_eq
  have hcell9 : ((T.setVm vm').setFrames (.throwing q :: below)).heap[q]? = some ce := by
    show T.heap[q]? = some ce
    rw [hT]; exact hcell
  have hend : Ended ((T.setVm vm').setFrames (.throwing q :: below)) below (.threw q) := State.frames_setFrames _ (State.cur_lt_of_frames hfr)
  refine ⟨(T.setVm vm').setFrames (.throwing q :: below), ?_, .threw q, X'.here.running, hend, Or.inr ⟨q, rfl, E, ce, locs, hx _ hT (X'.ends _).1.alike, hcell9, hv, hcl, (X'.ends _).1, (X'.ends _).2.mono hc hs, hf⟩⟩
  rw [X.pushThrowing_eq]
  exact st
/-- a thing of a world lies in the heap -/
theorem vx_lt {D : va_G} {cl : List vw_C} {ws : va_W} {H1 : Heap} (h : va_P D cl ws H1) {k : Nat} {q : Nat × va_E} (hk : ws[k]? = some q) : q.1 < H1.size := (h k q hk).lt
end VXS
/-! ===== END ===== -/
/-! ===== BEGIN methods with a table of their own: called by a name, returning or throwing ===== -/
section VXH
/-! vx_backW, vx_callVX, vx_callSX, vx_callVW, vx_runVW, vx_runVX, vx_runSX, vx_ofWH follow the same proofs as their sisters above (Free/Laws.lean, Shelf42/LK1.lean); vx_outP calls Shelf42/NT130.lean (outThrough). -/
section
variable {l : Launch} {R : Room} {p : Program} {e : Env} {below : List Frame} {s : State} {sargs : Array Value} {y : MethodName} {len W9 : Nat}
theorem vx_backW {ws : List Cond} {rm : Room} {Pc : Array Value → State → Prop} {Qc : Array Value → State → Outcome → State → Prop} {XC : String → State → State → Prop} {mc ms : Nat} {free : Addr → Prop} {bytes : ByteArray} {maxL : Nat} {ret : Option FieldType} {hh : List (Nat × Nat × Nat × Nat)}
    (hM : vx_Met l y ws rm Pc Qc XC mc ms free) (hblind : FrameBlind Pc) (hrc : rm.cells = mc) (hrs : rm.slots = ms)
    (hframes : rm.frames + 1 ≤ R.frames) (hlocals : W9 + (maxL + 11) + rm.locals ≤ R.locals)
    (hws : ∀ w ∈ ws, ∀ a' U, s.WarmedH U.vm → w.before a' U = true) (hcode : Cond.codeWith y bytes maxL ret hh ∈ ws) (hinit : ∀ a' U, s.WarmedH U.vm → (Cond.initialized y.cls).before a' U = true) :
    vx_Back l R p e below s sargs y len W9 (PreOf R mc ms Pc) (PostOf Qc mc ms free) (vx_Post XC mc ms free) := by
  intro m meth c A g ig mk a X hg hsize hdg hW hn hp
  have h1 : (headSpec ws rm).pre.before a A.U = true := atoms_intro fun w hw => hws w hw _ _ X.warmed
  have h2 : (Cond.codeWith y bytes maxL ret hh).before a A.U = true := hws _ hcode _ _ X.warmed
  have h3 : (Cond.initialized y.cls).before a A.U = true := hinit _ _ X.warmed
  have h4 : A.cells + (headSpec ws rm).room.cells ≤ R.cells := by rw [show (headSpec ws rm).room.cells = mc from hrc]; exact hp.1
  have h5 : A.slots + (headSpec ws rm).room.slots ≤ R.slots := by rw [show (headSpec ws rm).room.slots = ms from hrs]; exact hp.2.1
  have hPc : Pc a (A.U.calling g mk a) := hblind _ _ _ _ hp.2.2
  obtain ⟨U, Ls, c0, s0⟩ := A
  dsimp only [Pt.U, Pt.locs, Pt.cells, Pt.slots] at h1 h2 h3 h4 h5 X hn hPc ⊢
  obtain ⟨m9, methY, cY, hn9, hmY, hcY, -, hlY, -⟩ := Cond.codeWith_spec h2
  cases Option.some.inj (hn9.symm.trans hn)
  obtain ⟨kY, hkY, -⟩ := className_of_methodNamed hn
  have hinitY : kY.init = .initialized := Cond.initialized_spec (findClass_of_methodNamed hn) hkY h3
  have h : At U g.method c below := by rw [hg]; exact X.here
  have hlocals9 : W9 + (maxL + 11) + (headSpec ws rm).room.locals ≤ R.locals := hlocals
  have happ : (headSpec ws rm).appliesLoose y e.platform (U.calling g mk a) = true :=
    Spec.appliesLoose_calling (g := g) h hdg hn hkY hinitY
      (X.room_calling (g := g) (R' := (headSpec ws rm).room) hsize hmY hcY hframes (by rw [hlY]; omega) h4 h5) h1
  obtain ⟨mid, hmid⟩ := h.above
  have hfr : (U.setTop g).frames = (.java g :: mid) ++ below := by rw [State.frames_setTop' g h.top, hmid]; rfl
  obtain ⟨o, s₂, hsteps, -, hend, hq⟩ := Steps.callFree hM p X.admits X.cas X.clock (acts := []) hfr happ hPc trivial
  have hq' : vx_Q Qc XC mc ms free a (U.calling g mk a) o s₂ := hq
  rw [State.frames_setTop' g h.top] at hend
  obtain ⟨g₀, hg0⟩ := Option.isSome_iff_exists.mp h.top
  obtain ⟨r, hr⟩ := State.topJava?_eq_some.mp hg0
  have hr' : (({ U with heap := s₂.heap, slotsUsed := s₂.slotsUsed } : State).setVm s₂.vm).frames = .java g₀ :: r := hr
  rcases hq' with ⟨hqc, L, hfe, hL⟩ | ⟨q, rfl, E, ce, L, hx, hce, hcv, hcl, hW₂, hsm, hL⟩
  · obtain ⟨⟨v, rfl⟩, hW₂, e2, q2, q3, q4, q5, q6⟩ := id hfe
    have e3 : s₂ = ({ (U.calling g mk a).setFrames s₂.frames with heap := s₂.heap, slotsUsed := s₂.slotsUsed } : State).setVm s₂.vm := by
      have : s₂ = ({ s₂ with vm := (U.calling g mk a).vm } : State).setVm s₂.vm := rfl
      rw [e2] at this
      exact this
    obtain ⟨c₂, i₂, len₂, hc₂, hd₂, hf₂⟩ := hend
    have hW' : U.WarmedH s₂.vm := hW₂
    have hcc : c₂ = c := by
      have h1 : s₂.code? g.method = U.code? g.method := by
        rw [State.code?_eq, State.code?_eq, hW'.alike.method?]
      exact Option.some.inj (hc₂.symm.trans (h1.trans h.code))
    subst hcc
    have hlen : len₂ = len := by rw [hdg] at hd₂; cases hd₂; rfl
    subst hlen
    have hs₂ : s₂ = (({ U with heap := s₂.heap, slotsUsed := s₂.slotsUsed } : State).setVm s₂.vm).setTop { g with pc := g.pc + len₂, stack := v.toList ++ g.stack } := by
      refine e3.trans ?_
      rw [hf₂, State.calling_eq h.top, State.setFrames_setFrames, State.setTop_of_frames _ hr', hr]
      rfl
    have hsame : U.sameButNew ({ U with heap := s₂.heap, slotsUsed := s₂.slotsUsed } : State) L mc ms := by
      refine ⟨?_, q2, q3, q4, q5, q6⟩
      obtain ⟨t, ht, -⟩ := State.frames_cons hr
      show ({ U with heap := s₂.heap, slotsUsed := s₂.slotsUsed } : State) = { U.setFrames U.frames with heap := s₂.heap, slotsUsed := s₂.slotsUsed }
      rw [State.setFrames_self ht]
    subst hg
    refine Or.inl ⟨v, ⟨(({ U with heap := s₂.heap, slotsUsed := s₂.slotsUsed } : State).setVm s₂.vm), Ls ++ L, c0 + mc, s0 + ms⟩,
      ⟨X.admits, X.cas, X.clock, X.frames, X.room, X.hears, X.method, X.code, (X.here.setHeapUsed s₂.heap s₂.slotsUsed).setVm hW'.alike, X.tail, State.WarmedH.trans X.warmed hW', X.limits, X.bytes, X.same.trans (hsame.setVm s.vm)⟩,
      ⟨g, mk, s₂, L, rfl, rfl, hqc, rfl, hL, rfl, rfl⟩, ?_⟩
    show Steps p.tables e below _ ((({ U with heap := s₂.heap, slotsUsed := s₂.slotsUsed } : State).setVm s₂.vm).setTop { g with pc := g.pc + len₂, stack := v.toList ++ g.stack })
    rw [← hs₂]
    exact hsteps
  · obtain ⟨e2, q2, q3, q4, q5, q6⟩ := id hsm
    have e3 : s₂ = ({ (U.calling g mk a).setFrames s₂.frames with heap := s₂.heap, slotsUsed := s₂.slotsUsed } : State).setVm s₂.vm := by
      have : s₂ = ({ s₂ with vm := (U.calling g mk a).vm } : State).setVm s₂.vm := rfl
      rw [e2] at this
      exact this
    have hf₂ : s₂.frames = .throwing q :: .java g :: U.frames.tail := hend
    have hW' : U.WarmedH s₂.vm := hW₂
    have hs₂ : s₂ = ((({ U with heap := s₂.heap, slotsUsed := s₂.slotsUsed } : State).setVm s₂.vm).setTop g).pushFrame (.throwing q) := by
      refine e3.trans ?_
      rw [hf₂, State.calling_eq h.top, State.setFrames_setFrames, State.pushFrame, State.frames_setTop _ hr', State.setTop_of_frames _ hr', State.setFrames_setFrames, hr]
      rfl
    have hsame : U.sameButNew ({ U with heap := s₂.heap, slotsUsed := s₂.slotsUsed } : State) L mc ms := by
      refine ⟨?_, q2, q3, q4, q5, q6⟩
      obtain ⟨t, ht, -⟩ := State.frames_cons hr
      show ({ U with heap := s₂.heap, slotsUsed := s₂.slotsUsed } : State) = { U.setFrames U.frames with heap := s₂.heap, slotsUsed := s₂.slotsUsed }
      rw [State.setFrames_self ht]
    subst hg
    refine Or.inr ⟨q, ⟨(({ U with heap := s₂.heap, slotsUsed := s₂.slotsUsed } : State).setVm s₂.vm), Ls ++ L, c0 + mc, s0 + ms⟩,
      ⟨X.admits, X.cas, X.clock, X.frames, X.room, X.hears, X.method, X.code, (X.here.setHeapUsed s₂.heap s₂.slotsUsed).setVm hW'.alike, X.tail, State.WarmedH.trans X.warmed hW', X.limits, X.bytes, X.same.trans (hsame.setVm s.vm)⟩,
      ⟨g, mk, s₂, L, E, ce, rfl, rfl, hx, hce, hcv, hcl, rfl, hL, rfl, rfl⟩, ?_⟩
    show Steps p.tables e below _ (((({ U with heap := s₂.heap, slotsUsed := s₂.slotsUsed } : State).setVm s₂.vm).setTop g).pushFrame (.throwing q))
    rw [← hs₂]
    exact hsteps
end
variable {p : Program} {l : Launch} {e : Env} {R : Room} {s : State} {m : MethodId} {args : Array Value} {below : List Frame} {meth : Method} {c : Code} {T : State} {H : Heap} {locs : List Loc} {cells slots : Nat}
theorem vx_callVX (X : Stand p l e R s m args below meth c T locs cells slots) (hexec : p.tables.exec = Jvm.exec) {own C : String} {index : Nat} {y : MethodName} {bytes : ByteArray} {maxL : Nat} {ret : Option FieldType} {hh : List (Nat × Nat × Nat × Nat)}
    (hown : s.vm.findClass own = some m.cls) (hlink : (Cond.methodLink own index y).before args s = true) (hinst : (Cond.instanceMethod y).before args s = true) (hsel : (Cond.selects C y y).before args s = true)
    (hcode : (Cond.codeWith y bytes maxL ret hh).before args s = true) (hy : y.cls ≠ "java/lang/invoke/MethodHandle" ∧ y.cls ≠ "java/lang/invoke/VarHandle")
    {W9 : Nat} {Pre : Pt → Array Value → Prop} {Post : Pt → Array Value → Option Value → Pt → Prop} {PostX : Pt → Array Value → Addr → Pt → Prop} (hK : vx_Back l R p e below s args y 3 W9 Pre Post PostX)
    {b : Addr} {cellB : Cell} (hcell : T.heap[b]? = some cellB) (hobj : cellB.vm.isStatics = false) (hcls : s.vm.findClass C = some cellB.cls)
    {g : JFrame} (hg : g.method = m) (hsize : g.locals.size = c.maxLocals) {argsL rest : List Value} (hlen : ∀ sig, parseMethodDescriptor y.desc = some sig → argsL.length = sig.parameters.length)
    (hstack : g.stack = argsL.reverse ++ .ref b :: rest) (hW : 2 * g.monitorRoom + (rest.map fun v => v.category).sum ≤ W9) (hdg : decode c.code g.pc = .ok (.invokevirtual index, 3))
    (hpre : ∀ vm₁, s.WarmedH vm₁ → Pre ⟨T.setVm vm₁, locs, cells, slots⟩ (Value.ref b :: argsL).toArray) :
    (∃ (v : Option Value) (vm₁ : Vm) (B : Pt), s.WarmedH vm₁ ∧ Stand p l e R s m args below meth c B.U B.locs B.cells B.slots ∧ Post ⟨T.setVm vm₁, locs, cells, slots⟩ (Value.ref b :: argsL).toArray v B ∧
      ∀ target, Steps p.tables e below (B.U.setTop { g with pc := g.pc + 3, stack := v.toList ++ rest }) target → Steps p.tables e below (T.setTop g) target) ∨
    (∃ (q : Addr) (vm₁ : Vm) (B : Pt), s.WarmedH vm₁ ∧ Stand p l e R s m args below meth c B.U B.locs B.cells B.slots ∧ PostX ⟨T.setVm vm₁, locs, cells, slots⟩ (Value.ref b :: argsL).toArray q B ∧
      Steps p.tables e below (T.setTop g) ((B.U.setTop { g with stack := rest }).pushFrame (.throwing q))) := by
  obtain ⟨mk, methM, hnamed, hmethM, hstM, habM⟩ := Cond.instanceMethod_spec hinst
  obtain ⟨m8, methM', cM, hn8, hmethM', -, -, -, -, -, -, hsigM⟩ := Cond.codeWith_spec hcode
  cases Option.some.inj (hn8.symm.trans hnamed)
  cases hmethM.symm.trans hmethM'
  obtain ⟨c2, r2, m2, q1, q2, q3, q4, kP, hkP, hkPi⟩ := Cond.selects_spec hsel
  cases hcls.symm.trans q1
  cases (State.methodFound?_of_named hnamed hy).symm.trans q2
  cases hnamed.symm.trans q3
  have hselP : selectMethod e.platform s.vm cellB.cls mk = .method mk := by rw [Launch.admits_selectMethod X.admits]; exact q4
  obtain ⟨vm₁, X₁, hstep₁⟩ := X.invokevirtual hexec hown hlink hnamed hmethM hstM hkP hkPi hy (a := b) (cell := cellB) hcell
    (fun z h => by rw [h] at hobj; cases hobj) hselP hmethM habM hkP hkPi (g := g) hg (argsL := argsL) (rest := rest) (hlen _ hsigM) hstack hdg
  rcases hK m meth c ⟨T.setVm vm₁, locs, cells, slots⟩ { g with stack := rest } (.invokevirtual index) mk (Value.ref b :: argsL).toArray X₁ hg hsize hdg hW (X₁.named hnamed) (hpre vm₁ X₁.warmed) with ⟨v, B, X', hpost, hsteps⟩ | ⟨q, B, X', hpost, hsteps⟩
  · exact Or.inl ⟨v, vm₁, B, X₁.warmed, X', hpost, fun target h => hstep₁ _ fun acts => by rw [doInvoke_state]; exact hsteps.trans h⟩
  · exact Or.inr ⟨q, vm₁, B, X₁.warmed, X', hpost, hstep₁ _ fun acts => by rw [doInvoke_state]; exact hsteps⟩
theorem vx_callSX (X : Stand p l e R s m args below meth c T locs cells slots) (hexec : p.tables.exec = Jvm.exec) {own : String} {index : Nat} {y : MethodName} {bytes : ByteArray} {maxL : Nat} {ret : Option FieldType} {hh : List (Nat × Nat × Nat × Nat)}
    (hown : s.vm.findClass own = some m.cls) (hlink : (Cond.methodLink own index y).before args s = true) (hstat : (Cond.static y).before args s = true) (hinit : (Cond.initialized y.cls).before args s = true)
    (hcode : (Cond.codeWith y bytes maxL ret hh).before args s = true) (hy : y.cls ≠ "java/lang/invoke/MethodHandle" ∧ y.cls ≠ "java/lang/invoke/VarHandle")
    {W9 : Nat} {Pre : Pt → Array Value → Prop} {Post : Pt → Array Value → Option Value → Pt → Prop} {PostX : Pt → Array Value → Addr → Pt → Prop} (hK : vx_Back l R p e below s args y 3 W9 Pre Post PostX)
    {g : JFrame} (hg : g.method = m) (hsize : g.locals.size = c.maxLocals) {argsL rest : List Value} (hlen : ∀ sig, parseMethodDescriptor y.desc = some sig → argsL.length = sig.parameters.length)
    (hstack : g.stack = argsL.reverse ++ rest) (hW : 2 * g.monitorRoom + (rest.map fun v => v.category).sum ≤ W9) (hdg : decode c.code g.pc = .ok (.invokestatic index, 3))
    (hpre : ∀ vm₁, s.WarmedH vm₁ → Pre ⟨T.setVm vm₁, locs, cells, slots⟩ argsL.toArray) :
    (∃ (v : Option Value) (vm₁ : Vm) (B : Pt), s.WarmedH vm₁ ∧ Stand p l e R s m args below meth c B.U B.locs B.cells B.slots ∧ Post ⟨T.setVm vm₁, locs, cells, slots⟩ argsL.toArray v B ∧
      ∀ target, Steps p.tables e below (B.U.setTop { g with pc := g.pc + 3, stack := v.toList ++ rest }) target → Steps p.tables e below (T.setTop g) target) ∨
    (∃ (q : Addr) (vm₁ : Vm) (B : Pt), s.WarmedH vm₁ ∧ Stand p l e R s m args below meth c B.U B.locs B.cells B.slots ∧ PostX ⟨T.setVm vm₁, locs, cells, slots⟩ argsL.toArray q B ∧
      Steps p.tables e below (T.setTop g) ((B.U.setTop { g with stack := rest }).pushFrame (.throwing q))) := by
  obtain ⟨mk, methM, cM, hnamed, hmethM, -, -, -, -, -, -, hsigM⟩ := Cond.codeWith_spec hcode
  have hstatic : methM.isStatic = true := Cond.static_spec hnamed hmethM hstat
  obtain ⟨kP, hkP, -⟩ := className_of_methodNamed hnamed
  have hinitP : kP.init = .initialized := Cond.initialized_spec (findClass_of_methodNamed hnamed) hkP hinit
  obtain ⟨vm₁, X₁, hstep₁⟩ := X.invokestatic hexec hown hlink hnamed hmethM hstatic hkP hinitP hy (g := g) hg (argsL := argsL) (rest := rest) (hlen _ hsigM) hstack hdg
  rcases hK m meth c ⟨T.setVm vm₁, locs, cells, slots⟩ { g with stack := rest } (.invokestatic index) mk argsL.toArray X₁ hg hsize hdg hW (X₁.named hnamed) (hpre vm₁ X₁.warmed) with ⟨v, B, X', hpost, hsteps⟩ | ⟨q, B, X', hpost, hsteps⟩
  · exact Or.inl ⟨v, vm₁, B, X₁.warmed, X', hpost, fun target h => hstep₁ _ fun acts => by rw [doInvoke_state]; exact hsteps.trans h⟩
  · exact Or.inr ⟨q, vm₁, B, X₁.warmed, X', hpost, hstep₁ _ fun acts => by rw [doInvoke_state]; exact hsteps⟩
theorem vx_callVW (X : Stand p l e R s m args below meth c T locs cells slots) (hexec : p.tables.exec = Jvm.exec) {own C : String} {index : Nat} {y : MethodName} {bytes : ByteArray} {maxL : Nat} {ret : Option FieldType} {hh : List (Nat × Nat × Nat × Nat)}
    (hown : s.vm.findClass own = some m.cls) (hlink : (Cond.methodLink own index y).before args s = true) (hinst : (Cond.instanceMethod y).before args s = true) (hsel : (Cond.selects C y y).before args s = true)
    (hcode : (Cond.codeWith y bytes maxL ret hh).before args s = true) (hy : y.cls ≠ "java/lang/invoke/MethodHandle" ∧ y.cls ≠ "java/lang/invoke/VarHandle")
    {W9 : Nat} {Pre : Pt → Array Value → Prop} {Post : Pt → Array Value → Option Value → Pt → Prop} (hK : Back l R p e below s args y 3 W9 Pre Post)
    {b : Addr} {cellB : Cell} (hcell : T.heap[b]? = some cellB) (hobj : cellB.vm.isStatics = false) (hcls : s.vm.findClass C = some cellB.cls)
    {g : JFrame} (hg : g.method = m) (hsize : g.locals.size = c.maxLocals) {argsL rest : List Value} (hlen : ∀ sig, parseMethodDescriptor y.desc = some sig → argsL.length = sig.parameters.length)
    (hstack : g.stack = argsL.reverse ++ .ref b :: rest) (hW : 2 * g.monitorRoom + (rest.map fun v => v.category).sum ≤ W9) (hdg : decode c.code g.pc = .ok (.invokevirtual index, 3))
    (hpre : ∀ vm₁, s.WarmedH vm₁ → Pre ⟨T.setVm vm₁, locs, cells, slots⟩ (Value.ref b :: argsL).toArray) :
    ∃ (v : Option Value) (vm₁ : Vm) (B : Pt), s.WarmedH vm₁ ∧ Stand p l e R s m args below meth c B.U B.locs B.cells B.slots ∧ Post ⟨T.setVm vm₁, locs, cells, slots⟩ (Value.ref b :: argsL).toArray v B ∧
      ∀ target, Steps p.tables e below (B.U.setTop { g with pc := g.pc + 3, stack := v.toList ++ rest }) target → Steps p.tables e below (T.setTop g) target := by
  obtain ⟨mk, methM, hnamed, hmethM, hstM, habM⟩ := Cond.instanceMethod_spec hinst
  obtain ⟨m8, methM', cM, hn8, hmethM', -, -, -, -, -, -, hsigM⟩ := Cond.codeWith_spec hcode
  cases Option.some.inj (hn8.symm.trans hnamed)
  cases hmethM.symm.trans hmethM'
  obtain ⟨c2, r2, m2, q1, q2, q3, q4, kP, hkP, hkPi⟩ := Cond.selects_spec hsel
  cases hcls.symm.trans q1
  cases (State.methodFound?_of_named hnamed hy).symm.trans q2
  cases hnamed.symm.trans q3
  have hselP : selectMethod e.platform s.vm cellB.cls mk = .method mk := by rw [Launch.admits_selectMethod X.admits]; exact q4
  obtain ⟨vm₁, X₁, hstep₁⟩ := X.invokevirtual hexec hown hlink hnamed hmethM hstM hkP hkPi hy (a := b) (cell := cellB) hcell
    (fun z h => by rw [h] at hobj; cases hobj) hselP hmethM habM hkP hkPi (g := g) hg (argsL := argsL) (rest := rest) (hlen _ hsigM) hstack hdg
  obtain ⟨v, B, X', hpost, hsteps⟩ := hK m meth c ⟨T.setVm vm₁, locs, cells, slots⟩ { g with stack := rest } (.invokevirtual index) mk (Value.ref b :: argsL).toArray X₁ hg hsize hdg hW (X₁.named hnamed) (hpre vm₁ X₁.warmed)
  exact ⟨v, vm₁, B, X₁.warmed, X', hpost, fun target h => hstep₁ _ fun acts => by rw [doInvoke_state]; exact hsteps.trans h⟩
abbrev vx_CVW (R : Room) (s : State) (args : Array Value) (own C : String) (index : Nat) (y : MethodName) (bytes : ByteArray) (maxL : Nat) (ret : Option FieldType) (hh : List (Nat × Nat × Nat × Nat)) (ws : List Cond) (rm : Room) (mc ms n : Nat) : Prop :=
  (rm.cells = mc ∧ rm.slots = ms ∧ rm.frames + 1 ≤ R.frames ∧ 8 + (maxL + 11) + rm.locals ≤ R.locals ∧ (∀ w ∈ ws, ∀ (a' : Array Value) (U : State), s.WarmedH U.vm → w.before a' U = true) ∧ Cond.codeWith y bytes maxL ret hh ∈ ws) ∧
  (Cond.codeWith y bytes maxL ret hh).before args s = true ∧ (Cond.initialized y.cls).before args s = true ∧ (y.cls ≠ "java/lang/invoke/MethodHandle" ∧ y.cls ≠ "java/lang/invoke/VarHandle") ∧
  (∀ sig, parseMethodDescriptor y.desc = some sig → n = sig.parameters.length) ∧ (Cond.methodLink own index y).before args s = true ∧ (Cond.instanceMethod y).before args s = true ∧ (Cond.selects C y y).before args s = true
theorem vx_cwVW {own C : String} {index maxL mc ms : Nat} {y : MethodName} {bytes : ByteArray} {ret : Option FieldType} {hh : List (Nat × Nat × Nat × Nat)} {Ts ws ws' : List Cond} {rm : Room} (n : Nat) (ht : ∀ w ∈ Ts, w.before args s = true) (hT : GoodIn Ts (wsV own index C y ws)) (hw : ws = Cond.codeWith y bytes maxL ret hh :: ws') (hrc : rm.cells = mc) (hrs : rm.slots = ms)
    (hd : y.cls = C ∧ y.cls ≠ "java/lang/invoke/MethodHandle" ∧ y.cls ≠ "java/lang/invoke/VarHandle" ∧ (parseMethodDescriptor y.desc).map (fun d => d.parameters.length) = some n) (hR : rm.frames + 1 ≤ R.frames ∧ 8 + (maxL + 11) + rm.locals ≤ R.locals) :
    vx_CVW R s args own C index y bytes maxL ret hh ws rm mc ms n := by
  obtain ⟨hC, hd⟩ := hd
  subst hC
  have ok : ∀ w ∈ wsV own index y.cls y ws, w.before args s = true := fun w h => ht w (hT w h).1
  have hG : GoodIn Ts ws := fun w h => hT w (by unfold wsV; exact List.mem_append_right _ h)
  have hc : Cond.codeWith y bytes maxL ret hh ∈ ws := by rw [hw]; exact List.mem_cons_self
  refine ⟨⟨hrc, hrs, hR.1, hR.2, pay_in ht hG, hc⟩, ht _ (hG _ hc).1, ok _ (by simp [wsV]), ⟨hd.1, hd.2.1⟩, fun sig h => ?_, ok _ (by simp [wsV]), ok _ (by simp [wsV]), ok _ (by simp [wsV])⟩
  have h2 := hd.2.2
  rw [h] at h2
  exact (Option.some.inj h2).symm
theorem vx_runVW {y : MethodName} {bytes cc : ByteArray} {maxL nL mc ms n index : Nat} {ret : Option FieldType} {hh : List (Nat × Nat × Nat × Nat)} {ws : List Cond} {rm : Room} {Pc : Array Value → State → Prop} {Qc : Array Value → State → Outcome → State → Prop} {free : Addr → Prop} {Ts : List Cond} {own C : String} {b : Addr} {As rest : List Value} {g : JFrame}
    (S : CallFix p m c cc nL s args Ts own) (hM : Met l y ws rm Pc Qc mc ms free) (cw : vx_CVW R s args own C index y bytes maxL ret hh ws rm mc ms n) (hp : PreV s H C b Pc As)
    (hg : g.method = m) (hn : As.length = n) (hsize : g.locals.size = nL) (hstack : g.stack = As.reverse ++ .ref b :: rest) (hW : 2 * g.monitorRoom + (rest.map fun v => v.category).sum ≤ 8) (hdg : decode cc g.pc = .ok (.invokevirtual index, 3)) (hf : cells + mc ≤ R.cells ∧ slots + ms ≤ R.slots) :
    va_Run p l e R s m args below meth c H locs cells slots mc ms g rest (Qc (Value.ref b :: As).toArray) free := by
  obtain ⟨⟨hrc, hrs, hfr, hlo, hws, hcw⟩, hcode, hini, hy, hlen, hl, hin, hse⟩ := cw
  have hK : Back l R p e below s args y 3 8 (PreOf R mc ms Pc) (PostOf Qc mc ms free) := va_backW (hh := hh) (bytes := bytes) (maxL := maxL) (ret := ret) hM hp.1 hrc hrs hfr hlo hws hcw (fun a' U hW => word_at hW (Or.inl (by first | rfl | simp [Cond.onTables, Cond.keeps, Cond.steady])) hini)
  obtain ⟨hx, hb, hml, ho, -⟩ := S
  obtain ⟨-, ⟨cellB, hcB, hoB, hclB⟩, hPc⟩ := hp
  intro T hT X
  obtain ⟨v, vm₁, ⟨U', l2, c2, s2⟩, hW₁, X', ⟨g', mk, t, L, e1, e2, hq, h1, hL, h2, h3⟩, st⟩ := vx_callVW X hx (C := C) (hh := hh) (bytes := bytes) (maxL := maxL) (ret := ret) ho hl hin hse hcode hy hK (by rw [hT]; exact hcB) hoB hclB hg (hsize.trans hml.symm) (argsL := As) (rest := rest) (fun sig h => hn.trans (hlen sig h)) hstack hW (by rw [hb]; exact hdg)
    (fun vm₁ hW₁ => ⟨hf.1, hf.2, hPc (T.setVm vm₁) hT hW₁⟩)
  dsimp only [Pt.U, Pt.locs, Pt.cells, Pt.slots] at X' e1 e2 h1 h2 h3 st
  subst h1; subst h2; subst h3
  exact ⟨v, (T.setVm vm₁).calling g' mk (Value.ref b :: As).toArray, t, U', L, hT, X', hL, e1, e2, hq, st⟩
section
variable {y : MethodName} {bytes cc : ByteArray} {maxL nL mc ms n index : Nat} {ret : Option FieldType} {ws : List Cond} {rm : Room} {Pc : Array Value → State → Prop} {Qc : Array Value → State → Outcome → State → Prop} {XC : String → State → State → Prop} {free : Addr → Prop} {Ts : List Cond} {own C : String} {b : Addr} {As rest : List Value} {g : JFrame}
theorem vx_runVX {hh : List (Nat × Nat × Nat × Nat)} (S : CallFix p m c cc nL s args Ts own) (hM : vx_Met l y ws rm Pc Qc XC mc ms free) (cw : vx_CVW R s args own C index y bytes maxL ret hh ws rm mc ms n) (hp : PreV s H C b Pc As)
    (hg : g.method = m) (hn : As.length = n) (hsize : g.locals.size = nL) (hstack : g.stack = As.reverse ++ .ref b :: rest) (hW : 2 * g.monitorRoom + (rest.map fun v => v.category).sum ≤ 8) (hdg : decode cc g.pc = .ok (.invokevirtual index, 3)) (hf : cells + mc ≤ R.cells ∧ slots + ms ≤ R.slots) :
    vx_Run p l e R s m args below meth c H locs cells slots mc ms g rest (Qc (Value.ref b :: As).toArray) XC free := by
  obtain ⟨⟨hrc, hrs, hfr, hlo, hws, hcw⟩, hcode, hini, hy, hlen, hl, hin, hse⟩ := cw
  have hK : vx_Back l R p e below s args y 3 8 (PreOf R mc ms Pc) (PostOf Qc mc ms free) (vx_Post XC mc ms free) := vx_backW (hh := hh) (bytes := bytes) (maxL := maxL) (ret := ret) hM hp.1 hrc hrs hfr hlo hws hcw (fun a' U hW => word_at hW (Or.inl (by first | rfl | simp [Cond.onTables, Cond.keeps, Cond.steady])) hini)
  obtain ⟨hx, hb, hml, ho, -⟩ := S
  obtain ⟨-, ⟨cellB, hcB, hoB, hclB⟩, hPc⟩ := hp
  intro T hT X
  rcases vx_callVX X hx (C := C) (hh := hh) (bytes := bytes) (maxL := maxL) (ret := ret) ho hl hin hse hcode hy hK (by rw [hT]; exact hcB) hoB hclB hg (hsize.trans hml.symm) (argsL := As) (rest := rest) (fun sig h => hn.trans (hlen sig h)) hstack hW (by rw [hb]; exact hdg)
    (fun vm₁ hW₁ => ⟨hf.1, hf.2, hPc (T.setVm vm₁) hT hW₁⟩) with ⟨v, vm₁, ⟨U', l2, c2, s2⟩, hW₁, X', ⟨g', mk, t, L, e1, e2, hq, h1, hL, h2, h3⟩, st⟩ | ⟨q, vm₁, ⟨U', l2, c2, s2⟩, hW₁, X', ⟨g', mk, t, L, E, ce, e1, e2, hq, hce, hcv, hcl, h1, hL, h2, h3⟩, st⟩
  · dsimp only [Pt.U, Pt.locs, Pt.cells, Pt.slots] at X' e1 e2 h1 h2 h3 st
    subst h1; subst h2; subst h3
    exact Or.inl ⟨v, (T.setVm vm₁).calling g' mk (Value.ref b :: As).toArray, t, U', L, hT, X', hL, e1, e2, hq, st⟩
  · dsimp only [Pt.U, Pt.locs, Pt.cells, Pt.slots] at X' e1 e2 h1 h2 h3 st hcl
    subst h1; subst h2; subst h3
    exact Or.inr ⟨q, (T.setVm vm₁).calling g' mk (Value.ref b :: As).toArray, t, U', L, E, ce, hT, X', hL, e1, e2, hq, hce, hcv, vx_cls hW₁ hcl, st⟩
theorem vx_runSX {hh : List (Nat × Nat × Nat × Nat)} (S : CallFix p m c cc nL s args Ts own) (hM : vx_Met l y ws rm Pc Qc XC mc ms free) (cw : vx_CSW R s args own index y bytes maxL ret hh ws rm mc ms n) (hp : PreS s H Pc As)
    (hg : g.method = m) (hn : As.length = n) (hsize : g.locals.size = nL) (hstack : g.stack = As.reverse ++ rest) (hW : 2 * g.monitorRoom + (rest.map fun v => v.category).sum ≤ 8) (hdg : decode cc g.pc = .ok (.invokestatic index, 3)) (hf : cells + mc ≤ R.cells ∧ slots + ms ≤ R.slots) :
    vx_Run p l e R s m args below meth c H locs cells slots mc ms g rest (Qc As.toArray) XC free := by
  obtain ⟨⟨hrc, hrs, hfr, hlo, hws, hcw⟩, hcode, hini, hy, hlen, hl, hstt⟩ := cw
  have hK : vx_Back l R p e below s args y 3 8 (PreOf R mc ms Pc) (PostOf Qc mc ms free) (vx_Post XC mc ms free) := vx_backW (hh := hh) (bytes := bytes) (maxL := maxL) (ret := ret) hM hp.1 hrc hrs hfr hlo hws hcw (fun a' U hW => word_at hW (Or.inl (by first | rfl | simp [Cond.onTables, Cond.keeps, Cond.steady])) hini)
  obtain ⟨hx, hb, hml, ho, -⟩ := S
  intro T hT X
  rcases vx_callSX X hx (hh := hh) (bytes := bytes) (maxL := maxL) (ret := ret) ho hl hstt hini hcode hy hK hg (hsize.trans hml.symm) (argsL := As) (rest := rest) (fun sig h => hn.trans (hlen sig h)) hstack hW (by rw [hb]; exact hdg)
    (fun vm₁ hW₁ => ⟨hf.1, hf.2, hp.2 (T.setVm vm₁) hT hW₁⟩) with ⟨v, vm₁, ⟨U', l2, c2, s2⟩, hW₁, X', ⟨g', mk, t, L, e1, e2, hq, h1, hL, h2, h3⟩, st⟩ | ⟨q, vm₁, ⟨U', l2, c2, s2⟩, hW₁, X', ⟨g', mk, t, L, E, ce, e1, e2, hq, hce, hcv, hcl, h1, hL, h2, h3⟩, st⟩
  · dsimp only [Pt.U, Pt.locs, Pt.cells, Pt.slots] at X' e1 e2 h1 h2 h3 st
    subst h1; subst h2; subst h3
    exact Or.inl ⟨v, (T.setVm vm₁).calling g' mk As.toArray, t, U', L, hT, X', hL, e1, e2, hq, st⟩
  · dsimp only [Pt.U, Pt.locs, Pt.cells, Pt.slots] at X' e1 e2 h1 h2 h3 st hcl
    subst h1; subst h2; subst h3
    exact Or.inr ⟨q, (T.setVm vm₁).calling g' mk As.toArray, t, U', L, E, ce, hT, X', hL, e1, e2, hq, hce, hcv, vx_cls hW₁ hcl, st⟩
end
end VXH
theorem vx_ofWH {l : Launch} {y : MethodName} {ws ws' : List Cond} {rm : Room} {Pc : Array Value → State → Prop} {Qc : Array Value → State → Outcome → State → Prop} {XC : String → State → State → Prop} {mc ms : Nat} {free : Addr → Prop} {cc : ByteArray} {maxL : Nat} {ret : Option FieldType} {hh : List (Nat × Nat × Nat × Nat)}
    (hy : plainName y.cls = true) (hw : ws = Cond.codeWith y cc maxL ret hh :: ws')
    (body : ∀ p e s m args below meth c s₁, BodyLoose p l y (headSpec ws rm) cc maxL ret e s m args below meth c s₁ → c.maxLocals = maxL → Pc args s →
      W p l e (headSpec ws rm).room s m args below meth c s.heap [] 0 0 (vx_MQ below Qc XC args s mc ms free) (entryFrame m args maxL)) : vx_Met l y ws rm Pc Qc XC mc ms free := by
  refine MetFree.of_bodyS (code := cc) (maxLocals := maxL) (ret := ret) hy ?_ ?_
  · intro args s m h hn
    obtain ⟨m9, meth, c, hn9, h1, h2, h3, h4, -, h5, h6, -⟩ := Cond.codeWith_spec (atoms_spec (ws := ws) h _ (by rw [hw]; exact List.mem_cons_self))
    cases hn.symm.trans hn9
    exact ⟨meth, c, h1, h2, h3, h4, h5, h6⟩
  · intro p e s m args below meth c s₁ B hml hP _
    have hh0 : s₁.heap = s.heap := by rw [B.state]; rfl
    obtain ⟨t, a1, o, b1, b2, b3⟩ := body p e s m args below meth c s₁ B hml hP s₁ hh0 (Stand.of_body B)
    exact ⟨t, o, a1, b1, b2, b3⟩
/-! ===== END ===== -/

/-! ===== BEGIN what the machine throws by itself, no traces kept ===== -/
section VXM
set_option maxHeartbeats 1000000 in
/-- the machine throws cls with the message text, no traces kept: from its note over the frame g to 'throwing' over the same frame (follows the proofs of Stand.vmThrowsMessage, Shelf/KitTracedVmS.lean, and Stand.throwsMessageColdBareV, StandMessageColdV.lean, without the step out of the frame) -/
theorem vx_vmAt {p : Program} {l : Launch} {e : Env} {R : Room} {s : State} {m₀ : MethodId} {args : Array Value} {below : List Frame} {meth : Method} {c : Code} {W : State} {locs : List Loc} {cells slots : Nat}
    (X : Stand p l e R s m₀ args below meth c W locs cells slots) (hexec : p.tables.exec = Jvm.exec) (htr : e.platform.stackTraces = false) {cls : String} {names : List String} {text : String}
    (hcls : Bundle.fit cls = true) (hnames : ∀ n ∈ names, Bundle.fit n = true) (hsoe : (cls == "java/lang/StackOverflowError") = false) (hoom : (cls == "java/lang/OutOfMemoryError") = false)
    (h : ∀ a ∈ Bundle.messageArmAtoms cls names, a.before args s = true)
    (hlocs : ∀ x ∈ locs, ∀ cell, s.heap[x.base]? = some cell → cell.vm.isStatics = false)
    (htext : (text == notModelled) = false) (hlimit : ¬ (stringBytes (stringToUtf16 text)).size > e.platform.arrayLengthLimit) (hheap : ¬ (stringBytes (stringToUtf16 text)).size * componentBytes .byte > e.platform.maxHeapBytes)
    {g : JFrame} (hg : g.method = m₀) (hsize : g.locals.size = c.maxLocals)
    (hRframes : names.length + 4 < R.frames) (hRlocals : 2 * g.monitorRoom + (g.stack.map fun v => v.category).sum + 10240 ≤ R.locals) (hshort : 13 * names.length + 55 ≤ 10240)
    (hRcells : cells + 3 ≤ R.cells) (hRslots : slots + ((stringBytes (stringToUtf16 text)).size + 4 + 6) ≤ R.slots) (hlocks : meth.locks = false) :
    ∃ (S : State) (q : Addr) (ce : Cell), (∀ target, Steps p.tables e below ((S.setTop g).pushFrame (.throwing q)) target → Steps p.tables e below ((W.setTop g).pushFrame (.throwNew cls (some text) none)) target) ∧
      Stand p l e R s m₀ args below meth c S locs (cells + 3) (slots + ((stringBytes (stringToUtf16 text)).size + 4 + 6)) ∧ S.heap[q]? = some ce ∧ s.vm.findClass cls = some ce.cls ∧ ce.vm = .none := by
  have howns : e.platform.frameOwnsMonitors = true := by rw [X.admits.platform]
  have hfin : e.platform.finalization = false := by rw [X.admits.platform]
  have hpl : e.platform.magicAccessors = ({} : Platform).magicAccessors := by rw [X.admits.platform]
  have a : ∀ x, x ∈ Bundle.messageArmAtoms cls names → x.holds args s none s [] = true := fun x hx => h x hx
  obtain ⟨T, Z0, L, -, Y⟩ := ThrowableC.of_atoms (args := args) howns hfin hpl (fun x hx => h x (by simp [Bundle.messageArmAtoms, hx]))
  obtain ⟨Z, M, LZ, LM, hnZ⟩ := Init0T.ofS_atoms (args := args) hpl L Y (fun x hx => h x (by simp [Bundle.messageArmAtoms, hx]))
  obtain ⟨P1, Ps, hlen, L1, hL, hP1m, hlink1, hlink⟩ := Bundle.chainS (args := args) hpl hnZ names cls hcls hnames (fun x hx => h x (by simp [Bundle.messageArmAtoms, hx]))
  obtain ⟨Zs, LZs, hn4, hfitv, hfitc⟩ := StringT.of_atoms (args := args) (fun x hx => h x (by simp [Bundle.messageArmAtoms, hx]))
  have hfound : s.vm.findClass cls = some P1.m.cls := findClass_of_methodNamed hP1m
  obtain ⟨c1, kX, hc1, hk, hord, -, -, hn6⟩ := Cond.instantiable_spec (a (.instantiable cls 6) (by simp [Bundle.messageArmAtoms]))
  cases Option.some.inj (hc1.symm.trans hfound)
  have hinit := Cond.initialized_spec hfound hk (a (.initialized cls) (by simp [Bundle.messageArmAtoms]))
  have hctor : kX.findMethod "<init>" "(Ljava/lang/String;)V" = some P1.m.idx := findMethod_of_methodNamed hP1m hk
  have hsel0 : selectMethod e.platform s.vm P1.m.cls T.fill0 = .method T.fill0 := by
    obtain ⟨c2, r2, m2, q1, q2, q3, q4, -⟩ := Cond.selects_spec (a (.selects cls Bundle.tFill0 Bundle.tFill0) (by simp [Bundle.messageArmAtoms]))
    cases Option.some.inj (q1.symm.trans hfound)
    cases Option.some.inj (q2.symm.trans (State.methodFound?_of_named Y.fill0 (by decide)))
    cases Option.some.inj (q3.symm.trans Y.fill0)
    rw [Launch.admits_selectMethod X.admits]; exact q4
  have hselF : selectMethod e.platform s.vm P1.m.cls T.fill = .method T.fill := by
    obtain ⟨c2, r2, m2, q1, q2, q3, q4, -⟩ := Cond.selects_spec (a (.selects cls Bundle.tFill Bundle.tFill) (by simp [Bundle.messageArmAtoms]))
    cases Option.some.inj (q1.symm.trans hfound)
    cases Option.some.inj (q2.symm.trans (State.methodFound?_of_named Y.fill (by decide)))
    cases Option.some.inj (q3.symm.trans Y.fill)
    rw [Launch.admits_selectMethod X.admits]; exact q4
  obtain ⟨cellS0, hcS0, hiss⟩ := Y.statics
  obtain ⟨u0, hu0⟩ := Cond.staticRefV Y.unassigned L.unassignedStatic L.statics hcS0 hiss (a (.isRef (.static Bundle.tN "UNASSIGNED_STACK" Bundle.steD)) (by simp [Bundle.messageArmAtoms]))
  obtain ⟨sen, hsen⟩ := Cond.staticRefV Y.sentinel L.sentinelStatic L.statics hcS0 hiss (a (.isRef (.static Bundle.tN "SUPPRESSED_SENTINEL" Bundle.listD)) (by simp [Bundle.messageArmAtoms]))
  obtain ⟨ci198, i198, fB, hk198, hg198, ha198, hsB, -, hnB, htB, hffB⟩ := Cond.ownField (t := .object "java/lang/Object") Y.found L.cls (by decide +kernel) (a (.fieldLink Bundle.tN 198 Bundle.tN "backtrace" "Ljava/lang/Object;") (by simp [Bundle.messageArmAtoms])) (a (.lays Bundle.tN Bundle.tN "backtrace" "Ljava/lang/Object;") (by simp [Bundle.messageArmAtoms])) e.platform hpl
  obtain ⟨cellS, hcS', heS, -, hkeep⟩ := X.same.2.2.2.2.2 T.aS cellS0 hcS0
  have hcellS : W.heap[T.aS]? = some cellS := hcS'
  have hout' : ∀ i, (⟨T.aS, i⟩ : Loc) ∉ locs := fun i hmem => by
    have := hlocs _ hmem cellS0 hcS0
    rw [hiss] at this; cases this
  have hknownS : cellS.vm ≠ .unknown := by
    rw [heS]; intro hu
    rw [show cellS0.vm = .unknown from hu] at hiss
    cases hiss
  have hvU : cellS.slots[T.fUnassigned.slot]? = some u0.v := by rw [hkeep _ (hout' _)]; exact hu0
  have hvSen : cellS.slots[T.fSentinel.slot]? = some sen.v := by rw [hkeep _ (hout' _)]; exact hsen
  obtain ⟨iM, hffM⟩ := Y.msg
  obtain ⟨tyC, dC, hdC, hdnC⟩ := Cond.laysAt hfound hk Y.cause (a (.lays cls Bundle.tN "cause" "Ljava/lang/Throwable;") (by simp [Bundle.messageArmAtoms]))
  obtain ⟨tyS, dS, hdS, hdnS⟩ := Cond.laysAt hfound hk Y.stack (a (.lays cls Bundle.tN "stackTrace" Bundle.steD) (by simp [Bundle.messageArmAtoms]))
  obtain ⟨tyP, dP, hdP, hdnP⟩ := Cond.laysAt hfound hk Y.supp (a (.lays cls Bundle.tN "suppressedExceptions" Bundle.listD) (by simp [Bundle.messageArmAtoms]))
  obtain ⟨tyM, dM, hdM, hdnM⟩ := Cond.laysAt hfound hk hffM (a (.lays cls Bundle.tN "detailMessage" "Ljava/lang/String;") (by simp [Bundle.messageArmAtoms]))
  obtain ⟨tyB, dB, hdB, hdnB⟩ := Cond.laysAt hfound hk hffB (a (.lays cls Bundle.tN "backtrace" "Ljava/lang/Object;") (by simp [Bundle.messageArmAtoms]))
  have bC := Cond.laysApart hdB hdC hdnB hdnC (by rw [hnB, Y.causeName]; decide)
  have bS := Cond.laysApart hdB hdS hdnB hdnS (by rw [hnB, Y.stackName]; decide)
  have bP := Cond.laysApart hdB hdP hdnB hdnP (by rw [hnB, Y.suppName]; decide)
  have hbk : ((preparedCellV T.toThrowableT (freshCell P1.m.cls kX) (W.heap.size + 2) u0 sen).withEntry W.cur).slots[fB.slot]? = some .null := by
    have := fresh_default (c := P1.m.cls) tyB
    rw [htB] at this
    simpa [preparedCellV, Cell.setSlot, Cell.withEntry, Array.getElem?_setIfInBounds, bC, bS, bP, bC.symm, bS.symm, bP.symm, defaultValue] using this
  have tkC := Takes.of_laid (v := .ref (W.heap.size + 2)) hk hord tyC (by rw [Y.causeType]; rfl)
  have tkS := Takes.of_laid (v := u0.v) hk hord tyS (by rw [Y.stackType]; exact fits_refV_array _ u0)
  have tkP := Takes.of_laid (v := sen.v) hk hord tyP (by rw [Y.suppType]; exact fits_refV_object _ sen)
  have tkM := Takes.of_laid (v := .ref (W.heap.size + 1)) hk hord tyM (by rw [Y.msgType]; rfl)
  have hskip : SkipFacts T e.platform s (fun u => u) u0 ((preparedCellV T.toThrowableT (freshCell P1.m.cls kX) (W.heap.size + 2) u0 sen).withEntry W.cur) := ⟨{ ci198 := ci198, i198 := i198, fBack := fB }, ⟨hk198, hg198, ha198, hsB⟩, hbk, fun _ _ => rfl⟩
  have h0 : At W g.method c below := by rw [hg]; exact X.here
  obtain ⟨hbeyond, hfreeW⟩ := X.vmMayThrow hsize (.throwNew cls (some text) none) (fun f hf => by cases hf) rfl hRlocals
  have hfr' : W.frames.length + Ps.length + 4 < (e.platform.stackLimits W.me).1 := by have := X.framesAbove hRframes; omega
  have hwd' : (stackUse (.java g :: W.frames.tail)).2 + 13 * Ps.length + 55 ≤ (e.platform.stackLimits W.me).2 := by have := X.stackAbove hsize (K := 13 * Ps.length + 55) (by omega); omega
  have hslots : W.slotsUsed + (stringBytes (stringToUtf16 text)).size + Zs.kS.instanceTypes.size + kX.instanceTypes.size ≤ e.platform.maxSlots := by
    have := X.slotsAbove hRslots
    rw [hn4, hn6]
    omega
  obtain ⟨vm', hW', st⟩ := Steps.vmThrowsMessageColdByV p (s₀ := s) (S := W) (g := g) h0 hexec T L Z LZ M LM X.warmed (t := W.cur) rfl Zs LZs P1 L1 Ps hL hlink1 hlink hsoe hoom hfound hk hinit hord hctor
    (Launch.admits_hotImplicitExceptions X.admits) hbeyond hfreeW htext hlimit hheap (X.cellsAbove hRcells) hslots (hfitv _) (hfitc _)
    (Nn := fun u => u) heapOnly_id (fun _ _ => rfl) (fun _ => rfl) (fun u x y => setCell_twice _ _ _ _) (fun _ => Nat.le_refl _) (cN := ((preparedCellV T.toThrowableT (freshCell P1.m.cls kX) (W.heap.size + 2) u0 sen).withEntry W.cur))
    hsel0 hcellS hknownS hvU tkS (fun _ hu => hu) (fun _ hu => hu) rfl rfl rfl (by simp [preparedCellV, Cell.setSlot, Cell.withEntry]) hskip (fun _ _ hA hW _ hroom _ hrest => L.nativeOff p htr hA hW hroom hrest) hselF hvSen tkC tkP tkM Y.objLocals rfl hfr' hwd'
  rw [plainBareV_eq T.toThrowableT (W.heap.size + 2) u0 sen (.ref (W.heap.size + 1)) W.cur rfl rfl] at st
  obtain ⟨-, -, w3, w4, -, -, -⟩ := withThrown_facts e.platform W Zs text P1.m.cls kX
  have X3 := ((X.pushed (bytesOf Zs.cB (stringToUtf16 text))).pushed (stringAt Zs.cS Zs.kS Zs.fv Zs.fc (stringToUtf16 text) W.heap.size)).pushed (freshCell P1.m.cls kX)
  rw [← withString_eq] at X3
  have X4 := X3.noted hW'
  have ha : (W.heap.size + 2) < ((withThrown W Zs text P1.m.cls kX).setVm vm').heap.size := by show _ < (withThrown W Zs text P1.m.cls kX).heap.size; rw [w3]; omega
  have hcell : ((withThrown W Zs text P1.m.cls kX).setVm vm').heap[(W.heap.size + 2)]? = some (freshCell P1.m.cls kX) := w4
  have X5 := ((((X4.stored hcell T.fCause.slot (.ref (W.heap.size + 2))).storedAgain ha T.fStack.slot u0.v).storedAgain ha T.fSupp.slot sen.v).storedAgain ha T.fStack.slot u0.v).storedAgain ha T.fMsg.slot (.ref (W.heap.size + 1))
  obtain ⟨g₁, hfrM⟩ := X5.frames_eq
  have hU : ((((withThrown W Zs text P1.m.cls kX).setVm vm').setCell (W.heap.size + 2) (plainBareV T.toThrowableT (freshCell P1.m.cls kX) (W.heap.size + 2) u0 sen (.ref (W.heap.size + 1)))).setTop g).pushFrame (.throwing (W.heap.size + 2)) = (((withThrown W Zs text P1.m.cls kX).setVm vm').setCell (W.heap.size + 2) (plainBareV T.toThrowableT (freshCell P1.m.cls kX) (W.heap.size + 2) u0 sen (.ref (W.heap.size + 1)))).setFrames (.throwing (W.heap.size + 2) :: .java g :: below) := by
    rw [State.pushFrame, State.frames_setTop _ hfrM, State.setTop_of_frames _ hfrM, State.setFrames_setFrames]
  have b1 : (bytesOf Zs.cB (stringToUtf16 text)).slots.size = (stringBytes (stringToUtf16 text)).size := by
    rw [(Cell.writeAll_facts _ _).2.2]; simp [bytes0]
  have b2 : (stringAt Zs.cS Zs.kS Zs.fv Zs.fc (stringToUtf16 text) W.heap.size).slots.size = 4 := by simp [string0, Cell.setSlot, hn4]
  have b3 : (freshCell P1.m.cls kX).slots.size = 6 := by simp [hn6]
  rw [b1, b2, b3] at X5
  have e9 : slots + (stringBytes (stringToUtf16 text)).size + 4 + 6 = slots + ((stringBytes (stringToUtf16 text)).size + 4 + 6) := by omega
  rw [e9] at X5
  simp only [List.append_assoc, List.cons_append, List.nil_append] at X5
  refine ⟨((withThrown W Zs text P1.m.cls kX).setVm vm').setCell (W.heap.size + 2) (plainBareV T.toThrowableT (freshCell P1.m.cls kX) (W.heap.size + 2) u0 sen (.ref (W.heap.size + 1))), W.heap.size + 2, _, fun target ht => st _ (by rw [X.tail, ← hU]; exact ht),
    X5.forget (fun y hy => ?_), heapAt_setCell_self _ ha, hfound, rfl⟩
  simp only [List.mem_cons, List.not_mem_nil, or_false] at hy
  have hge : s.heap.size ≤ W.heap.size := X.same.2.1
  rcases hy with rfl | rfl | rfl | rfl | rfl <;> exact Nat.le_trans hge (Nat.le_add_right _ 2)
set_option maxHeartbeats 1000000 in
/-- the machine throws NullPointerException, no traces kept: from its note over the frame g to 'throwing' over the same frame (follows the proof of Stand.vmThrowsNpe, Shelf42/KT2.lean; throwsNpeColdBareVAt, Shelf42/NT91.lean, called) -/
theorem vx_npeAt {p : Program} {l : Launch} {e : Env} {R : Room} {s : State} {m₀ : MethodId} {args : Array Value} {below : List Frame} {meth : Method} {c : Code} {W : State} {locs : List Loc} {cells slots : Nat}
    (X : Stand p l e R s m₀ args below meth c W locs cells slots) (hexec : p.tables.exec = Jvm.exec) (htr : e.platform.stackTraces = false) {n : Nat}
    (h : ∀ a ∈ Bundle.npeArmAtoms n, a.before args s = true)
    (hlocs : ∀ x ∈ locs, ∀ cell, s.heap[x.base]? = some cell → cell.vm.isStatics = false)
    {g : JFrame} (hg : g.method = m₀) (hsize : g.locals.size = c.maxLocals)
    (hRframes : 7 < R.frames) (hRlocals : 2 * g.monitorRoom + (g.stack.map fun v => v.category).sum + 10240 ≤ R.locals)
    (hRcells : cells + 1 ≤ R.cells) (hRslots : slots + n ≤ R.slots) (hlocks : meth.locks = false) :
    ∃ (S : State) (q : Addr) (ce : Cell), (∀ target, Steps p.tables e below ((S.setTop g).pushFrame (.throwing q)) target → Steps p.tables e below ((W.setTop g).pushFrame (.throwNew "java/lang/NullPointerException" none none)) target) ∧
      Stand p l e R s m₀ args below meth c S locs (cells + 1) (slots + n) ∧ S.heap[q]? = some ce ∧ s.vm.findClass "java/lang/NullPointerException" = some ce.cls ∧ ce.vm = .none := by
  have howns : e.platform.frameOwnsMonitors = true := by rw [X.admits.platform]
  have hfin : e.platform.finalization = false := by rw [X.admits.platform]
  have hpl : e.platform.magicAccessors = ({} : Platform).magicAccessors := by rw [X.admits.platform]
  have hpl2 : e.platform.arrayCloneIsPublic = true := by rw [X.admits.platform]
  have a' : ∀ x, x ∈ Bundle.npeArmAtoms n → x.holds args s none s [] = true := fun x hx => h x hx
  obtain ⟨T, Z, L, LZ, Y⟩ := ThrowableC.of_atoms (args := args) howns hfin hpl (fun x hx => h x (by simp [Bundle.npeArmAtoms, hx]))
  obtain ⟨N, LN, hcN, hnNF, hordN, hffS⟩ := NpeC.of_atoms (args := args) hpl hpl2 L Y (fun x hx => h x (by simp [Bundle.npeArmAtoms, hx]))
  obtain ⟨P1, L1, hP1m, hP1s⟩ := PassC.of_atoms (args := args) (s := s) hpl (X := Bundle.nN) (Y := Bundle.rN) (by decide) (by decide) LibCode.NullPointerException.Init0.at_0 LibCode.NullPointerException.Init0.at_1 LibCode.NullPointerException.Init0.at_4 (fun x hx => h x (by simp [Bundle.npeArmAtoms, hx]))
  obtain ⟨PR, LR, hPRm, hPRs⟩ := PassC.of_atoms (args := args) (s := s) hpl (X := Bundle.rN) (Y := Bundle.eN) (by decide) (by decide) LibCode.RuntimeException.Init0.at_0 LibCode.RuntimeException.Init0.at_1 LibCode.RuntimeException.Init0.at_4 (fun x hx => h x (by simp [Bundle.npeArmAtoms, hx]))
  obtain ⟨PE, LEx, hPEm, hPEs⟩ := PassC.of_atoms (args := args) (s := s) hpl (X := Bundle.eN) (Y := Bundle.tN) (by decide) (by decide) LibCode.Exception.Init0.at_0 LibCode.Exception.Init0.at_1 LibCode.Exception.Init0.at_4 (fun x hx => h x (by simp [Bundle.npeArmAtoms, hx]))
  have hfound : s.vm.findClass Bundle.nN = some P1.m.cls := findClass_of_methodNamed hP1m
  have ecls : N.cN = P1.m.cls := Option.some.inj (hcN.symm.trans hfound)
  have hk : s.vm.classes[P1.m.cls]? = some N.kN := by rw [← ecls]; exact LN.cls
  have hinit := Cond.initialized_spec hfound hk (a' (.initialized Bundle.nN) (by simp [Bundle.npeArmAtoms]))
  have hctor : N.kN.findMethod "<init>" "()V" = some P1.m.idx := findMethod_of_methodNamed hP1m hk
  obtain ⟨c1, k1, hc1, hk1, -, -, -, hn⟩ := Cond.instantiable_spec (a' (.instantiable Bundle.nN n) (by simp [Bundle.npeArmAtoms]))
  cases Option.some.inj (hc1.symm.trans hfound)
  cases Option.some.inj (hk1.symm.trans hk)
  have hfsz : (freshCell P1.m.cls N.kN).slots.size = n := by simp [hn]
  have hlink1 : P1.sup = PR.m := Option.some.inj (hP1s.symm.trans hPRm)
  have hlinkR : PR.sup = PE.m := Option.some.inj (hPRs.symm.trans hPEm)
  have hlinkE : PE.sup = Z.m T.toThrowableT := Option.some.inj (hPEs.symm.trans Y.init0)
  have hLs : ∀ P, P ∈ [PR, PE] → P.Links0 e.platform s := fun P hP => by
    simp only [List.mem_cons, List.not_mem_nil, or_false] at hP
    rcases hP with rfl | rfl
    · exact LR
    · exact LEx
  have hsel0 : selectMethod e.platform s.vm P1.m.cls T.fill0 = .method T.fill0 := by
    obtain ⟨c2, r2, m2, q1, q2, q3, q4, -⟩ := Cond.selects_spec (a' (.selects Bundle.nN Bundle.tFill0 Bundle.tFill0) (by simp [Bundle.npeArmAtoms]))
    cases Option.some.inj (q1.symm.trans hfound)
    cases Option.some.inj (q2.symm.trans (State.methodFound?_of_named Y.fill0 (by decide)))
    cases Option.some.inj (q3.symm.trans Y.fill0)
    rw [Launch.admits_selectMethod X.admits]; exact q4
  have hselF : selectMethod e.platform s.vm P1.m.cls T.fill = .method N.fill := by
    obtain ⟨c2, r2, m2, q1, q2, q3, q4, -⟩ := Cond.selects_spec (a' (.selects Bundle.nN Bundle.tFill Bundle.nFill) (by simp [Bundle.npeArmAtoms]))
    cases Option.some.inj (q1.symm.trans hfound)
    cases Option.some.inj (q2.symm.trans (State.methodFound?_of_named Y.fill (by decide)))
    cases Option.some.inj (q3.symm.trans hnNF)
    rw [Launch.admits_selectMethod X.admits]; exact q4
  obtain ⟨cellS0, hcS0, hiss⟩ := Y.statics
  obtain ⟨u0, hu0⟩ := Cond.staticRefV Y.unassigned L.unassignedStatic L.statics hcS0 hiss (a' (.isRef (.static Bundle.tN "UNASSIGNED_STACK" Bundle.steD)) (by simp [Bundle.npeArmAtoms]))
  obtain ⟨sen, hsen⟩ := Cond.staticRefV Y.sentinel L.sentinelStatic L.statics hcS0 hiss (a' (.isRef (.static Bundle.tN "SUPPRESSED_SENTINEL" Bundle.listD)) (by simp [Bundle.npeArmAtoms]))
  obtain ⟨ci198, i198, fB, hk198, hg198, ha198, hsB, -, hnB, htB, hffB⟩ := Cond.ownField (t := .object "java/lang/Object") Y.found L.cls (by decide +kernel) (a' (.fieldLink Bundle.tN 198 Bundle.tN "backtrace" Bundle.objD) (by simp [Bundle.npeArmAtoms])) (a' (.lays Bundle.tN Bundle.tN "backtrace" Bundle.objD) (by simp [Bundle.npeArmAtoms])) e.platform hpl
  obtain ⟨cellS, hcS', heS, -, hkeep⟩ := X.same.2.2.2.2.2 T.aS cellS0 hcS0
  have hcellS : W.heap[T.aS]? = some cellS := hcS'
  have hout' : ∀ i, (⟨T.aS, i⟩ : Loc) ∉ locs := fun i hmem => by
    have := hlocs _ hmem cellS0 hcS0
    rw [hiss] at this; cases this
  have hknownS : cellS.vm ≠ .unknown := by
    rw [heS]; intro hu
    rw [show cellS0.vm = .unknown from hu] at hiss
    cases hiss
  have hvU : cellS.slots[T.fUnassigned.slot]? = some u0.v := by rw [hkeep _ (hout' _)]; exact hu0
  have hvSen : cellS.slots[T.fSentinel.slot]? = some sen.v := by rw [hkeep _ (hout' _)]; exact hsen
  obtain ⟨tyC, dC, hdC, hdnC⟩ := Cond.laysAt hfound hk Y.cause (a' (.lays Bundle.nN Bundle.tN "cause" "Ljava/lang/Throwable;") (by simp [Bundle.npeArmAtoms]))
  obtain ⟨tyS, dS, hdS, hdnS⟩ := Cond.laysAt hfound hk Y.stack (a' (.lays Bundle.nN Bundle.tN "stackTrace" Bundle.steD) (by simp [Bundle.npeArmAtoms]))
  obtain ⟨tyP, dP, hdP, hdnP⟩ := Cond.laysAt hfound hk Y.supp (a' (.lays Bundle.nN Bundle.tN "suppressedExceptions" Bundle.listD) (by simp [Bundle.npeArmAtoms]))
  obtain ⟨tyX, dX, hdX, hdnX⟩ := Cond.laysAt hfound hk hffS (a' (.lays Bundle.nN Bundle.nN "extendedMessageState" "I") (by simp [Bundle.npeArmAtoms, Bundle.npeAtoms]))
  obtain ⟨hnX, htX⟩ := State.fieldFound?_type hffS (t := .int) (by decide +kernel)
  have xC := Cond.laysApart hdC hdX hdnC hdnX (by rw [hnX, Y.causeName]; decide)
  have xS := Cond.laysApart hdS hdX hdnS hdnX (by rw [hnX, Y.stackName]; decide)
  have xP := Cond.laysApart hdP hdX hdnP hdnX (by rw [hnX, Y.suppName]; decide)
  have hv0 : (freshCell P1.m.cls N.kN).slots[N.fState.slot]? = some (.int 0) := by
    have := fresh_default (c := P1.m.cls) tyX
    rw [htX] at this; exact this
  obtain ⟨tyB, dB, hdB, hdnB⟩ := Cond.laysAt hfound hk hffB (a' (.lays Bundle.nN Bundle.tN "backtrace" Bundle.objD) (by simp [Bundle.npeArmAtoms]))
  have bC := Cond.laysApart hdB hdC hdnB hdnC (by rw [hnB, Y.causeName]; decide)
  have bS := Cond.laysApart hdB hdS hdnB hdnS (by rw [hnB, Y.stackName]; decide)
  have bP := Cond.laysApart hdB hdP hdnB hdnP (by rw [hnB, Y.suppName]; decide)
  have bX := Cond.laysApart hdB hdX hdnB hdnX (by rw [hnB, hnX]; decide)
  have hbk : ((npeCell N.toNpeT (preparedCellV T.toThrowableT (freshCell P1.m.cls N.kN) W.heap.size u0 sen) W.cur).withEntry W.cur).slots[fB.slot]? = some .null := by
    have := fresh_default (c := P1.m.cls) tyB
    rw [htB] at this
    simpa [npeCell, preparedCellV, Cell.setSlot, Cell.withEntry, Array.getElem?_setIfInBounds, bC, bS, bP, bX, bC.symm, bS.symm, bP.symm, bX.symm, defaultValue] using this
  have tkC := Takes.of_laid (v := .ref W.heap.size) hk hordN tyC (by rw [Y.causeType]; rfl)
  have tkS := Takes.of_laid (v := u0.v) hk hordN tyS (by rw [Y.stackType]; exact fits_refV_array _ u0)
  have tkP := Takes.of_laid (v := sen.v) hk hordN tyP (by rw [Y.suppType]; exact fits_refV_object _ sen)
  have tkX := Takes.of_laid (v := .int 1) hk hordN tyX (by rw [htX]; rfl)
  have hskip : SkipFacts T e.platform s (fun u => u) u0 ((npeCell N.toNpeT (preparedCellV T.toThrowableT (freshCell P1.m.cls N.kN) W.heap.size u0 sen) W.cur).withEntry W.cur) := ⟨{ ci198 := ci198, i198 := i198, fBack := fB }, ⟨hk198, hg198, ha198, hsB⟩, hbk, fun _ _ => rfl⟩
  obtain ⟨vm', X3, st, -⟩ := X.throwsNpeColdBareVAt hexec hg hsize T L Z LZ N LN P1 L1 [PR, PE] hLs hlink1 ⟨hlinkR, hlinkE, trivial⟩ hfound hk hinit hordN hctor hsel0 hselF hcellS hknownS hvU hvSen
    hv0 xC xS xP tkC tkS tkP tkX Y.objLocals hskip (fun _ _ hA hW _ hroom _ hrest => L.nativeOff p htr hA hW hroom hrest) (by simpa using hRframes) hRlocals (by simp) hRcells (by rw [hn]; exact hRslots)
  have hlt : W.heap.size < ((W.pushCell (freshCell P1.m.cls N.kN)).setVm vm').heap.size := by
    show W.heap.size < (W.pushCell (freshCell P1.m.cls N.kN)).heap.size
    rw [State.heap_size_pushCell]; omega
  rw [hfsz] at X3
  obtain ⟨g₁, hfrM⟩ := X3.frames_eq
  have hU : ((((W.pushCell (freshCell P1.m.cls N.kN)).setVm vm').setCell W.heap.size (npeBareV T.toThrowableT N.toNpeT (freshCell P1.m.cls N.kN) W.heap.size u0 sen)).setTop g).pushFrame (.throwing W.heap.size) = (((W.pushCell (freshCell P1.m.cls N.kN)).setVm vm').setCell W.heap.size (npeBareV T.toThrowableT N.toNpeT (freshCell P1.m.cls N.kN) W.heap.size u0 sen)).setFrames (.throwing W.heap.size :: .java g :: below) := by
    rw [State.pushFrame, State.frames_setTop _ hfrM, State.setTop_of_frames _ hfrM, State.setFrames_setFrames]
  refine ⟨_, W.heap.size, _, fun target ht => st.trans (by rw [← hU]; exact ht), X3.forget (fun y hy => ?_), heapAt_setCell_self _ hlt, hfound, rfl⟩
  simp only [List.mem_cons, List.not_mem_nil, or_false] at hy
  have hge : s.heap.size ≤ W.heap.size := X.same.2.1
  rcases hy with rfl | rfl | rfl | rfl | rfl <;> exact hge
/-- the words of a machine's NullPointerException, but the four that speak of the heap -/
def vx_atN (n : Nat) : List Cond := (Bundle.npeArmAtoms n).filter vx_no
/-- the words of a machine's throw with a message, but the four that speak of the heap -/
def vx_atM (X : String) (names : List String) : List Cond := (Bundle.messageArmAtoms X names).filter vx_no
section
variable {p : Program} {l : Launch} {e : Env} {R : Room} {s : State} {m : MethodId} {args : Array Value} {below : List Frame} {meth : Method} {c : Code} {H : Heap} {locs : List Loc} {cells slots : Nat}
/-- a frame seen from a rebased start, seen from the first start again -/
theorem vx_back9 {T S : State} {R' : Room} {k n : Nat} (X : Stand p l e R s m args below meth c T locs cells slots) (Y : Stand p l e R' ((T.setVm s.vm).setFrames (.invoking m args :: below)) m args below meth c T [] 0 0) (Z : Stand p l e R' ((T.setVm s.vm).setFrames (.invoking m args :: below)) m args below meth c S [] k n) :
    Stand p l e R s m args below meth c S locs (cells + k) (slots + n) := by
  have hW0 : s.WarmedH ((T.setVm s.vm).setFrames (.invoking m args :: below)).vm := State.WarmedH.refl s
  refine { admits := X.admits, cas := X.cas, clock := X.clock, frames := X.frames, room := X.room, hears := X.hears, method := X.method, code := X.code, here := Z.here, tail := Z.tail, warmed := State.WarmedH.trans hW0 Z.warmed, limits := Z.limits.trans (Y.limits.symm.trans X.limits), bytes := Z.bytes.trans (Y.bytes.symm.trans X.bytes), same := ?_ }
  obtain ⟨e1, e2⟩ := Z.same
  rw [State.setFrames_setFrames] at e1
  have h2 : (T.setVm s.vm).sameButNew (S.setVm s.vm) [] k n := ⟨e1, e2⟩
  have h3 := X.same.trans h2
  rw [List.append_nil] at h3
  exact h3
/-- from the machine's note that E is thrown here with this text -/
def vx_Note (p : Program) (l : Launch) (e : Env) (R : Room) (s : State) (m : MethodId) (args : Array Value) (below : List Frame) (meth : Method) (c : Code) (H : Heap) (locs : List Loc) (cells slots : Nat) (Q : State → Prop) (g : JFrame) (E text : String) : Prop :=
  ∀ T : State, T.heap = H → Stand p l e R s m args below meth c T locs cells slots → ∃ t, Steps p.tables e below ((T.setTop g).pushFrame (.throwNew E (some text) none)) t ∧ Q t
theorem vx_vm {pc : Nat} {ls : Array Slot} {rest : List Value} {Q : State → Prop} (hexec : p.tables.exec = Jvm.exec) (hl : l.stackTraces = false) {cls text : String} {names : List String} {nb : Nat} {A : Nat → Prop}
    (hcls : Bundle.fit cls = true) (hnames : ∀ n ∈ names, Bundle.fit n = true) (hsoe : (cls == "java/lang/StackOverflowError") = false) (hoom : (cls == "java/lang/OutOfMemoryError") = false)
    (hat : ∀ w ∈ vx_atM cls names, w.before args s = true) (hgood : ∀ w ∈ vx_atM cls names, vx_ot w = true)
    (hU : vx_Zq Bundle.tN "UNASSIGNED_STACK" Bundle.steD A s s.heap) (hN : vx_Zq Bundle.tN "SUPPRESSED_SENTINEL" Bundle.listD A s s.heap) (hS : va_S A s.heap H locs) (hsize : ls.size = c.maxLocals)
    (htext : (text == notModelled) = false) (hnb : (stringBytes (stringToUtf16 text)).size ≤ nb) (hnb1 : nb ≤ 1000)
    (hRframes : names.length + 4 < R.frames) (hRlocals : (rest.map fun v => v.category).sum + 10240 ≤ R.locals) (hshort : 13 * names.length + 55 ≤ 10240) (hRcells : cells + 3 ≤ R.cells) (hRslots : slots + (nb + 10) ≤ R.slots) (hlocks : meth.locks = false)
    (k : ∀ (H1 : Heap) (q9 : Addr) (ce : Cell), H.size ≤ H1.size → (∀ q : Nat, q < H.size → H1[q]? = H[q]?) → va_S A s.heap H1 locs → H1[q9]? = some ce → ce.vm = .none → s.vm.findClass cls = some ce.cls → vx_W p l e R s m args below meth c H1 locs (cells + 3) (slots + (nb + 10)) Q (F0 m pc ls rest) q9) :
    vx_Note p l e R s m args below meth c H locs cells slots Q (F0 m pc ls rest) cls text := by
  intro T hT X
  have htr : e.platform.stackTraces = false := (show e.platform.stackTraces = l.stackTraces by rw [X.admits.platform]).trans hl
  have Y := vx_rebase X (R' := { frames := R.frames, locals := R.locals, cells := 3, slots := nb + 10 }) (Nat.le_refl _) (Nat.le_refl _) hRcells hRslots
  have hhp : ((T.setVm s.vm).setFrames (.invoking m args :: below)).heap = H := hT
  have hW0 : s.WarmedH ((T.setVm s.vm).setFrames (.invoking m args :: below)).vm := State.WarmedH.refl s
  have hat' : ∀ w ∈ vx_atM cls names, w.before args ((T.setVm s.vm).setFrames (.invoking m args :: below)) = true := fun w hw => vx_ot_at hW0 rfl (hgood w hw) (hat w hw)
  have hU' : vx_Zq Bundle.tN "UNASSIGNED_STACK" Bundle.steD A ((T.setVm s.vm).setFrames (.invoking m args :: below)) ((T.setVm s.vm).setFrames (.invoking m args :: below)).heap := by rw [hhp]; exact vx_Zq.moved hW0.alike (hU.kept hS.2.1)
  have hN' : vx_Zq Bundle.tN "SUPPRESSED_SENTINEL" Bundle.listD A ((T.setVm s.vm).setFrames (.invoking m args :: below)) ((T.setVm s.vm).setFrames (.invoking m args :: below)).heap := by rw [hhp]; exact vx_Zq.moved hW0.alike (hN.kept hS.2.1)
  obtain ⟨S, q, ce, st, Z, hce, hcl', hv⟩ := vx_vmAt Y hexec htr (cls := cls) (names := names) (text := text) hcls hnames hsoe hoom (vx_own hat' (vx_isRefq hU'.1) (vx_isRefq hN'.1) hU'.2.word hN'.2.word) (fun x hx => nomatch hx) htext
    (by rw [Launch.admits_arrayLengthLimit X.admits]; omega) (by rw [Launch.admits_maxHeapBytes X.admits]; simp only [componentBytes]; omega)
    (g := F0 m pc ls rest) rfl hsize hRframes (by show 2 * 0 + (rest.map fun v => v.category).sum + 10240 ≤ R.locals; omega) hshort (by show 0 + 3 ≤ 3; omega) (by show 0 + (_ + 4 + 6) ≤ nb + 10; omega) hlocks
  obtain ⟨f1, f2⟩ := vx_frame Z.same
  have f1' : H.size ≤ S.heap.size := by rw [← hT]; exact f1
  have f2' : ∀ q : Nat, q < H.size → S.heap[q]? = H[q]? := fun q hq => by
    rw [← hT]
    exact f2 q (by rw [← hT] at hq; exact hq) (fun z hz => nomatch hz)
  have X5 := vx_back9 X Y Z
  have X6 : Stand p l e R s m args below meth c S locs (cells + 3) (slots + (nb + 10)) := { X5 with same := X5.same.mono (by omega) (by omega) }
  obtain ⟨t, a1, b1⟩ := k S.heap q ce f1' f2' ⟨Nat.le_trans hS.1 f1', fun q h1 h2 => (f2' q (Nat.lt_of_lt_of_le h1 hS.1)).trans (hS.2.1 q h1 h2), hS.2.2⟩ hce hv hcl' S rfl X6
  exact ⟨t, st t a1, b1⟩
/-- from the machine's note that NullPointerException is thrown here -/
def vx_NoteN (p : Program) (l : Launch) (e : Env) (R : Room) (s : State) (m : MethodId) (args : Array Value) (below : List Frame) (meth : Method) (c : Code) (H : Heap) (locs : List Loc) (cells slots : Nat) (Q : State → Prop) (g : JFrame) : Prop :=
  ∀ T : State, T.heap = H → Stand p l e R s m args below meth c T locs cells slots → ∃ t, Steps p.tables e below ((T.setTop g).pushFrame (.throwNew "java/lang/NullPointerException" none none)) t ∧ Q t
theorem vx_npe {pc : Nat} {ls : Array Slot} {rest : List Value} {Q : State → Prop} (hexec : p.tables.exec = Jvm.exec) (hl : l.stackTraces = false) {nb : Nat} {A : Nat → Prop}
    (hat : ∀ w ∈ vx_atN nb, w.before args s = true) (hgood : ∀ w ∈ vx_atN nb, vx_ot w = true)
    (hU : vx_Zq Bundle.tN "UNASSIGNED_STACK" Bundle.steD A s s.heap) (hN : vx_Zq Bundle.tN "SUPPRESSED_SENTINEL" Bundle.listD A s s.heap) (hS : va_S A s.heap H locs) (hsize : ls.size = c.maxLocals)
    (hRframes : 7 < R.frames) (hRlocals : (rest.map fun v => v.category).sum + 10240 ≤ R.locals) (hRcells : cells + 1 ≤ R.cells) (hRslots : slots + nb ≤ R.slots) (hlocks : meth.locks = false)
    (k : ∀ (H1 : Heap) (q9 : Addr) (ce : Cell), H.size ≤ H1.size → (∀ q : Nat, q < H.size → H1[q]? = H[q]?) → va_S A s.heap H1 locs → H1[q9]? = some ce → ce.vm = .none → s.vm.findClass "java/lang/NullPointerException" = some ce.cls → vx_W p l e R s m args below meth c H1 locs (cells + 1) (slots + nb) Q (F0 m pc ls rest) q9) :
    vx_NoteN p l e R s m args below meth c H locs cells slots Q (F0 m pc ls rest) := by
  intro T hT X
  have htr : e.platform.stackTraces = false := (show e.platform.stackTraces = l.stackTraces by rw [X.admits.platform]).trans hl
  have Y := vx_rebase X (R' := { frames := R.frames, locals := R.locals, cells := 1, slots := nb }) (Nat.le_refl _) (Nat.le_refl _) hRcells hRslots
  have hhp : ((T.setVm s.vm).setFrames (.invoking m args :: below)).heap = H := hT
  have hW0 : s.WarmedH ((T.setVm s.vm).setFrames (.invoking m args :: below)).vm := State.WarmedH.refl s
  have hat' : ∀ w ∈ vx_atN nb, w.before args ((T.setVm s.vm).setFrames (.invoking m args :: below)) = true := fun w hw => vx_ot_at hW0 rfl (hgood w hw) (hat w hw)
  have hU' : vx_Zq Bundle.tN "UNASSIGNED_STACK" Bundle.steD A ((T.setVm s.vm).setFrames (.invoking m args :: below)) ((T.setVm s.vm).setFrames (.invoking m args :: below)).heap := by rw [hhp]; exact vx_Zq.moved hW0.alike (hU.kept hS.2.1)
  have hN' : vx_Zq Bundle.tN "SUPPRESSED_SENTINEL" Bundle.listD A ((T.setVm s.vm).setFrames (.invoking m args :: below)) ((T.setVm s.vm).setFrames (.invoking m args :: below)).heap := by rw [hhp]; exact vx_Zq.moved hW0.alike (hN.kept hS.2.1)
  obtain ⟨S, q, ce, st, Z, hce, hcl', hv⟩ := vx_npeAt Y hexec htr (n := nb) (vx_own hat' (vx_isRefq hU'.1) (vx_isRefq hN'.1) hU'.2.word hN'.2.word) (fun x hx => nomatch hx)
    (g := F0 m pc ls rest) rfl hsize hRframes (by show 2 * 0 + (rest.map fun v => v.category).sum + 10240 ≤ R.locals; omega) (by show 0 + 1 ≤ 1; omega) (by show 0 + nb ≤ nb; omega) hlocks
  obtain ⟨f1, f2⟩ := vx_frame Z.same
  have f1' : H.size ≤ S.heap.size := by rw [← hT]; exact f1
  have f2' : ∀ q : Nat, q < H.size → S.heap[q]? = H[q]? := fun q hq => by
    rw [← hT]
    exact f2 q (by rw [← hT] at hq; exact hq) (fun z hz => nomatch hz)
  have X5 := vx_back9 X Y Z
  have X6 : Stand p l e R s m args below meth c S locs (cells + 1) (slots + nb) := { X5 with same := X5.same.mono (by omega) (by omega) }
  obtain ⟨t, a1, b1⟩ := k S.heap q ce f1' f2' ⟨Nat.le_trans hS.1 f1', fun q h1 h2 => (f2' q (Nat.lt_of_lt_of_le h1 hS.1)).trans (hS.2.1 q h1 h2), hS.2.2⟩ hce hv hcl' S rfl X6
  exact ⟨t, st t a1, b1⟩
variable {Q : State → Prop} {cc : ByteArray} {pc : Nat} {ls : Array Slot} {rest : List Value}
theorem vx_idivZ (hexec : p.tables.exec = Jvm.exec) (hb : c.code = cc) {a b : Int32} (h0 : b = 0) (d : decode cc pc = .ok (.idiv, 1)) (k : vx_Note p l e R s m args below meth c H locs cells slots Q (F0 m pc ls rest) "java/lang/ArithmeticException" "/ by zero") :
    W p l e R s m args below meth c H locs cells slots Q (F0 m pc ls (.int b :: .int a :: rest)) := by
  intro T hT X
  obtain ⟨t, st, q⟩ := k T hT X
  exact ⟨t, X.idivZero hexec (g := F0 m pc ls (.int b :: .int a :: rest)) rfl (a := a) (rest := rest) (by rw [h0]) (by rw [hb]; exact d) t st, q⟩
theorem vx_iremZ (hexec : p.tables.exec = Jvm.exec) (hb : c.code = cc) {a b : Int32} (h0 : b = 0) (d : decode cc pc = .ok (.irem, 1)) (k : vx_Note p l e R s m args below meth c H locs cells slots Q (F0 m pc ls rest) "java/lang/ArithmeticException" "/ by zero") :
    W p l e R s m args below meth c H locs cells slots Q (F0 m pc ls (.int b :: .int a :: rest)) := by
  intro T hT X
  obtain ⟨t, st, q⟩ := k T hT X
  exact ⟨t, X.iremZero hexec (g := F0 m pc ls (.int b :: .int a :: rest)) rfl (a := a) (rest := rest) (by rw [h0]) (by rw [hb]; exact d) t st, q⟩
theorem vx_ldivZ (hexec : p.tables.exec = Jvm.exec) (hb : c.code = cc) {a b : Int64} (h0 : b = 0) (d : decode cc pc = .ok (.ldiv, 1)) (k : vx_Note p l e R s m args below meth c H locs cells slots Q (F0 m pc ls rest) "java/lang/ArithmeticException" "/ by zero") :
    W p l e R s m args below meth c H locs cells slots Q (F0 m pc ls (.long b :: .long a :: rest)) := by
  intro T hT X
  obtain ⟨t, st, q⟩ := k T hT X
  exact ⟨t, X.ldivZero hexec (g := F0 m pc ls (.long b :: .long a :: rest)) rfl (a := a) (rest := rest) (by rw [h0]) (by rw [hb]; exact d) t st, q⟩
theorem vx_lremZ (hexec : p.tables.exec = Jvm.exec) (hb : c.code = cc) {a b : Int64} (h0 : b = 0) (d : decode cc pc = .ok (.lrem, 1)) (k : vx_Note p l e R s m args below meth c H locs cells slots Q (F0 m pc ls rest) "java/lang/ArithmeticException" "/ by zero") :
    W p l e R s m args below meth c H locs cells slots Q (F0 m pc ls (.long b :: .long a :: rest)) := by
  intro T hT X
  obtain ⟨t, st, q⟩ := k T hT X
  exact ⟨t, X.lremZero hexec (g := F0 m pc ls (.long b :: .long a :: rest)) rfl (a := a) (rest := rest) (by rw [h0]) (by rw [hb]; exact d) t st, q⟩
theorem vx_ialdZ {D : va_G} {cl : List vw_C} {ws : va_W} {tys : List (ClassId × FieldType)} {a : Nat} (hexec : p.tables.exec = Jvm.exec) (hb : c.code = cc) (hK : va_K D cl tys s) (hP : va_P D cl ws H) (q0 t0 : Nat) {cA : ClassId} {n : Nat} {f : Nat → Int32} (ha : ws[q0]? = some (a, .inl (cA, n, .inl f))) (ht : tys[t0]? = some (cA, .int)) {i : Int32} (hout : ¬ vp_in i n) (hdg : decode cc pc = .ok (.iaload, 1))
    (k : ∀ tx : String, tx = (toString "Index " ++ toString i ++ toString " out of bounds for length " ++ toString n : String) → vx_Note p l e R s m args below meth c H locs cells slots Q (F0 m pc ls rest) "java/lang/ArrayIndexOutOfBoundsException" tx) : W p l e R s m args below meth c H locs cells slots Q (F0 m pc ls (.int i :: .ref a :: rest)) := by
  intro T hT X
  obtain ⟨t, st, q⟩ := k _ rfl T hT X
  refine ⟨t, ?_, q⟩
  have h1 := X.ialoadOut hexec (by rw [hT]; exact hP q0 _ ha) ((hK.2 t0 _ ht).1 n (fun j => .int (f j))) (j := i) (by show (i < 0 ∨ (arrV _ _ _).slots.size ≤ _); rw [arrV_size]; exact Classical.byContradiction hout) (g := F0 m pc ls (.int i :: .ref a :: rest)) rfl (rest := rest) rfl (by rw [hb]; exact hdg) t
  simp only [arrV_size] at h1
  exact h1 st
theorem vx_iastZ {D : va_G} {cl : List vw_C} {ws : va_W} {tys : List (ClassId × FieldType)} {a : Nat} (hexec : p.tables.exec = Jvm.exec) (hb : c.code = cc) (hK : va_K D cl tys s) (hP : va_P D cl ws H) (q0 t0 : Nat) {cA : ClassId} {n : Nat} {f : Nat → Int32} (ha : ws[q0]? = some (a, .inl (cA, n, .inl f))) (ht : tys[t0]? = some (cA, .int)) {i : Int32} {x : Int32} (hout : ¬ vp_in i n) (hdg : decode cc pc = .ok (.iastore, 1))
    (k : ∀ tx : String, tx = (toString "Index " ++ toString i ++ toString " out of bounds for length " ++ toString n : String) → vx_Note p l e R s m args below meth c H locs cells slots Q (F0 m pc ls rest) "java/lang/ArrayIndexOutOfBoundsException" tx) : W p l e R s m args below meth c H locs cells slots Q (F0 m pc ls (.int x :: .int i :: .ref a :: rest)) := by
  intro T hT X
  obtain ⟨t, st, q⟩ := k _ rfl T hT X
  refine ⟨t, ?_, q⟩
  have h1 := X.iastoreOut hexec (by rw [hT]; exact hP q0 _ ha) ((hK.2 t0 _ ht).1 n (fun j => .int (f j))) (j := i) (by show (i < 0 ∨ (arrV _ _ _).slots.size ≤ _); rw [arrV_size]; exact Classical.byContradiction hout) (g := F0 m pc ls (.int x :: .int i :: .ref a :: rest)) rfl (rest := rest) rfl (by rw [hb]; exact hdg) t
  simp only [arrV_size] at h1
  exact h1 st
theorem vx_baldZ {D : va_G} {cl : List vw_C} {ws : va_W} {tys : List (ClassId × FieldType)} {a : Nat} (hexec : p.tables.exec = Jvm.exec) (hb : c.code = cc) (hK : va_K D cl tys s) (hP : va_P D cl ws H) (q0 t0 : Nat) {cA : ClassId} {n : Nat} {f : Nat → Int32} (ha : ws[q0]? = some (a, .inl (cA, n, .inl f))) (ht : tys[t0]? = some (cA, .byte)) {i : Int32} (hout : ¬ vp_in i n) (hdg : decode cc pc = .ok (.baload, 1))
    (k : ∀ tx : String, tx = (toString "Index " ++ toString i ++ toString " out of bounds for length " ++ toString n : String) → vx_Note p l e R s m args below meth c H locs cells slots Q (F0 m pc ls rest) "java/lang/ArrayIndexOutOfBoundsException" tx) : W p l e R s m args below meth c H locs cells slots Q (F0 m pc ls (.int i :: .ref a :: rest)) := by
  intro T hT X
  obtain ⟨t, st, q⟩ := k _ rfl T hT X
  refine ⟨t, ?_, q⟩
  have h1 := X.baloadOut hexec (by rw [hT]; exact hP q0 _ ha) ((hK.2 t0 _ ht).1 n (fun j => .int (f j))) (j := i) (by show (i < 0 ∨ (arrV _ _ _).slots.size ≤ _); rw [arrV_size]; exact Classical.byContradiction hout) (g := F0 m pc ls (.int i :: .ref a :: rest)) rfl (rest := rest) rfl (by rw [hb]; exact hdg) t
  simp only [arrV_size] at h1
  exact h1 st
theorem vx_bastZ {D : va_G} {cl : List vw_C} {ws : va_W} {tys : List (ClassId × FieldType)} {a : Nat} (hexec : p.tables.exec = Jvm.exec) (hb : c.code = cc) (hK : va_K D cl tys s) (hP : va_P D cl ws H) (q0 t0 : Nat) {cA : ClassId} {n : Nat} {f : Nat → Int32} (ha : ws[q0]? = some (a, .inl (cA, n, .inl f))) (ht : tys[t0]? = some (cA, .byte)) {i : Int32} {x : Int32} (hout : ¬ vp_in i n) (hdg : decode cc pc = .ok (.bastore, 1))
    (k : ∀ tx : String, tx = (toString "Index " ++ toString i ++ toString " out of bounds for length " ++ toString n : String) → vx_Note p l e R s m args below meth c H locs cells slots Q (F0 m pc ls rest) "java/lang/ArrayIndexOutOfBoundsException" tx) : W p l e R s m args below meth c H locs cells slots Q (F0 m pc ls (.int x :: .int i :: .ref a :: rest)) := by
  intro T hT X
  obtain ⟨t, st, q⟩ := k _ rfl T hT X
  refine ⟨t, ?_, q⟩
  have h1 := X.bastoreOut hexec (by rw [hT]; exact hP q0 _ ha) ((hK.2 t0 _ ht).1 n (fun j => .int (f j))) (j := i) (by show (i < 0 ∨ (arrV _ _ _).slots.size ≤ _); rw [arrV_size]; exact Classical.byContradiction hout) (g := F0 m pc ls (.int x :: .int i :: .ref a :: rest)) rfl (rest := rest) rfl (by rw [hb]; exact hdg) t
  simp only [arrV_size] at h1
  exact h1 st
theorem vx_zaldZ {D : va_G} {cl : List vw_C} {ws : va_W} {tys : List (ClassId × FieldType)} {a : Nat} (hexec : p.tables.exec = Jvm.exec) (hb : c.code = cc) (hK : va_K D cl tys s) (hP : va_P D cl ws H) (q0 t0 : Nat) {cA : ClassId} {n : Nat} {f : Nat → Int32} (ha : ws[q0]? = some (a, .inl (cA, n, .inl f))) (ht : tys[t0]? = some (cA, .boolean)) {i : Int32} (hout : ¬ vp_in i n) (hdg : decode cc pc = .ok (.baload, 1))
    (k : ∀ tx : String, tx = (toString "Index " ++ toString i ++ toString " out of bounds for length " ++ toString n : String) → vx_Note p l e R s m args below meth c H locs cells slots Q (F0 m pc ls rest) "java/lang/ArrayIndexOutOfBoundsException" tx) : W p l e R s m args below meth c H locs cells slots Q (F0 m pc ls (.int i :: .ref a :: rest)) := by
  intro T hT X
  obtain ⟨t, st, q⟩ := k _ rfl T hT X
  refine ⟨t, ?_, q⟩
  have h1 := X.baloadOut hexec (by rw [hT]; exact hP q0 _ ha) ((hK.2 t0 _ ht).1 n (fun j => .int (f j))) (j := i) (by show (i < 0 ∨ (arrV _ _ _).slots.size ≤ _); rw [arrV_size]; exact Classical.byContradiction hout) (g := F0 m pc ls (.int i :: .ref a :: rest)) rfl (rest := rest) rfl (by rw [hb]; exact hdg) t
  simp only [arrV_size] at h1
  exact h1 st
theorem vx_zastZ {D : va_G} {cl : List vw_C} {ws : va_W} {tys : List (ClassId × FieldType)} {a : Nat} (hexec : p.tables.exec = Jvm.exec) (hb : c.code = cc) (hK : va_K D cl tys s) (hP : va_P D cl ws H) (q0 t0 : Nat) {cA : ClassId} {n : Nat} {f : Nat → Int32} (ha : ws[q0]? = some (a, .inl (cA, n, .inl f))) (ht : tys[t0]? = some (cA, .boolean)) {i : Int32} {x : Int32} (hout : ¬ vp_in i n) (hdg : decode cc pc = .ok (.bastore, 1))
    (k : ∀ tx : String, tx = (toString "Index " ++ toString i ++ toString " out of bounds for length " ++ toString n : String) → vx_Note p l e R s m args below meth c H locs cells slots Q (F0 m pc ls rest) "java/lang/ArrayIndexOutOfBoundsException" tx) : W p l e R s m args below meth c H locs cells slots Q (F0 m pc ls (.int x :: .int i :: .ref a :: rest)) := by
  intro T hT X
  obtain ⟨t, st, q⟩ := k _ rfl T hT X
  refine ⟨t, ?_, q⟩
  have h1 := X.bastoreOut hexec (by rw [hT]; exact hP q0 _ ha) ((hK.2 t0 _ ht).1 n (fun j => .int (f j))) (j := i) (by show (i < 0 ∨ (arrV _ _ _).slots.size ≤ _); rw [arrV_size]; exact Classical.byContradiction hout) (g := F0 m pc ls (.int x :: .int i :: .ref a :: rest)) rfl (rest := rest) rfl (by rw [hb]; exact hdg) t
  simp only [arrV_size] at h1
  exact h1 st
theorem vx_caldZ {D : va_G} {cl : List vw_C} {ws : va_W} {tys : List (ClassId × FieldType)} {a : Nat} (hexec : p.tables.exec = Jvm.exec) (hb : c.code = cc) (hK : va_K D cl tys s) (hP : va_P D cl ws H) (q0 t0 : Nat) {cA : ClassId} {n : Nat} {f : Nat → Int32} (ha : ws[q0]? = some (a, .inl (cA, n, .inl f))) (ht : tys[t0]? = some (cA, .char)) {i : Int32} (hout : ¬ vp_in i n) (hdg : decode cc pc = .ok (.caload, 1))
    (k : ∀ tx : String, tx = (toString "Index " ++ toString i ++ toString " out of bounds for length " ++ toString n : String) → vx_Note p l e R s m args below meth c H locs cells slots Q (F0 m pc ls rest) "java/lang/ArrayIndexOutOfBoundsException" tx) : W p l e R s m args below meth c H locs cells slots Q (F0 m pc ls (.int i :: .ref a :: rest)) := by
  intro T hT X
  obtain ⟨t, st, q⟩ := k _ rfl T hT X
  refine ⟨t, ?_, q⟩
  have h1 := X.caloadOut hexec (by rw [hT]; exact hP q0 _ ha) ((hK.2 t0 _ ht).1 n (fun j => .int (f j))) (j := i) (by show (i < 0 ∨ (arrV _ _ _).slots.size ≤ _); rw [arrV_size]; exact Classical.byContradiction hout) (g := F0 m pc ls (.int i :: .ref a :: rest)) rfl (rest := rest) rfl (by rw [hb]; exact hdg) t
  simp only [arrV_size] at h1
  exact h1 st
theorem vx_castZ {D : va_G} {cl : List vw_C} {ws : va_W} {tys : List (ClassId × FieldType)} {a : Nat} (hexec : p.tables.exec = Jvm.exec) (hb : c.code = cc) (hK : va_K D cl tys s) (hP : va_P D cl ws H) (q0 t0 : Nat) {cA : ClassId} {n : Nat} {f : Nat → Int32} (ha : ws[q0]? = some (a, .inl (cA, n, .inl f))) (ht : tys[t0]? = some (cA, .char)) {i : Int32} {x : Int32} (hout : ¬ vp_in i n) (hdg : decode cc pc = .ok (.castore, 1))
    (k : ∀ tx : String, tx = (toString "Index " ++ toString i ++ toString " out of bounds for length " ++ toString n : String) → vx_Note p l e R s m args below meth c H locs cells slots Q (F0 m pc ls rest) "java/lang/ArrayIndexOutOfBoundsException" tx) : W p l e R s m args below meth c H locs cells slots Q (F0 m pc ls (.int x :: .int i :: .ref a :: rest)) := by
  intro T hT X
  obtain ⟨t, st, q⟩ := k _ rfl T hT X
  refine ⟨t, ?_, q⟩
  have h1 := X.castoreOut hexec (by rw [hT]; exact hP q0 _ ha) ((hK.2 t0 _ ht).1 n (fun j => .int (f j))) (j := i) (by show (i < 0 ∨ (arrV _ _ _).slots.size ≤ _); rw [arrV_size]; exact Classical.byContradiction hout) (g := F0 m pc ls (.int x :: .int i :: .ref a :: rest)) rfl (rest := rest) rfl (by rw [hb]; exact hdg) t
  simp only [arrV_size] at h1
  exact h1 st
theorem vx_saldZ {D : va_G} {cl : List vw_C} {ws : va_W} {tys : List (ClassId × FieldType)} {a : Nat} (hexec : p.tables.exec = Jvm.exec) (hb : c.code = cc) (hK : va_K D cl tys s) (hP : va_P D cl ws H) (q0 t0 : Nat) {cA : ClassId} {n : Nat} {f : Nat → Int32} (ha : ws[q0]? = some (a, .inl (cA, n, .inl f))) (ht : tys[t0]? = some (cA, .short)) {i : Int32} (hout : ¬ vp_in i n) (hdg : decode cc pc = .ok (.saload, 1))
    (k : ∀ tx : String, tx = (toString "Index " ++ toString i ++ toString " out of bounds for length " ++ toString n : String) → vx_Note p l e R s m args below meth c H locs cells slots Q (F0 m pc ls rest) "java/lang/ArrayIndexOutOfBoundsException" tx) : W p l e R s m args below meth c H locs cells slots Q (F0 m pc ls (.int i :: .ref a :: rest)) := by
  intro T hT X
  obtain ⟨t, st, q⟩ := k _ rfl T hT X
  refine ⟨t, ?_, q⟩
  have h1 := X.saloadOut hexec (by rw [hT]; exact hP q0 _ ha) ((hK.2 t0 _ ht).1 n (fun j => .int (f j))) (j := i) (by show (i < 0 ∨ (arrV _ _ _).slots.size ≤ _); rw [arrV_size]; exact Classical.byContradiction hout) (g := F0 m pc ls (.int i :: .ref a :: rest)) rfl (rest := rest) rfl (by rw [hb]; exact hdg) t
  simp only [arrV_size] at h1
  exact h1 st
theorem vx_sastZ {D : va_G} {cl : List vw_C} {ws : va_W} {tys : List (ClassId × FieldType)} {a : Nat} (hexec : p.tables.exec = Jvm.exec) (hb : c.code = cc) (hK : va_K D cl tys s) (hP : va_P D cl ws H) (q0 t0 : Nat) {cA : ClassId} {n : Nat} {f : Nat → Int32} (ha : ws[q0]? = some (a, .inl (cA, n, .inl f))) (ht : tys[t0]? = some (cA, .short)) {i : Int32} {x : Int32} (hout : ¬ vp_in i n) (hdg : decode cc pc = .ok (.sastore, 1))
    (k : ∀ tx : String, tx = (toString "Index " ++ toString i ++ toString " out of bounds for length " ++ toString n : String) → vx_Note p l e R s m args below meth c H locs cells slots Q (F0 m pc ls rest) "java/lang/ArrayIndexOutOfBoundsException" tx) : W p l e R s m args below meth c H locs cells slots Q (F0 m pc ls (.int x :: .int i :: .ref a :: rest)) := by
  intro T hT X
  obtain ⟨t, st, q⟩ := k _ rfl T hT X
  refine ⟨t, ?_, q⟩
  have h1 := X.sastoreOut hexec (by rw [hT]; exact hP q0 _ ha) ((hK.2 t0 _ ht).1 n (fun j => .int (f j))) (j := i) (by show (i < 0 ∨ (arrV _ _ _).slots.size ≤ _); rw [arrV_size]; exact Classical.byContradiction hout) (g := F0 m pc ls (.int x :: .int i :: .ref a :: rest)) rfl (rest := rest) rfl (by rw [hb]; exact hdg) t
  simp only [arrV_size] at h1
  exact h1 st
theorem vx_laldZ {D : va_G} {cl : List vw_C} {ws : va_W} {tys : List (ClassId × FieldType)} {a : Nat} (hexec : p.tables.exec = Jvm.exec) (hb : c.code = cc) (hK : va_K D cl tys s) (hP : va_P D cl ws H) (q0 t0 : Nat) {cA : ClassId} {n : Nat} {f : Nat → Int64} (ha : ws[q0]? = some (a, .inl (cA, n, .inr (.inl f)))) (ht : tys[t0]? = some (cA, .long)) {i : Int32} (hout : ¬ vp_in i n) (hdg : decode cc pc = .ok (.laload, 1))
    (k : ∀ tx : String, tx = (toString "Index " ++ toString i ++ toString " out of bounds for length " ++ toString n : String) → vx_Note p l e R s m args below meth c H locs cells slots Q (F0 m pc ls rest) "java/lang/ArrayIndexOutOfBoundsException" tx) : W p l e R s m args below meth c H locs cells slots Q (F0 m pc ls (.int i :: .ref a :: rest)) := by
  intro T hT X
  obtain ⟨t, st, q⟩ := k _ rfl T hT X
  refine ⟨t, ?_, q⟩
  have h1 := X.laloadOut hexec (by rw [hT]; exact hP q0 _ ha) ((hK.2 t0 _ ht).1 n (fun j => .long (f j))) (j := i) (by show (i < 0 ∨ (arrV _ _ _).slots.size ≤ _); rw [arrV_size]; exact Classical.byContradiction hout) (g := F0 m pc ls (.int i :: .ref a :: rest)) rfl (rest := rest) rfl (by rw [hb]; exact hdg) t
  simp only [arrV_size] at h1
  exact h1 st
theorem vx_lastZ {D : va_G} {cl : List vw_C} {ws : va_W} {tys : List (ClassId × FieldType)} {a : Nat} (hexec : p.tables.exec = Jvm.exec) (hb : c.code = cc) (hK : va_K D cl tys s) (hP : va_P D cl ws H) (q0 t0 : Nat) {cA : ClassId} {n : Nat} {f : Nat → Int64} (ha : ws[q0]? = some (a, .inl (cA, n, .inr (.inl f)))) (ht : tys[t0]? = some (cA, .long)) {i : Int32} {x : Int64} (hout : ¬ vp_in i n) (hdg : decode cc pc = .ok (.lastore, 1))
    (k : ∀ tx : String, tx = (toString "Index " ++ toString i ++ toString " out of bounds for length " ++ toString n : String) → vx_Note p l e R s m args below meth c H locs cells slots Q (F0 m pc ls rest) "java/lang/ArrayIndexOutOfBoundsException" tx) : W p l e R s m args below meth c H locs cells slots Q (F0 m pc ls (.long x :: .int i :: .ref a :: rest)) := by
  intro T hT X
  obtain ⟨t, st, q⟩ := k _ rfl T hT X
  refine ⟨t, ?_, q⟩
  have h1 := X.lastoreOut hexec (by rw [hT]; exact hP q0 _ ha) ((hK.2 t0 _ ht).1 n (fun j => .long (f j))) (j := i) (by show (i < 0 ∨ (arrV _ _ _).slots.size ≤ _); rw [arrV_size]; exact Classical.byContradiction hout) (g := F0 m pc ls (.long x :: .int i :: .ref a :: rest)) rfl (rest := rest) rfl (by rw [hb]; exact hdg) t
  simp only [arrV_size] at h1
  exact h1 st
theorem vx_faldZ {D : va_G} {cl : List vw_C} {ws : va_W} {tys : List (ClassId × FieldType)} {a : Nat} (hexec : p.tables.exec = Jvm.exec) (hb : c.code = cc) (hK : va_K D cl tys s) (hP : va_P D cl ws H) (q0 t0 : Nat) {cA : ClassId} {n : Nat} {f : Nat → UInt32} (ha : ws[q0]? = some (a, .inl (cA, n, .inr (.inr (.inl f))))) (ht : tys[t0]? = some (cA, .float)) {i : Int32} (hout : ¬ vp_in i n) (hdg : decode cc pc = .ok (.faload, 1))
    (k : ∀ tx : String, tx = (toString "Index " ++ toString i ++ toString " out of bounds for length " ++ toString n : String) → vx_Note p l e R s m args below meth c H locs cells slots Q (F0 m pc ls rest) "java/lang/ArrayIndexOutOfBoundsException" tx) : W p l e R s m args below meth c H locs cells slots Q (F0 m pc ls (.int i :: .ref a :: rest)) := by
  intro T hT X
  obtain ⟨t, st, q⟩ := k _ rfl T hT X
  refine ⟨t, ?_, q⟩
  have h1 := X.faloadOut hexec (by rw [hT]; exact hP q0 _ ha) ((hK.2 t0 _ ht).1 n (fun j => .float (f j))) (j := i) (by show (i < 0 ∨ (arrV _ _ _).slots.size ≤ _); rw [arrV_size]; exact Classical.byContradiction hout) (g := F0 m pc ls (.int i :: .ref a :: rest)) rfl (rest := rest) rfl (by rw [hb]; exact hdg) t
  simp only [arrV_size] at h1
  exact h1 st
theorem vx_fastZ {D : va_G} {cl : List vw_C} {ws : va_W} {tys : List (ClassId × FieldType)} {a : Nat} (hexec : p.tables.exec = Jvm.exec) (hb : c.code = cc) (hK : va_K D cl tys s) (hP : va_P D cl ws H) (q0 t0 : Nat) {cA : ClassId} {n : Nat} {f : Nat → UInt32} (ha : ws[q0]? = some (a, .inl (cA, n, .inr (.inr (.inl f))))) (ht : tys[t0]? = some (cA, .float)) {i : Int32} {x : UInt32} (hout : ¬ vp_in i n) (hdg : decode cc pc = .ok (.fastore, 1))
    (k : ∀ tx : String, tx = (toString "Index " ++ toString i ++ toString " out of bounds for length " ++ toString n : String) → vx_Note p l e R s m args below meth c H locs cells slots Q (F0 m pc ls rest) "java/lang/ArrayIndexOutOfBoundsException" tx) : W p l e R s m args below meth c H locs cells slots Q (F0 m pc ls (.float x :: .int i :: .ref a :: rest)) := by
  intro T hT X
  obtain ⟨t, st, q⟩ := k _ rfl T hT X
  refine ⟨t, ?_, q⟩
  have h1 := X.fastoreOut hexec (by rw [hT]; exact hP q0 _ ha) ((hK.2 t0 _ ht).1 n (fun j => .float (f j))) (j := i) (by show (i < 0 ∨ (arrV _ _ _).slots.size ≤ _); rw [arrV_size]; exact Classical.byContradiction hout) (g := F0 m pc ls (.float x :: .int i :: .ref a :: rest)) rfl (rest := rest) rfl (by rw [hb]; exact hdg) t
  simp only [arrV_size] at h1
  exact h1 st
theorem vx_daldZ {D : va_G} {cl : List vw_C} {ws : va_W} {tys : List (ClassId × FieldType)} {a : Nat} (hexec : p.tables.exec = Jvm.exec) (hb : c.code = cc) (hK : va_K D cl tys s) (hP : va_P D cl ws H) (q0 t0 : Nat) {cA : ClassId} {n : Nat} {f : Nat → UInt64} (ha : ws[q0]? = some (a, .inl (cA, n, .inr (.inr (.inr (.inl f)))))) (ht : tys[t0]? = some (cA, .double)) {i : Int32} (hout : ¬ vp_in i n) (hdg : decode cc pc = .ok (.daload, 1))
    (k : ∀ tx : String, tx = (toString "Index " ++ toString i ++ toString " out of bounds for length " ++ toString n : String) → vx_Note p l e R s m args below meth c H locs cells slots Q (F0 m pc ls rest) "java/lang/ArrayIndexOutOfBoundsException" tx) : W p l e R s m args below meth c H locs cells slots Q (F0 m pc ls (.int i :: .ref a :: rest)) := by
  intro T hT X
  obtain ⟨t, st, q⟩ := k _ rfl T hT X
  refine ⟨t, ?_, q⟩
  have h1 := X.daloadOut hexec (by rw [hT]; exact hP q0 _ ha) ((hK.2 t0 _ ht).1 n (fun j => .double (f j))) (j := i) (by show (i < 0 ∨ (arrV _ _ _).slots.size ≤ _); rw [arrV_size]; exact Classical.byContradiction hout) (g := F0 m pc ls (.int i :: .ref a :: rest)) rfl (rest := rest) rfl (by rw [hb]; exact hdg) t
  simp only [arrV_size] at h1
  exact h1 st
theorem vx_dastZ {D : va_G} {cl : List vw_C} {ws : va_W} {tys : List (ClassId × FieldType)} {a : Nat} (hexec : p.tables.exec = Jvm.exec) (hb : c.code = cc) (hK : va_K D cl tys s) (hP : va_P D cl ws H) (q0 t0 : Nat) {cA : ClassId} {n : Nat} {f : Nat → UInt64} (ha : ws[q0]? = some (a, .inl (cA, n, .inr (.inr (.inr (.inl f)))))) (ht : tys[t0]? = some (cA, .double)) {i : Int32} {x : UInt64} (hout : ¬ vp_in i n) (hdg : decode cc pc = .ok (.dastore, 1))
    (k : ∀ tx : String, tx = (toString "Index " ++ toString i ++ toString " out of bounds for length " ++ toString n : String) → vx_Note p l e R s m args below meth c H locs cells slots Q (F0 m pc ls rest) "java/lang/ArrayIndexOutOfBoundsException" tx) : W p l e R s m args below meth c H locs cells slots Q (F0 m pc ls (.double x :: .int i :: .ref a :: rest)) := by
  intro T hT X
  obtain ⟨t, st, q⟩ := k _ rfl T hT X
  refine ⟨t, ?_, q⟩
  have h1 := X.dastoreOut hexec (by rw [hT]; exact hP q0 _ ha) ((hK.2 t0 _ ht).1 n (fun j => .double (f j))) (j := i) (by show (i < 0 ∨ (arrV _ _ _).slots.size ≤ _); rw [arrV_size]; exact Classical.byContradiction hout) (g := F0 m pc ls (.double x :: .int i :: .ref a :: rest)) rfl (rest := rest) rfl (by rw [hb]; exact hdg) t
  simp only [arrV_size] at h1
  exact h1 st
theorem vx_arraylengthN (hexec : p.tables.exec = Jvm.exec) (hb : c.code = cc) (hdg : decode cc pc = .ok (.arraylength, 1)) (k : vx_NoteN p l e R s m args below meth c H locs cells slots Q (F0 m pc ls rest)) : W p l e R s m args below meth c H locs cells slots Q (F0 m pc ls (.null :: rest)) := by
  intro T hT X
  obtain ⟨t, st, q⟩ := k T hT X
  exact ⟨t, X.arraylengthNull hexec (g := F0 m pc ls (.null :: rest)) rfl (rest := rest) rfl (by rw [hb]; exact hdg) t st, q⟩
theorem vx_ialoadN (hexec : p.tables.exec = Jvm.exec) (hb : c.code = cc) {i : Int32} (hdg : decode cc pc = .ok (.iaload, 1)) (k : vx_NoteN p l e R s m args below meth c H locs cells slots Q (F0 m pc ls rest)) : W p l e R s m args below meth c H locs cells slots Q (F0 m pc ls (.int i :: .null :: rest)) := by
  intro T hT X
  obtain ⟨t, st, q⟩ := k T hT X
  exact ⟨t, X.ialoadNull hexec (g := F0 m pc ls (.int i :: .null :: rest)) rfl (rest := rest) rfl (by rw [hb]; exact hdg) t st, q⟩
theorem vx_laloadN (hexec : p.tables.exec = Jvm.exec) (hb : c.code = cc) {i : Int32} (hdg : decode cc pc = .ok (.laload, 1)) (k : vx_NoteN p l e R s m args below meth c H locs cells slots Q (F0 m pc ls rest)) : W p l e R s m args below meth c H locs cells slots Q (F0 m pc ls (.int i :: .null :: rest)) := by
  intro T hT X
  obtain ⟨t, st, q⟩ := k T hT X
  exact ⟨t, X.laloadNull hexec (g := F0 m pc ls (.int i :: .null :: rest)) rfl (rest := rest) rfl (by rw [hb]; exact hdg) t st, q⟩
theorem vx_faloadN (hexec : p.tables.exec = Jvm.exec) (hb : c.code = cc) {i : Int32} (hdg : decode cc pc = .ok (.faload, 1)) (k : vx_NoteN p l e R s m args below meth c H locs cells slots Q (F0 m pc ls rest)) : W p l e R s m args below meth c H locs cells slots Q (F0 m pc ls (.int i :: .null :: rest)) := by
  intro T hT X
  obtain ⟨t, st, q⟩ := k T hT X
  exact ⟨t, X.faloadNull hexec (g := F0 m pc ls (.int i :: .null :: rest)) rfl (rest := rest) rfl (by rw [hb]; exact hdg) t st, q⟩
theorem vx_daloadN (hexec : p.tables.exec = Jvm.exec) (hb : c.code = cc) {i : Int32} (hdg : decode cc pc = .ok (.daload, 1)) (k : vx_NoteN p l e R s m args below meth c H locs cells slots Q (F0 m pc ls rest)) : W p l e R s m args below meth c H locs cells slots Q (F0 m pc ls (.int i :: .null :: rest)) := by
  intro T hT X
  obtain ⟨t, st, q⟩ := k T hT X
  exact ⟨t, X.daloadNull hexec (g := F0 m pc ls (.int i :: .null :: rest)) rfl (rest := rest) rfl (by rw [hb]; exact hdg) t st, q⟩
theorem vx_aaloadN (hexec : p.tables.exec = Jvm.exec) (hb : c.code = cc) {i : Int32} (hdg : decode cc pc = .ok (.aaload, 1)) (k : vx_NoteN p l e R s m args below meth c H locs cells slots Q (F0 m pc ls rest)) : W p l e R s m args below meth c H locs cells slots Q (F0 m pc ls (.int i :: .null :: rest)) := by
  intro T hT X
  obtain ⟨t, st, q⟩ := k T hT X
  exact ⟨t, X.aaloadNull hexec (g := F0 m pc ls (.int i :: .null :: rest)) rfl (rest := rest) rfl (by rw [hb]; exact hdg) t st, q⟩
theorem vx_baloadN (hexec : p.tables.exec = Jvm.exec) (hb : c.code = cc) {i : Int32} (hdg : decode cc pc = .ok (.baload, 1)) (k : vx_NoteN p l e R s m args below meth c H locs cells slots Q (F0 m pc ls rest)) : W p l e R s m args below meth c H locs cells slots Q (F0 m pc ls (.int i :: .null :: rest)) := by
  intro T hT X
  obtain ⟨t, st, q⟩ := k T hT X
  exact ⟨t, X.baloadNull hexec (g := F0 m pc ls (.int i :: .null :: rest)) rfl (rest := rest) rfl (by rw [hb]; exact hdg) t st, q⟩
theorem vx_caloadN (hexec : p.tables.exec = Jvm.exec) (hb : c.code = cc) {i : Int32} (hdg : decode cc pc = .ok (.caload, 1)) (k : vx_NoteN p l e R s m args below meth c H locs cells slots Q (F0 m pc ls rest)) : W p l e R s m args below meth c H locs cells slots Q (F0 m pc ls (.int i :: .null :: rest)) := by
  intro T hT X
  obtain ⟨t, st, q⟩ := k T hT X
  exact ⟨t, X.caloadNull hexec (g := F0 m pc ls (.int i :: .null :: rest)) rfl (rest := rest) rfl (by rw [hb]; exact hdg) t st, q⟩
theorem vx_saloadN (hexec : p.tables.exec = Jvm.exec) (hb : c.code = cc) {i : Int32} (hdg : decode cc pc = .ok (.saload, 1)) (k : vx_NoteN p l e R s m args below meth c H locs cells slots Q (F0 m pc ls rest)) : W p l e R s m args below meth c H locs cells slots Q (F0 m pc ls (.int i :: .null :: rest)) := by
  intro T hT X
  obtain ⟨t, st, q⟩ := k T hT X
  exact ⟨t, X.saloadNull hexec (g := F0 m pc ls (.int i :: .null :: rest)) rfl (rest := rest) rfl (by rw [hb]; exact hdg) t st, q⟩
theorem vx_iastoreN (hexec : p.tables.exec = Jvm.exec) (hb : c.code = cc) {x : Int32} {i : Int32} (hdg : decode cc pc = .ok (.iastore, 1)) (k : vx_NoteN p l e R s m args below meth c H locs cells slots Q (F0 m pc ls rest)) : W p l e R s m args below meth c H locs cells slots Q (F0 m pc ls (.int x :: .int i :: .null :: rest)) := by
  intro T hT X
  obtain ⟨t, st, q⟩ := k T hT X
  exact ⟨t, X.iastoreNull hexec (g := F0 m pc ls (.int x :: .int i :: .null :: rest)) rfl (rest := rest) rfl (by rw [hb]; exact hdg) t st, q⟩
theorem vx_lastoreN (hexec : p.tables.exec = Jvm.exec) (hb : c.code = cc) {x : Int64} {i : Int32} (hdg : decode cc pc = .ok (.lastore, 1)) (k : vx_NoteN p l e R s m args below meth c H locs cells slots Q (F0 m pc ls rest)) : W p l e R s m args below meth c H locs cells slots Q (F0 m pc ls (.long x :: .int i :: .null :: rest)) := by
  intro T hT X
  obtain ⟨t, st, q⟩ := k T hT X
  exact ⟨t, X.lastoreNull hexec (g := F0 m pc ls (.long x :: .int i :: .null :: rest)) rfl (rest := rest) rfl (by rw [hb]; exact hdg) t st, q⟩
theorem vx_fastoreN (hexec : p.tables.exec = Jvm.exec) (hb : c.code = cc) {x : UInt32} {i : Int32} (hdg : decode cc pc = .ok (.fastore, 1)) (k : vx_NoteN p l e R s m args below meth c H locs cells slots Q (F0 m pc ls rest)) : W p l e R s m args below meth c H locs cells slots Q (F0 m pc ls (.float x :: .int i :: .null :: rest)) := by
  intro T hT X
  obtain ⟨t, st, q⟩ := k T hT X
  exact ⟨t, X.fastoreNull hexec (g := F0 m pc ls (.float x :: .int i :: .null :: rest)) rfl (rest := rest) rfl (by rw [hb]; exact hdg) t st, q⟩
theorem vx_dastoreN (hexec : p.tables.exec = Jvm.exec) (hb : c.code = cc) {x : UInt64} {i : Int32} (hdg : decode cc pc = .ok (.dastore, 1)) (k : vx_NoteN p l e R s m args below meth c H locs cells slots Q (F0 m pc ls rest)) : W p l e R s m args below meth c H locs cells slots Q (F0 m pc ls (.double x :: .int i :: .null :: rest)) := by
  intro T hT X
  obtain ⟨t, st, q⟩ := k T hT X
  exact ⟨t, X.dastoreNull hexec (g := F0 m pc ls (.double x :: .int i :: .null :: rest)) rfl (rest := rest) rfl (by rw [hb]; exact hdg) t st, q⟩
theorem vx_bastoreN (hexec : p.tables.exec = Jvm.exec) (hb : c.code = cc) {x : Int32} {i : Int32} (hdg : decode cc pc = .ok (.bastore, 1)) (k : vx_NoteN p l e R s m args below meth c H locs cells slots Q (F0 m pc ls rest)) : W p l e R s m args below meth c H locs cells slots Q (F0 m pc ls (.int x :: .int i :: .null :: rest)) := by
  intro T hT X
  obtain ⟨t, st, q⟩ := k T hT X
  exact ⟨t, X.bastoreNull hexec (g := F0 m pc ls (.int x :: .int i :: .null :: rest)) rfl (rest := rest) rfl (by rw [hb]; exact hdg) t st, q⟩
theorem vx_castoreN (hexec : p.tables.exec = Jvm.exec) (hb : c.code = cc) {x : Int32} {i : Int32} (hdg : decode cc pc = .ok (.castore, 1)) (k : vx_NoteN p l e R s m args below meth c H locs cells slots Q (F0 m pc ls rest)) : W p l e R s m args below meth c H locs cells slots Q (F0 m pc ls (.int x :: .int i :: .null :: rest)) := by
  intro T hT X
  obtain ⟨t, st, q⟩ := k T hT X
  exact ⟨t, X.castoreNull hexec (g := F0 m pc ls (.int x :: .int i :: .null :: rest)) rfl (rest := rest) rfl (by rw [hb]; exact hdg) t st, q⟩
theorem vx_sastoreN (hexec : p.tables.exec = Jvm.exec) (hb : c.code = cc) {x : Int32} {i : Int32} (hdg : decode cc pc = .ok (.sastore, 1)) (k : vx_NoteN p l e R s m args below meth c H locs cells slots Q (F0 m pc ls rest)) : W p l e R s m args below meth c H locs cells slots Q (F0 m pc ls (.int x :: .int i :: .null :: rest)) := by
  intro T hT X
  obtain ⟨t, st, q⟩ := k T hT X
  exact ⟨t, X.sastoreNull hexec (g := F0 m pc ls (.int x :: .int i :: .null :: rest)) rfl (rest := rest) rfl (by rw [hb]; exact hdg) t st, q⟩
theorem vx_invokeN {own C : String} {index maxL : Nat} {y : MethodName} {bytes : ByteArray} {ret : Option FieldType} (hexec : p.tables.exec = Jvm.exec) (hb : c.code = cc) (hown : s.vm.findClass own = some m.cls) (hlink : (Cond.methodLink own index y).before args s = true) (hinst : (Cond.instanceMethod y).before args s = true) (hcode : (Cond.code y bytes maxL ret).before args s = true) (hsel : (Cond.selects C y y).before args s = true)
    (hx : y.cls ≠ "java/lang/invoke/MethodHandle" ∧ y.cls ≠ "java/lang/invoke/VarHandle") {As : List Value} (hlen : (parseMethodDescriptor y.desc).map (fun d => d.parameters.length) = some As.length) (hdg : decode cc pc = .ok (.invokevirtual index, 3))
    (k : vx_NoteN p l e R s m args below meth c H locs cells slots Q (F0 m pc ls rest)) {st0 : List Value} (hst : st0 = As.reverse ++ .null :: rest) : W p l e R s m args below meth c H locs cells slots Q (F0 m pc ls st0) := by
  intro T hT X
  obtain ⟨r0, r, hn, hrm, hstR, hsigR⟩ := va_Decl.of hinst hcode
  obtain ⟨c2, r2, m2, q1, q2, q3, q4, kP, hkP, hkPi⟩ := Cond.selects_spec hsel
  cases hn.symm.trans q3
  have hl9 : As.length = r.sig.parameters.length := by
    rw [hsigR] at hlen
    exact (Option.some.inj hlen).symm
  obtain ⟨vm', X1, st1⟩ := X.invokevirtualNull hexec hown hlink hn hrm hstR hkP hkPi hx (g := F0 m pc ls st0) rfl (argsL := As) (rest := rest) hl9 hst (by rw [hb]; exact hdg)
  obtain ⟨t, st, q⟩ := k (T.setVm vm') hT X1
  exact ⟨t, st1 t st, q⟩
theorem vx_newarrayZ {atype : ArrayType} (hexec : p.tables.exec = Jvm.exec) (hb : c.code = cc) {n : Int32} (h0 : n < 0) (hdg : decode cc pc = .ok (.newarray atype, 2)) (k : ∀ tx : String, tx = toString n → vx_Note p l e R s m args below meth c H locs cells slots Q (F0 m pc ls rest) "java/lang/NegativeArraySizeException" tx) : W p l e R s m args below meth c H locs cells slots Q (F0 m pc ls (.int n :: rest)) := by
  intro T hT X
  obtain ⟨t, st, q⟩ := k _ rfl T hT X
  exact ⟨t, X.newarrayNegative hexec (g := F0 m pc ls (.int n :: rest)) rfl h0 (rest := rest) rfl (by rw [hb]; exact hdg) t st, q⟩
end
end VXM
/-! ===== END ===== -/
end
section
def RX0 : String := "Termreckonry$Added"
def TX0 : u_T := fun k => match k with
  | 0 => ("Termreckonry$Added", "day", "I", true)
  | 1 => ("Termreckonry$Added", "left", "I", false)
  | _ => ("Termreckonry$Added", "next", "LTermreckonry$Added;", false)
def tyX0 : Nat → FieldType := fun k => match k with
  | 0 => .int
  | 1 => .int
  | _ => .object "Termreckonry$Added"
theorem nmX0 : ∀ a, a < 3 → ∀ b, b < 3 → a ≠ b → (TX0 a).2.1 ≠ (TX0 b).2.1 := by decide +kernel
theorem tyX0_ok : ∀ k, k < 3 → parseFieldDescriptor (TX0 k).2.2.1 = some (tyX0 k) := by decide +kernel
abbrev cX0_init : ByteArray := prog_2_method_1_code
def yX0_init : MethodName := ⟨RX0, "<init>", "(II)V"⟩
def RX1 : String := "Termreckonry$Calendar"
def TX1 : u_T := fun k => match k with
  | _ => ("", "", "", false)
def tyX1 : Nat → FieldType := fun k => match k with
  | _ => .int
theorem nmX1 : ∀ a, a < 0 → ∀ b, b < 0 → a ≠ b → (TX1 a).2.1 ≠ (TX1 b).2.1 := by decide +kernel
theorem tyX1_ok : ∀ k, k < 0 → parseFieldDescriptor (TX1 k).2.2.1 = some (tyX1 k) := by decide +kernel
abbrev cX1_isLeap : ByteArray := prog_3_method_2_code
def yX1_isLeap : MethodName := ⟨RX1, "isLeap", "(I)Z"⟩
abbrev cX1_daysOfMonth : ByteArray := prog_3_method_3_code
def yX1_daysOfMonth : MethodName := ⟨RX1, "daysOfMonth", "(ZI)I"⟩
abbrev cX1_numberOf : ByteArray := prog_3_method_4_code
def yX1_numberOf : MethodName := ⟨RX1, "numberOf", "(III)I"⟩
abbrev cX1_dateAt : ByteArray := prog_3_method_5_code
def yX1_dateAt : MethodName := ⟨RX1, "dateAt", "(I)I"⟩
def RX2 : String := "Termreckonry$Clerk"
def TX2 : u_T := fun k => match k with
  | _ => ("", "", "", false)
def tyX2 : Nat → FieldType := fun k => match k with
  | _ => .int
theorem nmX2 : ∀ a, a < 0 → ∀ b, b < 0 → a ≠ b → (TX2 a).2.1 ≠ (TX2 b).2.1 := by decide +kernel
theorem tyX2_ok : ∀ k, k < 0 → parseFieldDescriptor (TX2 k).2.2.1 = some (tyX2 k) := by decide +kernel
abbrev cX2_stateAfterDays : ByteArray := prog_4_method_2_code
def yX2_stateAfterDays : MethodName := ⟨RX2, "stateAfterDays", "(LTermreckonry$Person;I)C"⟩
abbrev cX2_agrees : ByteArray := prog_4_method_3_code
def yX2_agrees : MethodName := ⟨RX2, "agrees", "(LTermreckonry$Person;)Z"⟩
abbrev cX2_open : ByteArray := prog_4_method_4_code
def yX2_open : MethodName := ⟨RX2, "open", "(LTermreckonry$Person;)V"⟩
abbrev cX2_passDay : ByteArray := prog_4_method_5_code
def yX2_passDay : MethodName := ⟨RX2, "passDay", "(LTermreckonry$Person;I)C"⟩
abbrev cX2_readAdded : ByteArray := prog_4_method_6_code
def yX2_readAdded : MethodName := ⟨RX2, "readAdded", "(LTermreckonry$Person;I)V"⟩
abbrev cX2_passRecalls : ByteArray := prog_4_method_7_code
def yX2_passRecalls : MethodName := ⟨RX2, "passRecalls", "(LTermreckonry$Person;IZ)Z"⟩
abbrev cX2_endsOn : ByteArray := prog_4_method_8_code
def yX2_endsOn : MethodName := ⟨RX2, "endsOn", "(LTermreckonry$Recall;LTermreckonry$Person;I)Z"⟩
def RX3 : String := "Termreckonry$Days"
def TX3 : u_T := fun k => match k with
  | _ => ("Termreckonry$Days", "words", "[J", true)
def tyX3 : Nat → FieldType := fun k => match k with
  | _ => .array .long
theorem nmX3 : ∀ a, a < 1 → ∀ b, b < 1 → a ≠ b → (TX3 a).2.1 ≠ (TX3 b).2.1 := by decide +kernel
theorem tyX3_ok : ∀ k, k < 1 → parseFieldDescriptor (TX3 k).2.2.1 = some (tyX3 k) := by decide +kernel
abbrev cX3_init : ByteArray := prog_5_method_1_code
def yX3_init : MethodName := ⟨RX3, "<init>", "()V"⟩
abbrev cX3_clear : ByteArray := prog_5_method_2_code
def yX3_clear : MethodName := ⟨RX3, "clear", "()V"⟩
abbrev cX3_put : ByteArray := prog_5_method_3_code
def yX3_put : MethodName := ⟨RX3, "put", "(II)V"⟩
abbrev cX3_remove : ByteArray := prog_5_method_4_code
def yX3_remove : MethodName := ⟨RX3, "remove", "(LTermreckonry$Days;)V"⟩
abbrev cX3_has : ByteArray := prog_5_method_5_code
def yX3_has : MethodName := ⟨RX3, "has", "(I)Z"⟩
abbrev cX3_within : ByteArray := prog_5_method_6_code
def yX3_within : MethodName := ⟨RX3, "within", "(II)I"⟩
abbrev cX3_outside : ByteArray := prog_5_method_7_code
def yX3_outside : MethodName := ⟨RX3, "outside", "(LTermreckonry$Days;I)I"⟩
abbrev cX3_dayBehind : ByteArray := prog_5_method_8_code
def yX3_dayBehind : MethodName := ⟨RX3, "dayBehind", "(II)I"⟩
abbrev cX3_bitBehind : ByteArray := prog_5_method_9_code
def yX3_bitBehind : MethodName := ⟨RX3, "bitBehind", "(JI)I"⟩
abbrev cX3_bitsOf : ByteArray := prog_5_method_10_code
def yX3_bitsOf : MethodName := ⟨RX3, "bitsOf", "(III)J"⟩
def RX4 : String := "Termreckonry$Law"
def TX4 : u_T := fun k => match k with
  | 0 => ("Termreckonry$Law", "number", "I", true)
  | 1 => ("Termreckonry$Law", "byOffence", "Z", true)
  | 2 => ("Termreckonry$Law", "from", "I", true)
  | 3 => ("Termreckonry$Law", "eighths", "I", true)
  | _ => ("Termreckonry$Law", "needsBoard", "Z", true)
def tyX4 : Nat → FieldType := fun k => match k with
  | 0 => .int
  | 1 => .boolean
  | 2 => .int
  | 3 => .int
  | _ => .boolean
theorem nmX4 : ∀ a, a < 5 → ∀ b, b < 5 → a ≠ b → (TX4 a).2.1 ≠ (TX4 b).2.1 := by decide +kernel
theorem tyX4_ok : ∀ k, k < 5 → parseFieldDescriptor (TX4 k).2.2.1 = some (tyX4 k) := by decide +kernel
abbrev cX4_init : ByteArray := prog_6_method_1_code
def yX4_init : MethodName := ⟨RX4, "<init>", "(IZIIZ)V"⟩
def RX5 : String := "Termreckonry$Person"
def TX5 : u_T := fun k => match k with
  | 0 => ("Termreckonry$Person", "daysAtLarge", "LTermreckonry$Days;", true)
  | 1 => ("Termreckonry$Person", "daysHeld", "LTermreckonry$Days;", true)
  | 2 => ("Termreckonry$Person", "firstWarrant", "LTermreckonry$Warrant;", false)
  | 3 => ("Termreckonry$Person", "lastWarrant", "LTermreckonry$Warrant;", false)
  | 4 => ("Termreckonry$Person", "firstAdded", "LTermreckonry$Added;", false)
  | 5 => ("Termreckonry$Person", "unreadAdded", "LTermreckonry$Added;", false)
  | 6 => ("Termreckonry$Person", "firstRecall", "LTermreckonry$Recall;", false)
  | 7 => ("Termreckonry$Person", "lastRecall", "LTermreckonry$Recall;", false)
  | _ => ("Termreckonry$Person", "recalls", "I", false)
def tyX5 : Nat → FieldType := fun k => match k with
  | 0 => .object "Termreckonry$Days"
  | 1 => .object "Termreckonry$Days"
  | 2 => .object "Termreckonry$Warrant"
  | 3 => .object "Termreckonry$Warrant"
  | 4 => .object "Termreckonry$Added"
  | 5 => .object "Termreckonry$Added"
  | 6 => .object "Termreckonry$Recall"
  | 7 => .object "Termreckonry$Recall"
  | _ => .int
theorem nmX5 : ∀ a, a < 9 → ∀ b, b < 9 → a ≠ b → (TX5 a).2.1 ≠ (TX5 b).2.1 := by decide +kernel
theorem tyX5_ok : ∀ k, k < 9 → parseFieldDescriptor (TX5 k).2.2.1 = some (tyX5 k) := by decide +kernel
abbrev cX5_init : ByteArray := prog_7_method_1_code
def yX5_init : MethodName := ⟨RX5, "<init>", "()V"⟩
abbrev cX5_takeWarrant : ByteArray := prog_7_method_2_code
def yX5_takeWarrant : MethodName := ⟨RX5, "takeWarrant", "(LTermreckonry$Warrant;)V"⟩
abbrev cX5_takeRecall : ByteArray := prog_7_method_3_code
def yX5_takeRecall : MethodName := ⟨RX5, "takeRecall", "(LTermreckonry$Recall;)I"⟩
abbrev cX5_takeAdded : ByteArray := prog_7_method_4_code
def yX5_takeAdded : MethodName := ⟨RX5, "takeAdded", "(LTermreckonry$Added;)V"⟩
abbrev cX5_waitingWarrants : ByteArray := prog_7_method_5_code
def yX5_waitingWarrants : MethodName := ⟨RX5, "waitingWarrants", "()I"⟩
abbrev cX5_reckon : ByteArray := prog_7_method_6_code
def yX5_reckon : MethodName := ⟨RX5, "reckon", "()V"⟩
abbrev cX5_stateAt : ByteArray := prog_7_method_7_code
def yX5_stateAt : MethodName := ⟨RX5, "stateAt", "(I)C"⟩
abbrev cX5_keeperAt : ByteArray := prog_7_method_8_code
def yX5_keeperAt : MethodName := ⟨RX5, "keeperAt", "(I)LTermreckonry$Warrant;"⟩
abbrev cX5_recallAt : ByteArray := prog_7_method_9_code
def yX5_recallAt : MethodName := ⟨RX5, "recallAt", "(I)LTermreckonry$Recall;"⟩
abbrev cX5_isLicensed : ByteArray := prog_7_method_10_code
def yX5_isLicensed : MethodName := ⟨RX5, "isLicensed", "(I)Z"⟩
abbrev cX5_putDue : ByteArray := prog_7_method_11_code
def yX5_putDue : MethodName := ⟨RX5, "putDue", "(LTermreckonry$Days;)V"⟩
abbrev cX5_letter : ByteArray := prog_7_method_12_code
def yX5_letter : MethodName := ⟨RX5, "letter", "(ZZ)C"⟩
def RX6 : String := "Termreckonry$Recall"
def TX6 : u_T := fun k => match k with
  | 0 => ("Termreckonry$Recall", "owner", "LTermreckonry$Person;", true)
  | 1 => ("Termreckonry$Recall", "day", "I", true)
  | 2 => ("Termreckonry$Recall", "isFixed", "Z", true)
  | 3 => ("Termreckonry$Recall", "warrantsThen", "I", true)
  | 4 => ("Termreckonry$Recall", "letGoDay", "I", false)
  | 5 => ("Termreckonry$Recall", "until", "I", false)
  | 6 => ("Termreckonry$Recall", "clerksDays", "I", false)
  | 7 => ("Termreckonry$Recall", "clerksEnd", "Z", false)
  | _ => ("Termreckonry$Recall", "next", "LTermreckonry$Recall;", false)
def tyX6 : Nat → FieldType := fun k => match k with
  | 0 => .object "Termreckonry$Person"
  | 1 => .int
  | 2 => .boolean
  | 3 => .int
  | 4 => .int
  | 5 => .int
  | 6 => .int
  | 7 => .boolean
  | _ => .object "Termreckonry$Recall"
theorem nmX6 : ∀ a, a < 9 → ∀ b, b < 9 → a ≠ b → (TX6 a).2.1 ≠ (TX6 b).2.1 := by decide +kernel
theorem tyX6_ok : ∀ k, k < 9 → parseFieldDescriptor (TX6 k).2.2.1 = some (tyX6 k) := by decide +kernel
abbrev cX6_init : ByteArray := prog_8_method_1_code
def yX6_init : MethodName := ⟨RX6, "<init>", "(LTermreckonry$Person;IZI)V"⟩
abbrev cX6_reckon : ByteArray := prog_8_method_2_code
def yX6_reckon : MethodName := ⟨RX6, "reckon", "()V"⟩
abbrev cX6_firstDayUnlicensed : ByteArray := prog_8_method_3_code
def yX6_firstDayUnlicensed : MethodName := ⟨RX6, "firstDayUnlicensed", "()I"⟩
abbrev cX6_latestLicenceEnd : ByteArray := prog_8_method_4_code
def yX6_latestLicenceEnd : MethodName := ⟨RX6, "latestLicenceEnd", "(I)I"⟩
def RX7 : String := "Termreckonry$Tally"
def TX7 : u_T := fun k => match k with
  | 0 => ("Termreckonry$Tally", "begun", "I", false)
  | 1 => ("Termreckonry$Tally", "span", "I", false)
  | 2 => ("Termreckonry$Tally", "needs", "I", false)
  | 3 => ("Termreckonry$Tally", "served", "I", false)
  | 4 => ("Termreckonry$Tally", "missed", "I", false)
  | 5 => ("Termreckonry$Tally", "freed", "I", false)
  | _ => ("Termreckonry$Tally", "licenceEnd", "I", false)
def tyX7 : Nat → FieldType := fun k => match k with
  | 0 => .int
  | 1 => .int
  | 2 => .int
  | 3 => .int
  | 4 => .int
  | 5 => .int
  | _ => .int
theorem nmX7 : ∀ a, a < 7 → ∀ b, b < 7 → a ≠ b → (TX7 a).2.1 ≠ (TX7 b).2.1 := by decide +kernel
theorem tyX7_ok : ∀ k, k < 7 → parseFieldDescriptor (TX7 k).2.2.1 = some (tyX7 k) := by decide +kernel
abbrev cX7_init : ByteArray := prog_9_method_1_code
def yX7_init : MethodName := ⟨RX7, "<init>", "()V"⟩
abbrev cX7_open : ByteArray := prog_9_method_2_code
def yX7_open : MethodName := ⟨RX7, "open", "()V"⟩
abbrev cX7_runs : ByteArray := prog_9_method_3_code
def yX7_runs : MethodName := ⟨RX7, "runs", "()Z"⟩
abbrev cX7_licenses : ByteArray := prog_9_method_4_code
def yX7_licenses : MethodName := ⟨RX7, "licenses", "(I)Z"⟩
abbrev cX7_passDay : ByteArray := prog_9_method_5_code
def yX7_passDay : MethodName := ⟨RX7, "passDay", "(LTermreckonry$Warrant;IZ)V"⟩
abbrev cX7_putAdded : ByteArray := prog_9_method_6_code
def yX7_putAdded : MethodName := ⟨RX7, "putAdded", "(LTermreckonry$Warrant;LTermreckonry$Added;)V"⟩
abbrev cX7_mayBegin : ByteArray := prog_9_method_7_code
def yX7_mayBegin : MethodName := ⟨RX7, "mayBegin", "(LTermreckonry$Warrant;I)Z"⟩
abbrev cX7_mayLeave : ByteArray := prog_9_method_8_code
def yX7_mayLeave : MethodName := ⟨RX7, "mayLeave", "(LTermreckonry$Warrant;I)Z"⟩
abbrev cX7_endOfLicence : ByteArray := prog_9_method_9_code
def yX7_endOfLicence : MethodName := ⟨RX7, "endOfLicence", "(LTermreckonry$Warrant;)I"⟩
def RX8 : String := "Termreckonry$Term"
def TX8 : u_T := fun k => match k with
  | 0 => ("Termreckonry$Term", "years", "I", true)
  | 1 => ("Termreckonry$Term", "months", "I", true)
  | _ => ("Termreckonry$Term", "days", "I", true)
def tyX8 : Nat → FieldType := fun k => match k with
  | 0 => .int
  | 1 => .int
  | _ => .int
theorem nmX8 : ∀ a, a < 3 → ∀ b, b < 3 → a ≠ b → (TX8 a).2.1 ≠ (TX8 b).2.1 := by decide +kernel
theorem tyX8_ok : ∀ k, k < 3 → parseFieldDescriptor (TX8 k).2.2.1 = some (tyX8 k) := by decide +kernel
abbrev cX8_init : ByteArray := prog_10_method_1_code
def yX8_init : MethodName := ⟨RX8, "<init>", "(III)V"⟩
abbrev cX8_spanFrom : ByteArray := prog_10_method_2_code
def yX8_spanFrom : MethodName := ⟨RX8, "spanFrom", "(I)I"⟩
def RX9 : String := "Termreckonry$Warrant"
def TX9 : u_T := fun k => match k with
  | 0 => ("Termreckonry$Warrant", "number", "I", true)
  | 1 => ("Termreckonry$Warrant", "owner", "LTermreckonry$Person;", true)
  | 2 => ("Termreckonry$Warrant", "kind", "C", true)
  | 3 => ("Termreckonry$Warrant", "offence", "I", true)
  | 4 => ("Termreckonry$Warrant", "passed", "I", true)
  | 5 => ("Termreckonry$Warrant", "ahead", "LTermreckonry$Warrant;", true)
  | 6 => ("Termreckonry$Warrant", "tally", "LTermreckonry$Tally;", true)
  | 7 => ("Termreckonry$Warrant", "law", "LTermreckonry$Law;", false)
  | 8 => ("Termreckonry$Warrant", "term", "LTermreckonry$Term;", false)
  | 9 => ("Termreckonry$Warrant", "runsFrom", "I", false)
  | 10 => ("Termreckonry$Warrant", "yesDay", "I", false)
  | 11 => ("Termreckonry$Warrant", "countedWhole", "I", false)
  | 12 => ("Termreckonry$Warrant", "countedUnderTag", "I", false)
  | 13 => ("Termreckonry$Warrant", "quashed", "Z", false)
  | 14 => ("Termreckonry$Warrant", "begin", "I", false)
  | 15 => ("Termreckonry$Warrant", "neededDays", "I", false)
  | 16 => ("Termreckonry$Warrant", "releaseDay", "I", false)
  | 17 => ("Termreckonry$Warrant", "licenceEnd", "I", false)
  | _ => ("Termreckonry$Warrant", "next", "LTermreckonry$Warrant;", false)
def tyX9 : Nat → FieldType := fun k => match k with
  | 0 => .int
  | 1 => .object "Termreckonry$Person"
  | 2 => .char
  | 3 => .int
  | 4 => .int
  | 5 => .object "Termreckonry$Warrant"
  | 6 => .object "Termreckonry$Tally"
  | 7 => .object "Termreckonry$Law"
  | 8 => .object "Termreckonry$Term"
  | 9 => .int
  | 10 => .int
  | 11 => .int
  | 12 => .int
  | 13 => .boolean
  | 14 => .int
  | 15 => .int
  | 16 => .int
  | 17 => .int
  | _ => .object "Termreckonry$Warrant"
theorem nmX9 : ∀ a, a < 19 → ∀ b, b < 19 → a ≠ b → (TX9 a).2.1 ≠ (TX9 b).2.1 := by decide +kernel
theorem tyX9_ok : ∀ k, k < 19 → parseFieldDescriptor (TX9 k).2.2.1 = some (tyX9 k) := by decide +kernel
abbrev cX9_init : ByteArray := prog_11_method_1_code
def yX9_init : MethodName := ⟨RX9, "<init>", "(ILTermreckonry$Person;CIILTermreckonry$Warrant;LTermreckonry$Term;)V"⟩
abbrev cX9_apply : ByteArray := prog_11_method_2_code
def yX9_apply : MethodName := ⟨RX9, "apply", "(LTermreckonry$Law;)V"⟩
abbrev cX9_isLikeFixed : ByteArray := prog_11_method_3_code
def yX9_isLikeFixed : MethodName := ⟨RX9, "isLikeFixed", "()Z"⟩
abbrev cX9_waits : ByteArray := prog_11_method_4_code
def yX9_waits : MethodName := ⟨RX9, "waits", "()Z"⟩
abbrev cX9_counts : ByteArray := prog_11_method_5_code
def yX9_counts : MethodName := ⟨RX9, "counts", "()Z"⟩
abbrev cX9_ownDay : ByteArray := prog_11_method_6_code
def yX9_ownDay : MethodName := ⟨RX9, "ownDay", "()I"⟩
abbrev cX9_needsYes : ByteArray := prog_11_method_7_code
def yX9_needsYes : MethodName := ⟨RX9, "needsYes", "()Z"⟩
abbrev cX9_countedDays : ByteArray := prog_11_method_8_code
def yX9_countedDays : MethodName := ⟨RX9, "countedDays", "()I"⟩
abbrev cX9_neededOf : ByteArray := prog_11_method_9_code
def yX9_neededOf : MethodName := ⟨RX9, "neededOf", "(I)I"⟩
abbrev cX9_mostNeededOf : ByteArray := prog_11_method_10_code
def yX9_mostNeededOf : MethodName := ⟨RX9, "mostNeededOf", "(I)I"⟩
abbrev cX9_keepsOn : ByteArray := prog_11_method_11_code
def yX9_keepsOn : MethodName := ⟨RX9, "keepsOn", "(I)Z"⟩
abbrev cX9_licensesOn : ByteArray := prog_11_method_12_code
def yX9_licensesOn : MethodName := ⟨RX9, "licensesOn", "(I)Z"⟩
abbrev cX9_reckon : ByteArray := prog_11_method_13_code
def yX9_reckon : MethodName := ⟨RX9, "reckon", "()V"⟩
abbrev cX9_reckonBegin : ByteArray := prog_11_method_14_code
def yX9_reckonBegin : MethodName := ⟨RX9, "reckonBegin", "()I"⟩
abbrev cX9_releaseAfter : ByteArray := prog_11_method_15_code
def yX9_releaseAfter : MethodName := ⟨RX9, "releaseAfter", "(I)I"⟩
abbrev cX9_endAfter : ByteArray := prog_11_method_16_code
def yX9_endAfter : MethodName := ⟨RX9, "endAfter", "(I)I"⟩
def RX10 : String := "Termreckonry"
def TX10 : u_T := fun k => match k with
  | 0 => ("Termreckonry", "laws", "[LTermreckonry$Law;", true)
  | 1 => ("Termreckonry", "persons", "[LTermreckonry$Person;", true)
  | 2 => ("Termreckonry", "warrants", "[LTermreckonry$Warrant;", true)
  | 3 => ("Termreckonry", "additions", "[LTermreckonry$Added;", true)
  | 4 => ("Termreckonry", "due", "LTermreckonry$Days;", true)
  | 5 => ("Termreckonry", "lawCount", "I", false)
  | 6 => ("Termreckonry", "personCount", "I", false)
  | 7 => ("Termreckonry", "warrantCount", "I", false)
  | 8 => ("Termreckonry", "additionCount", "I", false)
  | _ => ("Termreckonry", "recallCount", "I", false)
def tyX10 : Nat → FieldType := fun k => match k with
  | 0 => .array (.object "Termreckonry$Law")
  | 1 => .array (.object "Termreckonry$Person")
  | 2 => .array (.object "Termreckonry$Warrant")
  | 3 => .array (.object "Termreckonry$Added")
  | 4 => .object "Termreckonry$Days"
  | 5 => .int
  | 6 => .int
  | 7 => .int
  | 8 => .int
  | _ => .int
theorem nmX10 : ∀ a, a < 10 → ∀ b, b < 10 → a ≠ b → (TX10 a).2.1 ≠ (TX10 b).2.1 := by decide +kernel
theorem tyX10_ok : ∀ k, k < 10 → parseFieldDescriptor (TX10 k).2.2.1 = some (tyX10 k) := by decide +kernel
abbrev cX10_init : ByteArray := prog_1_method_1_code
def yX10_init : MethodName := ⟨RX10, "<init>", "()V"⟩
abbrev cX10_dayOf : ByteArray := prog_1_method_2_code
def yX10_dayOf : MethodName := ⟨RX10, "dayOf", "(III)I"⟩
abbrev cX10_dateOf : ByteArray := prog_1_method_3_code
def yX10_dateOf : MethodName := ⟨RX10, "dateOf", "(I)I"⟩
abbrev cX10_length : ByteArray := prog_1_method_4_code
def yX10_length : MethodName := ⟨RX10, "length", "(IIII)I"⟩
abbrev cX10_law : ByteArray := prog_1_method_5_code
def yX10_law : MethodName := ⟨RX10, "law", "(CIIZ)I"⟩
abbrev cX10_lawOf : ByteArray := prog_1_method_6_code
def yX10_lawOf : MethodName := ⟨RX10, "lawOf", "(I)I"⟩
abbrev cX10_person : ByteArray := prog_1_method_7_code
def yX10_person : MethodName := ⟨RX10, "person", "()I"⟩
abbrev cX10_warrant : ByteArray := prog_1_method_8_code
def yX10_warrant : MethodName := ⟨RX10, "warrant", "(ICIIIIII)I"⟩
abbrev cX10_count : ByteArray := prog_1_method_9_code
def yX10_count : MethodName := ⟨RX10, "count", "(IIZ)I"⟩
abbrev cX10_activate : ByteArray := prog_1_method_10_code
def yX10_activate : MethodName := ⟨RX10, "activate", "(II)I"⟩
abbrev cX10_vary : ByteArray := prog_1_method_11_code
def yX10_vary : MethodName := ⟨RX10, "vary", "(IIII)I"⟩
abbrev cX10_quash : ByteArray := prog_1_method_12_code
def yX10_quash : MethodName := ⟨RX10, "quash", "(I)Z"⟩
abbrev cX10_approve : ByteArray := prog_1_method_13_code
def yX10_approve : MethodName := ⟨RX10, "approve", "(II)I"⟩
abbrev cX10_add : ByteArray := prog_1_method_14_code
def yX10_add : MethodName := ⟨RX10, "add", "(III)I"⟩
abbrev cX10_giveBack : ByteArray := prog_1_method_15_code
def yX10_giveBack : MethodName := ⟨RX10, "giveBack", "(II)I"⟩
abbrev cX10_atLarge : ByteArray := prog_1_method_16_code
def yX10_atLarge : MethodName := ⟨RX10, "atLarge", "(III)I"⟩
abbrev cX10_recall : ByteArray := prog_1_method_17_code
def yX10_recall : MethodName := ⟨RX10, "recall", "(IIC)I"⟩
abbrev cX10_letGo : ByteArray := prog_1_method_18_code
def yX10_letGo : MethodName := ⟨RX10, "letGo", "(II)I"⟩
abbrev cX10_begins : ByteArray := prog_1_method_19_code
def yX10_begins : MethodName := ⟨RX10, "begins", "(I)I"⟩
abbrev cX10_needed : ByteArray := prog_1_method_20_code
def yX10_needed : MethodName := ⟨RX10, "needed", "(I)I"⟩
abbrev cX10_release : ByteArray := prog_1_method_21_code
def yX10_release : MethodName := ⟨RX10, "release", "(I)I"⟩
abbrev cX10_end : ByteArray := prog_1_method_22_code
def yX10_end : MethodName := ⟨RX10, "end", "(I)I"⟩
abbrev cX10_stateOn : ByteArray := prog_1_method_23_code
def yX10_stateOn : MethodName := ⟨RX10, "stateOn", "(II)C"⟩
abbrev cX10_byClerk : ByteArray := prog_1_method_24_code
def yX10_byClerk : MethodName := ⟨RX10, "byClerk", "(II)C"⟩
abbrev cX10_keeper : ByteArray := prog_1_method_25_code
def yX10_keeper : MethodName := ⟨RX10, "keeper", "(II)I"⟩
abbrev cX10_held : ByteArray := prog_1_method_26_code
def yX10_held : MethodName := ⟨RX10, "held", "(III)I"⟩
abbrev cX10_tooLong : ByteArray := prog_1_method_27_code
def yX10_tooLong : MethodName := ⟨RX10, "tooLong", "(II)I"⟩
abbrev cX10_tooShort : ByteArray := prog_1_method_28_code
def yX10_tooShort : MethodName := ⟨RX10, "tooShort", "(II)I"⟩
abbrev cX10_warrants : ByteArray := prog_1_method_29_code
def yX10_warrants : MethodName := ⟨RX10, "warrants", "()I"⟩
abbrev cX10_owed : ByteArray := prog_1_method_30_code
def yX10_owed : MethodName := ⟨RX10, "owed", "()J"⟩
abbrev cX10_prisonShare : ByteArray := prog_1_method_31_code
def yX10_prisonShare : MethodName := ⟨RX10, "prisonShare", "(I)F"⟩
abbrev cX10_meanNeeded : ByteArray := prog_1_method_32_code
def yX10_meanNeeded : MethodName := ⟨RX10, "meanNeeded", "()D"⟩
abbrev cX10_isTrue : ByteArray := prog_1_method_33_code
def yX10_isTrue : MethodName := ⟨RX10, "isTrue", "()Z"⟩
abbrev cX10_knownPerson : ByteArray := prog_1_method_34_code
def yX10_knownPerson : MethodName := ⟨RX10, "knownPerson", "(I)LTermreckonry$Person;"⟩
abbrev cX10_knownWarrant : ByteArray := prog_1_method_35_code
def yX10_knownWarrant : MethodName := ⟨RX10, "knownWarrant", "(I)LTermreckonry$Warrant;"⟩
abbrev cX10_knownAdded : ByteArray := prog_1_method_36_code
def yX10_knownAdded : MethodName := ⟨RX10, "knownAdded", "(I)LTermreckonry$Added;"⟩
abbrev cX10_begunWarrant : ByteArray := prog_1_method_37_code
def yX10_begunWarrant : MethodName := ⟨RX10, "begunWarrant", "(I)LTermreckonry$Warrant;"⟩
abbrev cX10_sumNeeded : ByteArray := prog_1_method_38_code
def yX10_sumNeeded : MethodName := ⟨RX10, "sumNeeded", "()J"⟩
abbrev cX10_reckonAll : ByteArray := prog_1_method_39_code
def yX10_reckonAll : MethodName := ⟨RX10, "reckonAll", "()V"⟩
abbrev cX10_requireRange : ByteArray := prog_1_method_40_code
def yX10_requireRange : MethodName := ⟨RX10, "requireRange", "(III)V"⟩
abbrev cX10_requireDay : ByteArray := prog_1_method_41_code
def yX10_requireDay : MethodName := ⟨RX10, "requireDay", "(I)V"⟩
abbrev cX10_requireSpan : ByteArray := prog_1_method_42_code
def yX10_requireSpan : MethodName := ⟨RX10, "requireSpan", "(II)V"⟩
abbrev cX10_requireTerm : ByteArray := prog_1_method_43_code
def yX10_requireTerm : MethodName := ⟨RX10, "requireTerm", "(III)V"⟩
abbrev cX10_requireSomeTerm : ByteArray := prog_1_method_44_code
def yX10_requireSomeTerm : MethodName := ⟨RX10, "requireSomeTerm", "(III)V"⟩
abbrev cX10_requireKind : ByteArray := prog_1_method_45_code
def yX10_requireKind : MethodName := ⟨RX10, "requireKind", "(C)V"⟩
def RX11 : String := "TermreckonryModel$Added"
def TX11 : u_T := fun k => match k with
  | 0 => ("TermreckonryModel$Added", "person", "I", true)
  | 1 => ("TermreckonryModel$Added", "day", "I", true)
  | _ => ("TermreckonryModel$Added", "left", "I", false)
def tyX11 : Nat → FieldType := fun k => match k with
  | 0 => .int
  | 1 => .int
  | _ => .int
theorem nmX11 : ∀ a, a < 3 → ∀ b, b < 3 → a ≠ b → (TX11 a).2.1 ≠ (TX11 b).2.1 := by decide +kernel
theorem tyX11_ok : ∀ k, k < 3 → parseFieldDescriptor (TX11 k).2.2.1 = some (tyX11 k) := by decide +kernel
abbrev cX11_init : ByteArray := prog_14_method_1_code
def yX11_init : MethodName := ⟨RX11, "<init>", "(III)V"⟩
def RX12 : String := "TermreckonryModel$Fact"
def TX12 : u_T := fun k => match k with
  | 0 => ("TermreckonryModel$Fact", "begins", "Z", false)
  | 1 => ("TermreckonryModel$Fact", "begin", "I", false)
  | 2 => ("TermreckonryModel$Fact", "length", "I", false)
  | 3 => ("TermreckonryModel$Fact", "needed", "I", false)
  | 4 => ("TermreckonryModel$Fact", "release", "I", false)
  | _ => ("TermreckonryModel$Fact", "end", "I", false)
def tyX12 : Nat → FieldType := fun k => match k with
  | 0 => .boolean
  | 1 => .int
  | 2 => .int
  | 3 => .int
  | 4 => .int
  | _ => .int
theorem nmX12 : ∀ a, a < 6 → ∀ b, b < 6 → a ≠ b → (TX12 a).2.1 ≠ (TX12 b).2.1 := by decide +kernel
theorem tyX12_ok : ∀ k, k < 6 → parseFieldDescriptor (TX12 k).2.2.1 = some (tyX12 k) := by decide +kernel
abbrev cX12_init : ByteArray := prog_15_method_1_code
def yX12_init : MethodName := ⟨RX12, "<init>", "()V"⟩
def RX13 : String := "TermreckonryModel$Law"
def TX13 : u_T := fun k => match k with
  | 0 => ("TermreckonryModel$Law", "by", "C", true)
  | 1 => ("TermreckonryModel$Law", "from", "I", true)
  | 2 => ("TermreckonryModel$Law", "eighths", "I", true)
  | _ => ("TermreckonryModel$Law", "needsBoard", "Z", true)
def tyX13 : Nat → FieldType := fun k => match k with
  | 0 => .char
  | 1 => .int
  | 2 => .int
  | _ => .boolean
theorem nmX13 : ∀ a, a < 4 → ∀ b, b < 4 → a ≠ b → (TX13 a).2.1 ≠ (TX13 b).2.1 := by decide +kernel
theorem tyX13_ok : ∀ k, k < 4 → parseFieldDescriptor (TX13 k).2.2.1 = some (tyX13 k) := by decide +kernel
abbrev cX13_init : ByteArray := prog_16_method_1_code
def yX13_init : MethodName := ⟨RX13, "<init>", "(CIIZ)V"⟩
def RX14 : String := "TermreckonryModel$Person"
def TX14 : u_T := fun k => match k with
  | 0 => ("TermreckonryModel$Person", "free", "[I", true)
  | 1 => ("TermreckonryModel$Person", "isAway", "[Z", true)
  | _ => ("TermreckonryModel$Person", "isHeld", "[Z", true)
def tyX14 : Nat → FieldType := fun k => match k with
  | 0 => .array .int
  | 1 => .array .boolean
  | _ => .array .boolean
theorem nmX14 : ∀ a, a < 3 → ∀ b, b < 3 → a ≠ b → (TX14 a).2.1 ≠ (TX14 b).2.1 := by decide +kernel
theorem tyX14_ok : ∀ k, k < 3 → parseFieldDescriptor (TX14 k).2.2.1 = some (tyX14 k) := by decide +kernel
abbrev cX14_init : ByteArray := prog_17_method_1_code
def yX14_init : MethodName := ⟨RX14, "<init>", "()V"⟩
abbrev cX14_sums : ByteArray := prog_17_method_2_code
def yX14_sums : MethodName := ⟨RX14, "sums", "()V"⟩
abbrev cX14_behind : ByteArray := prog_17_method_3_code
def yX14_behind : MethodName := ⟨RX14, "behind", "(II)I"⟩
def RX15 : String := "TermreckonryModel$Recall"
def TX15 : u_T := fun k => match k with
  | 0 => ("TermreckonryModel$Recall", "person", "I", true)
  | 1 => ("TermreckonryModel$Recall", "day", "I", true)
  | 2 => ("TermreckonryModel$Recall", "kind", "C", true)
  | 3 => ("TermreckonryModel$Recall", "warrants", "I", true)
  | _ => ("TermreckonryModel$Recall", "letGo", "I", false)
def tyX15 : Nat → FieldType := fun k => match k with
  | 0 => .int
  | 1 => .int
  | 2 => .char
  | 3 => .int
  | _ => .int
theorem nmX15 : ∀ a, a < 5 → ∀ b, b < 5 → a ≠ b → (TX15 a).2.1 ≠ (TX15 b).2.1 := by decide +kernel
theorem tyX15_ok : ∀ k, k < 5 → parseFieldDescriptor (TX15 k).2.2.1 = some (tyX15 k) := by decide +kernel
abbrev cX15_init : ByteArray := prog_18_method_1_code
def yX15_init : MethodName := ⟨RX15, "<init>", "(IICI)V"⟩
def RX16 : String := "TermreckonryModel$Warrant"
def TX16 : u_T := fun k => match k with
  | 0 => ("TermreckonryModel$Warrant", "person", "I", true)
  | 1 => ("TermreckonryModel$Warrant", "kind", "C", true)
  | 2 => ("TermreckonryModel$Warrant", "offence", "I", true)
  | 3 => ("TermreckonryModel$Warrant", "passed", "I", true)
  | 4 => ("TermreckonryModel$Warrant", "behind", "I", true)
  | 5 => ("TermreckonryModel$Warrant", "years", "I", false)
  | 6 => ("TermreckonryModel$Warrant", "months", "I", false)
  | 7 => ("TermreckonryModel$Warrant", "days", "I", false)
  | 8 => ("TermreckonryModel$Warrant", "plain", "I", false)
  | 9 => ("TermreckonryModel$Warrant", "tagged", "I", false)
  | 10 => ("TermreckonryModel$Warrant", "runs", "I", false)
  | 11 => ("TermreckonryModel$Warrant", "isQuashed", "Z", false)
  | _ => ("TermreckonryModel$Warrant", "yes", "I", false)
def tyX16 : Nat → FieldType := fun k => match k with
  | 0 => .int
  | 1 => .char
  | 2 => .int
  | 3 => .int
  | 4 => .int
  | 5 => .int
  | 6 => .int
  | 7 => .int
  | 8 => .int
  | 9 => .int
  | 10 => .int
  | 11 => .boolean
  | _ => .int
theorem nmX16 : ∀ a, a < 13 → ∀ b, b < 13 → a ≠ b → (TX16 a).2.1 ≠ (TX16 b).2.1 := by decide +kernel
theorem tyX16_ok : ∀ k, k < 13 → parseFieldDescriptor (TX16 k).2.2.1 = some (tyX16 k) := by decide +kernel
abbrev cX16_init : ByteArray := prog_19_method_1_code
def yX16_init : MethodName := ⟨RX16, "<init>", "(ICIII)V"⟩
abbrev cX16_counted : ByteArray := prog_19_method_2_code
def yX16_counted : MethodName := ⟨RX16, "counted", "()I"⟩
abbrev cX16_counts : ByteArray := prog_19_method_3_code
def yX16_counts : MethodName := ⟨RX16, "counts", "()Z"⟩
abbrev cX16_isFixed : ByteArray := prog_19_method_4_code
def yX16_isFixed : MethodName := ⟨RX16, "isFixed", "()Z"⟩
abbrev cX16_length : ByteArray := prog_19_method_5_code
def yX16_length : MethodName := ⟨RX16, "length", "(I)I"⟩
def RX17 : String := "TermreckonryModel"
def TX17 : u_T := fun k => match k with
  | 0 => ("TermreckonryModel", "thrown", "I", false)
  | 1 => ("TermreckonryModel", "laws", "Ljava/util/ArrayList;", true)
  | 2 => ("TermreckonryModel", "persons", "Ljava/util/ArrayList;", true)
  | 3 => ("TermreckonryModel", "warrants", "Ljava/util/ArrayList;", true)
  | 4 => ("TermreckonryModel", "added", "Ljava/util/ArrayList;", true)
  | _ => ("TermreckonryModel", "recalls", "Ljava/util/ArrayList;", true)
def tyX17 : Nat → FieldType := fun k => match k with
  | 0 => .int
  | 1 => .object "java/util/ArrayList"
  | 2 => .object "java/util/ArrayList"
  | 3 => .object "java/util/ArrayList"
  | 4 => .object "java/util/ArrayList"
  | _ => .object "java/util/ArrayList"
theorem nmX17 : ∀ a, a < 6 → ∀ b, b < 6 → a ≠ b → (TX17 a).2.1 ≠ (TX17 b).2.1 := by decide +kernel
theorem tyX17_ok : ∀ k, k < 6 → parseFieldDescriptor (TX17 k).2.2.1 = some (tyX17 k) := by decide +kernel
abbrev cX17_in : ByteArray := prog_13_method_1_code
def yX17_in : MethodName := ⟨RX17, "in", "(III)Z"⟩
abbrev cX17_init : ByteArray := prog_13_method_2_code
def yX17_init : MethodName := ⟨RX17, "<init>", "()V"⟩
abbrev cX17_thrown : ByteArray := prog_13_method_3_code
def yX17_thrown : MethodName := ⟨RX17, "thrown", "()I"⟩
abbrev cX17_raises : ByteArray := prog_13_method_4_code
def yX17_raises : MethodName := ⟨RX17, "raises", "(I)I"⟩
abbrev cX17_isLeap : ByteArray := prog_13_method_5_code
def yX17_isLeap : MethodName := ⟨RX17, "isLeap", "(I)Z"⟩
abbrev cX17_daysOf : ByteArray := prog_13_method_6_code
def yX17_daysOf : MethodName := ⟨RX17, "daysOf", "(II)I"⟩
abbrev cX17_firstOf : ByteArray := prog_13_method_7_code
def yX17_firstOf : MethodName := ⟨RX17, "firstOf", "(I)I"⟩
abbrev cX17_monthOf : ByteArray := prog_13_method_8_code
def yX17_monthOf : MethodName := ⟨RX17, "monthOf", "(I)I"⟩
abbrev cX17_lengthOf : ByteArray := prog_13_method_9_code
def yX17_lengthOf : MethodName := ⟨RX17, "lengthOf", "(IIII)I"⟩
abbrev cX17_dayOf : ByteArray := prog_13_method_10_code
def yX17_dayOf : MethodName := ⟨RX17, "dayOf", "(III)I"⟩
abbrev cX17_noDay : ByteArray := prog_13_method_11_code
def yX17_noDay : MethodName := ⟨RX17, "noDay", "(I)Z"⟩
abbrev cX17_dateOf : ByteArray := prog_13_method_12_code
def yX17_dateOf : MethodName := ⟨RX17, "dateOf", "(I)I"⟩
abbrev cX17_areTerm : ByteArray := prog_13_method_13_code
def yX17_areTerm : MethodName := ⟨RX17, "areTerm", "(III)Z"⟩
abbrev cX17_length : ByteArray := prog_13_method_14_code
def yX17_length : MethodName := ⟨RX17, "length", "(IIII)I"⟩
abbrev cX17_law : ByteArray := prog_13_method_15_code
def yX17_law : MethodName := ⟨RX17, "law", "(CIIZ)I"⟩
abbrev cX17_lawFor : ByteArray := prog_13_method_16_code
def yX17_lawFor : MethodName := ⟨RX17, "lawFor", "(LTermreckonryModel$Warrant;)I"⟩
abbrev cX17_isWarrant : ByteArray := prog_13_method_17_code
def yX17_isWarrant : MethodName := ⟨RX17, "isWarrant", "(I)Z"⟩
abbrev cX17_noWarrant : ByteArray := prog_13_method_18_code
def yX17_noWarrant : MethodName := ⟨RX17, "noWarrant", "(I)Z"⟩
abbrev cX17_lawOf : ByteArray := prog_13_method_19_code
def yX17_lawOf : MethodName := ⟨RX17, "lawOf", "(I)I"⟩
abbrev cX17_person : ByteArray := prog_13_method_20_code
def yX17_person : MethodName := ⟨RX17, "person", "()I"⟩
abbrev cX17_isPerson : ByteArray := prog_13_method_21_code
def yX17_isPerson : MethodName := ⟨RX17, "isPerson", "(I)Z"⟩
abbrev cX17_warrant : ByteArray := prog_13_method_22_code
def yX17_warrant : MethodName := ⟨RX17, "warrant", "(ICIIIIII)I"⟩
abbrev cX17_count : ByteArray := prog_13_method_23_code
def yX17_count : MethodName := ⟨RX17, "count", "(IIZ)I"⟩
abbrev cX17_activate : ByteArray := prog_13_method_24_code
def yX17_activate : MethodName := ⟨RX17, "activate", "(II)I"⟩
abbrev cX17_vary : ByteArray := prog_13_method_25_code
def yX17_vary : MethodName := ⟨RX17, "vary", "(IIII)I"⟩
abbrev cX17_quash : ByteArray := prog_13_method_26_code
def yX17_quash : MethodName := ⟨RX17, "quash", "(I)Z"⟩
abbrev cX17_approve : ByteArray := prog_13_method_27_code
def yX17_approve : MethodName := ⟨RX17, "approve", "(II)I"⟩
abbrev cX17_noPerson : ByteArray := prog_13_method_28_code
def yX17_noPerson : MethodName := ⟨RX17, "noPerson", "(IZ)Z"⟩
abbrev cX17_add : ByteArray := prog_13_method_29_code
def yX17_add : MethodName := ⟨RX17, "add", "(III)I"⟩
abbrev cX17_giveBack : ByteArray := prog_13_method_30_code
def yX17_giveBack : MethodName := ⟨RX17, "giveBack", "(II)I"⟩
abbrev cX17_marks : ByteArray := prog_13_method_31_code
def yX17_marks : MethodName := ⟨RX17, "marks", "([ZII)I"⟩
abbrev cX17_areSpan : ByteArray := prog_13_method_32_code
def yX17_areSpan : MethodName := ⟨RX17, "areSpan", "(II)Z"⟩
abbrev cX17_atLarge : ByteArray := prog_13_method_33_code
def yX17_atLarge : MethodName := ⟨RX17, "atLarge", "(III)I"⟩
abbrev cX17_releaseBy : ByteArray := prog_13_method_34_code
def yX17_releaseBy : MethodName := ⟨RX17, "releaseBy", "(LTermreckonryModel$Warrant;II)I"⟩
abbrev cX17_addedOf : ByteArray := prog_13_method_35_code
def yX17_addedOf : MethodName := ⟨RX17, "addedOf", "(I)Ljava/util/ArrayList;"⟩
abbrev cX17_factOf : ByteArray := prog_13_method_36_code
def yX17_factOf : MethodName := ⟨RX17, "factOf", "(LTermreckonryModel$Warrant;[LTermreckonryModel$Fact;)LTermreckonryModel$Fact;"⟩
abbrev cX17_facts : ByteArray := prog_13_method_37_code
def yX17_facts : MethodName := ⟨RX17, "facts", "()[LTermreckonryModel$Fact;"⟩
abbrev cX17_hasLicence : ByteArray := prog_13_method_38_code
def yX17_hasLicence : MethodName := ⟨RX17, "hasLicence", "(LTermreckonryModel$Warrant;LTermreckonryModel$Fact;I)Z"⟩
abbrev cX17_isLicensed : ByteArray := prog_13_method_39_code
def yX17_isLicensed : MethodName := ⟨RX17, "isLicensed", "(II[LTermreckonryModel$Fact;I)Z"⟩
abbrev cX17_goesOn : ByteArray := prog_13_method_40_code
def yX17_goesOn : MethodName := ⟨RX17, "goesOn", "(LTermreckonryModel$Recall;I[LTermreckonryModel$Fact;)Z"⟩
abbrev cX17_isIn : ByteArray := prog_13_method_41_code
def yX17_isIn : MethodName := ⟨RX17, "isIn", "(II[LTermreckonryModel$Fact;)Z"⟩
abbrev cX17_stateOf : ByteArray := prog_13_method_42_code
def yX17_stateOf : MethodName := ⟨RX17, "stateOf", "(II[LTermreckonryModel$Fact;)C"⟩
abbrev cX17_recall : ByteArray := prog_13_method_43_code
def yX17_recall : MethodName := ⟨RX17, "recall", "(IIC)I"⟩
abbrev cX17_letGo : ByteArray := prog_13_method_44_code
def yX17_letGo : MethodName := ⟨RX17, "letGo", "(II)I"⟩
abbrev cX17_begun : ByteArray := prog_13_method_45_code
def yX17_begun : MethodName := ⟨RX17, "begun", "(I)LTermreckonryModel$Fact;"⟩
abbrev cX17_begins : ByteArray := prog_13_method_46_code
def yX17_begins : MethodName := ⟨RX17, "begins", "(I)I"⟩
abbrev cX17_needed : ByteArray := prog_13_method_47_code
def yX17_needed : MethodName := ⟨RX17, "needed", "(I)I"⟩
abbrev cX17_release : ByteArray := prog_13_method_48_code
def yX17_release : MethodName := ⟨RX17, "release", "(I)I"⟩
abbrev cX17_end : ByteArray := prog_13_method_49_code
def yX17_end : MethodName := ⟨RX17, "end", "(I)I"⟩
abbrev cX17_stateOn : ByteArray := prog_13_method_50_code
def yX17_stateOn : MethodName := ⟨RX17, "stateOn", "(II)C"⟩
abbrev cX17_byClerk : ByteArray := prog_13_method_51_code
def yX17_byClerk : MethodName := ⟨RX17, "byClerk", "(II)C"⟩
abbrev cX17_keeper : ByteArray := prog_13_method_52_code
def yX17_keeper : MethodName := ⟨RX17, "keeper", "(II)I"⟩
abbrev cX17_held : ByteArray := prog_13_method_53_code
def yX17_held : MethodName := ⟨RX17, "held", "(III)I"⟩
abbrev cX17_counted : ByteArray := prog_13_method_54_code
def yX17_counted : MethodName := ⟨RX17, "counted", "(IIZLjava/lang/String;)I"⟩
abbrev cX17_endOf : ByteArray := prog_13_method_55_code
def yX17_endOf : MethodName := ⟨RX17, "endOf", "(LTermreckonryModel$Recall;[LTermreckonryModel$Fact;)I"⟩
abbrev cX17_fast : ByteArray := prog_13_method_56_code
def yX17_fast : MethodName := ⟨RX17, "fast", "(II[LTermreckonryModel$Fact;[I)C"⟩
abbrev cX17_tooLong : ByteArray := prog_13_method_57_code
def yX17_tooLong : MethodName := ⟨RX17, "tooLong", "(II)I"⟩
abbrev cX17_tooShort : ByteArray := prog_13_method_58_code
def yX17_tooShort : MethodName := ⟨RX17, "tooShort", "(II)I"⟩
abbrev cX17_warrants : ByteArray := prog_13_method_59_code
def yX17_warrants : MethodName := ⟨RX17, "warrants", "()I"⟩
abbrev cX17_owed : ByteArray := prog_13_method_60_code
def yX17_owed : MethodName := ⟨RX17, "owed", "()J"⟩
abbrev cX17_prisonShare : ByteArray := prog_13_method_61_code
def yX17_prisonShare : MethodName := ⟨RX17, "prisonShare", "(I)F"⟩
abbrev cX17_meanNeeded : ByteArray := prog_13_method_62_code
def yX17_meanNeeded : MethodName := ⟨RX17, "meanNeeded", "()D"⟩
abbrev cX17_isTrue : ByteArray := prog_13_method_63_code
def yX17_isTrue : MethodName := ⟨RX17, "isTrue", "()Z"⟩
def RJx145de : String := "java/io/Serializable"
def TJx145de : u_T := fun k => match k with
  | _ => ("", "", "", false)
def tyJx145de : Nat → FieldType := fun k => match k with
  | _ => .int
theorem nmJx145de : ∀ a, a < 0 → ∀ b, b < 0 → a ≠ b → (TJx145de a).2.1 ≠ (TJx145de b).2.1 := by decide +kernel
theorem tyJx145de_ok : ∀ k, k < 0 → parseFieldDescriptor (TJx145de k).2.2.1 = some (tyJx145de k) := by decide +kernel
def RJ5 : String := "java/lang/AbstractStringBuilder"
def TJ5 : u_T := fun k => match k with
  | _ => ("", "", "", false)
def tyJ5 : Nat → FieldType := fun k => match k with
  | _ => .int
theorem nmJ5 : ∀ a, a < 0 → ∀ b, b < 0 → a ≠ b → (TJ5 a).2.1 ≠ (TJ5 b).2.1 := by decide +kernel
theorem tyJ5_ok : ∀ k, k < 0 → parseFieldDescriptor (TJ5 k).2.2.1 = some (tyJ5 k) := by decide +kernel
abbrev cJ5_init_d00df : ByteArray := prog_21_method_2_code
def yJ5_init_d00df : MethodName := ⟨RJ5, "<init>", "(I)V"⟩
abbrev cJ5_length_8abf5 : ByteArray := prog_21_method_6_code
def yJ5_length_8abf5 : MethodName := ⟨RJ5, "length", "()I"⟩
abbrev cJ5_ensureCapacityInternal_d00df : ByteArray := prog_21_method_9_code
def yJ5_ensureCapacityInternal_d00df : MethodName := ⟨RJ5, "ensureCapacityInternal", "(I)V"⟩
abbrev cJ5_newCapacity_0f7a4 : ByteArray := prog_21_method_10_code
def yJ5_newCapacity_0f7a4 : MethodName := ⟨RJ5, "newCapacity", "(I)I"⟩
abbrev cJ5_inflate_da8c8 : ByteArray := prog_21_method_11_code
def yJ5_inflate_da8c8 : MethodName := ⟨RJ5, "inflate", "()V"⟩
abbrev cJ5_append_cf1ce : ByteArray := prog_21_method_22_code
def yJ5_append_cf1ce : MethodName := ⟨RJ5, "append", "(Ljava/lang/String;)Ljava/lang/AbstractStringBuilder;"⟩
abbrev cJ5_appendNull_278bc : ByteArray := prog_21_method_26_code
def yJ5_appendNull_278bc : MethodName := ⟨RJ5, "appendNull", "()Ljava/lang/AbstractStringBuilder;"⟩
abbrev cJ5_append_c97b9 : ByteArray := prog_21_method_32_code
def yJ5_append_c97b9 : MethodName := ⟨RJ5, "append", "(I)Ljava/lang/AbstractStringBuilder;"⟩
abbrev cJ5_getValue_6d5f1 : ByteArray := prog_21_method_64_code
def yJ5_getValue_6d5f1 : MethodName := ⟨RJ5, "getValue", "()[B"⟩
abbrev cJ5_isLatin1_aae02 : ByteArray := prog_21_method_68_code
def yJ5_isLatin1_aae02 : MethodName := ⟨RJ5, "isLatin1", "()Z"⟩
abbrev cJ5_inflateIfNeededFor_a7421 : ByteArray := prog_21_method_71_code
def yJ5_inflateIfNeededFor_a7421 : MethodName := ⟨RJ5, "inflateIfNeededFor", "(Ljava/lang/String;)V"⟩
abbrev cJ5_putStringAt_47b60 : ByteArray := prog_21_method_73_code
def yJ5_putStringAt_47b60 : MethodName := ⟨RJ5, "putStringAt", "(ILjava/lang/String;)V"⟩
def RJx2cfe8 : String := "java/lang/Appendable"
def TJx2cfe8 : u_T := fun k => match k with
  | _ => ("", "", "", false)
def tyJx2cfe8 : Nat → FieldType := fun k => match k with
  | _ => .int
theorem nmJx2cfe8 : ∀ a, a < 0 → ∀ b, b < 0 → a ≠ b → (TJx2cfe8 a).2.1 ≠ (TJx2cfe8 b).2.1 := by decide +kernel
theorem tyJx2cfe8_ok : ∀ k, k < 0 → parseFieldDescriptor (TJx2cfe8 k).2.2.1 = some (tyJx2cfe8 k) := by decide +kernel
def RJx00060 : String := "java/lang/ArrayIndexOutOfBoundsException"
def TJx00060 : u_T := fun k => match k with
  | 0 => ("java/lang/Throwable", "backtrace", "Ljava/lang/Object;", false)
  | 1 => ("java/lang/Throwable", "detailMessage", "Ljava/lang/String;", false)
  | 2 => ("java/lang/Throwable", "cause", "Ljava/lang/Throwable;", false)
  | 3 => ("java/lang/Throwable", "stackTrace", "[Ljava/lang/StackTraceElement;", false)
  | 4 => ("java/lang/Throwable", "depth", "I", false)
  | _ => ("java/lang/Throwable", "suppressedExceptions", "Ljava/util/List;", false)
def tyJx00060 : Nat → FieldType := fun k => match k with
  | 0 => .object "java/lang/Object"
  | 1 => .object "java/lang/String"
  | 2 => .object "java/lang/Throwable"
  | 3 => .array (.object "java/lang/StackTraceElement")
  | 4 => .int
  | _ => .object "java/util/List"
theorem nmJx00060 : ∀ a, a < 6 → ∀ b, b < 6 → a ≠ b → (TJx00060 a).2.1 ≠ (TJx00060 b).2.1 := by decide +kernel
theorem tyJx00060_ok : ∀ k, k < 6 → parseFieldDescriptor (TJx00060 k).2.2.1 = some (tyJx00060 k) := by decide +kernel
abbrev cJx00060_init_a7421 : ByteArray := prog_24_method_2_code
def yJx00060_init_a7421 : MethodName := ⟨RJx00060, "<init>", "(Ljava/lang/String;)V"⟩
def RJx9f9b0 : String := "java/lang/CharSequence"
def TJx9f9b0 : u_T := fun k => match k with
  | _ => ("", "", "", false)
def tyJx9f9b0 : Nat → FieldType := fun k => match k with
  | _ => .int
theorem nmJx9f9b0 : ∀ a, a < 0 → ∀ b, b < 0 → a ≠ b → (TJx9f9b0 a).2.1 ≠ (TJx9f9b0 b).2.1 := by decide +kernel
theorem tyJx9f9b0_ok : ∀ k, k < 0 → parseFieldDescriptor (TJx9f9b0 k).2.2.1 = some (tyJx9f9b0 k) := by decide +kernel
def RJ11 : String := "java/lang/Character"
def TJ11 : u_T := fun k => match k with
  | _ => ("", "", "", false)
def tyJ11 : Nat → FieldType := fun k => match k with
  | _ => .int
theorem nmJ11 : ∀ a, a < 0 → ∀ b, b < 0 → a ≠ b → (TJ11 a).2.1 ≠ (TJ11 b).2.1 := by decide +kernel
theorem tyJ11_ok : ∀ k, k < 0 → parseFieldDescriptor (TJ11 k).2.2.1 = some (tyJ11 k) := by decide +kernel
abbrev cJ11_isValidCodePoint_9a6ad : ByteArray := prog_26_method_11_code
def yJ11_isValidCodePoint_9a6ad : MethodName := ⟨RJ11, "isValidCodePoint", "(I)Z"⟩
abbrev cJ11_highSurrogate_5068e : ByteArray := prog_26_method_28_code
def yJ11_highSurrogate_5068e : MethodName := ⟨RJ11, "highSurrogate", "(I)C"⟩
abbrev cJ11_lowSurrogate_5068e : ByteArray := prog_26_method_29_code
def yJ11_lowSurrogate_5068e : MethodName := ⟨RJ11, "lowSurrogate", "(I)C"⟩
def RJx8e188 : String := "java/lang/Cloneable"
def TJx8e188 : u_T := fun k => match k with
  | _ => ("", "", "", false)
def tyJx8e188 : Nat → FieldType := fun k => match k with
  | _ => .int
theorem nmJx8e188 : ∀ a, a < 0 → ∀ b, b < 0 → a ≠ b → (TJx8e188 a).2.1 ≠ (TJx8e188 b).2.1 := by decide +kernel
theorem tyJx8e188_ok : ∀ k, k < 0 → parseFieldDescriptor (TJx8e188 k).2.2.1 = some (tyJx8e188 k) := by decide +kernel
def RJxb160c : String := "java/lang/Comparable"
def TJxb160c : u_T := fun k => match k with
  | _ => ("", "", "", false)
def tyJxb160c : Nat → FieldType := fun k => match k with
  | _ => .int
theorem nmJxb160c : ∀ a, a < 0 → ∀ b, b < 0 → a ≠ b → (TJxb160c a).2.1 ≠ (TJxb160c b).2.1 := by decide +kernel
theorem tyJxb160c_ok : ∀ k, k < 0 → parseFieldDescriptor (TJxb160c k).2.2.1 = some (tyJxb160c k) := by decide +kernel
def RJ6 : String := "java/lang/Integer"
def TJ6 : u_T := fun k => match k with
  | _ => ("", "", "", false)
def tyJ6 : Nat → FieldType := fun k => match k with
  | _ => .int
theorem nmJ6 : ∀ a, a < 0 → ∀ b, b < 0 → a ≠ b → (TJ6 a).2.1 ≠ (TJ6 b).2.1 := by decide +kernel
theorem tyJ6_ok : ∀ k, k < 0 → parseFieldDescriptor (TJ6 k).2.2.1 = some (tyJ6 k) := by decide +kernel
abbrev cJ6_getChars_ba4f3 : ByteArray := prog_33_method_12_code
def yJ6_getChars_ba4f3 : MethodName := ⟨RJ6, "getChars", "(II[B)I"⟩
abbrev cJ6_stringSize_0f7a4 : ByteArray := prog_33_method_13_code
def yJ6_stringSize_0f7a4 : MethodName := ⟨RJ6, "stringSize", "(I)I"⟩
def RJxab1ab : String := "java/lang/Iterable"
def TJxab1ab : u_T := fun k => match k with
  | _ => ("", "", "", false)
def tyJxab1ab : Nat → FieldType := fun k => match k with
  | _ => .int
theorem nmJxab1ab : ∀ a, a < 0 → ∀ b, b < 0 → a ≠ b → (TJxab1ab a).2.1 ≠ (TJxab1ab b).2.1 := by decide +kernel
theorem tyJxab1ab_ok : ∀ k, k < 0 → parseFieldDescriptor (TJxab1ab k).2.2.1 = some (tyJxab1ab k) := by decide +kernel
def RJ13 : String := "java/lang/Long"
def TJ13 : u_T := fun k => match k with
  | _ => ("", "", "", false)
def tyJ13 : Nat → FieldType := fun k => match k with
  | _ => .int
theorem nmJ13 : ∀ a, a < 0 → ∀ b, b < 0 → a ≠ b → (TJ13 a).2.1 ≠ (TJ13 b).2.1 := by decide +kernel
theorem tyJ13_ok : ∀ k, k < 0 → parseFieldDescriptor (TJ13 k).2.2.1 = some (tyJ13 k) := by decide +kernel
abbrev cJ13_bitCount_95d88 : ByteArray := prog_35_method_50_code
def yJ13_bitCount_95d88 : MethodName := ⟨RJ13, "bitCount", "(J)I"⟩
def RJ9 : String := "java/lang/Math"
def TJ9 : u_T := fun k => match k with
  | _ => ("", "", "", false)
def tyJ9 : Nat → FieldType := fun k => match k with
  | _ => .int
theorem nmJ9 : ∀ a, a < 0 → ∀ b, b < 0 → a ≠ b → (TJ9 a).2.1 ≠ (TJ9 b).2.1 := by decide +kernel
theorem tyJ9_ok : ∀ k, k < 0 → parseFieldDescriptor (TJ9 k).2.2.1 = some (tyJ9 k) := by decide +kernel
abbrev cJ9_max_7cf53 : ByteArray := prog_36_method_65_code
def yJ9_max_7cf53 : MethodName := ⟨RJ9, "max", "(II)I"⟩
abbrev cJ9_min_7cf53 : ByteArray := prog_36_method_69_code
def yJ9_min_7cf53 : MethodName := ⟨RJ9, "min", "(II)I"⟩
def RJxd2413 : String := "java/lang/Number"
def TJxd2413 : u_T := fun k => match k with
  | _ => ("", "", "", false)
def tyJxd2413 : Nat → FieldType := fun k => match k with
  | _ => .int
theorem nmJxd2413 : ∀ a, a < 0 → ∀ b, b < 0 → a ≠ b → (TJxd2413 a).2.1 ≠ (TJxd2413 b).2.1 := by decide +kernel
theorem tyJxd2413_ok : ∀ k, k < 0 → parseFieldDescriptor (TJxd2413 k).2.2.1 = some (tyJxd2413 k) := by decide +kernel
def RJ0 : String := "java/lang/String"
def TJ0 : u_T := fun k => match k with
  | 0 => ("java/lang/String", "value", "[B", true)
  | 1 => ("java/lang/String", "coder", "B", true)
  | 2 => ("java/lang/String", "hash", "I", false)
  | _ => ("java/lang/String", "hashIsZero", "Z", false)
def tyJ0 : Nat → FieldType := fun k => match k with
  | 0 => .array .byte
  | 1 => .byte
  | 2 => .int
  | _ => .boolean
theorem nmJ0 : ∀ a, a < 4 → ∀ b, b < 4 → a ≠ b → (TJ0 a).2.1 ≠ (TJ0 b).2.1 := by decide +kernel
theorem tyJ0_ok : ∀ k, k < 4 → parseFieldDescriptor (TJ0 k).2.2.1 = some (tyJ0 k) := by decide +kernel
abbrev cJ0_init_81219 : ByteArray := prog_39_method_53_code
def yJ0_init_81219 : MethodName := ⟨RJ0, "<init>", "(Ljava/lang/StringBuilder;)V"⟩
abbrev cJ0_length_8abf5 : ByteArray := prog_39_method_54_code
def yJ0_length_8abf5 : MethodName := ⟨RJ0, "length", "()I"⟩
abbrev cJ0_indexOf_0f7a4 : ByteArray := prog_39_method_79_code
def yJ0_indexOf_0f7a4 : MethodName := ⟨RJ0, "indexOf", "(I)I"⟩
abbrev cJ0_indexOf_7cf53 : ByteArray := prog_39_method_80_code
def yJ0_indexOf_7cf53 : MethodName := ⟨RJ0, "indexOf", "(II)I"⟩
abbrev cJ0_getBytes_840e7 : ByteArray := prog_39_method_147_code
def yJ0_getBytes_840e7 : MethodName := ⟨RJ0, "getBytes", "([BIB)V"⟩
abbrev cJ0_init_db425 : ByteArray := prog_39_method_150_code
def yJ0_init_db425 : MethodName := ⟨RJ0, "<init>", "(Ljava/lang/AbstractStringBuilder;Ljava/lang/Void;)V"⟩
abbrev cJ0_coder_7d493 : ByteArray := prog_39_method_152_code
def yJ0_coder_7d493 : MethodName := ⟨RJ0, "coder", "()B"⟩
abbrev cJ0_isLatin1_aae02 : ByteArray := prog_39_method_154_code
def yJ0_isLatin1_aae02 : MethodName := ⟨RJ0, "isLatin1", "()Z"⟩
abbrev cJ0_checkBoundsOffCount_cabcc : ByteArray := prog_39_method_157_code
def yJ0_checkBoundsOffCount_cabcc : MethodName := ⟨RJ0, "checkBoundsOffCount", "(III)I"⟩
abbrev cJ0_checkBoundsBeginEnd_23922 : ByteArray := prog_39_method_158_code
def yJ0_checkBoundsBeginEnd_23922 : MethodName := ⟨RJ0, "checkBoundsBeginEnd", "(III)V"⟩
def RJ4 : String := "java/lang/StringBuilder"
def TJ4 : u_T := fun k => match k with
  | 0 => ("java/lang/AbstractStringBuilder", "value", "[B", false)
  | 1 => ("java/lang/AbstractStringBuilder", "coder", "B", false)
  | 2 => ("java/lang/AbstractStringBuilder", "maybeLatin1", "Z", false)
  | _ => ("java/lang/AbstractStringBuilder", "count", "I", false)
def tyJ4 : Nat → FieldType := fun k => match k with
  | 0 => .array .byte
  | 1 => .byte
  | 2 => .boolean
  | _ => .int
theorem nmJ4 : ∀ a, a < 4 → ∀ b, b < 4 → a ≠ b → (TJ4 a).2.1 ≠ (TJ4 b).2.1 := by decide +kernel
theorem tyJ4_ok : ∀ k, k < 4 → parseFieldDescriptor (TJ4 k).2.2.1 = some (tyJ4 k) := by decide +kernel
abbrev cJ4_init_da8c8 : ByteArray := prog_40_method_1_code
def yJ4_init_da8c8 : MethodName := ⟨RJ4, "<init>", "()V"⟩
abbrev cJ4_append_15ec4 : ByteArray := prog_40_method_7_code
def yJ4_append_15ec4 : MethodName := ⟨RJ4, "append", "(Ljava/lang/String;)Ljava/lang/StringBuilder;"⟩
abbrev cJ4_append_bf812 : ByteArray := prog_40_method_15_code
def yJ4_append_bf812 : MethodName := ⟨RJ4, "append", "(I)Ljava/lang/StringBuilder;"⟩
abbrev cJ4_toString_0e30d : ByteArray := prog_40_method_42_code
def yJ4_toString_0e30d : MethodName := ⟨RJ4, "toString", "()Ljava/lang/String;"⟩
abbrev cJ4_length_8abf5 : ByteArray := prog_40_method_93_code
def yJ4_length_8abf5 : MethodName := ⟨RJ4, "length", "()I"⟩
def RJ1 : String := "java/lang/StringLatin1"
def TJ1 : u_T := fun k => match k with
  | _ => ("", "", "", false)
def tyJ1 : Nat → FieldType := fun k => match k with
  | _ => .int
theorem nmJ1 : ∀ a, a < 0 → ∀ b, b < 0 → a ≠ b → (TJ1 a).2.1 ≠ (TJ1 b).2.1 := by decide +kernel
theorem tyJ1_ok : ∀ k, k < 0 → parseFieldDescriptor (TJ1 k).2.2.1 = some (tyJ1 k) := by decide +kernel
abbrev cJ1_canEncode_9a6ad : ByteArray := prog_41_method_4_code
def yJ1_canEncode_9a6ad : MethodName := ⟨RJ1, "canEncode", "(I)Z"⟩
abbrev cJ1_indexOf_4cfef : ByteArray := prog_41_method_22_code
def yJ1_indexOf_4cfef : MethodName := ⟨RJ1, "indexOf", "([BIII)I"⟩
abbrev cJ1_indexOfChar_4cfef : ByteArray := prog_41_method_23_code
def yJ1_indexOfChar_4cfef : MethodName := ⟨RJ1, "indexOfChar", "([BIII)I"⟩
abbrev cJ1_inflate_0e8fd : ByteArray := prog_41_method_50_code
def yJ1_inflate_0e8fd : MethodName := ⟨RJ1, "inflate", "([BI[BII)V"⟩
def RJ2 : String := "java/lang/StringUTF16"
def TJ2 : u_T := fun k => match k with
  | _ => ("", "", "", false)
def tyJ2 : Nat → FieldType := fun k => match k with
  | _ => .int
theorem nmJ2 : ∀ a, a < 0 → ∀ b, b < 0 → a ≠ b → (TJ2 a).2.1 ≠ (TJ2 b).2.1 := by decide +kernel
theorem tyJ2_ok : ∀ k, k < 0 → parseFieldDescriptor (TJ2 k).2.2.1 = some (tyJ2 k) := by decide +kernel
abbrev cJ2_newBytesFor_77867 : ByteArray := prog_42_method_2_code
def yJ2_newBytesFor_77867 : MethodName := ⟨RJ2, "newBytesFor", "(I)[B"⟩
abbrev cJ2_newBytesLength_0f7a4 : ByteArray := prog_42_method_3_code
def yJ2_newBytesLength_0f7a4 : MethodName := ⟨RJ2, "newBytesLength", "(I)I"⟩
abbrev cJ2_putChar_b72d1 : ByteArray := prog_42_method_4_code
def yJ2_putChar_b72d1 : MethodName := ⟨RJ2, "putChar", "([BII)V"⟩
abbrev cJ2_getChar_3b067 : ByteArray := prog_42_method_5_code
def yJ2_getChar_3b067 : MethodName := ⟨RJ2, "getChar", "([BI)C"⟩
abbrev cJ2_length_9d52b : ByteArray := prog_42_method_6_code
def yJ2_length_9d52b : MethodName := ⟨RJ2, "length", "([B)I"⟩
abbrev cJ2_coderFromArrayLen_85cad : ByteArray := prog_42_method_15_code
def yJ2_coderFromArrayLen_85cad : MethodName := ⟨RJ2, "coderFromArrayLen", "([BI)B"⟩
abbrev cJ2_compress_39247 : ByteArray := prog_42_method_17_code
def yJ2_compress_39247 : MethodName := ⟨RJ2, "compress", "([BII)[B"⟩
abbrev cJ2_compress_5af95 : ByteArray := prog_42_method_22_code
def yJ2_compress_5af95 : MethodName := ⟨RJ2, "compress", "([BI[BII)I"⟩
abbrev cJ2_indexOf_4cfef : ByteArray := prog_42_method_40_code
def yJ2_indexOf_4cfef : MethodName := ⟨RJ2, "indexOf", "([BIII)I"⟩
abbrev cJ2_indexOfChar_4cfef : ByteArray := prog_42_method_47_code
def yJ2_indexOfChar_4cfef : MethodName := ⟨RJ2, "indexOfChar", "([BIII)I"⟩
abbrev cJ2_indexOfCharUnsafe_4cfef : ByteArray := prog_42_method_48_code
def yJ2_indexOfCharUnsafe_4cfef : MethodName := ⟨RJ2, "indexOfCharUnsafe", "([BIII)I"⟩
abbrev cJ2_indexOfSupplementary_4cfef : ByteArray := prog_42_method_49_code
def yJ2_indexOfSupplementary_4cfef : MethodName := ⟨RJ2, "indexOfSupplementary", "([BIII)I"⟩
abbrev cJ2_getChars_46870 : ByteArray := prog_42_method_77_code
def yJ2_getChars_46870 : MethodName := ⟨RJ2, "getChars", "(III[B)I"⟩
abbrev cJ2_putCharsAt_cd4e5 : ByteArray := prog_42_method_81_code
def yJ2_putCharsAt_cd4e5 : MethodName := ⟨RJ2, "putCharsAt", "([BICCCC)I"⟩
abbrev cJ2_inflate_0e8fd : ByteArray := prog_42_method_86_code
def yJ2_inflate_0e8fd : MethodName := ⟨RJ2, "inflate", "([BI[BII)V"⟩
abbrev cJ2_getChars_ba4f3 : ByteArray := prog_42_method_89_code
def yJ2_getChars_ba4f3 : MethodName := ⟨RJ2, "getChars", "(II[B)I"⟩
abbrev cJ2_checkBoundsBeginEnd_d044e : ByteArray := prog_42_method_93_code
def yJ2_checkBoundsBeginEnd_d044e : MethodName := ⟨RJ2, "checkBoundsBeginEnd", "(II[B)V"⟩
abbrev cJ2_checkBoundsOffCount_d044e : ByteArray := prog_42_method_94_code
def yJ2_checkBoundsOffCount_d044e : MethodName := ⟨RJ2, "checkBoundsOffCount", "(II[B)V"⟩
def RJ10 : String := "java/lang/System"
def TJ10 : u_T := fun k => match k with
  | _ => ("", "", "", false)
def tyJ10 : Nat → FieldType := fun k => match k with
  | _ => .int
theorem nmJ10 : ∀ a, a < 0 → ∀ b, b < 0 → a ≠ b → (TJ10 a).2.1 ≠ (TJ10 b).2.1 := by decide +kernel
theorem tyJ10_ok : ∀ k, k < 0 → parseFieldDescriptor (TJ10 k).2.2.1 = some (tyJ10 k) := by decide +kernel
def RJxfd54e : String := "java/lang/constant/Constable"
def TJxfd54e : u_T := fun k => match k with
  | _ => ("", "", "", false)
def tyJxfd54e : Nat → FieldType := fun k => match k with
  | _ => .int
theorem nmJxfd54e : ∀ a, a < 0 → ∀ b, b < 0 → a ≠ b → (TJxfd54e a).2.1 ≠ (TJxfd54e b).2.1 := by decide +kernel
theorem tyJxfd54e_ok : ∀ k, k < 0 → parseFieldDescriptor (TJxfd54e k).2.2.1 = some (tyJxfd54e k) := by decide +kernel
def RJx3cf43 : String := "java/lang/constant/ConstantDesc"
def TJx3cf43 : u_T := fun k => match k with
  | _ => ("", "", "", false)
def tyJx3cf43 : Nat → FieldType := fun k => match k with
  | _ => .int
theorem nmJx3cf43 : ∀ a, a < 0 → ∀ b, b < 0 → a ≠ b → (TJx3cf43 a).2.1 ≠ (TJx3cf43 b).2.1 := by decide +kernel
theorem tyJx3cf43_ok : ∀ k, k < 0 → parseFieldDescriptor (TJx3cf43 k).2.2.1 = some (tyJx3cf43 k) := by decide +kernel
def RJxa1e45 : String := "java/util/AbstractCollection"
def TJxa1e45 : u_T := fun k => match k with
  | _ => ("", "", "", false)
def tyJxa1e45 : Nat → FieldType := fun k => match k with
  | _ => .int
theorem nmJxa1e45 : ∀ a, a < 0 → ∀ b, b < 0 → a ≠ b → (TJxa1e45 a).2.1 ≠ (TJxa1e45 b).2.1 := by decide +kernel
theorem tyJxa1e45_ok : ∀ k, k < 0 → parseFieldDescriptor (TJxa1e45 k).2.2.1 = some (tyJxa1e45 k) := by decide +kernel
abbrev cJxa1e45_init_da8c8 : ByteArray := prog_48_method_1_code
def yJxa1e45_init_da8c8 : MethodName := ⟨RJxa1e45, "<init>", "()V"⟩
def RJxc12de : String := "java/util/AbstractList"
def TJxc12de : u_T := fun k => match k with
  | _ => ("", "", "", false)
def tyJxc12de : Nat → FieldType := fun k => match k with
  | _ => .int
theorem nmJxc12de : ∀ a, a < 0 → ∀ b, b < 0 → a ≠ b → (TJxc12de a).2.1 ≠ (TJxc12de b).2.1 := by decide +kernel
theorem tyJxc12de_ok : ∀ k, k < 0 → parseFieldDescriptor (TJxc12de k).2.2.1 = some (tyJxc12de k) := by decide +kernel
abbrev cJxc12de_init_da8c8 : ByteArray := prog_49_method_1_code
def yJxc12de_init_da8c8 : MethodName := ⟨RJxc12de, "<init>", "()V"⟩
def RJx35411 : String := "java/util/ArrayList$Itr"
def TJx35411 : u_T := fun k => match k with
  | 0 => ("java/util/ArrayList$Itr", "cursor", "I", false)
  | 1 => ("java/util/ArrayList$Itr", "lastRet", "I", false)
  | 2 => ("java/util/ArrayList$Itr", "expectedModCount", "I", false)
  | _ => ("java/util/ArrayList$Itr", "this$0", "Ljava/util/ArrayList;", true)
def tyJx35411 : Nat → FieldType := fun k => match k with
  | 0 => .int
  | 1 => .int
  | 2 => .int
  | _ => .object "java/util/ArrayList"
theorem nmJx35411 : ∀ a, a < 4 → ∀ b, b < 4 → a ≠ b → (TJx35411 a).2.1 ≠ (TJx35411 b).2.1 := by decide +kernel
theorem tyJx35411_ok : ∀ k, k < 4 → parseFieldDescriptor (TJx35411 k).2.2.1 = some (tyJx35411 k) := by decide +kernel
abbrev cJx35411_init_45d68 : ByteArray := prog_51_method_1_code
def yJx35411_init_45d68 : MethodName := ⟨RJx35411, "<init>", "(Ljava/util/ArrayList;)V"⟩
abbrev cJx35411_hasNext_aae02 : ByteArray := prog_51_method_2_code
def yJx35411_hasNext_aae02 : MethodName := ⟨RJx35411, "hasNext", "()Z"⟩
abbrev cJx35411_next_0502b : ByteArray := prog_51_method_3_code
def yJx35411_next_0502b : MethodName := ⟨RJx35411, "next", "()Ljava/lang/Object;"⟩
abbrev cJx35411_checkForComodification_da8c8 : ByteArray := prog_51_method_6_code
def yJx35411_checkForComodification_da8c8 : MethodName := ⟨RJx35411, "checkForComodification", "()V"⟩
def RJx4a65c : String := "java/util/ArrayList"
def TJx4a65c : u_T := fun k => match k with
  | 0 => ("java/util/AbstractList", "modCount", "I", false)
  | 1 => ("java/util/ArrayList", "elementData", "[Ljava/lang/Object;", false)
  | _ => ("java/util/ArrayList", "size", "I", false)
def tyJx4a65c : Nat → FieldType := fun k => match k with
  | 0 => .int
  | 1 => .array (.object "java/lang/Object")
  | _ => .int
theorem nmJx4a65c : ∀ a, a < 3 → ∀ b, b < 3 → a ≠ b → (TJx4a65c a).2.1 ≠ (TJx4a65c b).2.1 := by decide +kernel
theorem tyJx4a65c_ok : ∀ k, k < 3 → parseFieldDescriptor (TJx4a65c k).2.2.1 = some (tyJx4a65c k) := by decide +kernel
abbrev cJx4a65c_init_da8c8 : ByteArray := prog_50_method_2_code
def yJx4a65c_init_da8c8 : MethodName := ⟨RJx4a65c, "<init>", "()V"⟩
abbrev cJx4a65c_grow_92f84 : ByteArray := prog_50_method_6_code
def yJx4a65c_grow_92f84 : MethodName := ⟨RJx4a65c, "grow", "(I)[Ljava/lang/Object;"⟩
abbrev cJx4a65c_grow_d5877 : ByteArray := prog_50_method_7_code
def yJx4a65c_grow_d5877 : MethodName := ⟨RJx4a65c, "grow", "()[Ljava/lang/Object;"⟩
abbrev cJx4a65c_size_8abf5 : ByteArray := prog_50_method_8_code
def yJx4a65c_size_8abf5 : MethodName := ⟨RJx4a65c, "size", "()I"⟩
abbrev cJx4a65c_isEmpty_aae02 : ByteArray := prog_50_method_9_code
def yJx4a65c_isEmpty_aae02 : MethodName := ⟨RJx4a65c, "isEmpty", "()Z"⟩
abbrev cJx4a65c_elementData_915e3 : ByteArray := prog_50_method_18_code
def yJx4a65c_elementData_915e3 : MethodName := ⟨RJx4a65c, "elementData", "(I)Ljava/lang/Object;"⟩
abbrev cJx4a65c_get_915e3 : ByteArray := prog_50_method_20_code
def yJx4a65c_get_915e3 : MethodName := ⟨RJx4a65c, "get", "(I)Ljava/lang/Object;"⟩
abbrev cJx4a65c_add_72be8 : ByteArray := prog_50_method_24_code
def yJx4a65c_add_72be8 : MethodName := ⟨RJx4a65c, "add", "(Ljava/lang/Object;[Ljava/lang/Object;I)V"⟩
abbrev cJx4a65c_add_9ea2d : ByteArray := prog_50_method_25_code
def yJx4a65c_add_9ea2d : MethodName := ⟨RJx4a65c, "add", "(Ljava/lang/Object;)Z"⟩
abbrev cJx4a65c_add_7a177 : ByteArray := prog_50_method_26_code
def yJx4a65c_add_7a177 : MethodName := ⟨RJx4a65c, "add", "(ILjava/lang/Object;)V"⟩
abbrev cJx4a65c_rangeCheckForAdd_d00df : ByteArray := prog_50_method_45_code
def yJx4a65c_rangeCheckForAdd_d00df : MethodName := ⟨RJx4a65c, "rangeCheckForAdd", "(I)V"⟩
abbrev cJx4a65c_outOfBoundsMsg_b52d3 : ByteArray := prog_50_method_46_code
def yJx4a65c_outOfBoundsMsg_b52d3 : MethodName := ⟨RJx4a65c, "outOfBoundsMsg", "(I)Ljava/lang/String;"⟩
abbrev cJx4a65c_iterator_32c93 : ByteArray := prog_50_method_55_code
def yJx4a65c_iterator_32c93 : MethodName := ⟨RJx4a65c, "iterator", "()Ljava/util/Iterator;"⟩
def RJ7 : String := "java/util/Arrays"
def TJ7 : u_T := fun k => match k with
  | _ => ("", "", "", false)
def tyJ7 : Nat → FieldType := fun k => match k with
  | _ => .int
theorem nmJ7 : ∀ a, a < 0 → ∀ b, b < 0 → a ≠ b → (TJ7 a).2.1 ≠ (TJ7 b).2.1 := by decide +kernel
theorem tyJ7_ok : ∀ k, k < 0 → parseFieldDescriptor (TJ7 k).2.2.1 = some (tyJ7 k) := by decide +kernel
abbrev cJ7_copyOf_1904c : ByteArray := prog_52_method_119_code
def yJ7_copyOf_1904c : MethodName := ⟨RJ7, "copyOf", "([Ljava/lang/Object;I)[Ljava/lang/Object;"⟩
abbrev cJ7_copyOf_6403c : ByteArray := prog_52_method_120_code
def yJ7_copyOf_6403c : MethodName := ⟨RJ7, "copyOf", "([Ljava/lang/Object;ILjava/lang/Class;)[Ljava/lang/Object;"⟩
abbrev cJ7_copyOf_9075b : ByteArray := prog_52_method_121_code
def yJ7_copyOf_9075b : MethodName := ⟨RJ7, "copyOf", "([BI)[B"⟩
abbrev cJ7_checkLength_df160 : ByteArray := prog_52_method_131_code
def yJ7_checkLength_df160 : MethodName := ⟨RJ7, "checkLength", "(II)V"⟩
abbrev cJ7_copyOfRange_39247 : ByteArray := prog_52_method_132_code
def yJ7_copyOfRange_39247 : MethodName := ⟨RJ7, "copyOfRange", "([BII)[B"⟩
abbrev cJ7_copyOfRangeByte_39247 : ByteArray := prog_52_method_133_code
def yJ7_copyOfRangeByte_39247 : MethodName := ⟨RJ7, "copyOfRangeByte", "([BII)[B"⟩
def RJx5ef63 : String := "java/util/Collection"
def TJx5ef63 : u_T := fun k => match k with
  | _ => ("", "", "", false)
def tyJx5ef63 : Nat → FieldType := fun k => match k with
  | _ => .int
theorem nmJx5ef63 : ∀ a, a < 0 → ∀ b, b < 0 → a ≠ b → (TJx5ef63 a).2.1 ≠ (TJx5ef63 b).2.1 := by decide +kernel
theorem tyJx5ef63_ok : ∀ k, k < 0 → parseFieldDescriptor (TJx5ef63 k).2.2.1 = some (tyJx5ef63 k) := by decide +kernel
def RJx4d0d8 : String := "java/util/Iterator"
def TJx4d0d8 : u_T := fun k => match k with
  | _ => ("", "", "", false)
def tyJx4d0d8 : Nat → FieldType := fun k => match k with
  | _ => .int
theorem nmJx4d0d8 : ∀ a, a < 0 → ∀ b, b < 0 → a ≠ b → (TJx4d0d8 a).2.1 ≠ (TJx4d0d8 b).2.1 := by decide +kernel
theorem tyJx4d0d8_ok : ∀ k, k < 0 → parseFieldDescriptor (TJx4d0d8 k).2.2.1 = some (tyJx4d0d8 k) := by decide +kernel
def RJxbd725 : String := "java/util/List"
def TJxbd725 : u_T := fun k => match k with
  | _ => ("", "", "", false)
def tyJxbd725 : Nat → FieldType := fun k => match k with
  | _ => .int
theorem nmJxbd725 : ∀ a, a < 0 → ∀ b, b < 0 → a ≠ b → (TJxbd725 a).2.1 ≠ (TJxbd725 b).2.1 := by decide +kernel
theorem tyJxbd725_ok : ∀ k, k < 0 → parseFieldDescriptor (TJxbd725 k).2.2.1 = some (tyJxbd725 k) := by decide +kernel
def RJ15 : String := "java/util/Objects"
def TJ15 : u_T := fun k => match k with
  | _ => ("", "", "", false)
def tyJ15 : Nat → FieldType := fun k => match k with
  | _ => .int
theorem nmJ15 : ∀ a, a < 0 → ∀ b, b < 0 → a ≠ b → (TJ15 a).2.1 ≠ (TJ15 b).2.1 := by decide +kernel
theorem tyJ15_ok : ∀ k, k < 0 → parseFieldDescriptor (TJ15 k).2.2.1 = some (tyJ15 k) := by decide +kernel
abbrev cJ15_checkIndex_7cf53 : ByteArray := prog_57_method_17_code
def yJ15_checkIndex_7cf53 : MethodName := ⟨RJ15, "checkIndex", "(II)I"⟩
def RJxf0a74 : String := "java/util/RandomAccess"
def TJxf0a74 : u_T := fun k => match k with
  | _ => ("", "", "", false)
def tyJxf0a74 : Nat → FieldType := fun k => match k with
  | _ => .int
theorem nmJxf0a74 : ∀ a, a < 0 → ∀ b, b < 0 → a ≠ b → (TJxf0a74 a).2.1 ≠ (TJxf0a74 b).2.1 := by decide +kernel
theorem tyJxf0a74_ok : ∀ k, k < 0 → parseFieldDescriptor (TJxf0a74 k).2.2.1 = some (tyJxf0a74 k) := by decide +kernel
def RJxa66e6 : String := "java/util/SequencedCollection"
def TJxa66e6 : u_T := fun k => match k with
  | _ => ("", "", "", false)
def tyJxa66e6 : Nat → FieldType := fun k => match k with
  | _ => .int
theorem nmJxa66e6 : ∀ a, a < 0 → ∀ b, b < 0 → a ≠ b → (TJxa66e6 a).2.1 ≠ (TJxa66e6 b).2.1 := by decide +kernel
theorem tyJxa66e6_ok : ∀ k, k < 0 → parseFieldDescriptor (TJxa66e6 k).2.2.1 = some (tyJxa66e6 k) := by decide +kernel
def RJ8 : String := "jdk/internal/util/ArraysSupport"
def TJ8 : u_T := fun k => match k with
  | _ => ("", "", "", false)
def tyJ8 : Nat → FieldType := fun k => match k with
  | _ => .int
theorem nmJ8 : ∀ a, a < 0 → ∀ b, b < 0 → a ≠ b → (TJ8 a).2.1 ≠ (TJ8 b).2.1 := by decide +kernel
theorem tyJ8_ok : ∀ k, k < 0 → parseFieldDescriptor (TJ8 k).2.2.1 = some (tyJ8 k) := by decide +kernel
abbrev cJ8_newLength_cabcc : ByteArray := prog_60_method_27_code
def yJ8_newLength_cabcc : MethodName := ⟨RJ8, "newLength", "(III)I"⟩
abbrev cJ8_hugeLength_7cf53 : ByteArray := prog_60_method_28_code
def yJ8_hugeLength_7cf53 : MethodName := ⟨RJ8, "hugeLength", "(II)I"⟩
def RJ3 : String := "jdk/internal/util/Preconditions"
def TJ3 : u_T := fun k => match k with
  | _ => ("", "", "", false)
def tyJ3 : Nat → FieldType := fun k => match k with
  | _ => .int
theorem nmJ3 : ∀ a, a < 0 → ∀ b, b < 0 → a ≠ b → (TJ3 a).2.1 ≠ (TJ3 b).2.1 := by decide +kernel
theorem tyJ3_ok : ∀ k, k < 0 → parseFieldDescriptor (TJ3 k).2.2.1 = some (tyJ3 k) := by decide +kernel
abbrev cJ3_checkIndex_8e157 : ByteArray := prog_61_method_11_code
def yJ3_checkIndex_8e157 : MethodName := ⟨RJ3, "checkIndex", "(IILjava/util/function/BiFunction;)I"⟩
abbrev cJ3_checkFromToIndex_8c36e : ByteArray := prog_61_method_12_code
def yJ3_checkFromToIndex_8c36e : MethodName := ⟨RJ3, "checkFromToIndex", "(IIILjava/util/function/BiFunction;)I"⟩
abbrev cJ3_checkFromIndexSize_8c36e : ByteArray := prog_61_method_13_code
def yJ3_checkFromIndexSize_8c36e : MethodName := ⟨RJ3, "checkFromIndexSize", "(IIILjava/util/function/BiFunction;)I"⟩
def RL : String := "TermreckonryLaw"
abbrev cL_dayOf : ByteArray := method_3_code
def yL_dayOf : MethodName := ⟨RL, "dayOf", "(LTermreckonry;III[J)I"⟩
abbrev cL_dateOf : ByteArray := method_4_code
def yL_dateOf : MethodName := ⟨RL, "dateOf", "(LTermreckonry;I[J)I"⟩
abbrev cL_length : ByteArray := method_5_code
def yL_length : MethodName := ⟨RL, "length", "(LTermreckonry;IIII[J)I"⟩
abbrev cL_law : ByteArray := method_6_code
def yL_law : MethodName := ⟨RL, "law", "(LTermreckonry;CIIZ[J)I"⟩
abbrev cL_lawOf : ByteArray := method_7_code
def yL_lawOf : MethodName := ⟨RL, "lawOf", "(LTermreckonry;I[J)I"⟩
abbrev cL_person : ByteArray := method_8_code
def yL_person : MethodName := ⟨RL, "person", "(LTermreckonry;[J)I"⟩
abbrev cL_warrant : ByteArray := method_9_code
def yL_warrant : MethodName := ⟨RL, "warrant", "(LTermreckonry;ICIIIIII[J)I"⟩
abbrev cL_count : ByteArray := method_10_code
def yL_count : MethodName := ⟨RL, "count", "(LTermreckonry;IIZ[J)I"⟩
abbrev cL_activate : ByteArray := method_11_code
def yL_activate : MethodName := ⟨RL, "activate", "(LTermreckonry;II[J)I"⟩
abbrev cL_vary : ByteArray := method_12_code
def yL_vary : MethodName := ⟨RL, "vary", "(LTermreckonry;IIII[J)I"⟩
abbrev cL_quash : ByteArray := method_13_code
def yL_quash : MethodName := ⟨RL, "quash", "(LTermreckonry;I[J)I"⟩
abbrev cL_approve : ByteArray := method_14_code
def yL_approve : MethodName := ⟨RL, "approve", "(LTermreckonry;II[J)I"⟩
abbrev cL_add : ByteArray := method_15_code
def yL_add : MethodName := ⟨RL, "add", "(LTermreckonry;III[J)I"⟩
abbrev cL_giveBack : ByteArray := method_16_code
def yL_giveBack : MethodName := ⟨RL, "giveBack", "(LTermreckonry;II[J)I"⟩
abbrev cL_atLarge : ByteArray := method_17_code
def yL_atLarge : MethodName := ⟨RL, "atLarge", "(LTermreckonry;III[J)I"⟩
abbrev cL_recall : ByteArray := method_18_code
def yL_recall : MethodName := ⟨RL, "recall", "(LTermreckonry;IIC[J)I"⟩
abbrev cL_letGo : ByteArray := method_19_code
def yL_letGo : MethodName := ⟨RL, "letGo", "(LTermreckonry;II[J)I"⟩
abbrev cL_begins : ByteArray := method_20_code
def yL_begins : MethodName := ⟨RL, "begins", "(LTermreckonry;I[J)I"⟩
abbrev cL_needed : ByteArray := method_21_code
def yL_needed : MethodName := ⟨RL, "needed", "(LTermreckonry;I[J)I"⟩
abbrev cL_release : ByteArray := method_22_code
def yL_release : MethodName := ⟨RL, "release", "(LTermreckonry;I[J)I"⟩
abbrev cL_end : ByteArray := method_23_code
def yL_end : MethodName := ⟨RL, "end", "(LTermreckonry;I[J)I"⟩
abbrev cL_stateOn : ByteArray := method_24_code
def yL_stateOn : MethodName := ⟨RL, "stateOn", "(LTermreckonry;II[J)I"⟩
abbrev cL_byClerk : ByteArray := method_25_code
def yL_byClerk : MethodName := ⟨RL, "byClerk", "(LTermreckonry;II[J)I"⟩
abbrev cL_keeper : ByteArray := method_26_code
def yL_keeper : MethodName := ⟨RL, "keeper", "(LTermreckonry;II[J)I"⟩
abbrev cL_held : ByteArray := method_27_code
def yL_held : MethodName := ⟨RL, "held", "(LTermreckonry;III[J)I"⟩
abbrev cL_tooLong : ByteArray := method_28_code
def yL_tooLong : MethodName := ⟨RL, "tooLong", "(LTermreckonry;II[J)I"⟩
abbrev cL_tooShort : ByteArray := method_29_code
def yL_tooShort : MethodName := ⟨RL, "tooShort", "(LTermreckonry;II[J)I"⟩
abbrev cL_prisonShare : ByteArray := method_30_code
def yL_prisonShare : MethodName := ⟨RL, "prisonShare", "(LTermreckonry;I[D)I"⟩
abbrev cL_meanNeeded : ByteArray := method_31_code
def yL_meanNeeded : MethodName := ⟨RL, "meanNeeded", "(LTermreckonry;[D)I"⟩
abbrev cL_law_ : ByteArray := code
def yL_law_ : MethodName := ⟨RL, "law", "([I)Z"⟩
abbrev vwCl : List vw_C := [(RJ0, TJ0, 4), (RJ4, TJ4, 4), (RJx00060, TJx00060, 6), (RJx35411, TJx35411, 4), (RJx4a65c, TJx4a65c, 3), (RX0, TX0, 3), (RX3, TX3, 1), (RX4, TX4, 5), (RX5, TX5, 9), (RX6, TX6, 9), (RX7, TX7, 7), (RX8, TX8, 3), (RX9, TX9, 19), (RX10, TX10, 10), (RX11, TX11, 3), (RX12, TX12, 6), (RX13, TX13, 4), (RX14, TX14, 3), (RX15, TX15, 5), (RX16, TX16, 13), (RX17, TX17, 6)]
end
section
/-! WORDS, ROWS: what the tables are made of -/
/-- the words of the tables that stay good from state to state -/
def fw_GW : List Cond := lw_tbl.filter goodWord
theorem fw_gw (i : Nat) {w : Cond} (h : lw_tbl[i]? = some w) (hg : goodWord w = true) : w ∈ fw_GW := List.mem_filter.mpr ⟨List.mem_of_getElem? h, hg⟩
theorem fw_good {w : Cond} (h : w ∈ fw_GW) : (w.onTables && w.keeps) = true ∨ ∃ ty, w = .arrayClass ty := good_of_word (List.mem_filter.mp h).2
/-- words that stay true while the tables grow warmer, by laws of their own -/
def fw_ww : Cond → Bool
  | .fieldLinkNest .. | .methodLinkNest .. | .declares _ | .castable .. | .publicMethod _ | .unhidden .. => true
  | .interfaceMethod r o n d => (Cond.interfaceMethod r o n d).faceAtom
  | _ => false
theorem fw_ww_on {w : Cond} (h : fw_ww w = true) : w.onTables = true := by cases w <;> first | rfl | (simp [fw_ww] at h)
def fw_NW : List Cond := lw_tbl.filter fw_ww
theorem fw_nw (i : Nat) {w : Cond} (h : lw_tbl[i]? = some w) (hg : fw_ww w = true) : w ∈ fw_NW := List.mem_filter.mpr ⟨List.mem_of_getElem? h, hg⟩
theorem fw_Nw_warm {s U : State} {w : Cond} (hW : s.WarmedH U.vm) (h : fw_ww w = true) (hZ : va_Nw w s) : va_Nw w U := by
  cases w with
  | fieldLinkNest a i b n d x => exact va_Nw.warmF hW hZ
  | methodLinkNest a i x y => exact va_Nw.warmM hW hZ
  | declares x => exact va_Nw.warmD hW hZ
  | castable a b => exact va_Nw.warmC hW hZ
  | publicMethod x => exact va_tabs rfl (rfl : (s.setVm U.vm).vm = U.vm) (Cond.before_warmed hW (.publicMethod x) trivial hZ)
  | unhidden a b c => exact va_tabs rfl (rfl : (s.setVm U.vm).vm = U.vm) (Cond.before_warmed hW (.unhidden a b c) trivial hZ)
  | interfaceMethod r o n d => exact va_tabs rfl (rfl : (s.setVm U.vm).vm = U.vm) (Cond.before_warmed hW (.interfaceMethod r o n d) h hZ)
  | _ => exact absurd h (by simp [fw_ww])
/-- a method: its name, bytes, locals, answer's type, handlers -/
abbrev fw_M : Type := MethodName × ByteArray × Nat × Option FieldType × List (Nat × Nat × Nat × Nat)
def fw_cw (y : fw_M) : Cond := match y.2.2.2.2 with
  | [] => .code y.1 y.2.1 y.2.2.1 y.2.2.2.1
  | hh => .codeWith y.1 y.2.1 y.2.2.1 y.2.2.2.1 hh
/-- a row of a method's table: place, instruction, the next place, its target or local, its number -/
abbrev fw_R : Type := Nat × Instr × Nat × Nat × Int32
def fw_len (i : Instr) : Nat := match i with
  | .aload _ | .astore _ | .iload _ | .istore _ | .lload _ | .lstore _ | .fload _ | .fstore _ | .dload _ | .dstore _ | .bipush _ | .ldc _ | .newarray _ => 2
  | .anewarray _ | .checkcast _ | .getfield _ | .getstatic _ | .goto _ | .if_acmp _ _ | .if_icmp _ _ | .ifCond _ _ | .ifnonnull _ | .ifnull _ | .iinc _ _ | .instanceof _ | .invokespecial _ | .invokestatic _ | .invokevirtual _ | .ldc_w _ | .ldc2_w _ | .new _ | .putfield _ | .putstatic _ | .sipush _ => 3
  | .invokeinterface _ _ => 5
  | _ => 1
def fw_xk (maxL : Nat) (i : Instr) (pc a : Nat) (v : Int32) : Bool := match i with
  | .iload j | .lload j | .aload j | .fload j | .dload j => Nat.beq a j
  | .iload_n j | .lload_n j | .aload_n j | .fload_n j | .dload_n j => Nat.beq a j.val
  | .istore j | .astore j | .fstore j => Nat.beq a j && Nat.blt a maxL
  | .istore_n j | .astore_n j | .fstore_n j => Nat.beq a j.val && Nat.blt a maxL
  | .lstore j | .dstore j => Nat.beq a j && Nat.blt (a + 1) maxL
  | .lstore_n j | .dstore_n j => Nat.beq a j.val && Nat.blt (a + 1) maxL
  | .iinc j n => Nat.beq a j && Nat.blt a maxL && decide (Int32.ofInt n = v)
  | .iconst n => decide (Int32.ofInt n = v)
  | .bipush n => decide ((Int8.ofInt n).toInt32 = v)
  | .sipush n => decide ((Int16.ofInt n).toInt32 = v)
  | .goto off | .if_acmp _ off | .if_icmp _ off | .ifCond _ off | .ifnonnull off | .ifnull off => decide ((pc : Int) + off = (a : Int))
  | _ => true
def fw_rok (y : fw_M) (r : fw_R) : Prop := decode y.2.1 r.1 = .ok (r.2.1, fw_len r.2.1) ∧ r.2.2.1 = r.1 + fw_len r.2.1 ∧ fw_xk y.2.2.1 r.2.1 r.1 r.2.2.2.1 r.2.2.2.2 = true
def fw_tok (y : fw_M) (tb : List fw_R) : Prop := ∀ r ∈ tb, decode y.2.1 r.1 = .ok (r.2.1, fw_len r.2.1) ∧ r.2.2.1 = r.1 + fw_len r.2.1 ∧ fw_xk y.2.2.1 r.2.1 r.1 r.2.2.2.1 r.2.2.2.2 = true
def fw_at : List fw_R → Nat → Option (Instr × Nat × Nat × Int32)
  | [], _ => none
  | r :: tb, pc => bif Nat.beq r.1 pc then some r.2 else fw_at tb pc
theorem fw_row {y : fw_M} {tb : List fw_R} (hT : fw_tok y tb) {pc : Nat} {q : Instr × Nat × Nat × Int32} (h : fw_at tb pc = some q) : fw_rok y (pc, q) := by
  induction tb with
  | nil => cases h
  | cons r tb ih =>
    unfold fw_at at h
    cases hb : Nat.beq r.1 pc with
    | true =>
      rw [hb] at h
      have e : r.1 = pc := Nat.eq_of_beq_eq_true hb
      cases h
      subst e
      exact hT r List.mem_cons_self
    | false =>
      rw [hb] at h
      exact ih (fun r hr => hT r (List.mem_cons_of_mem _ hr)) h

theorem fw_sub {ws : List Cond} (ps : List Nat) (hp : ws = ps.filterMap (fun i => lw_tbl[i]?)) (hg : ws.all goodWord = true) : ∀ w ∈ ws, w ∈ fw_GW := by
  intro w hw
  have h1 := List.all_eq_true.mp hg w hw
  rw [hp] at hw
  obtain ⟨i, -, hi⟩ := List.mem_filterMap.mp hw
  exact fw_gw i hi h1
/-- the class number ci, its fields, their words -/
def fw_cls (ci : Nat) (C : String) (T : u_T) (N : Nat) (ty : Nat → FieldType) : Prop :=
  vwCl[ci]? = some (C, T, N) ∧ (∀ w ∈ u_ws C T N, w ∈ fw_GW) ∧ (∀ k, k < N → parseFieldDescriptor (T k).2.2.1 = some (ty k)) ∧ ∀ a, a < N → ∀ b, b < N → a ≠ b → (T a).2.1 ≠ (T b).2.1
/-- the pool's entry idx of the class own is the field k of the class ci -/
def fw_fld (own : String) (idx ci k : Nat) : Prop := ∃ (C : String) (T : u_T) (N : Nat) (ty : Nat → FieldType), fw_cls ci C T N ty ∧ k < N ∧
  (Cond.fieldLink own idx (T k).1 (T k).2.1 (T k).2.2.1 ∈ fw_GW ∨ (∃ host, Cond.fieldLinkNest own idx (T k).1 (T k).2.1 (T k).2.2.1 host ∈ fw_NW) ∨ ∃ ref, Cond.fieldLink own idx ref (T k).2.1 (T k).2.2.1 ∈ fw_GW ∧ Cond.sameField ref (T k).1 (T k).2.1 (T k).2.2.1 ∈ fw_GW)
/-- and it may be written, with the type tt -/
def fw_fldW (own : String) (idx ci k : Nat) (tt : FieldType) : Prop := ∃ (C : String) (T : u_T) (N : Nat) (ty : Nat → FieldType), fw_cls ci C T N ty ∧ k < N ∧
  (Cond.fieldLink own idx (T k).1 (T k).2.1 (T k).2.2.1 ∈ fw_GW ∨ (∃ host, Cond.fieldLinkNest own idx (T k).1 (T k).2.1 (T k).2.2.1 host ∈ fw_NW) ∨ ∃ ref, Cond.fieldLink own idx ref (T k).2.1 (T k).2.2.1 ∈ fw_GW ∧ Cond.sameField ref (T k).1 (T k).2.1 (T k).2.2.1 ∈ fw_GW) ∧
  (T k).2.2.2 = false ∧ parseFieldDescriptor (T k).2.2.1 = some tt
/-- a final field, written by its class's own constructor -/
def fw_fldF (own : String) (idx ci k : Nat) (tt : FieldType) : Prop := ∃ (C : String) (T : u_T) (N : Nat) (ty : Nat → FieldType), fw_cls ci C T N ty ∧ k < N ∧
  Cond.fieldLink own idx (T k).1 (T k).2.1 (T k).2.2.1 ∈ fw_GW ∧ (T k).2.2.2 = true ∧ (T k).1 = own ∧ parseFieldDescriptor (T k).2.2.1 = some tt
/-- 'new' of the class number ci, N fields -/
def fw_new (own : String) (idx ci N : Nat) (fs : List Value) : Prop := ∃ (C : String) (T : u_T) (ty : Nat → FieldType), fw_cls ci C T N ty ∧ Cond.classLink own idx C ∈ fw_GW ∧ Cond.instantiable C N ∈ fw_GW ∧ Cond.initialized C ∈ fw_GW ∧ ∀ j, j < N → defaultValue (ty j) = vp_V fs j
/-- what a call's words say: the callee's own, n parameters -/
def fw_cal (y' : fw_M) (n : Nat) : Prop := fw_cw y' ∈ fw_GW ∧ Cond.initialized y'.1.cls ∈ fw_GW ∧ (y'.1.cls ≠ "java/lang/invoke/MethodHandle" ∧ y'.1.cls ≠ "java/lang/invoke/VarHandle" ∧ (parseMethodDescriptor y'.1.desc).map (fun d => d.parameters.length) = some n) ∧ y'.2.2.2.2 = [] ∧ Nat.ble y'.2.2.1 30 = true
theorem fw_goodc {y' : fw_M} (hw : fw_cw y' ∈ fw_GW) : GoodIn fw_GW (fw_cw y' :: fw_GW) := fun w h => (List.mem_cons.mp h).elim (fun e => by rw [e]; exact ⟨hw, fw_good hw⟩) (fun h => ⟨h, fw_good h⟩)
theorem fw_code {y' : fw_M} (h : y'.2.2.2.2 = []) : fw_cw y' = Cond.code y'.1 y'.2.1 y'.2.2.1 y'.2.2.2.1 := by
  unfold fw_cw
  rw [h]
end
section
/-! TABLES: methods, rows, words -/
abbrev mm_X0_init : fw_M := (yX0_init, cX0_init, 3, none, [])
def tb_X0_init : List fw_R := [(0, .aload_n 0, 1, 0, 0), (1, .invokespecial 1, 4, 0, 0), (4, .aload_n 0, 5, 0, 0), (5, .iload_n 1, 6, 1, 0), (6, .putfield 7, 9, 0, 0), (9, .aload_n 0, 10, 0, 0), (10, .iload_n 2, 11, 2, 0), (11, .putfield 13, 14, 0, 0), (14, .return_, 15, 0, 0)]
theorem tk_X0_init : fw_tok mm_X0_init tb_X0_init := by unfold fw_tok; decide +kernel
abbrev mm_X1_isLeap : fw_M := (yX1_isLeap, cX1_isLeap, 1, (some .boolean), [])
def tb_X1_isLeap : List fw_R := [(0, .iload_n 0, 1, 0, 0), (1, .iconst 4, 2, 0, 4), (2, .irem, 3, 0, 0), (3, .ifCond .ne 10, 6, 13, 0), (6, .iload_n 0, 7, 0, 0), (7, .bipush 100, 9, 0, 100), (9, .irem, 10, 0, 0), (10, .ifCond .ne 11, 13, 21, 0), (13, .iload_n 0, 14, 0, 0), (14, .sipush 400, 17, 0, 400), (17, .irem, 18, 0, 0), (18, .ifCond .ne 7, 21, 25, 0), (21, .iconst 1, 22, 0, 1), (22, .goto 4, 25, 26, 0), (25, .iconst 0, 26, 0, 0), (26, .ireturn, 27, 0, 0)]
theorem tk_X1_isLeap : fw_tok mm_X1_isLeap tb_X1_isLeap := by unfold fw_tok; decide +kernel
abbrev mm_X1_daysOfMonth : fw_M := (yX1_daysOfMonth, cX1_daysOfMonth, 2, (some .int), [])
def tb_X1_daysOfMonth : List fw_R := [(0, .iload_n 1, 1, 1, 0), (1, .iconst 1, 2, 0, 1), (2, .if_icmp .lt 11, 5, 13, 0), (5, .iload_n 1, 6, 1, 0), (6, .getstatic 7, 9, 0, 0), (9, .arraylength, 10, 0, 0), (10, .if_icmp .le 5, 13, 15, 0), (13, .iconst 0, 14, 0, 0), (14, .ireturn, 15, 0, 0), (15, .iload_n 1, 16, 1, 0), (16, .iconst 2, 17, 0, 2), (17, .if_icmp .ne 12, 20, 29, 0), (20, .iload_n 0, 21, 0, 0), (21, .ifCond .eq 8, 24, 29, 0), (24, .bipush 29, 26, 0, 29), (26, .goto 10, 29, 36, 0), (29, .getstatic 7, 32, 0, 0), (32, .iload_n 1, 33, 1, 0), (33, .iconst 1, 34, 0, 1), (34, .isub, 35, 0, 0), (35, .iaload, 36, 0, 0), (36, .ireturn, 37, 0, 0)]
theorem tk_X1_daysOfMonth : fw_tok mm_X1_daysOfMonth tb_X1_daysOfMonth := by unfold fw_tok; decide +kernel
abbrev mm_X1_numberOf : fw_M := (yX1_numberOf, cX1_numberOf, 8, (some .int), [])
def tb_X1_numberOf : List fw_R := [(0, .iload_n 0, 1, 0, 0), (1, .sipush 2000, 4, 0, 2000), (4, .isub, 5, 0, 0), (5, .istore_n 3, 6, 3, 0), (6, .iload_n 3, 7, 3, 0), (7, .iconst 3, 8, 0, 3), (8, .iadd, 9, 0, 0), (9, .iconst 4, 10, 0, 4), (10, .idiv, 11, 0, 0), (11, .iload_n 3, 12, 3, 0), (12, .bipush 99, 14, 0, 99), (14, .iadd, 15, 0, 0), (15, .bipush 100, 17, 0, 100), (17, .idiv, 18, 0, 0), (18, .isub, 19, 0, 0), (19, .iload_n 3, 20, 3, 0), (20, .sipush 399, 23, 0, 399), (23, .iadd, 24, 0, 0), (24, .sipush 400, 27, 0, 400), (27, .idiv, 28, 0, 0), (28, .iadd, 29, 0, 0), (29, .istore 4, 31, 4, 0), (31, .sipush 365, 34, 0, 365), (34, .iload_n 3, 35, 3, 0), (35, .imul, 36, 0, 0), (36, .iload 4, 38, 4, 0), (38, .iadd, 39, 0, 0), (39, .iload_n 2, 40, 2, 0), (40, .iadd, 41, 0, 0), (41, .iconst 1, 42, 0, 1), (42, .isub, 43, 0, 0), (43, .istore 5, 45, 5, 0), (45, .iload_n 0, 46, 0, 0), (46, .invokestatic 13, 49, 0, 0), (49, .istore 6, 51, 6, 0), (51, .iconst 1, 52, 0, 1), (52, .istore 7, 54, 7, 0), (54, .iload 7, 56, 7, 0), (56, .iload_n 1, 57, 1, 0), (57, .if_icmp .ge 28, 60, 85, 0), (60, .iload 7, 62, 7, 0), (62, .bipush 12, 64, 0, 12), (64, .if_icmp .gt 21, 67, 85, 0), (67, .iload 5, 69, 5, 0), (69, .iload 6, 71, 6, 0), (71, .iload 7, 73, 7, 0), (73, .invokestatic 17, 76, 0, 0), (76, .iadd, 77, 0, 0), (77, .istore 5, 79, 5, 0), (79, .iinc 7 1, 82, 7, 1), (82, .goto (-28), 85, 54, 0), (85, .iload 5, 87, 5, 0), (87, .ireturn, 88, 0, 0)]
theorem tk_X1_numberOf : fw_tok mm_X1_numberOf tb_X1_numberOf := by unfold fw_tok; decide +kernel
abbrev mm_X1_dateAt : fw_M := (yX1_dateAt, cX1_dateAt, 5, (some .int), [])
def tb_X1_dateAt : List fw_R := [(0, .iload_n 0, 1, 0, 0), (1, .istore_n 1, 2, 1, 0), (2, .sipush 2000, 5, 0, 2000), (5, .istore_n 2, 6, 2, 0), (6, .iload_n 2, 7, 2, 0), (7, .invokestatic 13, 10, 0, 0), (10, .istore_n 3, 11, 3, 0), (11, .iload_n 2, 12, 2, 0), (12, .sipush 2054, 15, 0, 2054), (15, .if_icmp .ge 47, 18, 62, 0), (18, .iload_n 1, 19, 1, 0), (19, .iload_n 3, 20, 3, 0), (20, .ifCond .eq 9, 23, 29, 0), (23, .sipush 366, 26, 0, 366), (26, .goto 6, 29, 32, 0), (29, .sipush 365, 32, 0, 365), (32, .if_icmp .lt 30, 35, 62, 0), (35, .iload_n 1, 36, 1, 0), (36, .iload_n 3, 37, 3, 0), (37, .ifCond .eq 9, 40, 46, 0), (40, .sipush 366, 43, 0, 366), (43, .goto 6, 46, 49, 0), (46, .sipush 365, 49, 0, 365), (49, .isub, 50, 0, 0), (50, .istore_n 1, 51, 1, 0), (51, .iinc 2 1, 54, 2, 1), (54, .iload_n 2, 55, 2, 0), (55, .invokestatic 13, 58, 0, 0), (58, .istore_n 3, 59, 3, 0), (59, .goto (-48), 62, 11, 0), (62, .iconst 1, 63, 0, 1), (63, .istore 4, 65, 4, 0), (65, .iload 4, 67, 4, 0), (67, .bipush 12, 69, 0, 12), (69, .if_icmp .ge 28, 72, 97, 0), (72, .iload_n 1, 73, 1, 0), (73, .iload_n 3, 74, 3, 0), (74, .iload 4, 76, 4, 0), (76, .invokestatic 17, 79, 0, 0), (79, .if_icmp .lt 18, 82, 97, 0), (82, .iload_n 1, 83, 1, 0), (83, .iload_n 3, 84, 3, 0), (84, .iload 4, 86, 4, 0), (86, .invokestatic 17, 89, 0, 0), (89, .isub, 90, 0, 0), (90, .istore_n 1, 91, 1, 0), (91, .iinc 4 1, 94, 4, 1), (94, .goto (-29), 97, 65, 0), (97, .sipush 10000, 100, 0, 10000), (100, .iload_n 2, 101, 2, 0), (101, .imul, 102, 0, 0), (102, .bipush 100, 104, 0, 100), (104, .iload 4, 106, 4, 0), (106, .imul, 107, 0, 0), (107, .iadd, 108, 0, 0), (108, .iload_n 1, 109, 1, 0), (109, .iadd, 110, 0, 0), (110, .iconst 1, 111, 0, 1), (111, .iadd, 112, 0, 0), (112, .ireturn, 113, 0, 0)]
theorem tk_X1_dateAt : fw_tok mm_X1_dateAt tb_X1_dateAt := by unfold fw_tok; decide +kernel
abbrev mm_X2_stateAfterDays : fw_M := (yX2_stateAfterDays, cX2_stateAfterDays, 4, (some .char), [])
def tb_X2_stateAfterDays : List fw_R := [(0, .aload_n 0, 1, 0, 0), (1, .invokestatic 9, 4, 0, 0), (4, .bipush 111, 6, 0, 111), (6, .istore_n 2, 7, 2, 0), (7, .iconst 0, 8, 0, 0), (8, .istore_n 3, 9, 3, 0), (9, .iload_n 3, 10, 3, 0), (10, .iload_n 1, 11, 1, 0), (11, .if_icmp .gt 15, 14, 26, 0), (14, .aload_n 0, 15, 0, 0), (15, .iload_n 3, 16, 3, 0), (16, .invokestatic 15, 19, 0, 0), (19, .istore_n 2, 20, 2, 0), (20, .iinc 3 1, 23, 3, 1), (23, .goto (-14), 26, 9, 0), (26, .iload_n 2, 27, 2, 0), (27, .ireturn, 28, 0, 0)]
theorem tk_X2_stateAfterDays : fw_tok mm_X2_stateAfterDays tb_X2_stateAfterDays := by unfold fw_tok; decide +kernel
abbrev mm_X2_agrees : fw_M := (yX2_agrees, cX2_agrees, 3, (some .boolean), [])
def tb_X2_agrees : List fw_R := [(0, .aload_n 0, 1, 0, 0), (1, .invokevirtual 19, 4, 0, 0), (4, .aload_n 0, 5, 0, 0), (5, .invokestatic 9, 8, 0, 0), (8, .iconst 0, 9, 0, 0), (9, .istore_n 1, 10, 1, 0), (10, .iload_n 1, 11, 1, 0), (11, .sipush 3880, 14, 0, 3880), (14, .if_icmp .gt 33, 17, 47, 0), (17, .aload_n 0, 18, 0, 0), (18, .iload_n 1, 19, 1, 0), (19, .invokestatic 15, 22, 0, 0), (22, .istore_n 2, 23, 2, 0), (23, .iload_n 1, 24, 1, 0), (24, .bipush 97, 26, 0, 97), (26, .irem, 27, 0, 0), (27, .ifCond .ne 14, 30, 41, 0), (30, .iload_n 2, 31, 2, 0), (31, .aload_n 0, 32, 0, 0), (32, .iload_n 1, 33, 1, 0), (33, .invokevirtual 24, 36, 0, 0), (36, .if_icmp .eq 5, 39, 41, 0), (39, .iconst 0, 40, 0, 0), (40, .ireturn, 41, 0, 0), (41, .iinc 1 1, 44, 1, 1), (44, .goto (-34), 47, 10, 0), (47, .iconst 1, 48, 0, 1), (48, .ireturn, 49, 0, 0)]
theorem tk_X2_agrees : fw_tok mm_X2_agrees tb_X2_agrees := by unfold fw_tok; decide +kernel
abbrev mm_X2_open : fw_M := (yX2_open, cX2_open, 2, none, [])
def tb_X2_open : List fw_R := [(0, .aload_n 0, 1, 0, 0), (1, .aload_n 0, 2, 0, 0), (2, .getfield 28, 5, 0, 0), (5, .putfield 32, 8, 0, 0), (8, .aload_n 0, 9, 0, 0), (9, .getfield 35, 12, 0, 0), (12, .astore_n 1, 13, 1, 0), (13, .aload_n 1, 14, 1, 0), (14, .ifnull 18, 17, 32, 0), (17, .aload_n 1, 18, 1, 0), (18, .getfield 39, 21, 0, 0), (21, .invokevirtual 45, 24, 0, 0), (24, .aload_n 1, 25, 1, 0), (25, .getfield 49, 28, 0, 0), (28, .astore_n 1, 29, 1, 0), (29, .goto (-16), 32, 13, 0), (32, .aload_n 0, 33, 0, 0), (33, .getfield 52, 36, 0, 0), (36, .astore_n 1, 37, 1, 0), (37, .aload_n 1, 38, 1, 0), (38, .ifnull 21, 41, 59, 0), (41, .aload_n 1, 42, 1, 0), (42, .iconst 0, 43, 0, 0), (43, .putfield 56, 46, 0, 0), (46, .aload_n 1, 47, 1, 0), (47, .iconst 0, 48, 0, 0), (48, .putfield 62, 51, 0, 0), (51, .aload_n 1, 52, 1, 0), (52, .getfield 66, 55, 0, 0), (55, .astore_n 1, 56, 1, 0), (56, .goto (-19), 59, 37, 0), (59, .return_, 60, 0, 0)]
theorem tk_X2_open : fw_tok mm_X2_open tb_X2_open := by unfold fw_tok; decide +kernel
abbrev mm_X2_passDay : fw_M := (yX2_passDay, cX2_passDay, 6, (some .char), [])
def tb_X2_passDay : List fw_R := [(0, .aload_n 0, 1, 0, 0), (1, .getfield 68, 4, 0, 0), (4, .iload_n 1, 5, 1, 0), (5, .invokevirtual 72, 8, 0, 0), (8, .istore_n 2, 9, 2, 0), (9, .iconst 0, 10, 0, 0), (10, .istore_n 3, 11, 3, 0), (11, .iconst 0, 12, 0, 0), (12, .istore 4, 14, 4, 0), (14, .aload_n 0, 15, 0, 0), (15, .getfield 35, 18, 0, 0), (18, .astore 5, 20, 5, 0), (20, .aload 5, 22, 5, 0), (22, .ifnull 70, 25, 92, 0), (25, .aload 5, 27, 5, 0), (27, .getfield 39, 30, 0, 0), (30, .aload 5, 32, 5, 0), (32, .iload_n 1, 33, 1, 0), (33, .iload_n 2, 34, 2, 0), (34, .invokevirtual 78, 37, 0, 0), (37, .iload_n 3, 38, 3, 0), (38, .ifCond .ne 14, 41, 52, 0), (41, .aload 5, 43, 5, 0), (43, .getfield 39, 46, 0, 0), (46, .invokevirtual 81, 49, 0, 0), (49, .ifCond .eq 7, 52, 56, 0), (52, .iconst 1, 53, 0, 1), (53, .goto 4, 56, 57, 0), (56, .iconst 0, 57, 0, 0), (57, .istore_n 3, 58, 3, 0), (58, .iload 4, 60, 4, 0), (60, .ifCond .ne 15, 63, 75, 0), (63, .aload 5, 65, 5, 0), (65, .getfield 39, 68, 0, 0), (68, .iload_n 1, 69, 1, 0), (69, .invokevirtual 85, 72, 0, 0), (72, .ifCond .eq 7, 75, 79, 0), (75, .iconst 1, 76, 0, 1), (76, .goto 4, 79, 80, 0), (79, .iconst 0, 80, 0, 0), (80, .istore 4, 82, 4, 0), (82, .aload 5, 84, 5, 0), (84, .getfield 49, 87, 0, 0), (87, .astore 5, 89, 5, 0), (89, .goto (-69), 92, 20, 0), (92, .aload_n 0, 93, 0, 0), (93, .iload_n 1, 94, 1, 0), (94, .invokestatic 88, 97, 0, 0), (97, .aload_n 0, 98, 0, 0), (98, .iload_n 1, 99, 1, 0), (99, .iload_n 2, 100, 2, 0), (100, .invokestatic 92, 103, 0, 0), (103, .istore 5, 105, 5, 0), (105, .iload_n 3, 106, 3, 0), (106, .ifCond .ne 8, 109, 114, 0), (109, .iload 5, 111, 5, 0), (111, .ifCond .eq 9, 114, 120, 0), (114, .iload_n 3, 115, 3, 0), (115, .iload_n 2, 116, 2, 0), (116, .invokestatic 96, 119, 0, 0), (119, .ireturn, 120, 0, 0), (120, .iload 4, 122, 4, 0), (122, .ifCond .eq 8, 125, 130, 0), (125, .bipush 108, 127, 0, 108), (127, .goto 5, 130, 132, 0), (130, .bipush 111, 132, 0, 111), (132, .ireturn, 133, 0, 0)]
theorem tk_X2_passDay : fw_tok mm_X2_passDay tb_X2_passDay := by unfold fw_tok; decide +kernel
abbrev mm_X2_readAdded : fw_M := (yX2_readAdded, cX2_readAdded, 4, none, [])
def tb_X2_readAdded : List fw_R := [(0, .aload_n 0, 1, 0, 0), (1, .getfield 32, 4, 0, 0), (4, .astore_n 2, 5, 2, 0), (5, .aload_n 2, 6, 2, 0), (6, .ifnull 53, 9, 59, 0), (9, .aload_n 2, 10, 2, 0), (10, .getfield 100, 13, 0, 0), (13, .iload_n 1, 14, 1, 0), (14, .if_icmp .gt 45, 17, 59, 0), (17, .aload_n 0, 18, 0, 0), (18, .getfield 35, 21, 0, 0), (21, .astore_n 3, 22, 3, 0), (22, .aload_n 3, 23, 3, 0), (23, .ifnull 20, 26, 43, 0), (26, .aload_n 3, 27, 3, 0), (27, .getfield 39, 30, 0, 0), (30, .aload_n 3, 31, 3, 0), (31, .aload_n 2, 32, 2, 0), (32, .invokevirtual 105, 35, 0, 0), (35, .aload_n 3, 36, 3, 0), (36, .getfield 49, 39, 0, 0), (39, .astore_n 3, 40, 3, 0), (40, .goto (-18), 43, 22, 0), (43, .aload_n 0, 44, 0, 0), (44, .aload_n 2, 45, 2, 0), (45, .getfield 109, 48, 0, 0), (48, .putfield 32, 51, 0, 0), (51, .aload_n 2, 52, 2, 0), (52, .getfield 109, 55, 0, 0), (55, .astore_n 2, 56, 2, 0), (56, .goto (-51), 59, 5, 0), (59, .return_, 60, 0, 0)]
theorem tk_X2_readAdded : fw_tok mm_X2_readAdded tb_X2_readAdded := by unfold fw_tok; decide +kernel
abbrev mm_X2_passRecalls : fw_M := (yX2_passRecalls, cX2_passRecalls, 5, (some .boolean), [])
def tb_X2_passRecalls : List fw_R := [(0, .iconst 0, 1, 0, 0), (1, .istore_n 3, 2, 3, 0), (2, .aload_n 0, 3, 0, 0), (3, .getfield 52, 6, 0, 0), (6, .astore 4, 8, 4, 0), (8, .aload 4, 10, 4, 0), (10, .ifnull 73, 13, 83, 0), (13, .aload 4, 15, 4, 0), (15, .getfield 111, 18, 0, 0), (18, .iload_n 1, 19, 1, 0), (19, .if_icmp .gt 54, 22, 73, 0), (22, .aload 4, 24, 4, 0), (24, .getfield 62, 27, 0, 0), (27, .ifCond .eq 6, 30, 33, 0), (30, .goto 43, 33, 73, 0), (33, .aload 4, 35, 4, 0), (35, .aload_n 0, 36, 0, 0), (36, .iload_n 1, 37, 1, 0), (37, .invokestatic 112, 40, 0, 0), (40, .ifCond .eq 12, 43, 52, 0), (43, .aload 4, 45, 4, 0), (45, .iconst 1, 46, 0, 1), (46, .putfield 62, 49, 0, 0), (49, .goto 24, 52, 73, 0), (52, .iconst 1, 53, 0, 1), (53, .istore_n 3, 54, 3, 0), (54, .aload 4, 56, 4, 0), (56, .dup, 57, 0, 0), (57, .getfield 56, 60, 0, 0), (60, .iload_n 2, 61, 2, 0), (61, .ifCond .eq 7, 64, 68, 0), (64, .iconst 0, 65, 0, 0), (65, .goto 4, 68, 69, 0), (68, .iconst 1, 69, 0, 1), (69, .iadd, 70, 0, 0), (70, .putfield 56, 73, 0, 0), (73, .aload 4, 75, 4, 0), (75, .getfield 66, 78, 0, 0), (78, .astore 4, 80, 4, 0), (80, .goto (-72), 83, 8, 0), (83, .iload_n 3, 84, 3, 0), (84, .ireturn, 85, 0, 0)]
theorem tk_X2_passRecalls : fw_tok mm_X2_passRecalls tb_X2_passRecalls := by unfold fw_tok; decide +kernel
abbrev mm_X2_endsOn : fw_M := (yX2_endsOn, cX2_endsOn, 4, (some .boolean), [])
def tb_X2_endsOn : List fw_R := [(0, .aload_n 0, 1, 0, 0), (1, .getfield 116, 4, 0, 0), (4, .iload_n 2, 5, 2, 0), (5, .if_icmp .le 19, 8, 24, 0), (8, .aload_n 0, 9, 0, 0), (9, .getfield 119, 12, 0, 0), (12, .ifCond .eq 14, 15, 26, 0), (15, .aload_n 0, 16, 0, 0), (16, .getfield 56, 19, 0, 0), (19, .bipush 28, 21, 0, 28), (21, .if_icmp .lt 5, 24, 26, 0), (24, .iconst 1, 25, 0, 1), (25, .ireturn, 26, 0, 0), (26, .aload_n 1, 27, 1, 0), (27, .getfield 35, 30, 0, 0), (30, .astore_n 3, 31, 3, 0), (31, .aload_n 3, 32, 3, 0), (32, .ifnull 35, 35, 67, 0), (35, .aload_n 3, 36, 3, 0), (36, .getfield 122, 39, 0, 0), (39, .aload_n 0, 40, 0, 0), (40, .getfield 125, 43, 0, 0), (43, .if_icmp .ge 24, 46, 67, 0), (46, .aload_n 3, 47, 3, 0), (47, .getfield 39, 50, 0, 0), (50, .iload_n 2, 51, 2, 0), (51, .invokevirtual 85, 54, 0, 0), (54, .ifCond .eq 5, 57, 59, 0), (57, .iconst 0, 58, 0, 0), (58, .ireturn, 59, 0, 0), (59, .aload_n 3, 60, 3, 0), (60, .getfield 49, 63, 0, 0), (63, .astore_n 3, 64, 3, 0), (64, .goto (-33), 67, 31, 0), (67, .iconst 1, 68, 0, 1), (68, .ireturn, 69, 0, 0)]
theorem tk_X2_endsOn : fw_tok mm_X2_endsOn tb_X2_endsOn := by unfold fw_tok; decide +kernel
abbrev mm_X3_init : fw_M := (yX3_init, cX3_init, 1, none, [])
def tb_X3_init : List fw_R := [(0, .aload_n 0, 1, 0, 0), (1, .invokespecial 3, 4, 0, 0), (4, .aload_n 0, 5, 0, 0), (5, .sipush 313, 8, 0, 313), (8, .newarray .long, 10, 0, 0), (10, .putfield 11, 13, 0, 0), (13, .return_, 14, 0, 0)]
theorem tk_X3_init : fw_tok mm_X3_init tb_X3_init := by unfold fw_tok; decide +kernel
abbrev mm_X3_clear : fw_M := (yX3_clear, cX3_clear, 2, none, [])
def tb_X3_clear : List fw_R := [(0, .iconst 0, 1, 0, 0), (1, .istore_n 1, 2, 1, 0), (2, .iload_n 1, 3, 1, 0), (3, .aload_n 0, 4, 0, 0), (4, .getfield 11, 7, 0, 0), (7, .arraylength, 8, 0, 0), (8, .if_icmp .ge 16, 11, 24, 0), (11, .aload_n 0, 12, 0, 0), (12, .getfield 11, 15, 0, 0), (15, .iload_n 1, 16, 1, 0), (16, .lconst 0, 17, 0, 0), (17, .lastore, 18, 0, 0), (18, .iinc 1 1, 21, 1, 1), (21, .goto (-19), 24, 2, 0), (24, .return_, 25, 0, 0)]
theorem tk_X3_clear : fw_tok mm_X3_clear tb_X3_clear := by unfold fw_tok; decide +kernel
abbrev mm_X3_put : fw_M := (yX3_put, cX3_put, 5, none, [])
def tb_X3_put : List fw_R := [(0, .iload_n 2, 1, 2, 0), (1, .sipush 20000, 4, 0, 20000), (4, .invokestatic 15, 7, 0, 0), (7, .istore_n 3, 8, 3, 0), (8, .iload_n 1, 9, 1, 0), (9, .iconst 0, 10, 0, 0), (10, .invokestatic 21, 13, 0, 0), (13, .bipush 64, 15, 0, 64), (15, .idiv, 16, 0, 0), (16, .istore 4, 18, 4, 0), (18, .iload 4, 20, 4, 0), (20, .aload_n 0, 21, 0, 0), (21, .getfield 11, 24, 0, 0), (24, .arraylength, 25, 0, 0), (25, .if_icmp .ge 35, 28, 60, 0), (28, .iload 4, 30, 4, 0), (30, .bipush 64, 32, 0, 64), (32, .imul, 33, 0, 0), (33, .iload_n 3, 34, 3, 0), (34, .if_icmp .ge 26, 37, 60, 0), (37, .aload_n 0, 38, 0, 0), (38, .getfield 11, 41, 0, 0), (41, .iload 4, 43, 4, 0), (43, .dup2, 44, 0, 0), (44, .laload, 45, 0, 0), (45, .iload 4, 47, 4, 0), (47, .iload_n 1, 48, 1, 0), (48, .iload_n 3, 49, 3, 0), (49, .invokestatic 24, 52, 0, 0), (52, .lor, 53, 0, 0), (53, .lastore, 54, 0, 0), (54, .iinc 4 1, 57, 4, 1), (57, .goto (-39), 60, 18, 0), (60, .return_, 61, 0, 0)]
theorem tk_X3_put : fw_tok mm_X3_put tb_X3_put := by unfold fw_tok; decide +kernel
abbrev mm_X3_remove : fw_M := (yX3_remove, cX3_remove, 3, none, [])
def tb_X3_remove : List fw_R := [(0, .iconst 0, 1, 0, 0), (1, .istore_n 2, 2, 2, 0), (2, .iload_n 2, 3, 2, 0), (3, .aload_n 0, 4, 0, 0), (4, .getfield 11, 7, 0, 0), (7, .arraylength, 8, 0, 0), (8, .if_icmp .ge 37, 11, 45, 0), (11, .iload_n 2, 12, 2, 0), (12, .aload_n 1, 13, 1, 0), (13, .getfield 11, 16, 0, 0), (16, .arraylength, 17, 0, 0), (17, .if_icmp .ge 28, 20, 45, 0), (20, .aload_n 0, 21, 0, 0), (21, .getfield 11, 24, 0, 0), (24, .iload_n 2, 25, 2, 0), (25, .dup2, 26, 0, 0), (26, .laload, 27, 0, 0), (27, .aload_n 1, 28, 1, 0), (28, .getfield 11, 31, 0, 0), (31, .iload_n 2, 32, 2, 0), (32, .laload, 33, 0, 0), (33, .ldc2_w 28, 36, 0, 0), (36, .lxor, 37, 0, 0), (37, .land, 38, 0, 0), (38, .lastore, 39, 0, 0), (39, .iinc 2 1, 42, 2, 1), (42, .goto (-40), 45, 2, 0), (45, .return_, 46, 0, 0)]
theorem tk_X3_remove : fw_tok mm_X3_remove tb_X3_remove := by unfold fw_tok; decide +kernel
abbrev mm_X3_has : fw_M := (yX3_has, cX3_has, 3, (some .boolean), [])
def tb_X3_has : List fw_R := [(0, .iload_n 1, 1, 1, 0), (1, .bipush 64, 3, 0, 64), (3, .idiv, 4, 0, 0), (4, .istore_n 2, 5, 2, 0), (5, .iload_n 1, 6, 1, 0), (6, .ifCond .lt 34, 9, 40, 0), (9, .iload_n 2, 10, 2, 0), (10, .aload_n 0, 11, 0, 0), (11, .getfield 11, 14, 0, 0), (14, .arraylength, 15, 0, 0), (15, .if_icmp .ge 25, 18, 40, 0), (18, .aload_n 0, 19, 0, 0), (19, .getfield 11, 22, 0, 0), (22, .iload_n 2, 23, 2, 0), (23, .laload, 24, 0, 0), (24, .iload_n 1, 25, 1, 0), (25, .bipush 64, 27, 0, 64), (27, .irem, 28, 0, 0), (28, .lushr, 29, 0, 0), (29, .lconst 1, 30, 0, 0), (30, .land, 31, 0, 0), (31, .lconst 0, 32, 0, 0), (32, .lcmp, 33, 0, 0), (33, .ifCond .eq 7, 36, 40, 0), (36, .iconst 1, 37, 0, 1), (37, .goto 4, 40, 41, 0), (40, .iconst 0, 41, 0, 0), (41, .ireturn, 42, 0, 0)]
theorem tk_X3_has : fw_tok mm_X3_has tb_X3_has := by unfold fw_tok; decide +kernel
abbrev mm_X3_within : fw_M := (yX3_within, cX3_within, 5, (some .int), [])
def tb_X3_within : List fw_R := [(0, .iconst 0, 1, 0, 0), (1, .istore_n 3, 2, 3, 0), (2, .iload_n 1, 3, 1, 0), (3, .iconst 0, 4, 0, 0), (4, .invokestatic 21, 7, 0, 0), (7, .bipush 64, 9, 0, 64), (9, .idiv, 10, 0, 0), (10, .istore 4, 12, 4, 0), (12, .iload 4, 14, 4, 0), (14, .aload_n 0, 15, 0, 0), (15, .getfield 11, 18, 0, 0), (18, .arraylength, 19, 0, 0), (19, .if_icmp .ge 39, 22, 58, 0), (22, .iload 4, 24, 4, 0), (24, .bipush 64, 26, 0, 64), (26, .imul, 27, 0, 0), (27, .iload_n 2, 28, 2, 0), (28, .if_icmp .ge 30, 31, 58, 0), (31, .iload_n 3, 32, 3, 0), (32, .aload_n 0, 33, 0, 0), (33, .getfield 11, 36, 0, 0), (36, .iload 4, 38, 4, 0), (38, .laload, 39, 0, 0), (39, .iload 4, 41, 4, 0), (41, .iload_n 1, 42, 1, 0), (42, .iload_n 2, 43, 2, 0), (43, .invokestatic 24, 46, 0, 0), (46, .land, 47, 0, 0), (47, .invokestatic 30, 50, 0, 0), (50, .iadd, 51, 0, 0), (51, .istore_n 3, 52, 3, 0), (52, .iinc 4 1, 55, 4, 1), (55, .goto (-43), 58, 12, 0), (58, .iload_n 3, 59, 3, 0), (59, .ireturn, 60, 0, 0)]
theorem tk_X3_within : fw_tok mm_X3_within tb_X3_within := by unfold fw_tok; decide +kernel
abbrev mm_X3_outside : fw_M := (yX3_outside, cX3_outside, 5, (some .int), [])
def tb_X3_outside : List fw_R := [(0, .iconst 0, 1, 0, 0), (1, .istore_n 3, 2, 3, 0), (2, .iconst 0, 3, 0, 0), (3, .istore 4, 5, 4, 0), (5, .iload 4, 7, 4, 0), (7, .aload_n 0, 8, 0, 0), (8, .getfield 11, 11, 0, 0), (11, .arraylength, 12, 0, 0), (12, .if_icmp .ge 52, 15, 64, 0), (15, .iload 4, 17, 4, 0), (17, .aload_n 1, 18, 1, 0), (18, .getfield 11, 21, 0, 0), (21, .arraylength, 22, 0, 0), (22, .if_icmp .ge 42, 25, 64, 0), (25, .iload_n 3, 26, 3, 0), (26, .aload_n 0, 27, 0, 0), (27, .getfield 11, 30, 0, 0), (30, .iload 4, 32, 4, 0), (32, .laload, 33, 0, 0), (33, .aload_n 1, 34, 1, 0), (34, .getfield 11, 37, 0, 0), (37, .iload 4, 39, 4, 0), (39, .laload, 40, 0, 0), (40, .ldc2_w 28, 43, 0, 0), (43, .lxor, 44, 0, 0), (44, .land, 45, 0, 0), (45, .iload 4, 47, 4, 0), (47, .iconst 0, 48, 0, 0), (48, .iload_n 2, 49, 2, 0), (49, .invokestatic 24, 52, 0, 0), (52, .land, 53, 0, 0), (53, .invokestatic 30, 56, 0, 0), (56, .iadd, 57, 0, 0), (57, .istore_n 3, 58, 3, 0), (58, .iinc 4 1, 61, 4, 1), (61, .goto (-56), 64, 5, 0), (64, .iload_n 3, 65, 3, 0), (65, .ireturn, 66, 0, 0)]
theorem tk_X3_outside : fw_tok mm_X3_outside tb_X3_outside := by unfold fw_tok; decide +kernel
abbrev mm_X3_dayBehind : fw_M := (yX3_dayBehind, cX3_dayBehind, 9, (some .int), [])
def tb_X3_dayBehind : List fw_R := [(0, .iload_n 2, 1, 2, 0), (1, .ifCond .gt 5, 4, 6, 0), (4, .iload_n 1, 5, 1, 0), (5, .ireturn, 6, 0, 0), (6, .iload_n 2, 7, 2, 0), (7, .istore_n 3, 8, 3, 0), (8, .iload_n 1, 9, 1, 0), (9, .iconst 0, 10, 0, 0), (10, .invokestatic 21, 13, 0, 0), (13, .bipush 64, 15, 0, 64), (15, .idiv, 16, 0, 0), (16, .istore 4, 18, 4, 0), (18, .iload 4, 20, 4, 0), (20, .istore 5, 22, 5, 0), (22, .iload 5, 24, 5, 0), (24, .aload_n 0, 25, 0, 0), (25, .getfield 11, 28, 0, 0), (28, .arraylength, 29, 0, 0), (29, .if_icmp .ge 83, 32, 112, 0), (32, .iload 5, 34, 5, 0), (34, .iload 4, 36, 4, 0), (36, .if_icmp .ne 26, 39, 62, 0), (39, .aload_n 0, 40, 0, 0), (40, .getfield 11, 43, 0, 0), (43, .iload 5, 45, 5, 0), (45, .laload, 46, 0, 0), (46, .ldc2_w 28, 49, 0, 0), (49, .lxor, 50, 0, 0), (50, .ldc2_w 28, 53, 0, 0), (53, .iload_n 1, 54, 1, 0), (54, .bipush 64, 56, 0, 64), (56, .irem, 57, 0, 0), (57, .lshl, 58, 0, 0), (58, .land, 59, 0, 0), (59, .goto 14, 62, 73, 0), (62, .aload_n 0, 63, 0, 0), (63, .getfield 11, 66, 0, 0), (66, .iload 5, 68, 5, 0), (68, .laload, 69, 0, 0), (69, .ldc2_w 28, 72, 0, 0), (72, .lxor, 73, 0, 0), (73, .lstore 6, 75, 6, 0), (75, .lload 6, 77, 6, 0), (77, .invokestatic 30, 80, 0, 0), (80, .istore 8, 82, 8, 0), (82, .iload 8, 84, 8, 0), (84, .iload_n 3, 85, 3, 0), (85, .if_icmp .lt 16, 88, 101, 0), (88, .iload 5, 90, 5, 0), (90, .bipush 64, 92, 0, 64), (92, .imul, 93, 0, 0), (93, .lload 6, 95, 6, 0), (95, .iload_n 3, 96, 3, 0), (96, .invokestatic 36, 99, 0, 0), (99, .iadd, 100, 0, 0), (100, .ireturn, 101, 0, 0), (101, .iload_n 3, 102, 3, 0), (102, .iload 8, 104, 8, 0), (104, .isub, 105, 0, 0), (105, .istore_n 3, 106, 3, 0), (106, .iinc 5 1, 109, 5, 1), (109, .goto (-87), 112, 22, 0), (112, .ldc 40, 114, 0, 0), (114, .ireturn, 115, 0, 0)]
theorem tk_X3_dayBehind : fw_tok mm_X3_dayBehind tb_X3_dayBehind := by unfold fw_tok; decide +kernel
abbrev mm_X3_bitBehind : fw_M := (yX3_bitBehind, cX3_bitBehind, 5, (some .int), [])
def tb_X3_bitBehind : List fw_R := [(0, .iload_n 2, 1, 2, 0), (1, .istore_n 3, 2, 3, 0), (2, .iconst 0, 3, 0, 0), (3, .istore 4, 5, 4, 0), (5, .iload 4, 7, 4, 0), (7, .bipush 64, 9, 0, 64), (9, .if_icmp .ge 32, 12, 41, 0), (12, .lload_n 0, 13, 0, 0), (13, .iload 4, 15, 4, 0), (15, .lushr, 16, 0, 0), (16, .lconst 1, 17, 0, 0), (17, .land, 18, 0, 0), (18, .lconst 0, 19, 0, 0), (19, .lcmp, 20, 0, 0), (20, .ifCond .eq 6, 23, 26, 0), (23, .iinc 3 (-1), 26, 3, (-1)), (26, .iload_n 3, 27, 3, 0), (27, .ifCond .gt 8, 30, 35, 0), (30, .iload 4, 32, 4, 0), (32, .iconst 1, 33, 0, 1), (33, .iadd, 34, 0, 0), (34, .ireturn, 35, 0, 0), (35, .iinc 4 1, 38, 4, 1), (38, .goto (-33), 41, 5, 0), (41, .bipush 64, 43, 0, 64), (43, .ireturn, 44, 0, 0)]
theorem tk_X3_bitBehind : fw_tok mm_X3_bitBehind tb_X3_bitBehind := by unfold fw_tok; decide +kernel
abbrev mm_X3_bitsOf : fw_M := (yX3_bitsOf, cX3_bitsOf, 7, (some .long), [])
def tb_X3_bitsOf : List fw_R := [(0, .iconst 0, 1, 0, 0), (1, .iload_n 1, 2, 1, 0), (2, .iload_n 0, 3, 0, 0), (3, .bipush 64, 5, 0, 64), (5, .imul, 6, 0, 0), (6, .isub, 7, 0, 0), (7, .invokestatic 21, 10, 0, 0), (10, .istore_n 3, 11, 3, 0), (11, .bipush 64, 13, 0, 64), (13, .iload_n 2, 14, 2, 0), (14, .iload_n 0, 15, 0, 0), (15, .bipush 64, 17, 0, 64), (17, .imul, 18, 0, 0), (18, .isub, 19, 0, 0), (19, .invokestatic 15, 22, 0, 0), (22, .istore 4, 24, 4, 0), (24, .iload_n 3, 25, 3, 0), (25, .iload 4, 27, 4, 0), (27, .if_icmp .lt 5, 30, 32, 0), (30, .lconst 0, 31, 0, 0), (31, .lreturn, 32, 0, 0), (32, .iload 4, 34, 4, 0), (34, .bipush 64, 36, 0, 64), (36, .if_icmp .ne 9, 39, 45, 0), (39, .ldc2_w 28, 42, 0, 0), (42, .goto 9, 45, 51, 0), (45, .lconst 1, 46, 0, 0), (46, .iload 4, 48, 4, 0), (48, .lshl, 49, 0, 0), (49, .lconst 1, 50, 0, 0), (50, .lsub, 51, 0, 0), (51, .lstore 5, 53, 5, 0), (53, .lload 5, 55, 5, 0), (55, .ldc2_w 28, 58, 0, 0), (58, .iload_n 3, 59, 3, 0), (59, .lshl, 60, 0, 0), (60, .land, 61, 0, 0), (61, .lreturn, 62, 0, 0)]
theorem tk_X3_bitsOf : fw_tok mm_X3_bitsOf tb_X3_bitsOf := by unfold fw_tok; decide +kernel
abbrev mm_X4_init : fw_M := (yX4_init, cX4_init, 6, none, [])
def tb_X4_init : List fw_R := [(0, .aload_n 0, 1, 0, 0), (1, .invokespecial 1, 4, 0, 0), (4, .aload_n 0, 5, 0, 0), (5, .iload_n 1, 6, 1, 0), (6, .putfield 7, 9, 0, 0), (9, .aload_n 0, 10, 0, 0), (10, .iload_n 2, 11, 2, 0), (11, .putfield 13, 14, 0, 0), (14, .aload_n 0, 15, 0, 0), (15, .iload_n 3, 16, 3, 0), (16, .putfield 17, 19, 0, 0), (19, .aload_n 0, 20, 0, 0), (20, .iload 4, 22, 4, 0), (22, .putfield 20, 25, 0, 0), (25, .aload_n 0, 26, 0, 0), (26, .iload 5, 28, 5, 0), (28, .putfield 23, 31, 0, 0), (31, .return_, 32, 0, 0)]
theorem tk_X4_init : fw_tok mm_X4_init tb_X4_init := by unfold fw_tok; decide +kernel
abbrev mm_X5_init : fw_M := (yX5_init, cX5_init, 1, none, [])
def tb_X5_init : List fw_R := [(0, .aload_n 0, 1, 0, 0), (1, .invokespecial 1, 4, 0, 0), (4, .aload_n 0, 5, 0, 0), (5, .new 7, 8, 0, 0), (8, .dup, 9, 0, 0), (9, .invokespecial 9, 12, 0, 0), (12, .putfield 10, 15, 0, 0), (15, .aload_n 0, 16, 0, 0), (16, .new 7, 19, 0, 0), (19, .dup, 20, 0, 0), (20, .invokespecial 9, 23, 0, 0), (23, .putfield 16, 26, 0, 0), (26, .return_, 27, 0, 0)]
theorem tk_X5_init : fw_tok mm_X5_init tb_X5_init := by unfold fw_tok; decide +kernel
abbrev mm_X5_takeWarrant : fw_M := (yX5_takeWarrant, cX5_takeWarrant, 2, none, [])
def tb_X5_takeWarrant : List fw_R := [(0, .aload_n 0, 1, 0, 0), (1, .getfield 19, 4, 0, 0), (4, .ifnonnull 11, 7, 15, 0), (7, .aload_n 0, 8, 0, 0), (8, .aload_n 1, 9, 1, 0), (9, .putfield 23, 12, 0, 0), (12, .goto 11, 15, 23, 0), (15, .aload_n 0, 16, 0, 0), (16, .getfield 19, 19, 0, 0), (19, .aload_n 1, 20, 1, 0), (20, .putfield 26, 23, 0, 0), (23, .aload_n 0, 24, 0, 0), (24, .aload_n 1, 25, 1, 0), (25, .putfield 19, 28, 0, 0), (28, .return_, 29, 0, 0)]
theorem tk_X5_takeWarrant : fw_tok mm_X5_takeWarrant tb_X5_takeWarrant := by unfold fw_tok; decide +kernel
abbrev mm_X5_takeRecall : fw_M := (yX5_takeRecall, cX5_takeRecall, 2, (some .int), [])
def tb_X5_takeRecall : List fw_R := [(0, .aload_n 0, 1, 0, 0), (1, .getfield 31, 4, 0, 0), (4, .ifnonnull 11, 7, 15, 0), (7, .aload_n 0, 8, 0, 0), (8, .aload_n 1, 9, 1, 0), (9, .putfield 35, 12, 0, 0), (12, .goto 11, 15, 23, 0), (15, .aload_n 0, 16, 0, 0), (16, .getfield 31, 19, 0, 0), (19, .aload_n 1, 20, 1, 0), (20, .putfield 38, 23, 0, 0), (23, .aload_n 0, 24, 0, 0), (24, .aload_n 1, 25, 1, 0), (25, .putfield 31, 28, 0, 0), (28, .aload_n 0, 29, 0, 0), (29, .dup, 30, 0, 0), (30, .getfield 42, 33, 0, 0), (33, .iconst 1, 34, 0, 1), (34, .iadd, 35, 0, 0), (35, .putfield 42, 38, 0, 0), (38, .aload_n 0, 39, 0, 0), (39, .getfield 42, 42, 0, 0), (42, .ireturn, 43, 0, 0)]
theorem tk_X5_takeRecall : fw_tok mm_X5_takeRecall tb_X5_takeRecall := by unfold fw_tok; decide +kernel
abbrev mm_X5_takeAdded : fw_M := (yX5_takeAdded, cX5_takeAdded, 4, none, [])
def tb_X5_takeAdded : List fw_R := [(0, .aconst_null, 1, 0, 0), (1, .astore_n 2, 2, 2, 0), (2, .aload_n 0, 3, 0, 0), (3, .getfield 46, 6, 0, 0), (6, .astore_n 3, 7, 3, 0), (7, .aload_n 3, 8, 3, 0), (8, .ifnull 24, 11, 32, 0), (11, .aload_n 3, 12, 3, 0), (12, .getfield 50, 15, 0, 0), (15, .aload_n 1, 16, 1, 0), (16, .getfield 50, 19, 0, 0), (19, .if_icmp .gt 13, 22, 32, 0), (22, .aload_n 3, 23, 3, 0), (23, .astore_n 2, 24, 2, 0), (24, .aload_n 3, 25, 3, 0), (25, .getfield 55, 28, 0, 0), (28, .astore_n 3, 29, 3, 0), (29, .goto (-22), 32, 7, 0), (32, .aload_n 2, 33, 2, 0), (33, .ifnonnull 19, 36, 52, 0), (36, .aload_n 1, 37, 1, 0), (37, .aload_n 0, 38, 0, 0), (38, .getfield 46, 41, 0, 0), (41, .putfield 55, 44, 0, 0), (44, .aload_n 0, 45, 0, 0), (45, .aload_n 1, 46, 1, 0), (46, .putfield 46, 49, 0, 0), (49, .goto 16, 52, 65, 0), (52, .aload_n 1, 53, 1, 0), (53, .aload_n 2, 54, 2, 0), (54, .getfield 55, 57, 0, 0), (57, .putfield 55, 60, 0, 0), (60, .aload_n 2, 61, 2, 0), (61, .aload_n 1, 62, 1, 0), (62, .putfield 55, 65, 0, 0), (65, .return_, 66, 0, 0)]
theorem tk_X5_takeAdded : fw_tok mm_X5_takeAdded tb_X5_takeAdded := by unfold fw_tok; decide +kernel
abbrev mm_X5_waitingWarrants : fw_M := (yX5_waitingWarrants, cX5_waitingWarrants, 3, (some .int), [])
def tb_X5_waitingWarrants : List fw_R := [(0, .iconst 0, 1, 0, 0), (1, .istore_n 1, 2, 1, 0), (2, .aload_n 0, 3, 0, 0), (3, .getfield 23, 6, 0, 0), (6, .astore_n 2, 7, 2, 0), (7, .aload_n 2, 8, 2, 0), (8, .ifnull 21, 11, 29, 0), (11, .aload_n 2, 12, 2, 0), (12, .invokevirtual 57, 15, 0, 0), (15, .ifCond .eq 6, 18, 21, 0), (18, .iinc 1 1, 21, 1, 1), (21, .aload_n 2, 22, 2, 0), (22, .getfield 26, 25, 0, 0), (25, .astore_n 2, 26, 2, 0), (26, .goto (-19), 29, 7, 0), (29, .iload_n 1, 30, 1, 0), (30, .ireturn, 31, 0, 0)]
theorem tk_X5_waitingWarrants : fw_tok mm_X5_waitingWarrants tb_X5_waitingWarrants := by unfold fw_tok; decide +kernel
abbrev mm_X5_reckon : fw_M := (yX5_reckon, cX5_reckon, 2, none, [])
def tb_X5_reckon : List fw_R := [(0, .aload_n 0, 1, 0, 0), (1, .getfield 23, 4, 0, 0), (4, .astore_n 1, 5, 1, 0), (5, .aload_n 1, 6, 1, 0), (6, .ifnull 15, 9, 21, 0), (9, .aload_n 1, 10, 1, 0), (10, .invokevirtual 61, 13, 0, 0), (13, .aload_n 1, 14, 1, 0), (14, .getfield 26, 17, 0, 0), (17, .astore_n 1, 18, 1, 0), (18, .goto (-13), 21, 5, 0), (21, .aload_n 0, 22, 0, 0), (22, .getfield 35, 25, 0, 0), (25, .astore_n 1, 26, 1, 0), (26, .aload_n 1, 27, 1, 0), (27, .ifnull 15, 30, 42, 0), (30, .aload_n 1, 31, 1, 0), (31, .invokevirtual 64, 34, 0, 0), (34, .aload_n 1, 35, 1, 0), (35, .getfield 38, 38, 0, 0), (38, .astore_n 1, 39, 1, 0), (39, .goto (-13), 42, 26, 0), (42, .return_, 43, 0, 0)]
theorem tk_X5_reckon : fw_tok mm_X5_reckon tb_X5_reckon := by unfold fw_tok; decide +kernel
abbrev mm_X5_stateAt : fw_M := (yX5_stateAt, cX5_stateAt, 3, (some .char), [])
def tb_X5_stateAt : List fw_R := [(0, .aload_n 0, 1, 0, 0), (1, .iload_n 1, 2, 1, 0), (2, .invokevirtual 65, 5, 0, 0), (5, .ifnull 7, 8, 12, 0), (8, .iconst 1, 9, 0, 1), (9, .goto 4, 12, 13, 0), (12, .iconst 0, 13, 0, 0), (13, .istore_n 2, 14, 2, 0), (14, .iload_n 2, 15, 2, 0), (15, .ifCond .ne 11, 18, 26, 0), (18, .aload_n 0, 19, 0, 0), (19, .iload_n 1, 20, 1, 0), (20, .invokevirtual 69, 23, 0, 0), (23, .ifnull 16, 26, 39, 0), (26, .iload_n 2, 27, 2, 0), (27, .aload_n 0, 28, 0, 0), (28, .getfield 10, 31, 0, 0), (31, .iload_n 1, 32, 1, 0), (32, .invokevirtual 73, 35, 0, 0), (35, .invokestatic 77, 38, 0, 0), (38, .ireturn, 39, 0, 0), (39, .aload_n 0, 40, 0, 0), (40, .iload_n 1, 41, 1, 0), (41, .invokevirtual 81, 44, 0, 0), (44, .ifCond .eq 8, 47, 52, 0), (47, .bipush 108, 49, 0, 108), (49, .goto 5, 52, 54, 0), (52, .bipush 111, 54, 0, 111), (54, .ireturn, 55, 0, 0)]
theorem tk_X5_stateAt : fw_tok mm_X5_stateAt tb_X5_stateAt := by unfold fw_tok; decide +kernel
abbrev mm_X5_keeperAt : fw_M := (yX5_keeperAt, cX5_keeperAt, 4, (some (.object "Termreckonry$Warrant")), [])
def tb_X5_keeperAt : List fw_R := [(0, .aconst_null, 1, 0, 0), (1, .astore_n 2, 2, 2, 0), (2, .aload_n 0, 3, 0, 0), (3, .getfield 23, 6, 0, 0), (6, .astore_n 3, 7, 3, 0), (7, .aload_n 3, 8, 3, 0), (8, .ifnull 36, 11, 44, 0), (11, .aload_n 3, 12, 3, 0), (12, .iload_n 1, 13, 1, 0), (13, .invokevirtual 84, 16, 0, 0), (16, .ifCond .eq 20, 19, 36, 0), (19, .aload_n 2, 20, 2, 0), (20, .ifnull 14, 23, 34, 0), (23, .aload_n 3, 24, 3, 0), (24, .getfield 87, 27, 0, 0), (27, .aload_n 2, 28, 2, 0), (28, .getfield 87, 31, 0, 0), (31, .if_icmp .le 5, 34, 36, 0), (34, .aload_n 3, 35, 3, 0), (35, .astore_n 2, 36, 2, 0), (36, .aload_n 3, 37, 3, 0), (37, .getfield 26, 40, 0, 0), (40, .astore_n 3, 41, 3, 0), (41, .goto (-34), 44, 7, 0), (44, .aload_n 2, 45, 2, 0), (45, .areturn, 46, 0, 0)]
theorem tk_X5_keeperAt : fw_tok mm_X5_keeperAt tb_X5_keeperAt := by unfold fw_tok; decide +kernel
abbrev mm_X5_recallAt : fw_M := (yX5_recallAt, cX5_recallAt, 3, (some (.object "Termreckonry$Recall")), [])
def tb_X5_recallAt : List fw_R := [(0, .aload_n 0, 1, 0, 0), (1, .getfield 35, 4, 0, 0), (4, .astore_n 2, 5, 2, 0), (5, .aload_n 2, 6, 2, 0), (6, .ifnull 29, 9, 35, 0), (9, .aload_n 2, 10, 2, 0), (10, .getfield 90, 13, 0, 0), (13, .iload_n 1, 14, 1, 0), (14, .if_icmp .gt 13, 17, 27, 0), (17, .iload_n 1, 18, 1, 0), (18, .aload_n 2, 19, 2, 0), (19, .getfield 91, 22, 0, 0), (22, .if_icmp .ge 5, 25, 27, 0), (25, .aload_n 2, 26, 2, 0), (26, .areturn, 27, 0, 0), (27, .aload_n 2, 28, 2, 0), (28, .getfield 38, 31, 0, 0), (31, .astore_n 2, 32, 2, 0), (32, .goto (-27), 35, 5, 0), (35, .aconst_null, 36, 0, 0), (36, .areturn, 37, 0, 0)]
theorem tk_X5_recallAt : fw_tok mm_X5_recallAt tb_X5_recallAt := by unfold fw_tok; decide +kernel
abbrev mm_X5_isLicensed : fw_M := (yX5_isLicensed, cX5_isLicensed, 3, (some .boolean), [])
def tb_X5_isLicensed : List fw_R := [(0, .aload_n 0, 1, 0, 0), (1, .getfield 23, 4, 0, 0), (4, .astore_n 2, 5, 2, 0), (5, .aload_n 2, 6, 2, 0), (6, .ifnull 21, 9, 27, 0), (9, .aload_n 2, 10, 2, 0), (10, .iload_n 1, 11, 1, 0), (11, .invokevirtual 94, 14, 0, 0), (14, .ifCond .eq 5, 17, 19, 0), (17, .iconst 1, 18, 0, 1), (18, .ireturn, 19, 0, 0), (19, .aload_n 2, 20, 2, 0), (20, .getfield 26, 23, 0, 0), (23, .astore_n 2, 24, 2, 0), (24, .goto (-19), 27, 5, 0), (27, .iconst 0, 28, 0, 0), (28, .ireturn, 29, 0, 0)]
theorem tk_X5_isLicensed : fw_tok mm_X5_isLicensed tb_X5_isLicensed := by unfold fw_tok; decide +kernel
abbrev mm_X5_putDue : fw_M := (yX5_putDue, cX5_putDue, 3, none, [])
def tb_X5_putDue : List fw_R := [(0, .aload_n 1, 1, 1, 0), (1, .invokevirtual 97, 4, 0, 0), (4, .aload_n 0, 5, 0, 0), (5, .getfield 23, 8, 0, 0), (8, .astore_n 2, 9, 2, 0), (9, .aload_n 2, 10, 2, 0), (10, .ifnull 23, 13, 33, 0), (13, .aload_n 1, 14, 1, 0), (14, .aload_n 2, 15, 2, 0), (15, .getfield 100, 18, 0, 0), (18, .aload_n 2, 19, 2, 0), (19, .getfield 87, 22, 0, 0), (22, .invokevirtual 103, 25, 0, 0), (25, .aload_n 2, 26, 2, 0), (26, .getfield 26, 29, 0, 0), (29, .astore_n 2, 30, 2, 0), (30, .goto (-21), 33, 9, 0), (33, .aload_n 0, 34, 0, 0), (34, .getfield 35, 37, 0, 0), (37, .astore_n 2, 38, 2, 0), (38, .aload_n 2, 39, 2, 0), (39, .ifnull 23, 42, 62, 0), (42, .aload_n 1, 43, 1, 0), (43, .aload_n 2, 44, 2, 0), (44, .getfield 90, 47, 0, 0), (47, .aload_n 2, 48, 2, 0), (48, .getfield 91, 51, 0, 0), (51, .invokevirtual 103, 54, 0, 0), (54, .aload_n 2, 55, 2, 0), (55, .getfield 38, 58, 0, 0), (58, .astore_n 2, 59, 2, 0), (59, .goto (-21), 62, 38, 0), (62, .return_, 63, 0, 0)]
theorem tk_X5_putDue : fw_tok mm_X5_putDue tb_X5_putDue := by unfold fw_tok; decide +kernel
abbrev mm_X5_letter : fw_M := (yX5_letter, cX5_letter, 2, (some .char), [])
def tb_X5_letter : List fw_R := [(0, .iload_n 1, 1, 1, 0), (1, .ifCond .eq 6, 4, 7, 0), (4, .bipush 97, 6, 0, 97), (6, .ireturn, 7, 0, 0), (7, .iload_n 0, 8, 0, 0), (8, .ifCond .eq 8, 11, 16, 0), (11, .bipush 112, 13, 0, 112), (13, .goto 5, 16, 18, 0), (16, .bipush 114, 18, 0, 114), (18, .ireturn, 19, 0, 0)]
theorem tk_X5_letter : fw_tok mm_X5_letter tb_X5_letter := by unfold fw_tok; decide +kernel
abbrev mm_X6_init : fw_M := (yX6_init, cX6_init, 5, none, [])
def tb_X6_init : List fw_R := [(0, .aload_n 0, 1, 0, 0), (1, .invokespecial 3, 4, 0, 0), (4, .aload_n 0, 5, 0, 0), (5, .ldc 9, 7, 0, 0), (7, .putfield 10, 10, 0, 0), (10, .aload_n 0, 11, 0, 0), (11, .aload_n 1, 12, 1, 0), (12, .putfield 16, 15, 0, 0), (15, .aload_n 0, 16, 0, 0), (16, .iload_n 2, 17, 2, 0), (17, .putfield 20, 20, 0, 0), (20, .aload_n 0, 21, 0, 0), (21, .iload_n 3, 22, 3, 0), (22, .putfield 23, 25, 0, 0), (25, .aload_n 0, 26, 0, 0), (26, .iload 4, 28, 4, 0), (28, .putfield 27, 31, 0, 0), (31, .return_, 32, 0, 0)]
theorem tk_X6_init : fw_tok mm_X6_init tb_X6_init := by unfold fw_tok; decide +kernel
abbrev mm_X6_reckon : fw_M := (yX6_reckon, cX6_reckon, 1, none, [])
def tb_X6_reckon : List fw_R := [(0, .aload_n 0, 1, 0, 0), (1, .aload_n 0, 2, 0, 0), (2, .getfield 10, 5, 0, 0), (5, .aload_n 0, 6, 0, 0), (6, .invokevirtual 30, 9, 0, 0), (9, .invokestatic 34, 12, 0, 0), (12, .putfield 40, 15, 0, 0), (15, .aload_n 0, 16, 0, 0), (16, .getfield 23, 19, 0, 0), (19, .ifCond .eq 30, 22, 49, 0), (22, .aload_n 0, 23, 0, 0), (23, .aload_n 0, 24, 0, 0), (24, .getfield 40, 27, 0, 0), (27, .aload_n 0, 28, 0, 0), (28, .getfield 16, 31, 0, 0), (31, .getfield 43, 34, 0, 0), (34, .aload_n 0, 35, 0, 0), (35, .getfield 20, 38, 0, 0), (38, .bipush 28, 40, 0, 28), (40, .invokevirtual 49, 43, 0, 0), (43, .invokestatic 34, 46, 0, 0), (46, .putfield 40, 49, 0, 0), (49, .return_, 50, 0, 0)]
theorem tk_X6_reckon : fw_tok mm_X6_reckon tb_X6_reckon := by unfold fw_tok; decide +kernel
abbrev mm_X6_firstDayUnlicensed : fw_M := (yX6_firstDayUnlicensed, cX6_firstDayUnlicensed, 4, (some .int), [])
def tb_X6_firstDayUnlicensed : List fw_R := [(0, .aload_n 0, 1, 0, 0), (1, .getfield 20, 4, 0, 0), (4, .istore_n 1, 5, 1, 0), (5, .iconst 0, 6, 0, 0), (6, .istore_n 2, 7, 2, 0), (7, .iload_n 2, 8, 2, 0), (8, .bipush 24, 10, 0, 24), (10, .if_icmp .ge 24, 13, 34, 0), (13, .aload_n 0, 14, 0, 0), (14, .iload_n 1, 15, 1, 0), (15, .invokevirtual 54, 18, 0, 0), (18, .istore_n 3, 19, 3, 0), (19, .iload_n 3, 20, 3, 0), (20, .iload_n 1, 21, 1, 0), (21, .if_icmp .ne 5, 24, 26, 0), (24, .iload_n 1, 25, 1, 0), (25, .ireturn, 26, 0, 0), (26, .iload_n 3, 27, 3, 0), (27, .istore_n 1, 28, 1, 0), (28, .iinc 2 1, 31, 2, 1), (31, .goto (-24), 34, 7, 0), (34, .iload_n 1, 35, 1, 0), (35, .ireturn, 36, 0, 0)]
theorem tk_X6_firstDayUnlicensed : fw_tok mm_X6_firstDayUnlicensed tb_X6_firstDayUnlicensed := by unfold fw_tok; decide +kernel
abbrev mm_X6_latestLicenceEnd : fw_M := (yX6_latestLicenceEnd, cX6_latestLicenceEnd, 4, (some .int), [])
def tb_X6_latestLicenceEnd : List fw_R := [(0, .iload_n 1, 1, 1, 0), (1, .istore_n 2, 2, 2, 0), (2, .aload_n 0, 3, 0, 0), (3, .getfield 16, 6, 0, 0), (6, .getfield 58, 9, 0, 0), (9, .astore_n 3, 10, 3, 0), (10, .aload_n 3, 11, 3, 0), (11, .ifnull 39, 14, 50, 0), (14, .aload_n 3, 15, 3, 0), (15, .getfield 62, 18, 0, 0), (18, .aload_n 0, 19, 0, 0), (19, .getfield 27, 22, 0, 0), (22, .if_icmp .ge 28, 25, 50, 0), (25, .aload_n 3, 26, 3, 0), (26, .iload_n 1, 27, 1, 0), (27, .invokevirtual 67, 30, 0, 0), (30, .ifCond .eq 12, 33, 42, 0), (33, .iload_n 2, 34, 2, 0), (34, .aload_n 3, 35, 3, 0), (35, .getfield 71, 38, 0, 0), (38, .invokestatic 74, 41, 0, 0), (41, .istore_n 2, 42, 2, 0), (42, .aload_n 3, 43, 3, 0), (43, .getfield 77, 46, 0, 0), (46, .astore_n 3, 47, 3, 0), (47, .goto (-37), 50, 10, 0), (50, .iload_n 2, 51, 2, 0), (51, .ireturn, 52, 0, 0)]
theorem tk_X6_latestLicenceEnd : fw_tok mm_X6_latestLicenceEnd tb_X6_latestLicenceEnd := by unfold fw_tok; decide +kernel
abbrev mm_X7_init : fw_M := (yX7_init, cX7_init, 1, none, [])
def tb_X7_init : List fw_R := [(0, .aload_n 0, 1, 0, 0), (1, .invokespecial 3, 4, 0, 0), (4, .return_, 5, 0, 0)]
theorem tk_X7_init : fw_tok mm_X7_init tb_X7_init := by unfold fw_tok; decide +kernel
abbrev mm_X7_open : fw_M := (yX7_open, cX7_open, 1, none, [])
def tb_X7_open : List fw_R := [(0, .aload_n 0, 1, 0, 0), (1, .ldc 9, 3, 0, 0), (3, .putfield 10, 6, 0, 0), (6, .aload_n 0, 7, 0, 0), (7, .iconst 0, 8, 0, 0), (8, .putfield 16, 11, 0, 0), (11, .aload_n 0, 12, 0, 0), (12, .iconst 0, 13, 0, 0), (13, .putfield 19, 16, 0, 0), (16, .aload_n 0, 17, 0, 0), (17, .iconst 0, 18, 0, 0), (18, .putfield 22, 21, 0, 0), (21, .aload_n 0, 22, 0, 0), (22, .iconst 0, 23, 0, 0), (23, .putfield 25, 26, 0, 0), (26, .aload_n 0, 27, 0, 0), (27, .ldc 9, 29, 0, 0), (29, .putfield 28, 32, 0, 0), (32, .aload_n 0, 33, 0, 0), (33, .iconst 0, 34, 0, 0), (34, .putfield 31, 37, 0, 0), (37, .return_, 38, 0, 0)]
theorem tk_X7_open : fw_tok mm_X7_open tb_X7_open := by unfold fw_tok; decide +kernel
abbrev mm_X7_runs : fw_M := (yX7_runs, cX7_runs, 1, (some .boolean), [])
def tb_X7_runs : List fw_R := [(0, .aload_n 0, 1, 0, 0), (1, .getfield 10, 4, 0, 0), (4, .ldc 9, 6, 0, 0), (6, .if_icmp .eq 16, 9, 22, 0), (9, .aload_n 0, 10, 0, 0), (10, .getfield 28, 13, 0, 0), (13, .ldc 9, 15, 0, 0), (15, .if_icmp .ne 7, 18, 22, 0), (18, .iconst 1, 19, 0, 1), (19, .goto 4, 22, 23, 0), (22, .iconst 0, 23, 0, 0), (23, .ireturn, 24, 0, 0)]
theorem tk_X7_runs : fw_tok mm_X7_runs tb_X7_runs := by unfold fw_tok; decide +kernel
abbrev mm_X7_licenses : fw_M := (yX7_licenses, cX7_licenses, 2, (some .boolean), [])
def tb_X7_licenses : List fw_R := [(0, .aload_n 0, 1, 0, 0), (1, .getfield 28, 4, 0, 0), (4, .ldc 9, 6, 0, 0), (6, .if_icmp .eq 15, 9, 21, 0), (9, .iload_n 1, 10, 1, 0), (10, .aload_n 0, 11, 0, 0), (11, .getfield 31, 14, 0, 0), (14, .if_icmp .ge 7, 17, 21, 0), (17, .iconst 1, 18, 0, 1), (18, .goto 4, 21, 22, 0), (21, .iconst 0, 22, 0, 0), (22, .ireturn, 23, 0, 0)]
theorem tk_X7_licenses : fw_tok mm_X7_licenses tb_X7_licenses := by unfold fw_tok; decide +kernel
abbrev mm_X7_passDay : fw_M := (yX7_passDay, cX7_passDay, 4, none, [])
def tb_X7_passDay : List fw_R := [(0, .aload_n 0, 1, 0, 0), (1, .getfield 10, 4, 0, 0), (4, .ldc 9, 6, 0, 0), (6, .if_icmp .ne 40, 9, 46, 0), (9, .aload_n 1, 10, 1, 0), (10, .iload_n 2, 11, 2, 0), (11, .invokestatic 34, 14, 0, 0), (14, .ifCond .eq 32, 17, 46, 0), (17, .aload_n 0, 18, 0, 0), (18, .iload_n 2, 19, 2, 0), (19, .putfield 10, 22, 0, 0), (22, .aload_n 0, 23, 0, 0), (23, .aload_n 1, 24, 1, 0), (24, .getfield 38, 27, 0, 0), (27, .iload_n 2, 28, 2, 0), (28, .invokevirtual 44, 31, 0, 0), (31, .putfield 16, 34, 0, 0), (34, .aload_n 0, 35, 0, 0), (35, .aload_n 1, 36, 1, 0), (36, .aload_n 0, 37, 0, 0), (37, .getfield 16, 40, 0, 0), (40, .invokevirtual 50, 43, 0, 0), (43, .putfield 19, 46, 0, 0), (46, .aload_n 0, 47, 0, 0), (47, .invokevirtual 53, 50, 0, 0), (50, .ifCond .eq 36, 53, 86, 0), (53, .aload_n 0, 54, 0, 0), (54, .getfield 22, 57, 0, 0), (57, .aload_n 0, 58, 0, 0), (58, .getfield 19, 61, 0, 0), (61, .if_icmp .lt 25, 64, 86, 0), (64, .aload_n 1, 65, 1, 0), (65, .iload_n 2, 66, 2, 0), (66, .invokestatic 57, 69, 0, 0), (69, .ifCond .eq 17, 72, 86, 0), (72, .aload_n 0, 73, 0, 0), (73, .iload_n 2, 74, 2, 0), (74, .putfield 28, 77, 0, 0), (77, .aload_n 0, 78, 0, 0), (78, .aload_n 0, 79, 0, 0), (79, .aload_n 1, 80, 1, 0), (80, .invokevirtual 60, 83, 0, 0), (83, .putfield 31, 86, 0, 0), (86, .aload_n 0, 87, 0, 0), (87, .invokevirtual 53, 90, 0, 0), (90, .ifCond .eq 39, 93, 129, 0), (93, .aload_n 0, 94, 0, 0), (94, .dup, 95, 0, 0), (95, .getfield 25, 98, 0, 0), (98, .iload_n 3, 99, 3, 0), (99, .ifCond .eq 7, 102, 106, 0), (102, .iconst 1, 103, 0, 1), (103, .goto 4, 106, 107, 0), (106, .iconst 0, 107, 0, 0), (107, .iadd, 108, 0, 0), (108, .putfield 25, 111, 0, 0), (111, .aload_n 0, 112, 0, 0), (112, .dup, 113, 0, 0), (113, .getfield 22, 116, 0, 0), (116, .iload_n 3, 117, 3, 0), (117, .ifCond .eq 7, 120, 124, 0), (120, .iconst 0, 121, 0, 0), (121, .goto 4, 124, 125, 0), (124, .iconst 1, 125, 0, 1), (125, .iadd, 126, 0, 0), (126, .putfield 22, 129, 0, 0), (129, .return_, 130, 0, 0)]
theorem tk_X7_passDay : fw_tok mm_X7_passDay tb_X7_passDay := by unfold fw_tok; decide +kernel
abbrev mm_X7_putAdded : fw_M := (yX7_putAdded, cX7_putAdded, 3, none, [])
def tb_X7_putAdded : List fw_R := [(0, .aload_n 1, 1, 1, 0), (1, .invokevirtual 64, 4, 0, 0), (4, .ifCond .eq 34, 7, 38, 0), (7, .aload_n 0, 8, 0, 0), (8, .invokevirtual 53, 11, 0, 0), (11, .ifCond .eq 27, 14, 38, 0), (14, .aload_n 0, 15, 0, 0), (15, .aload_n 0, 16, 0, 0), (16, .getfield 19, 19, 0, 0), (19, .aload_n 2, 20, 2, 0), (20, .getfield 67, 23, 0, 0), (23, .iadd, 24, 0, 0), (24, .aload_n 1, 25, 1, 0), (25, .aload_n 0, 26, 0, 0), (26, .getfield 16, 29, 0, 0), (29, .invokevirtual 72, 32, 0, 0), (32, .invokestatic 75, 35, 0, 0), (35, .putfield 19, 38, 0, 0), (38, .return_, 39, 0, 0)]
theorem tk_X7_putAdded : fw_tok mm_X7_putAdded tb_X7_putAdded := by unfold fw_tok; decide +kernel
abbrev mm_X7_mayBegin : fw_M := (yX7_mayBegin, cX7_mayBegin, 2, (some .boolean), [])
def tb_X7_mayBegin : List fw_R := [(0, .aload_n 0, 1, 0, 0), (1, .invokevirtual 81, 4, 0, 0), (4, .ifCond .eq 11, 7, 15, 0), (7, .iload_n 1, 8, 1, 0), (8, .aload_n 0, 9, 0, 0), (9, .invokevirtual 84, 12, 0, 0), (12, .if_icmp .ge 5, 15, 17, 0), (15, .iconst 0, 16, 0, 0), (16, .ireturn, 17, 0, 0), (17, .aload_n 0, 18, 0, 0), (18, .getfield 88, 21, 0, 0), (21, .ifnull 28, 24, 49, 0), (24, .aload_n 0, 25, 0, 0), (25, .getfield 88, 28, 0, 0), (28, .invokevirtual 81, 31, 0, 0), (31, .ifCond .eq 18, 34, 49, 0), (34, .aload_n 0, 35, 0, 0), (35, .getfield 88, 38, 0, 0), (38, .getfield 92, 41, 0, 0), (41, .getfield 28, 44, 0, 0), (44, .ldc 9, 46, 0, 0), (46, .if_icmp .eq 7, 49, 53, 0), (49, .iconst 1, 50, 0, 1), (50, .goto 4, 53, 54, 0), (53, .iconst 0, 54, 0, 0), (54, .ireturn, 55, 0, 0)]
theorem tk_X7_mayBegin : fw_tok mm_X7_mayBegin tb_X7_mayBegin := by unfold fw_tok; decide +kernel
abbrev mm_X7_mayLeave : fw_M := (yX7_mayLeave, cX7_mayLeave, 2, (some .boolean), [])
def tb_X7_mayLeave : List fw_R := [(0, .aload_n 0, 1, 0, 0), (1, .invokevirtual 96, 4, 0, 0), (4, .ifCond .eq 19, 7, 23, 0), (7, .aload_n 0, 8, 0, 0), (8, .getfield 99, 11, 0, 0), (11, .iconst (-1), 12, 0, (-1)), (12, .if_icmp .eq 15, 15, 27, 0), (15, .aload_n 0, 16, 0, 0), (16, .getfield 99, 19, 0, 0), (19, .iload_n 1, 20, 1, 0), (20, .if_icmp .gt 7, 23, 27, 0), (23, .iconst 1, 24, 0, 1), (24, .goto 4, 27, 28, 0), (27, .iconst 0, 28, 0, 0), (28, .ireturn, 29, 0, 0)]
theorem tk_X7_mayLeave : fw_tok mm_X7_mayLeave tb_X7_mayLeave := by unfold fw_tok; decide +kernel
abbrev mm_X7_endOfLicence : fw_M := (yX7_endOfLicence, cX7_endOfLicence, 2, (some .int), [])
def tb_X7_endOfLicence : List fw_R := [(0, .aload_n 1, 1, 1, 0), (1, .getfield 102, 4, 0, 0), (4, .bipush 108, 6, 0, 108), (6, .if_icmp .ne 6, 9, 12, 0), (9, .ldc 9, 11, 0, 0), (11, .ireturn, 12, 0, 0), (12, .aload_n 1, 13, 1, 0), (13, .invokevirtual 64, 16, 0, 0), (16, .ifCond .eq 25, 19, 41, 0), (19, .aload_n 0, 20, 0, 0), (20, .getfield 10, 23, 0, 0), (23, .aload_n 0, 24, 0, 0), (24, .getfield 16, 27, 0, 0), (27, .iadd, 28, 0, 0), (28, .aload_n 1, 29, 1, 0), (29, .invokevirtual 106, 32, 0, 0), (32, .isub, 33, 0, 0), (33, .aload_n 0, 34, 0, 0), (34, .getfield 25, 37, 0, 0), (37, .iadd, 38, 0, 0), (38, .goto 4, 41, 42, 0), (41, .iconst 0, 42, 0, 0), (42, .ireturn, 43, 0, 0)]
theorem tk_X7_endOfLicence : fw_tok mm_X7_endOfLicence tb_X7_endOfLicence := by unfold fw_tok; decide +kernel
abbrev mm_X8_init : fw_M := (yX8_init, cX8_init, 4, none, [])
def tb_X8_init : List fw_R := [(0, .aload_n 0, 1, 0, 0), (1, .invokespecial 1, 4, 0, 0), (4, .aload_n 0, 5, 0, 0), (5, .iload_n 1, 6, 1, 0), (6, .putfield 7, 9, 0, 0), (9, .aload_n 0, 10, 0, 0), (10, .iload_n 2, 11, 2, 0), (11, .putfield 13, 14, 0, 0), (14, .aload_n 0, 15, 0, 0), (15, .iload_n 3, 16, 3, 0), (16, .putfield 16, 19, 0, 0), (19, .return_, 20, 0, 0)]
theorem tk_X8_init : fw_tok mm_X8_init tb_X8_init := by unfold fw_tok; decide +kernel
abbrev mm_X8_spanFrom : fw_M := (yX8_spanFrom, cX8_spanFrom, 7, (some .int), [])
def tb_X8_spanFrom : List fw_R := [(0, .iload_n 1, 1, 1, 0), (1, .invokestatic 19, 4, 0, 0), (4, .istore_n 2, 5, 2, 0), (5, .iload_n 2, 6, 2, 0), (6, .bipush 100, 8, 0, 100), (8, .idiv, 9, 0, 0), (9, .bipush 100, 11, 0, 100), (11, .irem, 12, 0, 0), (12, .iconst 1, 13, 0, 1), (13, .isub, 14, 0, 0), (14, .aload_n 0, 15, 0, 0), (15, .getfield 13, 18, 0, 0), (18, .iadd, 19, 0, 0), (19, .istore_n 3, 20, 3, 0), (20, .iload_n 2, 21, 2, 0), (21, .sipush 10000, 24, 0, 10000), (24, .idiv, 25, 0, 0), (25, .aload_n 0, 26, 0, 0), (26, .getfield 7, 29, 0, 0), (29, .iadd, 30, 0, 0), (30, .iload_n 3, 31, 3, 0), (31, .bipush 12, 33, 0, 12), (33, .idiv, 34, 0, 0), (34, .iadd, 35, 0, 0), (35, .istore 4, 37, 4, 0), (37, .iload_n 3, 38, 3, 0), (38, .bipush 12, 40, 0, 12), (40, .irem, 41, 0, 0), (41, .iconst 1, 42, 0, 1), (42, .iadd, 43, 0, 0), (43, .istore 5, 45, 5, 0), (45, .iload_n 2, 46, 2, 0), (46, .bipush 100, 48, 0, 100), (48, .irem, 49, 0, 0), (49, .iload 4, 51, 4, 0), (51, .invokestatic 25, 54, 0, 0), (54, .iload 5, 56, 5, 0), (56, .invokestatic 29, 59, 0, 0), (59, .invokestatic 33, 62, 0, 0), (62, .istore 6, 64, 6, 0), (64, .iload 4, 66, 4, 0), (66, .iload 5, 68, 5, 0), (68, .iload 6, 70, 6, 0), (70, .invokestatic 39, 73, 0, 0), (73, .aload_n 0, 74, 0, 0), (74, .getfield 16, 77, 0, 0), (77, .iadd, 78, 0, 0), (78, .iload_n 1, 79, 1, 0), (79, .isub, 80, 0, 0), (80, .ireturn, 81, 0, 0)]
theorem tk_X8_spanFrom : fw_tok mm_X8_spanFrom tb_X8_spanFrom := by unfold fw_tok; decide +kernel
abbrev mm_X9_init : fw_M := (yX9_init, cX9_init, 8, none, [])
def tb_X9_init : List fw_R := [(0, .aload_n 0, 1, 0, 0), (1, .invokespecial 3, 4, 0, 0), (4, .aload_n 0, 5, 0, 0), (5, .new 9, 8, 0, 0), (8, .dup, 9, 0, 0), (9, .invokespecial 11, 12, 0, 0), (12, .putfield 12, 15, 0, 0), (15, .aload_n 0, 16, 0, 0), (16, .iconst (-1), 17, 0, (-1)), (17, .putfield 18, 20, 0, 0), (20, .aload_n 0, 21, 0, 0), (21, .iconst (-1), 22, 0, (-1)), (22, .putfield 22, 25, 0, 0), (25, .aload_n 0, 26, 0, 0), (26, .ldc 25, 28, 0, 0), (28, .putfield 26, 31, 0, 0), (31, .aload_n 0, 32, 0, 0), (32, .ldc 25, 34, 0, 0), (34, .putfield 29, 37, 0, 0), (37, .aload_n 0, 38, 0, 0), (38, .iload_n 1, 39, 1, 0), (39, .putfield 32, 42, 0, 0), (42, .aload_n 0, 43, 0, 0), (43, .aload_n 2, 44, 2, 0), (44, .putfield 35, 47, 0, 0), (47, .aload_n 0, 48, 0, 0), (48, .iload_n 3, 49, 3, 0), (49, .putfield 39, 52, 0, 0), (52, .aload_n 0, 53, 0, 0), (53, .iload 4, 55, 4, 0), (55, .putfield 43, 58, 0, 0), (58, .aload_n 0, 59, 0, 0), (59, .iload 5, 61, 5, 0), (61, .putfield 46, 64, 0, 0), (64, .aload_n 0, 65, 0, 0), (65, .aload 6, 67, 6, 0), (67, .putfield 49, 70, 0, 0), (70, .aload_n 0, 71, 0, 0), (71, .aload 7, 73, 7, 0), (73, .putfield 53, 76, 0, 0), (76, .return_, 77, 0, 0)]
theorem tk_X9_init : fw_tok mm_X9_init tb_X9_init := by unfold fw_tok; decide +kernel
abbrev mm_X9_apply : fw_M := (yX9_apply, cX9_apply, 3, none, [])
def tb_X9_apply : List fw_R := [(0, .aload_n 1, 1, 1, 0), (1, .getfield 57, 4, 0, 0), (4, .ifCond .eq 10, 7, 14, 0), (7, .aload_n 0, 8, 0, 0), (8, .getfield 43, 11, 0, 0), (11, .goto 7, 14, 18, 0), (14, .aload_n 0, 15, 0, 0), (15, .getfield 46, 18, 0, 0), (18, .istore_n 2, 19, 2, 0), (19, .aload_n 0, 20, 0, 0), (20, .invokevirtual 63, 23, 0, 0), (23, .ifCond .eq 16, 26, 39, 0), (26, .iload_n 2, 27, 2, 0), (27, .aload_n 1, 28, 1, 0), (28, .getfield 67, 31, 0, 0), (31, .if_icmp .lt 8, 34, 39, 0), (34, .aload_n 0, 35, 0, 0), (35, .aload_n 1, 36, 1, 0), (36, .putfield 70, 39, 0, 0), (39, .return_, 40, 0, 0)]
theorem tk_X9_apply : fw_tok mm_X9_apply tb_X9_apply := by unfold fw_tok; decide +kernel
abbrev mm_X9_isLikeFixed : fw_M := (yX9_isLikeFixed, cX9_isLikeFixed, 1, (some .boolean), [])
def tb_X9_isLikeFixed : List fw_R := [(0, .aload_n 0, 1, 0, 0), (1, .getfield 39, 4, 0, 0), (4, .bipush 102, 6, 0, 102), (6, .if_icmp .eq 12, 9, 18, 0), (9, .aload_n 0, 10, 0, 0), (10, .getfield 39, 13, 0, 0), (13, .bipush 115, 15, 0, 115), (15, .if_icmp .ne 7, 18, 22, 0), (18, .iconst 1, 19, 0, 1), (19, .goto 4, 22, 23, 0), (22, .iconst 0, 23, 0, 0), (23, .ireturn, 24, 0, 0)]
theorem tk_X9_isLikeFixed : fw_tok mm_X9_isLikeFixed tb_X9_isLikeFixed := by unfold fw_tok; decide +kernel
abbrev mm_X9_waits : fw_M := (yX9_waits, cX9_waits, 1, (some .boolean), [])
def tb_X9_waits : List fw_R := [(0, .aload_n 0, 1, 0, 0), (1, .getfield 39, 4, 0, 0), (4, .bipush 115, 6, 0, 115), (6, .if_icmp .ne 15, 9, 21, 0), (9, .aload_n 0, 10, 0, 0), (10, .getfield 18, 13, 0, 0), (13, .iconst (-1), 14, 0, (-1)), (14, .if_icmp .ne 7, 17, 21, 0), (17, .iconst 1, 18, 0, 1), (18, .goto 4, 21, 22, 0), (21, .iconst 0, 22, 0, 0), (22, .ireturn, 23, 0, 0)]
theorem tk_X9_waits : fw_tok mm_X9_waits tb_X9_waits := by unfold fw_tok; decide +kernel
abbrev mm_X9_counts : fw_M := (yX9_counts, cX9_counts, 1, (some .boolean), [])
def tb_X9_counts : List fw_R := [(0, .aload_n 0, 1, 0, 0), (1, .getfield 74, 4, 0, 0), (4, .ifCond .ne 14, 7, 18, 0), (7, .aload_n 0, 8, 0, 0), (8, .invokevirtual 77, 11, 0, 0), (11, .ifCond .ne 7, 14, 18, 0), (14, .iconst 1, 15, 0, 1), (15, .goto 4, 18, 19, 0), (18, .iconst 0, 19, 0, 0), (19, .ireturn, 20, 0, 0)]
theorem tk_X9_counts : fw_tok mm_X9_counts tb_X9_counts := by unfold fw_tok; decide +kernel
abbrev mm_X9_ownDay : fw_M := (yX9_ownDay, cX9_ownDay, 1, (some .int), [])
def tb_X9_ownDay : List fw_R := [(0, .aload_n 0, 1, 0, 0), (1, .getfield 39, 4, 0, 0), (4, .bipush 115, 6, 0, 115), (6, .if_icmp .ne 10, 9, 16, 0), (9, .aload_n 0, 10, 0, 0), (10, .getfield 18, 13, 0, 0), (13, .goto 7, 16, 20, 0), (16, .aload_n 0, 17, 0, 0), (17, .getfield 46, 20, 0, 0), (20, .ireturn, 21, 0, 0)]
theorem tk_X9_ownDay : fw_tok mm_X9_ownDay tb_X9_ownDay := by unfold fw_tok; decide +kernel
abbrev mm_X9_needsYes : fw_M := (yX9_needsYes, cX9_needsYes, 1, (some .boolean), [])
def tb_X9_needsYes : List fw_R := [(0, .aload_n 0, 1, 0, 0), (1, .getfield 39, 4, 0, 0), (4, .bipush 108, 6, 0, 108), (6, .if_icmp .eq 20, 9, 26, 0), (9, .aload_n 0, 10, 0, 0), (10, .getfield 70, 13, 0, 0), (13, .ifnull 17, 16, 30, 0), (16, .aload_n 0, 17, 0, 0), (17, .getfield 70, 20, 0, 0), (20, .getfield 80, 23, 0, 0), (23, .ifCond .eq 7, 26, 30, 0), (26, .iconst 1, 27, 0, 1), (27, .goto 4, 30, 31, 0), (30, .iconst 0, 31, 0, 0), (31, .ireturn, 32, 0, 0)]
theorem tk_X9_needsYes : fw_tok mm_X9_needsYes tb_X9_needsYes := by unfold fw_tok; decide +kernel
abbrev mm_X9_countedDays : fw_M := (yX9_countedDays, cX9_countedDays, 1, (some .int), [])
def tb_X9_countedDays : List fw_R := [(0, .aload_n 0, 1, 0, 0), (1, .getfield 83, 4, 0, 0), (4, .aload_n 0, 5, 0, 0), (5, .getfield 86, 8, 0, 0), (8, .iconst 2, 9, 0, 2), (9, .idiv, 10, 0, 0), (10, .iadd, 11, 0, 0), (11, .ireturn, 12, 0, 0)]
theorem tk_X9_countedDays : fw_tok mm_X9_countedDays tb_X9_countedDays := by unfold fw_tok; decide +kernel
abbrev mm_X9_neededOf : fw_M := (yX9_neededOf, cX9_neededOf, 3, (some .int), [])
def tb_X9_neededOf : List fw_R := [(0, .bipush 8, 2, 0, 8), (2, .istore_n 2, 3, 2, 0), (3, .aload_n 0, 4, 0, 0), (4, .invokevirtual 63, 7, 0, 0), (7, .ifCond .eq 22, 10, 29, 0), (10, .aload_n 0, 11, 0, 0), (11, .getfield 70, 14, 0, 0), (14, .ifnonnull 7, 17, 21, 0), (17, .iconst 4, 18, 0, 4), (18, .goto 10, 21, 28, 0), (21, .aload_n 0, 22, 0, 0), (22, .getfield 70, 25, 0, 0), (25, .getfield 89, 28, 0, 0), (28, .istore_n 2, 29, 2, 0), (29, .iconst 0, 30, 0, 0), (30, .iload_n 1, 31, 1, 0), (31, .iload_n 2, 32, 2, 0), (32, .imul, 33, 0, 0), (33, .bipush 7, 35, 0, 7), (35, .iadd, 36, 0, 0), (36, .bipush 8, 38, 0, 8), (38, .idiv, 39, 0, 0), (39, .aload_n 0, 40, 0, 0), (40, .invokevirtual 92, 43, 0, 0), (43, .isub, 44, 0, 0), (44, .invokestatic 96, 47, 0, 0), (47, .ireturn, 48, 0, 0)]
theorem tk_X9_neededOf : fw_tok mm_X9_neededOf tb_X9_neededOf := by unfold fw_tok; decide +kernel
abbrev mm_X9_mostNeededOf : fw_M := (yX9_mostNeededOf, cX9_mostNeededOf, 2, (some .int), [])
def tb_X9_mostNeededOf : List fw_R := [(0, .iconst 0, 1, 0, 0), (1, .iload_n 1, 2, 1, 0), (2, .aload_n 0, 3, 0, 0), (3, .invokevirtual 92, 6, 0, 0), (6, .isub, 7, 0, 0), (7, .invokestatic 96, 10, 0, 0), (10, .ireturn, 11, 0, 0)]
theorem tk_X9_mostNeededOf : fw_tok mm_X9_mostNeededOf tb_X9_mostNeededOf := by unfold fw_tok; decide +kernel
abbrev mm_X9_keepsOn : fw_M := (yX9_keepsOn, cX9_keepsOn, 2, (some .boolean), [])
def tb_X9_keepsOn : List fw_R := [(0, .aload_n 0, 1, 0, 0), (1, .getfield 26, 4, 0, 0), (4, .iload_n 1, 5, 1, 0), (5, .if_icmp .gt 15, 8, 20, 0), (8, .iload_n 1, 9, 1, 0), (9, .aload_n 0, 10, 0, 0), (10, .getfield 29, 13, 0, 0), (13, .if_icmp .ge 7, 16, 20, 0), (16, .iconst 1, 17, 0, 1), (17, .goto 4, 20, 21, 0), (20, .iconst 0, 21, 0, 0), (21, .ireturn, 22, 0, 0)]
theorem tk_X9_keepsOn : fw_tok mm_X9_keepsOn tb_X9_keepsOn := by unfold fw_tok; decide +kernel
abbrev mm_X9_licensesOn : fw_M := (yX9_licensesOn, cX9_licensesOn, 2, (some .boolean), [])
def tb_X9_licensesOn : List fw_R := [(0, .aload_n 0, 1, 0, 0), (1, .getfield 29, 4, 0, 0), (4, .iload_n 1, 5, 1, 0), (5, .if_icmp .gt 15, 8, 20, 0), (8, .iload_n 1, 9, 1, 0), (9, .aload_n 0, 10, 0, 0), (10, .getfield 102, 13, 0, 0), (13, .if_icmp .ge 7, 16, 20, 0), (16, .iconst 1, 17, 0, 1), (17, .goto 4, 20, 21, 0), (20, .iconst 0, 21, 0, 0), (21, .ireturn, 22, 0, 0)]
theorem tk_X9_licensesOn : fw_tok mm_X9_licensesOn tb_X9_licensesOn := by unfold fw_tok; decide +kernel
abbrev mm_X9_reckon : fw_M := (yX9_reckon, cX9_reckon, 3, none, [])
def tb_X9_reckon : List fw_R := [(0, .aload_n 0, 1, 0, 0), (1, .aload_n 0, 2, 0, 0), (2, .invokevirtual 105, 5, 0, 0), (5, .putfield 26, 8, 0, 0), (8, .aload_n 0, 9, 0, 0), (9, .iconst 0, 10, 0, 0), (10, .putfield 108, 13, 0, 0), (13, .aload_n 0, 14, 0, 0), (14, .ldc 25, 16, 0, 0), (16, .putfield 29, 19, 0, 0), (19, .aload_n 0, 20, 0, 0), (20, .iconst 0, 21, 0, 0), (21, .putfield 102, 24, 0, 0), (24, .aload_n 0, 25, 0, 0), (25, .getfield 26, 28, 0, 0), (28, .ldc 25, 30, 0, 0), (30, .if_icmp .ne 4, 33, 34, 0), (33, .return_, 34, 0, 0), (34, .aload_n 0, 35, 0, 0), (35, .getfield 53, 38, 0, 0), (38, .aload_n 0, 39, 0, 0), (39, .getfield 26, 42, 0, 0), (42, .invokevirtual 111, 45, 0, 0), (45, .istore_n 1, 46, 1, 0), (46, .aload_n 0, 47, 0, 0), (47, .aload_n 0, 48, 0, 0), (48, .iload_n 1, 49, 1, 0), (49, .invokevirtual 117, 52, 0, 0), (52, .putfield 108, 55, 0, 0), (55, .aload_n 0, 56, 0, 0), (56, .aload_n 0, 57, 0, 0), (57, .aload_n 0, 58, 0, 0), (58, .getfield 108, 61, 0, 0), (61, .invokevirtual 120, 64, 0, 0), (64, .putfield 29, 67, 0, 0), (67, .aload_n 0, 68, 0, 0), (68, .getfield 35, 71, 0, 0), (71, .getfield 123, 74, 0, 0), (74, .astore_n 2, 75, 2, 0), (75, .aload_n 2, 76, 2, 0), (76, .ifnull 62, 79, 138, 0), (79, .aload_n 0, 80, 0, 0), (80, .invokevirtual 63, 83, 0, 0), (83, .ifCond .eq 47, 86, 130, 0), (86, .aload_n 0, 87, 0, 0), (87, .aload_n 2, 88, 2, 0), (88, .getfield 129, 91, 0, 0), (91, .invokevirtual 134, 94, 0, 0), (94, .ifCond .eq 36, 97, 130, 0), (97, .aload_n 0, 98, 0, 0), (98, .aload_n 0, 99, 0, 0), (99, .getfield 108, 102, 0, 0), (102, .aload_n 2, 103, 2, 0), (103, .getfield 138, 106, 0, 0), (106, .iadd, 107, 0, 0), (107, .aload_n 0, 108, 0, 0), (108, .iload_n 1, 109, 1, 0), (109, .invokevirtual 141, 112, 0, 0), (112, .invokestatic 144, 115, 0, 0), (115, .putfield 108, 118, 0, 0), (118, .aload_n 0, 119, 0, 0), (119, .aload_n 0, 120, 0, 0), (120, .aload_n 0, 121, 0, 0), (121, .getfield 108, 124, 0, 0), (124, .invokevirtual 120, 127, 0, 0), (127, .putfield 29, 130, 0, 0), (130, .aload_n 2, 131, 2, 0), (131, .getfield 147, 134, 0, 0), (134, .astore_n 2, 135, 2, 0), (135, .goto (-60), 138, 75, 0), (138, .aload_n 0, 139, 0, 0), (139, .aload_n 0, 140, 0, 0), (140, .iload_n 1, 141, 1, 0), (141, .invokevirtual 150, 144, 0, 0), (144, .putfield 102, 147, 0, 0), (147, .return_, 148, 0, 0)]
theorem tk_X9_reckon : fw_tok mm_X9_reckon tb_X9_reckon := by unfold fw_tok; decide +kernel
abbrev mm_X9_reckonBegin : fw_M := (yX9_reckonBegin, cX9_reckonBegin, 1, (some .int), [])
def tb_X9_reckonBegin : List fw_R := [(0, .aload_n 0, 1, 0, 0), (1, .invokevirtual 153, 4, 0, 0), (4, .ifCond .ne 6, 7, 10, 0), (7, .ldc 25, 9, 0, 0), (9, .ireturn, 10, 0, 0), (10, .aload_n 0, 11, 0, 0), (11, .getfield 49, 14, 0, 0), (14, .ifnull 13, 17, 27, 0), (17, .aload_n 0, 18, 0, 0), (18, .getfield 49, 21, 0, 0), (21, .invokevirtual 153, 24, 0, 0), (24, .ifCond .ne 8, 27, 32, 0), (27, .aload_n 0, 28, 0, 0), (28, .invokevirtual 156, 31, 0, 0), (31, .ireturn, 32, 0, 0), (32, .aload_n 0, 33, 0, 0), (33, .invokevirtual 156, 36, 0, 0), (36, .aload_n 0, 37, 0, 0), (37, .getfield 49, 40, 0, 0), (40, .getfield 29, 43, 0, 0), (43, .invokestatic 96, 46, 0, 0), (46, .ireturn, 47, 0, 0)]
theorem tk_X9_reckonBegin : fw_tok mm_X9_reckonBegin tb_X9_reckonBegin := by unfold fw_tok; decide +kernel
abbrev mm_X9_releaseAfter : fw_M := (yX9_releaseAfter, cX9_releaseAfter, 3, (some .int), [])
def tb_X9_releaseAfter : List fw_R := [(0, .aload_n 0, 1, 0, 0), (1, .getfield 35, 4, 0, 0), (4, .getfield 159, 7, 0, 0), (7, .aload_n 0, 8, 0, 0), (8, .getfield 26, 11, 0, 0), (11, .iload_n 1, 12, 1, 0), (12, .invokevirtual 163, 15, 0, 0), (15, .istore_n 2, 16, 2, 0), (16, .aload_n 0, 17, 0, 0), (17, .invokevirtual 168, 20, 0, 0), (20, .ifCond .eq 25, 23, 45, 0), (23, .aload_n 0, 24, 0, 0), (24, .getfield 22, 27, 0, 0), (27, .iconst (-1), 28, 0, (-1)), (28, .if_icmp .ne 8, 31, 36, 0), (31, .ldc 25, 33, 0, 0), (33, .goto 11, 36, 44, 0), (36, .iload_n 2, 37, 2, 0), (37, .aload_n 0, 38, 0, 0), (38, .getfield 22, 41, 0, 0), (41, .invokestatic 96, 44, 0, 0), (44, .istore_n 2, 45, 2, 0), (45, .iload_n 2, 46, 2, 0), (46, .sipush 19999, 49, 0, 19999), (49, .if_icmp .le 8, 52, 57, 0), (52, .ldc 25, 54, 0, 0), (54, .goto 4, 57, 58, 0), (57, .iload_n 2, 58, 2, 0), (58, .ireturn, 59, 0, 0)]
theorem tk_X9_releaseAfter : fw_tok mm_X9_releaseAfter tb_X9_releaseAfter := by unfold fw_tok; decide +kernel
abbrev mm_X9_endAfter : fw_M := (yX9_endAfter, cX9_endAfter, 2, (some .int), [])
def tb_X9_endAfter : List fw_R := [(0, .aload_n 0, 1, 0, 0), (1, .getfield 29, 4, 0, 0), (4, .ldc 25, 6, 0, 0), (6, .if_icmp .eq 12, 9, 18, 0), (9, .aload_n 0, 10, 0, 0), (10, .getfield 39, 13, 0, 0), (13, .bipush 100, 15, 0, 100), (15, .if_icmp .ne 5, 18, 20, 0), (18, .iconst 0, 19, 0, 0), (19, .ireturn, 20, 0, 0), (20, .aload_n 0, 21, 0, 0), (21, .getfield 39, 24, 0, 0), (24, .bipush 108, 26, 0, 108), (26, .if_icmp .ne 6, 29, 32, 0), (29, .ldc 25, 31, 0, 0), (31, .ireturn, 32, 0, 0), (32, .aload_n 0, 33, 0, 0), (33, .getfield 26, 36, 0, 0), (36, .iload_n 1, 37, 1, 0), (37, .iadd, 38, 0, 0), (38, .aload_n 0, 39, 0, 0), (39, .invokevirtual 92, 42, 0, 0), (42, .isub, 43, 0, 0), (43, .aload_n 0, 44, 0, 0), (44, .getfield 35, 47, 0, 0), (47, .getfield 159, 50, 0, 0), (50, .aload_n 0, 51, 0, 0), (51, .getfield 26, 54, 0, 0), (54, .aload_n 0, 55, 0, 0), (55, .getfield 29, 58, 0, 0), (58, .invokevirtual 171, 61, 0, 0), (61, .iadd, 62, 0, 0), (62, .ireturn, 63, 0, 0)]
theorem tk_X9_endAfter : fw_tok mm_X9_endAfter tb_X9_endAfter := by unfold fw_tok; decide +kernel
abbrev mm_X10_init : fw_M := (yX10_init, cX10_init, 1, none, [])
def tb_X10_init : List fw_R := [(0, .aload_n 0, 1, 0, 0), (1, .invokespecial 3, 4, 0, 0), (4, .aload_n 0, 5, 0, 0), (5, .bipush 8, 7, 0, 8), (7, .anewarray 9, 10, 0, 0), (10, .putfield 11, 13, 0, 0), (13, .aload_n 0, 14, 0, 0), (14, .bipush 6, 16, 0, 6), (16, .anewarray 15, 19, 0, 0), (19, .putfield 17, 22, 0, 0), (22, .aload_n 0, 23, 0, 0), (23, .bipush 24, 25, 0, 24), (25, .anewarray 21, 28, 0, 0), (28, .putfield 23, 31, 0, 0), (31, .aload_n 0, 32, 0, 0), (32, .bipush 30, 34, 0, 30), (34, .anewarray 27, 37, 0, 0), (37, .putfield 29, 40, 0, 0), (40, .aload_n 0, 41, 0, 0), (41, .new 33, 44, 0, 0), (44, .dup, 45, 0, 0), (45, .invokespecial 35, 48, 0, 0), (48, .putfield 36, 51, 0, 0), (51, .return_, 52, 0, 0)]
theorem tk_X10_init : fw_tok mm_X10_init tb_X10_init := by unfold fw_tok; decide +kernel
abbrev mm_X10_dayOf : fw_M := (yX10_dayOf, cX10_dayOf, 5, (some .int), [])
def tb_X10_dayOf : List fw_R := [(0, .iload_n 1, 1, 1, 0), (1, .sipush 2000, 4, 0, 2000), (4, .if_icmp .lt 10, 7, 14, 0), (7, .iload_n 1, 8, 1, 0), (8, .sipush 2054, 11, 0, 2054), (11, .if_icmp .le 13, 14, 24, 0), (14, .new 42, 17, 0, 0), (17, .dup, 18, 0, 0), (18, .ldc 44, 20, 0, 0), (20, .invokespecial 46, 23, 0, 0), (23, .athrow, 24, 0, 0), (24, .iload_n 3, 25, 3, 0), (25, .iconst 1, 26, 0, 1), (26, .if_icmp .lt 15, 29, 41, 0), (29, .iload_n 3, 30, 3, 0), (30, .iload_n 1, 31, 1, 0), (31, .invokestatic 49, 34, 0, 0), (34, .iload_n 2, 35, 2, 0), (35, .invokestatic 53, 38, 0, 0), (38, .if_icmp .le 13, 41, 51, 0), (41, .new 42, 44, 0, 0), (44, .dup, 45, 0, 0), (45, .ldc 57, 47, 0, 0), (47, .invokespecial 46, 50, 0, 0), (50, .athrow, 51, 0, 0), (51, .iload_n 1, 52, 1, 0), (52, .iload_n 2, 53, 2, 0), (53, .iload_n 3, 54, 3, 0), (54, .invokestatic 59, 57, 0, 0), (57, .istore 4, 59, 4, 0), (59, .iload 4, 61, 4, 0), (61, .invokestatic 63, 64, 0, 0), (64, .iload 4, 66, 4, 0), (66, .ireturn, 67, 0, 0)]
theorem tk_X10_dayOf : fw_tok mm_X10_dayOf tb_X10_dayOf := by unfold fw_tok; decide +kernel
abbrev mm_X10_dateOf : fw_M := (yX10_dateOf, cX10_dateOf, 2, (some .int), [])
def tb_X10_dateOf : List fw_R := [(0, .iload_n 1, 1, 1, 0), (1, .invokestatic 63, 4, 0, 0), (4, .iload_n 1, 5, 1, 0), (5, .invokestatic 67, 8, 0, 0), (8, .ireturn, 9, 0, 0)]
theorem tk_X10_dateOf : fw_tok mm_X10_dateOf tb_X10_dateOf := by unfold fw_tok; decide +kernel
abbrev mm_X10_length : fw_M := (yX10_length, cX10_length, 5, (some .int), [])
def tb_X10_length : List fw_R := [(0, .iload_n 1, 1, 1, 0), (1, .invokestatic 63, 4, 0, 0), (4, .iload_n 2, 5, 2, 0), (5, .iload_n 3, 6, 3, 0), (6, .iload 4, 8, 4, 0), (8, .invokestatic 71, 11, 0, 0), (11, .new 75, 14, 0, 0), (14, .dup, 15, 0, 0), (15, .iload_n 2, 16, 2, 0), (16, .iload_n 3, 17, 3, 0), (17, .iload 4, 19, 4, 0), (19, .invokespecial 77, 22, 0, 0), (22, .iload_n 1, 23, 1, 0), (23, .invokevirtual 79, 26, 0, 0), (26, .ireturn, 27, 0, 0)]
theorem tk_X10_length : fw_tok mm_X10_length tb_X10_length := by unfold fw_tok; decide +kernel
abbrev mm_X10_law : fw_M := (yX10_law, cX10_law, 10, (some .int), [])
def tb_X10_law : List fw_R := [(0, .iload_n 1, 1, 1, 0), (1, .bipush 111, 3, 0, 111), (3, .if_icmp .eq 19, 6, 22, 0), (6, .iload_n 1, 7, 1, 0), (7, .bipush 112, 9, 0, 112), (9, .if_icmp .eq 13, 12, 22, 0), (12, .new 42, 15, 0, 0), (15, .dup, 16, 0, 0), (16, .ldc 82, 18, 0, 0), (18, .invokespecial 46, 21, 0, 0), (21, .athrow, 22, 0, 0), (22, .iload_n 2, 23, 2, 0), (23, .invokestatic 63, 26, 0, 0), (26, .iload_n 3, 27, 3, 0), (27, .iconst 1, 28, 0, 1), (28, .bipush 8, 30, 0, 8), (30, .invokestatic 84, 33, 0, 0), (33, .aload_n 0, 34, 0, 0), (34, .getfield 87, 37, 0, 0), (37, .aload_n 0, 38, 0, 0), (38, .getfield 11, 41, 0, 0), (41, .arraylength, 42, 0, 0), (42, .if_icmp .lt 13, 45, 55, 0), (45, .new 91, 48, 0, 0), (48, .dup, 49, 0, 0), (49, .ldc 93, 51, 0, 0), (51, .invokespecial 95, 54, 0, 0), (54, .athrow, 55, 0, 0), (55, .new 9, 58, 0, 0), (58, .dup, 59, 0, 0), (59, .aload_n 0, 60, 0, 0), (60, .getfield 87, 63, 0, 0), (63, .iload_n 1, 64, 1, 0), (64, .bipush 111, 66, 0, 111), (66, .if_icmp .ne 7, 69, 73, 0), (69, .iconst 1, 70, 0, 1), (70, .goto 4, 73, 74, 0), (73, .iconst 0, 74, 0, 0), (74, .iload_n 2, 75, 2, 0), (75, .iload_n 3, 76, 3, 0), (76, .iload 4, 78, 4, 0), (78, .invokespecial 96, 81, 0, 0), (81, .astore 5, 83, 5, 0), (83, .aload_n 0, 84, 0, 0), (84, .getfield 11, 87, 0, 0), (87, .aload_n 0, 88, 0, 0), (88, .getfield 87, 91, 0, 0), (91, .aload 5, 93, 5, 0), (93, .aastore, 94, 0, 0), (94, .aload_n 0, 95, 0, 0), (95, .dup, 96, 0, 0), (96, .getfield 87, 99, 0, 0), (99, .iconst 1, 100, 0, 1), (100, .iadd, 101, 0, 0), (101, .putfield 87, 104, 0, 0), (104, .aload_n 0, 105, 0, 0), (105, .getfield 23, 108, 0, 0), (108, .astore 6, 110, 6, 0), (110, .aload 6, 112, 6, 0), (112, .arraylength, 113, 0, 0), (113, .istore 7, 115, 7, 0), (115, .iconst 0, 116, 0, 0), (116, .istore 8, 118, 8, 0), (118, .iload 8, 120, 8, 0), (120, .iload 7, 122, 7, 0), (122, .if_icmp .ge 28, 125, 150, 0), (125, .aload 6, 127, 6, 0), (127, .iload 8, 129, 8, 0), (129, .aaload, 130, 0, 0), (130, .astore 9, 132, 9, 0), (132, .aload 9, 134, 9, 0), (134, .ifnull 10, 137, 144, 0), (137, .aload 9, 139, 9, 0), (139, .aload 5, 141, 5, 0), (141, .invokevirtual 99, 144, 0, 0), (144, .iinc 8 1, 147, 8, 1), (147, .goto (-29), 150, 118, 0), (150, .aload 5, 152, 5, 0), (152, .getfield 103, 155, 0, 0), (155, .ireturn, 156, 0, 0)]
theorem tk_X10_law : fw_tok mm_X10_law tb_X10_law := by unfold fw_tok; decide +kernel
abbrev mm_X10_lawOf : fw_M := (yX10_lawOf, cX10_lawOf, 3, (some .int), [])
def tb_X10_lawOf : List fw_R := [(0, .aload_n 0, 1, 0, 0), (1, .iload_n 1, 2, 1, 0), (2, .invokevirtual 106, 5, 0, 0), (5, .astore_n 2, 6, 2, 0), (6, .aload_n 2, 7, 2, 0), (7, .invokevirtual 110, 10, 0, 0), (10, .ifCond .ne 13, 13, 23, 0), (13, .new 114, 16, 0, 0), (16, .dup, 17, 0, 0), (17, .ldc 116, 19, 0, 0), (19, .invokespecial 118, 22, 0, 0), (22, .athrow, 23, 0, 0), (23, .aload_n 2, 24, 2, 0), (24, .getfield 119, 27, 0, 0), (27, .ifnonnull 13, 30, 40, 0), (30, .new 123, 33, 0, 0), (33, .dup, 34, 0, 0), (34, .ldc 125, 36, 0, 0), (36, .invokespecial 127, 39, 0, 0), (39, .athrow, 40, 0, 0), (40, .aload_n 2, 41, 2, 0), (41, .getfield 119, 44, 0, 0), (44, .getfield 103, 47, 0, 0), (47, .ireturn, 48, 0, 0)]
theorem tk_X10_lawOf : fw_tok mm_X10_lawOf tb_X10_lawOf := by unfold fw_tok; decide +kernel
abbrev mm_X10_person : fw_M := (yX10_person, cX10_person, 1, (some .int), [])
def tb_X10_person : List fw_R := [(0, .aload_n 0, 1, 0, 0), (1, .getfield 128, 4, 0, 0), (4, .aload_n 0, 5, 0, 0), (5, .getfield 17, 8, 0, 0), (8, .arraylength, 9, 0, 0), (9, .if_icmp .lt 13, 12, 22, 0), (12, .new 91, 15, 0, 0), (15, .dup, 16, 0, 0), (16, .ldc 131, 18, 0, 0), (18, .invokespecial 95, 21, 0, 0), (21, .athrow, 22, 0, 0), (22, .aload_n 0, 23, 0, 0), (23, .getfield 17, 26, 0, 0), (26, .aload_n 0, 27, 0, 0), (27, .getfield 128, 30, 0, 0), (30, .new 15, 33, 0, 0), (33, .dup, 34, 0, 0), (34, .invokespecial 133, 37, 0, 0), (37, .aastore, 38, 0, 0), (38, .aload_n 0, 39, 0, 0), (39, .dup, 40, 0, 0), (40, .getfield 128, 43, 0, 0), (43, .iconst 1, 44, 0, 1), (44, .iadd, 45, 0, 0), (45, .putfield 128, 48, 0, 0), (48, .aload_n 0, 49, 0, 0), (49, .getfield 128, 52, 0, 0), (52, .iconst 1, 53, 0, 1), (53, .isub, 54, 0, 0), (54, .ireturn, 55, 0, 0)]
theorem tk_X10_person : fw_tok mm_X10_person tb_X10_person := by unfold fw_tok; decide +kernel
abbrev mm_X10_warrant : fw_M := (yX10_warrant, cX10_warrant, 17, (some .int), [])
def tb_X10_warrant : List fw_R := [(0, .aload_n 0, 1, 0, 0), (1, .iload_n 1, 2, 1, 0), (2, .invokevirtual 134, 5, 0, 0), (5, .astore 9, 7, 9, 0), (7, .iload 8, 9, 8, 0), (9, .iconst (-1), 10, 0, (-1)), (10, .if_icmp .ne 7, 13, 17, 0), (13, .aconst_null, 14, 0, 0), (14, .goto 9, 17, 23, 0), (17, .aload_n 0, 18, 0, 0), (18, .iload 8, 20, 8, 0), (20, .invokevirtual 106, 23, 0, 0), (23, .astore 10, 25, 10, 0), (25, .iload_n 2, 26, 2, 0), (26, .invokestatic 138, 29, 0, 0), (29, .iload_n 3, 30, 3, 0), (30, .invokestatic 63, 33, 0, 0), (33, .iload 4, 35, 4, 0), (35, .iload_n 3, 36, 3, 0), (36, .sipush 19999, 39, 0, 19999), (39, .invokestatic 84, 42, 0, 0), (42, .iload 5, 44, 5, 0), (44, .iload 6, 46, 6, 0), (46, .iload 7, 48, 7, 0), (48, .invokestatic 142, 51, 0, 0), (51, .aload 10, 53, 10, 0), (53, .ifnull 23, 56, 76, 0), (56, .aload 10, 58, 10, 0), (58, .getfield 145, 61, 0, 0), (61, .aload 9, 63, 9, 0), (63, .if_acmp .eq 13, 66, 76, 0), (66, .new 114, 69, 0, 0), (69, .dup, 70, 0, 0), (70, .ldc 149, 72, 0, 0), (72, .invokespecial 118, 75, 0, 0), (75, .athrow, 76, 0, 0), (76, .aload_n 0, 77, 0, 0), (77, .getfield 151, 80, 0, 0), (80, .aload_n 0, 81, 0, 0), (81, .getfield 23, 84, 0, 0), (84, .arraylength, 85, 0, 0), (85, .if_icmp .lt 13, 88, 98, 0), (88, .new 91, 91, 0, 0), (91, .dup, 92, 0, 0), (92, .ldc 154, 94, 0, 0), (94, .invokespecial 95, 97, 0, 0), (97, .athrow, 98, 0, 0), (98, .new 75, 101, 0, 0), (101, .dup, 102, 0, 0), (102, .iload 5, 104, 5, 0), (104, .iload 6, 106, 6, 0), (106, .iload 7, 108, 7, 0), (108, .invokespecial 77, 111, 0, 0), (111, .astore 11, 113, 11, 0), (113, .new 21, 116, 0, 0), (116, .dup, 117, 0, 0), (117, .aload_n 0, 118, 0, 0), (118, .getfield 151, 121, 0, 0), (121, .aload 9, 123, 9, 0), (123, .iload_n 2, 124, 2, 0), (124, .iload_n 3, 125, 3, 0), (125, .iload 4, 127, 4, 0), (127, .aload 10, 129, 10, 0), (129, .aload 11, 131, 11, 0), (131, .invokespecial 156, 134, 0, 0), (134, .astore 12, 136, 12, 0), (136, .aload_n 0, 137, 0, 0), (137, .getfield 11, 140, 0, 0), (140, .astore 13, 142, 13, 0), (142, .aload 13, 144, 13, 0), (144, .arraylength, 145, 0, 0), (145, .istore 14, 147, 14, 0), (147, .iconst 0, 148, 0, 0), (148, .istore 15, 150, 15, 0), (150, .iload 15, 152, 15, 0), (152, .iload 14, 154, 14, 0), (154, .if_icmp .ge 28, 157, 182, 0), (157, .aload 13, 159, 13, 0), (159, .iload 15, 161, 15, 0), (161, .aaload, 162, 0, 0), (162, .astore 16, 164, 16, 0), (164, .aload 16, 166, 16, 0), (166, .ifnull 10, 169, 176, 0), (169, .aload 12, 171, 12, 0), (171, .aload 16, 173, 16, 0), (173, .invokevirtual 99, 176, 0, 0), (176, .iinc 15 1, 179, 15, 1), (179, .goto (-29), 182, 150, 0), (182, .aload 9, 184, 9, 0), (184, .aload 12, 186, 12, 0), (186, .invokevirtual 159, 189, 0, 0), (189, .aload_n 0, 190, 0, 0), (190, .getfield 23, 193, 0, 0), (193, .aload_n 0, 194, 0, 0), (194, .getfield 151, 197, 0, 0), (197, .aload 12, 199, 12, 0), (199, .aastore, 200, 0, 0), (200, .aload_n 0, 201, 0, 0), (201, .dup, 202, 0, 0), (202, .getfield 151, 205, 0, 0), (205, .iconst 1, 206, 0, 1), (206, .iadd, 207, 0, 0), (207, .putfield 151, 210, 0, 0), (210, .aload 12, 212, 12, 0), (212, .getfield 163, 215, 0, 0), (215, .ireturn, 216, 0, 0)]
theorem tk_X10_warrant : fw_tok mm_X10_warrant tb_X10_warrant := by unfold fw_tok; decide +kernel
abbrev mm_X10_count : fw_M := (yX10_count, cX10_count, 5, (some .int), [])
def tb_X10_count : List fw_R := [(0, .aload_n 0, 1, 0, 0), (1, .iload_n 1, 2, 1, 0), (2, .invokevirtual 106, 5, 0, 0), (5, .astore 4, 7, 4, 0), (7, .iload_n 2, 8, 2, 0), (8, .iconst 1, 9, 0, 1), (9, .sipush 999, 12, 0, 999), (12, .invokestatic 84, 15, 0, 0), (15, .iload_n 3, 16, 3, 0), (16, .ifCond .eq 17, 19, 33, 0), (19, .aload 4, 21, 4, 0), (21, .dup, 22, 0, 0), (22, .getfield 164, 25, 0, 0), (25, .iload_n 2, 26, 2, 0), (26, .iadd, 27, 0, 0), (27, .putfield 164, 30, 0, 0), (30, .goto 14, 33, 44, 0), (33, .aload 4, 35, 4, 0), (35, .dup, 36, 0, 0), (36, .getfield 167, 39, 0, 0), (39, .iload_n 2, 40, 2, 0), (40, .iadd, 41, 0, 0), (41, .putfield 167, 44, 0, 0), (44, .aload 4, 46, 4, 0), (46, .invokevirtual 170, 49, 0, 0), (49, .ireturn, 50, 0, 0)]
theorem tk_X10_count : fw_tok mm_X10_count tb_X10_count := by unfold fw_tok; decide +kernel
abbrev mm_X10_activate : fw_M := (yX10_activate, cX10_activate, 4, (some .int), [])
def tb_X10_activate : List fw_R := [(0, .aload_n 0, 1, 0, 0), (1, .iload_n 1, 2, 1, 0), (2, .invokevirtual 106, 5, 0, 0), (5, .astore_n 3, 6, 3, 0), (6, .iload_n 2, 7, 2, 0), (7, .aload_n 3, 8, 3, 0), (8, .getfield 174, 11, 0, 0), (11, .sipush 19999, 14, 0, 19999), (14, .invokestatic 84, 17, 0, 0), (17, .aload_n 3, 18, 3, 0), (18, .invokevirtual 177, 21, 0, 0), (21, .ifCond .ne 13, 24, 34, 0), (24, .new 114, 27, 0, 0), (27, .dup, 28, 0, 0), (28, .ldc 180, 30, 0, 0), (30, .invokespecial 118, 33, 0, 0), (33, .athrow, 34, 0, 0), (34, .aload_n 3, 35, 3, 0), (35, .iload_n 2, 36, 2, 0), (36, .putfield 182, 39, 0, 0), (39, .aload_n 3, 40, 3, 0), (40, .getfield 145, 43, 0, 0), (43, .invokevirtual 185, 46, 0, 0), (46, .ireturn, 47, 0, 0)]
theorem tk_X10_activate : fw_tok mm_X10_activate tb_X10_activate := by unfold fw_tok; decide +kernel
abbrev mm_X10_vary : fw_M := (yX10_vary, cX10_vary, 6, (some .int), [])
def tb_X10_vary : List fw_R := [(0, .aload_n 0, 1, 0, 0), (1, .iload_n 1, 2, 1, 0), (2, .invokevirtual 106, 5, 0, 0), (5, .astore 5, 7, 5, 0), (7, .iload_n 2, 8, 2, 0), (8, .iload_n 3, 9, 3, 0), (9, .iload 4, 11, 4, 0), (11, .invokestatic 142, 14, 0, 0), (14, .aload 5, 16, 5, 0), (16, .new 75, 19, 0, 0), (19, .dup, 20, 0, 0), (20, .iload_n 2, 21, 2, 0), (21, .iload_n 3, 22, 3, 0), (22, .iload 4, 24, 4, 0), (24, .invokespecial 77, 27, 0, 0), (27, .putfield 188, 30, 0, 0), (30, .aload 5, 32, 5, 0), (32, .getfield 188, 35, 0, 0), (35, .aload 5, 37, 5, 0), (37, .getfield 174, 40, 0, 0), (40, .invokevirtual 79, 43, 0, 0), (43, .ireturn, 44, 0, 0)]
theorem tk_X10_vary : fw_tok mm_X10_vary tb_X10_vary := by unfold fw_tok; decide +kernel
abbrev mm_X10_quash : fw_M := (yX10_quash, cX10_quash, 4, (some .boolean), [])
def tb_X10_quash : List fw_R := [(0, .aload_n 0, 1, 0, 0), (1, .iload_n 1, 2, 1, 0), (2, .invokevirtual 106, 5, 0, 0), (5, .astore_n 2, 6, 2, 0), (6, .aload_n 2, 7, 2, 0), (7, .getfield 192, 10, 0, 0), (10, .ifCond .ne 7, 13, 17, 0), (13, .iconst 1, 14, 0, 1), (14, .goto 4, 17, 18, 0), (17, .iconst 0, 18, 0, 0), (18, .istore_n 3, 19, 3, 0), (19, .aload_n 2, 20, 2, 0), (20, .iconst 1, 21, 0, 1), (21, .putfield 192, 24, 0, 0), (24, .iload_n 3, 25, 3, 0), (25, .ireturn, 26, 0, 0)]
theorem tk_X10_quash : fw_tok mm_X10_quash tb_X10_quash := by unfold fw_tok; decide +kernel
abbrev mm_X10_approve : fw_M := (yX10_approve, cX10_approve, 5, (some .int), [])
def tb_X10_approve : List fw_R := [(0, .aload_n 0, 1, 0, 0), (1, .iload_n 1, 2, 1, 0), (2, .invokevirtual 106, 5, 0, 0), (5, .astore_n 3, 6, 3, 0), (6, .iload_n 2, 7, 2, 0), (7, .invokestatic 63, 10, 0, 0), (10, .aload_n 3, 11, 3, 0), (11, .getfield 196, 14, 0, 0), (14, .istore 4, 16, 4, 0), (16, .aload_n 3, 17, 3, 0), (17, .iload_n 2, 18, 2, 0), (18, .putfield 196, 21, 0, 0), (21, .iload 4, 23, 4, 0), (23, .ireturn, 24, 0, 0)]
theorem tk_X10_approve : fw_tok mm_X10_approve tb_X10_approve := by unfold fw_tok; decide +kernel
abbrev mm_X10_add : fw_M := (yX10_add, cX10_add, 6, (some .int), [])
def tb_X10_add : List fw_R := [(0, .aload_n 0, 1, 0, 0), (1, .iload_n 1, 2, 1, 0), (2, .invokevirtual 134, 5, 0, 0), (5, .astore 4, 7, 4, 0), (7, .iload_n 2, 8, 2, 0), (8, .invokestatic 63, 11, 0, 0), (11, .iload_n 3, 12, 3, 0), (12, .iconst 1, 13, 0, 1), (13, .sipush 200, 16, 0, 200), (16, .invokestatic 84, 19, 0, 0), (19, .aload_n 0, 20, 0, 0), (20, .getfield 199, 23, 0, 0), (23, .aload_n 0, 24, 0, 0), (24, .getfield 29, 27, 0, 0), (27, .arraylength, 28, 0, 0), (28, .if_icmp .lt 13, 31, 41, 0), (31, .new 91, 34, 0, 0), (34, .dup, 35, 0, 0), (35, .ldc 202, 37, 0, 0), (37, .invokespecial 95, 40, 0, 0), (40, .athrow, 41, 0, 0), (41, .new 27, 44, 0, 0), (44, .dup, 45, 0, 0), (45, .iload_n 2, 46, 2, 0), (46, .iload_n 3, 47, 3, 0), (47, .invokespecial 204, 50, 0, 0), (50, .astore 5, 52, 5, 0), (52, .aload 4, 54, 4, 0), (54, .aload 5, 56, 5, 0), (56, .invokevirtual 207, 59, 0, 0), (59, .aload_n 0, 60, 0, 0), (60, .getfield 29, 63, 0, 0), (63, .aload_n 0, 64, 0, 0), (64, .getfield 199, 67, 0, 0), (67, .aload 5, 69, 5, 0), (69, .aastore, 70, 0, 0), (70, .aload_n 0, 71, 0, 0), (71, .dup, 72, 0, 0), (72, .getfield 199, 75, 0, 0), (75, .iconst 1, 76, 0, 1), (76, .iadd, 77, 0, 0), (77, .putfield 199, 80, 0, 0), (80, .aload_n 0, 81, 0, 0), (81, .getfield 199, 84, 0, 0), (84, .iconst 1, 85, 0, 1), (85, .isub, 86, 0, 0), (86, .ireturn, 87, 0, 0)]
theorem tk_X10_add : fw_tok mm_X10_add tb_X10_add := by unfold fw_tok; decide +kernel
abbrev mm_X10_giveBack : fw_M := (yX10_giveBack, cX10_giveBack, 4, (some .int), [])
def tb_X10_giveBack : List fw_R := [(0, .aload_n 0, 1, 0, 0), (1, .iload_n 1, 2, 1, 0), (2, .invokevirtual 211, 5, 0, 0), (5, .astore_n 3, 6, 3, 0), (6, .iload_n 2, 7, 2, 0), (7, .iconst 1, 8, 0, 1), (8, .aload_n 3, 9, 3, 0), (9, .getfield 215, 12, 0, 0), (12, .invokestatic 84, 15, 0, 0), (15, .aload_n 3, 16, 3, 0), (16, .dup, 17, 0, 0), (17, .getfield 215, 20, 0, 0), (20, .iload_n 2, 21, 2, 0), (21, .isub, 22, 0, 0), (22, .putfield 215, 25, 0, 0), (25, .aload_n 3, 26, 3, 0), (26, .getfield 215, 29, 0, 0), (29, .ireturn, 30, 0, 0)]
theorem tk_X10_giveBack : fw_tok mm_X10_giveBack tb_X10_giveBack := by unfold fw_tok; decide +kernel
abbrev mm_X10_atLarge : fw_M := (yX10_atLarge, cX10_atLarge, 5, (some .int), [])
def tb_X10_atLarge : List fw_R := [(0, .aload_n 0, 1, 0, 0), (1, .iload_n 1, 2, 1, 0), (2, .invokevirtual 134, 5, 0, 0), (5, .astore 4, 7, 4, 0), (7, .iload_n 2, 8, 2, 0), (8, .iload_n 3, 9, 3, 0), (9, .invokestatic 218, 12, 0, 0), (12, .aload 4, 14, 4, 0), (14, .getfield 221, 17, 0, 0), (17, .iload_n 2, 18, 2, 0), (18, .iload_n 3, 19, 3, 0), (19, .invokevirtual 224, 22, 0, 0), (22, .aload 4, 24, 4, 0), (24, .getfield 221, 27, 0, 0), (27, .iconst 0, 28, 0, 0), (28, .sipush 20000, 31, 0, 20000), (31, .invokevirtual 227, 34, 0, 0), (34, .ireturn, 35, 0, 0)]
theorem tk_X10_atLarge : fw_tok mm_X10_atLarge tb_X10_atLarge := by unfold fw_tok; decide +kernel
abbrev mm_X10_recall : fw_M := (yX10_recall, cX10_recall, 5, (some .int), [])
def tb_X10_recall : List fw_R := [(0, .aload_n 0, 1, 0, 0), (1, .iload_n 1, 2, 1, 0), (2, .invokevirtual 134, 5, 0, 0), (5, .astore 4, 7, 4, 0), (7, .iload_n 2, 8, 2, 0), (8, .invokestatic 63, 11, 0, 0), (11, .iload_n 3, 12, 3, 0), (12, .bipush 102, 14, 0, 102), (14, .if_icmp .eq 19, 17, 33, 0), (17, .iload_n 3, 18, 3, 0), (18, .bipush 115, 20, 0, 115), (20, .if_icmp .eq 13, 23, 33, 0), (23, .new 42, 26, 0, 0), (26, .dup, 27, 0, 0), (27, .ldc 231, 29, 0, 0), (29, .invokespecial 46, 32, 0, 0), (32, .athrow, 33, 0, 0), (33, .aload 4, 35, 4, 0), (35, .invokevirtual 233, 38, 0, 0), (38, .aload 4, 40, 4, 0), (40, .iload_n 2, 41, 2, 0), (41, .invokevirtual 236, 44, 0, 0), (44, .bipush 108, 46, 0, 108), (46, .if_icmp .eq 13, 49, 59, 0), (49, .new 114, 52, 0, 0), (52, .dup, 53, 0, 0), (53, .ldc 240, 55, 0, 0), (55, .invokespecial 118, 58, 0, 0), (58, .athrow, 59, 0, 0), (59, .aload_n 0, 60, 0, 0), (60, .getfield 242, 63, 0, 0), (63, .bipush 20, 65, 0, 20), (65, .if_icmp .lt 13, 68, 78, 0), (68, .new 91, 71, 0, 0), (71, .dup, 72, 0, 0), (72, .ldc 245, 74, 0, 0), (74, .invokespecial 95, 77, 0, 0), (77, .athrow, 78, 0, 0), (78, .aload_n 0, 79, 0, 0), (79, .dup, 80, 0, 0), (80, .getfield 242, 83, 0, 0), (83, .iconst 1, 84, 0, 1), (84, .iadd, 85, 0, 0), (85, .putfield 242, 88, 0, 0), (88, .aload 4, 90, 4, 0), (90, .new 247, 93, 0, 0), (93, .dup, 94, 0, 0), (94, .aload 4, 96, 4, 0), (96, .iload_n 2, 97, 2, 0), (97, .iload_n 3, 98, 3, 0), (98, .bipush 102, 100, 0, 102), (100, .if_icmp .ne 7, 103, 107, 0), (103, .iconst 1, 104, 0, 1), (104, .goto 4, 107, 108, 0), (107, .iconst 0, 108, 0, 0), (108, .aload_n 0, 109, 0, 0), (109, .getfield 151, 112, 0, 0), (112, .invokespecial 249, 115, 0, 0), (115, .invokevirtual 252, 118, 0, 0), (118, .ireturn, 119, 0, 0)]
theorem tk_X10_recall : fw_tok mm_X10_recall tb_X10_recall := by unfold fw_tok; decide +kernel
abbrev mm_X10_letGo : fw_M := (yX10_letGo, cX10_letGo, 5, (some .int), [])
def tb_X10_letGo : List fw_R := [(0, .aload_n 0, 1, 0, 0), (1, .iload_n 1, 2, 1, 0), (2, .invokevirtual 134, 5, 0, 0), (5, .astore_n 3, 6, 3, 0), (6, .iload_n 2, 7, 2, 0), (7, .invokestatic 63, 10, 0, 0), (10, .aload_n 3, 11, 3, 0), (11, .invokevirtual 233, 14, 0, 0), (14, .aload_n 3, 15, 3, 0), (15, .iload_n 2, 16, 2, 0), (16, .invokevirtual 256, 19, 0, 0), (19, .astore 4, 21, 4, 0), (21, .aload 4, 23, 4, 0), (23, .ifnonnull 14, 26, 37, 0), (26, .new 114, 29, 0, 0), (29, .dup, 30, 0, 0), (30, .ldc_w 260, 33, 0, 0), (33, .invokespecial 118, 36, 0, 0), (36, .athrow, 37, 0, 0), (37, .aload 4, 39, 4, 0), (39, .iload_n 2, 40, 2, 0), (40, .putfield 262, 43, 0, 0), (43, .aload 4, 45, 4, 0), (45, .getfield 265, 48, 0, 0), (48, .ireturn, 49, 0, 0)]
theorem tk_X10_letGo : fw_tok mm_X10_letGo tb_X10_letGo := by unfold fw_tok; decide +kernel
abbrev mm_X10_begins : fw_M := (yX10_begins, cX10_begins, 2, (some .int), [])
def tb_X10_begins : List fw_R := [(0, .aload_n 0, 1, 0, 0), (1, .iload_n 1, 2, 1, 0), (2, .invokevirtual 268, 5, 0, 0), (5, .getfield 271, 8, 0, 0), (8, .ireturn, 9, 0, 0)]
theorem tk_X10_begins : fw_tok mm_X10_begins tb_X10_begins := by unfold fw_tok; decide +kernel
abbrev mm_X10_needed : fw_M := (yX10_needed, cX10_needed, 2, (some .int), [])
def tb_X10_needed : List fw_R := [(0, .aload_n 0, 1, 0, 0), (1, .iload_n 1, 2, 1, 0), (2, .invokevirtual 268, 5, 0, 0), (5, .getfield 274, 8, 0, 0), (8, .ireturn, 9, 0, 0)]
theorem tk_X10_needed : fw_tok mm_X10_needed tb_X10_needed := by unfold fw_tok; decide +kernel
abbrev mm_X10_release : fw_M := (yX10_release, cX10_release, 3, (some .int), [])
def tb_X10_release : List fw_R := [(0, .aload_n 0, 1, 0, 0), (1, .iload_n 1, 2, 1, 0), (2, .invokevirtual 268, 5, 0, 0), (5, .astore_n 2, 6, 2, 0), (6, .aload_n 2, 7, 2, 0), (7, .getfield 277, 10, 0, 0), (10, .ldc_w 280, 13, 0, 0), (13, .if_icmp .ne 14, 16, 27, 0), (16, .new 123, 19, 0, 0), (19, .dup, 20, 0, 0), (20, .ldc_w 281, 23, 0, 0), (23, .invokespecial 127, 26, 0, 0), (26, .athrow, 27, 0, 0), (27, .aload_n 2, 28, 2, 0), (28, .getfield 277, 31, 0, 0), (31, .ireturn, 32, 0, 0)]
theorem tk_X10_release : fw_tok mm_X10_release tb_X10_release := by unfold fw_tok; decide +kernel
abbrev mm_X10_end : fw_M := (yX10_end, cX10_end, 3, (some .int), [])
def tb_X10_end : List fw_R := [(0, .aload_n 0, 1, 0, 0), (1, .iload_n 1, 2, 1, 0), (2, .invokevirtual 268, 5, 0, 0), (5, .astore_n 2, 6, 2, 0), (6, .aload_n 2, 7, 2, 0), (7, .getfield 283, 10, 0, 0), (10, .ldc_w 280, 13, 0, 0), (13, .if_icmp .eq 14, 16, 27, 0), (16, .aload_n 2, 17, 2, 0), (17, .getfield 283, 20, 0, 0), (20, .aload_n 2, 21, 2, 0), (21, .getfield 277, 24, 0, 0), (24, .if_icmp .gt 14, 27, 38, 0), (27, .new 123, 30, 0, 0), (30, .dup, 31, 0, 0), (31, .ldc_w 286, 34, 0, 0), (34, .invokespecial 127, 37, 0, 0), (37, .athrow, 38, 0, 0), (38, .aload_n 2, 39, 2, 0), (39, .getfield 283, 42, 0, 0), (42, .ireturn, 43, 0, 0)]
theorem tk_X10_end : fw_tok mm_X10_end tb_X10_end := by unfold fw_tok; decide +kernel
abbrev mm_X10_stateOn : fw_M := (yX10_stateOn, cX10_stateOn, 4, (some .char), [])
def tb_X10_stateOn : List fw_R := [(0, .aload_n 0, 1, 0, 0), (1, .iload_n 1, 2, 1, 0), (2, .invokevirtual 134, 5, 0, 0), (5, .astore_n 3, 6, 3, 0), (6, .iload_n 2, 7, 2, 0), (7, .invokestatic 63, 10, 0, 0), (10, .aload_n 3, 11, 3, 0), (11, .invokevirtual 233, 14, 0, 0), (14, .aload_n 3, 15, 3, 0), (15, .iload_n 2, 16, 2, 0), (16, .invokevirtual 236, 19, 0, 0), (19, .ireturn, 20, 0, 0)]
theorem tk_X10_stateOn : fw_tok mm_X10_stateOn tb_X10_stateOn := by unfold fw_tok; decide +kernel
abbrev mm_X10_byClerk : fw_M := (yX10_byClerk, cX10_byClerk, 4, (some .char), [])
def tb_X10_byClerk : List fw_R := [(0, .aload_n 0, 1, 0, 0), (1, .iload_n 1, 2, 1, 0), (2, .invokevirtual 134, 5, 0, 0), (5, .astore_n 3, 6, 3, 0), (6, .iload_n 2, 7, 2, 0), (7, .invokestatic 63, 10, 0, 0), (10, .aload_n 3, 11, 3, 0), (11, .iload_n 2, 12, 2, 0), (12, .invokestatic 288, 15, 0, 0), (15, .ireturn, 16, 0, 0)]
theorem tk_X10_byClerk : fw_tok mm_X10_byClerk tb_X10_byClerk := by unfold fw_tok; decide +kernel
abbrev mm_X10_keeper : fw_M := (yX10_keeper, cX10_keeper, 5, (some .int), [])
def tb_X10_keeper : List fw_R := [(0, .aload_n 0, 1, 0, 0), (1, .iload_n 1, 2, 1, 0), (2, .invokevirtual 134, 5, 0, 0), (5, .astore_n 3, 6, 3, 0), (6, .iload_n 2, 7, 2, 0), (7, .invokestatic 63, 10, 0, 0), (10, .aload_n 3, 11, 3, 0), (11, .invokevirtual 233, 14, 0, 0), (14, .aload_n 3, 15, 3, 0), (15, .iload_n 2, 16, 2, 0), (16, .invokevirtual 294, 19, 0, 0), (19, .astore 4, 21, 4, 0), (21, .aload 4, 23, 4, 0), (23, .ifnonnull 14, 26, 37, 0), (26, .new 123, 29, 0, 0), (29, .dup, 30, 0, 0), (30, .ldc_w 297, 33, 0, 0), (33, .invokespecial 127, 36, 0, 0), (36, .athrow, 37, 0, 0), (37, .aload 4, 39, 4, 0), (39, .getfield 163, 42, 0, 0), (42, .ireturn, 43, 0, 0)]
theorem tk_X10_keeper : fw_tok mm_X10_keeper tb_X10_keeper := by unfold fw_tok; decide +kernel
abbrev mm_X10_held : fw_M := (yX10_held, cX10_held, 5, (some .int), [])
def tb_X10_held : List fw_R := [(0, .aload_n 0, 1, 0, 0), (1, .iload_n 1, 2, 1, 0), (2, .invokevirtual 134, 5, 0, 0), (5, .astore 4, 7, 4, 0), (7, .iload_n 2, 8, 2, 0), (8, .iload_n 3, 9, 3, 0), (9, .invokestatic 218, 12, 0, 0), (12, .aload 4, 14, 4, 0), (14, .getfield 299, 17, 0, 0), (17, .iload_n 2, 18, 2, 0), (18, .iload_n 3, 19, 3, 0), (19, .invokevirtual 224, 22, 0, 0), (22, .aload 4, 24, 4, 0), (24, .getfield 299, 27, 0, 0), (27, .iconst 0, 28, 0, 0), (28, .sipush 20000, 31, 0, 20000), (31, .invokevirtual 227, 34, 0, 0), (34, .ireturn, 35, 0, 0)]
theorem tk_X10_held : fw_tok mm_X10_held tb_X10_held := by unfold fw_tok; decide +kernel
abbrev mm_X10_tooLong : fw_M := (yX10_tooLong, cX10_tooLong, 4, (some .int), [])
def tb_X10_tooLong : List fw_R := [(0, .aload_n 0, 1, 0, 0), (1, .iload_n 1, 2, 1, 0), (2, .invokevirtual 134, 5, 0, 0), (5, .astore_n 3, 6, 3, 0), (6, .iload_n 2, 7, 2, 0), (7, .iconst 0, 8, 0, 0), (8, .sipush 20000, 11, 0, 20000), (11, .invokestatic 84, 14, 0, 0), (14, .aload_n 3, 15, 3, 0), (15, .invokevirtual 233, 18, 0, 0), (18, .aload_n 3, 19, 3, 0), (19, .aload_n 0, 20, 0, 0), (20, .getfield 36, 23, 0, 0), (23, .invokevirtual 302, 26, 0, 0), (26, .aload_n 3, 27, 3, 0), (27, .getfield 299, 30, 0, 0), (30, .aload_n 0, 31, 0, 0), (31, .getfield 36, 34, 0, 0), (34, .iload_n 2, 35, 2, 0), (35, .invokevirtual 306, 38, 0, 0), (38, .ireturn, 39, 0, 0)]
theorem tk_X10_tooLong : fw_tok mm_X10_tooLong tb_X10_tooLong := by unfold fw_tok; decide +kernel
abbrev mm_X10_tooShort : fw_M := (yX10_tooShort, cX10_tooShort, 4, (some .int), [])
def tb_X10_tooShort : List fw_R := [(0, .aload_n 0, 1, 0, 0), (1, .iload_n 1, 2, 1, 0), (2, .invokevirtual 134, 5, 0, 0), (5, .astore_n 3, 6, 3, 0), (6, .iload_n 2, 7, 2, 0), (7, .iconst 0, 8, 0, 0), (8, .sipush 20000, 11, 0, 20000), (11, .invokestatic 84, 14, 0, 0), (14, .aload_n 3, 15, 3, 0), (15, .invokevirtual 233, 18, 0, 0), (18, .aload_n 3, 19, 3, 0), (19, .aload_n 0, 20, 0, 0), (20, .getfield 36, 23, 0, 0), (23, .invokevirtual 302, 26, 0, 0), (26, .aload_n 0, 27, 0, 0), (27, .getfield 36, 30, 0, 0), (30, .aload_n 3, 31, 3, 0), (31, .getfield 221, 34, 0, 0), (34, .invokevirtual 310, 37, 0, 0), (37, .aload_n 0, 38, 0, 0), (38, .getfield 36, 41, 0, 0), (41, .aload_n 3, 42, 3, 0), (42, .getfield 299, 45, 0, 0), (45, .iload_n 2, 46, 2, 0), (46, .invokevirtual 306, 49, 0, 0), (49, .ireturn, 50, 0, 0)]
theorem tk_X10_tooShort : fw_tok mm_X10_tooShort tb_X10_tooShort := by unfold fw_tok; decide +kernel
abbrev mm_X10_warrants : fw_M := (yX10_warrants, cX10_warrants, 1, (some .int), [])
def tb_X10_warrants : List fw_R := [(0, .aload_n 0, 1, 0, 0), (1, .getfield 151, 4, 0, 0), (4, .ireturn, 5, 0, 0)]
theorem tk_X10_warrants : fw_tok mm_X10_warrants tb_X10_warrants := by unfold fw_tok; decide +kernel
abbrev mm_X10_owed : fw_M := (yX10_owed, cX10_owed, 1, (some .long), [])
def tb_X10_owed : List fw_R := [(0, .aload_n 0, 1, 0, 0), (1, .invokevirtual 313, 4, 0, 0), (4, .aload_n 0, 5, 0, 0), (5, .invokevirtual 316, 8, 0, 0), (8, .lreturn, 9, 0, 0)]
theorem tk_X10_owed : fw_tok mm_X10_owed tb_X10_owed := by unfold fw_tok; decide +kernel
abbrev mm_X10_prisonShare : fw_M := (yX10_prisonShare, cX10_prisonShare, 7, (some .float), [])
def tb_X10_prisonShare : List fw_R := [(0, .iload_n 1, 1, 1, 0), (1, .invokestatic 63, 4, 0, 0), (4, .aload_n 0, 5, 0, 0), (5, .getfield 128, 8, 0, 0), (8, .ifCond .ne 14, 11, 22, 0), (11, .new 320, 14, 0, 0), (14, .dup, 15, 0, 0), (15, .ldc_w 322, 18, 0, 0), (18, .invokespecial 324, 21, 0, 0), (21, .athrow, 22, 0, 0), (22, .aload_n 0, 23, 0, 0), (23, .invokevirtual 313, 26, 0, 0), (26, .iconst 0, 27, 0, 0), (27, .istore_n 2, 28, 2, 0), (28, .aload_n 0, 29, 0, 0), (29, .getfield 17, 32, 0, 0), (32, .astore_n 3, 33, 3, 0), (33, .aload_n 3, 34, 3, 0), (34, .arraylength, 35, 0, 0), (35, .istore 4, 37, 4, 0), (37, .iconst 0, 38, 0, 0), (38, .istore 5, 40, 5, 0), (40, .iload 5, 42, 5, 0), (42, .iload 4, 44, 4, 0), (44, .if_icmp .ge 34, 47, 78, 0), (47, .aload_n 3, 48, 3, 0), (48, .iload 5, 50, 5, 0), (50, .aaload, 51, 0, 0), (51, .astore 6, 53, 6, 0), (53, .aload 6, 55, 6, 0), (55, .ifnull 17, 58, 72, 0), (58, .aload 6, 60, 6, 0), (60, .iload_n 1, 61, 1, 0), (61, .invokevirtual 236, 64, 0, 0), (64, .bipush 112, 66, 0, 112), (66, .if_icmp .ne 6, 69, 72, 0), (69, .iinc 2 1, 72, 2, 1), (72, .iinc 5 1, 75, 5, 1), (75, .goto (-35), 78, 40, 0), (78, .iload_n 2, 79, 2, 0), (79, .i2f, 80, 0, 0), (80, .aload_n 0, 81, 0, 0), (81, .getfield 128, 84, 0, 0), (84, .i2f, 85, 0, 0), (85, .fdiv, 86, 0, 0), (86, .freturn, 87, 0, 0)]
theorem tk_X10_prisonShare : fw_tok mm_X10_prisonShare tb_X10_prisonShare := by unfold fw_tok; decide +kernel
abbrev mm_X10_meanNeeded : fw_M := (yX10_meanNeeded, cX10_meanNeeded, 6, (some .double), [])
def tb_X10_meanNeeded : List fw_R := [(0, .aload_n 0, 1, 0, 0), (1, .invokevirtual 313, 4, 0, 0), (4, .iconst 0, 5, 0, 0), (5, .istore_n 1, 6, 1, 0), (6, .aload_n 0, 7, 0, 0), (7, .getfield 23, 10, 0, 0), (10, .astore_n 2, 11, 2, 0), (11, .aload_n 2, 12, 2, 0), (12, .arraylength, 13, 0, 0), (13, .istore_n 3, 14, 3, 0), (14, .iconst 0, 15, 0, 0), (15, .istore 4, 17, 4, 0), (17, .iload 4, 19, 4, 0), (19, .iload_n 3, 20, 3, 0), (20, .if_icmp .ge 34, 23, 54, 0), (23, .aload_n 2, 24, 2, 0), (24, .iload 4, 26, 4, 0), (26, .aaload, 27, 0, 0), (27, .astore 5, 29, 5, 0), (29, .aload 5, 31, 5, 0), (31, .ifnull 17, 34, 48, 0), (34, .aload 5, 36, 5, 0), (36, .getfield 271, 39, 0, 0), (39, .ldc_w 280, 42, 0, 0), (42, .if_icmp .eq 6, 45, 48, 0), (45, .iinc 1 1, 48, 1, 1), (48, .iinc 4 1, 51, 4, 1), (51, .goto (-34), 54, 17, 0), (54, .iload_n 1, 55, 1, 0), (55, .ifCond .ne 14, 58, 69, 0), (58, .new 320, 61, 0, 0), (61, .dup, 62, 0, 0), (62, .ldc_w 325, 65, 0, 0), (65, .invokespecial 324, 68, 0, 0), (68, .athrow, 69, 0, 0), (69, .aload_n 0, 70, 0, 0), (70, .invokevirtual 316, 73, 0, 0), (73, .l2d, 74, 0, 0), (74, .iload_n 1, 75, 1, 0), (75, .i2d, 76, 0, 0), (76, .ddiv, 77, 0, 0), (77, .dreturn, 78, 0, 0)]
theorem tk_X10_meanNeeded : fw_tok mm_X10_meanNeeded tb_X10_meanNeeded := by unfold fw_tok; decide +kernel
abbrev mm_X10_isTrue : fw_M := (yX10_isTrue, cX10_isTrue, 5, (some .boolean), [])
def tb_X10_isTrue : List fw_R := [(0, .aload_n 0, 1, 0, 0), (1, .getfield 17, 4, 0, 0), (4, .astore_n 1, 5, 1, 0), (5, .aload_n 1, 6, 1, 0), (6, .arraylength, 7, 0, 0), (7, .istore_n 2, 8, 2, 0), (8, .iconst 0, 9, 0, 0), (9, .istore_n 3, 10, 3, 0), (10, .iload_n 3, 11, 3, 0), (11, .iload_n 2, 12, 2, 0), (12, .if_icmp .ge 29, 15, 41, 0), (15, .aload_n 1, 16, 1, 0), (16, .iload_n 3, 17, 3, 0), (17, .aaload, 18, 0, 0), (18, .astore 4, 20, 4, 0), (20, .aload 4, 22, 4, 0), (22, .ifnull 13, 25, 35, 0), (25, .aload 4, 27, 4, 0), (27, .invokestatic 327, 30, 0, 0), (30, .ifCond .ne 5, 33, 35, 0), (33, .iconst 0, 34, 0, 0), (34, .ireturn, 35, 0, 0), (35, .iinc 3 1, 38, 3, 1), (38, .goto (-28), 41, 10, 0), (41, .iconst 1, 42, 0, 1), (42, .ireturn, 43, 0, 0)]
theorem tk_X10_isTrue : fw_tok mm_X10_isTrue tb_X10_isTrue := by unfold fw_tok; decide +kernel
abbrev mm_X10_knownPerson : fw_M := (yX10_knownPerson, cX10_knownPerson, 3, (some (.object "Termreckonry$Person")), [])
def tb_X10_knownPerson : List fw_R := [(0, .iload_n 1, 1, 1, 0), (1, .ifCond .lt 21, 4, 22, 0), (4, .iload_n 1, 5, 1, 0), (5, .aload_n 0, 6, 0, 0), (6, .getfield 17, 9, 0, 0), (9, .arraylength, 10, 0, 0), (10, .if_icmp .ge 12, 13, 22, 0), (13, .aload_n 0, 14, 0, 0), (14, .getfield 17, 17, 0, 0), (17, .iload_n 1, 18, 1, 0), (18, .aaload, 19, 0, 0), (19, .goto 4, 22, 23, 0), (22, .aconst_null, 23, 0, 0), (23, .astore_n 2, 24, 2, 0), (24, .aload_n 2, 25, 2, 0), (25, .ifnonnull 14, 28, 39, 0), (28, .new 331, 31, 0, 0), (31, .dup, 32, 0, 0), (32, .ldc_w 333, 35, 0, 0), (35, .invokespecial 335, 38, 0, 0), (38, .athrow, 39, 0, 0), (39, .aload_n 2, 40, 2, 0), (40, .areturn, 41, 0, 0)]
theorem tk_X10_knownPerson : fw_tok mm_X10_knownPerson tb_X10_knownPerson := by unfold fw_tok; decide +kernel
abbrev mm_X10_knownWarrant : fw_M := (yX10_knownWarrant, cX10_knownWarrant, 3, (some (.object "Termreckonry$Warrant")), [])
def tb_X10_knownWarrant : List fw_R := [(0, .iload_n 1, 1, 1, 0), (1, .ifCond .lt 21, 4, 22, 0), (4, .iload_n 1, 5, 1, 0), (5, .aload_n 0, 6, 0, 0), (6, .getfield 23, 9, 0, 0), (9, .arraylength, 10, 0, 0), (10, .if_icmp .ge 12, 13, 22, 0), (13, .aload_n 0, 14, 0, 0), (14, .getfield 23, 17, 0, 0), (17, .iload_n 1, 18, 1, 0), (18, .aaload, 19, 0, 0), (19, .goto 4, 22, 23, 0), (22, .aconst_null, 23, 0, 0), (23, .astore_n 2, 24, 2, 0), (24, .aload_n 2, 25, 2, 0), (25, .ifnonnull 14, 28, 39, 0), (28, .new 331, 31, 0, 0), (31, .dup, 32, 0, 0), (32, .ldc_w 336, 35, 0, 0), (35, .invokespecial 335, 38, 0, 0), (38, .athrow, 39, 0, 0), (39, .aload_n 2, 40, 2, 0), (40, .areturn, 41, 0, 0)]
theorem tk_X10_knownWarrant : fw_tok mm_X10_knownWarrant tb_X10_knownWarrant := by unfold fw_tok; decide +kernel
abbrev mm_X10_knownAdded : fw_M := (yX10_knownAdded, cX10_knownAdded, 3, (some (.object "Termreckonry$Added")), [])
def tb_X10_knownAdded : List fw_R := [(0, .iload_n 1, 1, 1, 0), (1, .ifCond .lt 21, 4, 22, 0), (4, .iload_n 1, 5, 1, 0), (5, .aload_n 0, 6, 0, 0), (6, .getfield 29, 9, 0, 0), (9, .arraylength, 10, 0, 0), (10, .if_icmp .ge 12, 13, 22, 0), (13, .aload_n 0, 14, 0, 0), (14, .getfield 29, 17, 0, 0), (17, .iload_n 1, 18, 1, 0), (18, .aaload, 19, 0, 0), (19, .goto 4, 22, 23, 0), (22, .aconst_null, 23, 0, 0), (23, .astore_n 2, 24, 2, 0), (24, .aload_n 2, 25, 2, 0), (25, .ifnonnull 14, 28, 39, 0), (28, .new 331, 31, 0, 0), (31, .dup, 32, 0, 0), (32, .ldc_w 338, 35, 0, 0), (35, .invokespecial 335, 38, 0, 0), (38, .athrow, 39, 0, 0), (39, .aload_n 2, 40, 2, 0), (40, .areturn, 41, 0, 0)]
theorem tk_X10_knownAdded : fw_tok mm_X10_knownAdded tb_X10_knownAdded := by unfold fw_tok; decide +kernel
abbrev mm_X10_begunWarrant : fw_M := (yX10_begunWarrant, cX10_begunWarrant, 3, (some (.object "Termreckonry$Warrant")), [])
def tb_X10_begunWarrant : List fw_R := [(0, .aload_n 0, 1, 0, 0), (1, .iload_n 1, 2, 1, 0), (2, .invokevirtual 106, 5, 0, 0), (5, .astore_n 2, 6, 2, 0), (6, .aload_n 2, 7, 2, 0), (7, .getfield 145, 10, 0, 0), (10, .invokevirtual 233, 13, 0, 0), (13, .aload_n 2, 14, 2, 0), (14, .getfield 271, 17, 0, 0), (17, .ldc_w 280, 20, 0, 0), (20, .if_icmp .ne 14, 23, 34, 0), (23, .new 123, 26, 0, 0), (26, .dup, 27, 0, 0), (27, .ldc_w 340, 30, 0, 0), (30, .invokespecial 127, 33, 0, 0), (33, .athrow, 34, 0, 0), (34, .aload_n 2, 35, 2, 0), (35, .areturn, 36, 0, 0)]
theorem tk_X10_begunWarrant : fw_tok mm_X10_begunWarrant tb_X10_begunWarrant := by unfold fw_tok; decide +kernel
abbrev mm_X10_sumNeeded : fw_M := (yX10_sumNeeded, cX10_sumNeeded, 7, (some .long), [])
def tb_X10_sumNeeded : List fw_R := [(0, .lconst 0, 1, 0, 0), (1, .lstore_n 1, 2, 1, 0), (2, .aload_n 0, 3, 0, 0), (3, .getfield 23, 6, 0, 0), (6, .astore_n 3, 7, 3, 0), (7, .aload_n 3, 8, 3, 0), (8, .arraylength, 9, 0, 0), (9, .istore 4, 11, 4, 0), (11, .iconst 0, 12, 0, 0), (12, .istore 5, 14, 5, 0), (14, .iload 5, 16, 5, 0), (16, .iload 4, 18, 4, 0), (18, .if_icmp .ge 40, 21, 58, 0), (21, .aload_n 3, 22, 3, 0), (22, .iload 5, 24, 5, 0), (24, .aaload, 25, 0, 0), (25, .astore 6, 27, 6, 0), (27, .aload 6, 29, 6, 0), (29, .ifnull 23, 32, 52, 0), (32, .aload 6, 34, 6, 0), (34, .getfield 271, 37, 0, 0), (37, .ldc_w 280, 40, 0, 0), (40, .if_icmp .eq 12, 43, 52, 0), (43, .lload_n 1, 44, 1, 0), (44, .aload 6, 46, 6, 0), (46, .getfield 274, 49, 0, 0), (49, .i2l, 50, 0, 0), (50, .ladd, 51, 0, 0), (51, .lstore_n 1, 52, 1, 0), (52, .iinc 5 1, 55, 5, 1), (55, .goto (-41), 58, 14, 0), (58, .lload_n 1, 59, 1, 0), (59, .lreturn, 60, 0, 0)]
theorem tk_X10_sumNeeded : fw_tok mm_X10_sumNeeded tb_X10_sumNeeded := by unfold fw_tok; decide +kernel
abbrev mm_X10_reckonAll : fw_M := (yX10_reckonAll, cX10_reckonAll, 5, none, [])
def tb_X10_reckonAll : List fw_R := [(0, .aload_n 0, 1, 0, 0), (1, .getfield 17, 4, 0, 0), (4, .astore_n 1, 5, 1, 0), (5, .aload_n 1, 6, 1, 0), (6, .arraylength, 7, 0, 0), (7, .istore_n 2, 8, 2, 0), (8, .iconst 0, 9, 0, 0), (9, .istore_n 3, 10, 3, 0), (10, .iload_n 3, 11, 3, 0), (11, .iload_n 2, 12, 2, 0), (12, .if_icmp .ge 24, 15, 36, 0), (15, .aload_n 1, 16, 1, 0), (16, .iload_n 3, 17, 3, 0), (17, .aaload, 18, 0, 0), (18, .astore 4, 20, 4, 0), (20, .aload 4, 22, 4, 0), (22, .ifnull 8, 25, 30, 0), (25, .aload 4, 27, 4, 0), (27, .invokevirtual 233, 30, 0, 0), (30, .iinc 3 1, 33, 3, 1), (33, .goto (-23), 36, 10, 0), (36, .return_, 37, 0, 0)]
theorem tk_X10_reckonAll : fw_tok mm_X10_reckonAll tb_X10_reckonAll := by unfold fw_tok; decide +kernel
abbrev mm_X10_requireRange : fw_M := (yX10_requireRange, cX10_requireRange, 3, none, [])
def tb_X10_requireRange : List fw_R := [(0, .iload_n 0, 1, 0, 0), (1, .iload_n 1, 2, 1, 0), (2, .if_icmp .lt 8, 5, 10, 0), (5, .iload_n 0, 6, 0, 0), (6, .iload_n 2, 7, 2, 0), (7, .if_icmp .le 14, 10, 21, 0), (10, .new 42, 13, 0, 0), (13, .dup, 14, 0, 0), (14, .ldc_w 342, 17, 0, 0), (17, .invokespecial 46, 20, 0, 0), (20, .athrow, 21, 0, 0), (21, .return_, 22, 0, 0)]
theorem tk_X10_requireRange : fw_tok mm_X10_requireRange tb_X10_requireRange := by unfold fw_tok; decide +kernel
abbrev mm_X10_requireDay : fw_M := (yX10_requireDay, cX10_requireDay, 1, none, [])
def tb_X10_requireDay : List fw_R := [(0, .iload_n 0, 1, 0, 0), (1, .iconst 0, 2, 0, 0), (2, .sipush 19999, 5, 0, 19999), (5, .invokestatic 84, 8, 0, 0), (8, .return_, 9, 0, 0)]
theorem tk_X10_requireDay : fw_tok mm_X10_requireDay tb_X10_requireDay := by unfold fw_tok; decide +kernel
abbrev mm_X10_requireSpan : fw_M := (yX10_requireSpan, cX10_requireSpan, 2, none, [])
def tb_X10_requireSpan : List fw_R := [(0, .iload_n 0, 1, 0, 0), (1, .invokestatic 63, 4, 0, 0), (4, .iload_n 1, 5, 1, 0), (5, .iload_n 0, 6, 0, 0), (6, .iconst 1, 7, 0, 1), (7, .iadd, 8, 0, 0), (8, .sipush 20000, 11, 0, 20000), (11, .invokestatic 84, 14, 0, 0), (14, .return_, 15, 0, 0)]
theorem tk_X10_requireSpan : fw_tok mm_X10_requireSpan tb_X10_requireSpan := by unfold fw_tok; decide +kernel
abbrev mm_X10_requireTerm : fw_M := (yX10_requireTerm, cX10_requireTerm, 3, none, [])
def tb_X10_requireTerm : List fw_R := [(0, .iload_n 0, 1, 0, 0), (1, .iconst 0, 2, 0, 0), (2, .bipush 40, 4, 0, 40), (4, .invokestatic 84, 7, 0, 0), (7, .iload_n 1, 8, 1, 0), (8, .iconst 0, 9, 0, 0), (9, .bipush 11, 11, 0, 11), (11, .invokestatic 84, 14, 0, 0), (14, .iload_n 2, 15, 2, 0), (15, .iconst 0, 16, 0, 0), (16, .sipush 9999, 19, 0, 9999), (19, .invokestatic 84, 22, 0, 0), (22, .return_, 23, 0, 0)]
theorem tk_X10_requireTerm : fw_tok mm_X10_requireTerm tb_X10_requireTerm := by unfold fw_tok; decide +kernel
abbrev mm_X10_requireSomeTerm : fw_M := (yX10_requireSomeTerm, cX10_requireSomeTerm, 3, none, [])
def tb_X10_requireSomeTerm : List fw_R := [(0, .iload_n 0, 1, 0, 0), (1, .iload_n 1, 2, 1, 0), (2, .iload_n 2, 3, 2, 0), (3, .invokestatic 71, 6, 0, 0), (6, .iload_n 0, 7, 0, 0), (7, .ifCond .ne 22, 10, 29, 0), (10, .iload_n 1, 11, 1, 0), (11, .ifCond .ne 18, 14, 29, 0), (14, .iload_n 2, 15, 2, 0), (15, .ifCond .ne 14, 18, 29, 0), (18, .new 42, 21, 0, 0), (21, .dup, 22, 0, 0), (22, .ldc_w 344, 25, 0, 0), (25, .invokespecial 46, 28, 0, 0), (28, .athrow, 29, 0, 0), (29, .return_, 30, 0, 0)]
theorem tk_X10_requireSomeTerm : fw_tok mm_X10_requireSomeTerm tb_X10_requireSomeTerm := by unfold fw_tok; decide +kernel
abbrev mm_X10_requireKind : fw_M := (yX10_requireKind, cX10_requireKind, 1, none, [])
def tb_X10_requireKind : List fw_R := [(0, .iload_n 0, 1, 0, 0), (1, .bipush 102, 3, 0, 102), (3, .if_icmp .eq 32, 6, 35, 0), (6, .iload_n 0, 7, 0, 0), (7, .bipush 108, 9, 0, 108), (9, .if_icmp .eq 26, 12, 35, 0), (12, .iload_n 0, 13, 0, 0), (13, .bipush 100, 15, 0, 100), (15, .if_icmp .eq 20, 18, 35, 0), (18, .iload_n 0, 19, 0, 0), (19, .bipush 115, 21, 0, 115), (21, .if_icmp .eq 14, 24, 35, 0), (24, .new 42, 27, 0, 0), (27, .dup, 28, 0, 0), (28, .ldc_w 346, 31, 0, 0), (31, .invokespecial 46, 34, 0, 0), (34, .athrow, 35, 0, 0), (35, .return_, 36, 0, 0)]
theorem tk_X10_requireKind : fw_tok mm_X10_requireKind tb_X10_requireKind := by unfold fw_tok; decide +kernel
abbrev mm_X11_init : fw_M := (yX11_init, cX11_init, 4, none, [])
def tb_X11_init : List fw_R := [(0, .aload_n 0, 1, 0, 0), (1, .invokespecial 1, 4, 0, 0), (4, .aload_n 0, 5, 0, 0), (5, .iload_n 1, 6, 1, 0), (6, .putfield 7, 9, 0, 0), (9, .aload_n 0, 10, 0, 0), (10, .iload_n 2, 11, 2, 0), (11, .putfield 13, 14, 0, 0), (14, .aload_n 0, 15, 0, 0), (15, .iload_n 3, 16, 3, 0), (16, .putfield 16, 19, 0, 0), (19, .return_, 20, 0, 0)]
theorem tk_X11_init : fw_tok mm_X11_init tb_X11_init := by unfold fw_tok; decide +kernel
abbrev mm_X12_init : fw_M := (yX12_init, cX12_init, 1, none, [])
def tb_X12_init : List fw_R := [(0, .aload_n 0, 1, 0, 0), (1, .invokespecial 3, 4, 0, 0), (4, .aload_n 0, 5, 0, 0), (5, .sipush 20000, 8, 0, 20000), (8, .putfield 9, 11, 0, 0), (11, .aload_n 0, 12, 0, 0), (12, .iconst (-1), 13, 0, (-1)), (13, .putfield 15, 16, 0, 0), (16, .return_, 17, 0, 0)]
theorem tk_X12_init : fw_tok mm_X12_init tb_X12_init := by unfold fw_tok; decide +kernel
abbrev mm_X13_init : fw_M := (yX13_init, cX13_init, 5, none, [])
def tb_X13_init : List fw_R := [(0, .aload_n 0, 1, 0, 0), (1, .invokespecial 1, 4, 0, 0), (4, .aload_n 0, 5, 0, 0), (5, .iload_n 1, 6, 1, 0), (6, .putfield 7, 9, 0, 0), (9, .aload_n 0, 10, 0, 0), (10, .iload_n 2, 11, 2, 0), (11, .putfield 13, 14, 0, 0), (14, .aload_n 0, 15, 0, 0), (15, .iload_n 3, 16, 3, 0), (16, .putfield 17, 19, 0, 0), (19, .aload_n 0, 20, 0, 0), (20, .iload 4, 22, 4, 0), (22, .putfield 20, 25, 0, 0), (25, .return_, 26, 0, 0)]
theorem tk_X13_init : fw_tok mm_X13_init tb_X13_init := by unfold fw_tok; decide +kernel
abbrev mm_X14_init : fw_M := (yX14_init, cX14_init, 1, none, [])
def tb_X14_init : List fw_R := [(0, .aload_n 0, 1, 0, 0), (1, .invokespecial 3, 4, 0, 0), (4, .aload_n 0, 5, 0, 0), (5, .sipush 20001, 8, 0, 20001), (8, .newarray .int, 10, 0, 0), (10, .putfield 9, 13, 0, 0), (13, .aload_n 0, 14, 0, 0), (14, .sipush 20000, 17, 0, 20000), (17, .newarray .boolean, 19, 0, 0), (19, .putfield 15, 22, 0, 0), (22, .aload_n 0, 23, 0, 0), (23, .sipush 20000, 26, 0, 20000), (26, .newarray .boolean, 28, 0, 0), (28, .putfield 19, 31, 0, 0), (31, .aload_n 0, 32, 0, 0), (32, .invokevirtual 22, 35, 0, 0), (35, .return_, 36, 0, 0)]
theorem tk_X14_init : fw_tok mm_X14_init tb_X14_init := by unfold fw_tok; decide +kernel
abbrev mm_X14_sums : fw_M := (yX14_sums, cX14_sums, 2, none, [])
def tb_X14_sums : List fw_R := [(0, .iconst 0, 1, 0, 0), (1, .istore_n 1, 2, 1, 0), (2, .iload_n 1, 3, 1, 0), (3, .sipush 20000, 6, 0, 20000), (6, .if_icmp .ge 38, 9, 44, 0), (9, .aload_n 0, 10, 0, 0), (10, .getfield 9, 13, 0, 0), (13, .iload_n 1, 14, 1, 0), (14, .iconst 1, 15, 0, 1), (15, .iadd, 16, 0, 0), (16, .aload_n 0, 17, 0, 0), (17, .getfield 9, 20, 0, 0), (20, .iload_n 1, 21, 1, 0), (21, .iaload, 22, 0, 0), (22, .aload_n 0, 23, 0, 0), (23, .getfield 15, 26, 0, 0), (26, .iload_n 1, 27, 1, 0), (27, .baload, 28, 0, 0), (28, .ifCond .eq 7, 31, 35, 0), (31, .iconst 0, 32, 0, 0), (32, .goto 4, 35, 36, 0), (35, .iconst 1, 36, 0, 1), (36, .iadd, 37, 0, 0), (37, .iastore, 38, 0, 0), (38, .iinc 1 1, 41, 1, 1), (41, .goto (-39), 44, 2, 0), (44, .return_, 45, 0, 0)]
theorem tk_X14_sums : fw_tok mm_X14_sums tb_X14_sums := by unfold fw_tok; decide +kernel
abbrev mm_X14_behind : fw_M := (yX14_behind, cX14_behind, 4, (some .int), [])
def tb_X14_behind : List fw_R := [(0, .iload_n 1, 1, 1, 0), (1, .istore_n 3, 2, 3, 0), (2, .iload_n 3, 3, 3, 0), (3, .sipush 20000, 6, 0, 20000), (6, .if_icmp .ge 26, 9, 32, 0), (9, .aload_n 0, 10, 0, 0), (10, .getfield 9, 13, 0, 0), (13, .iload_n 3, 14, 3, 0), (14, .iaload, 15, 0, 0), (15, .aload_n 0, 16, 0, 0), (16, .getfield 9, 19, 0, 0), (19, .iload_n 1, 20, 1, 0), (20, .iaload, 21, 0, 0), (21, .isub, 22, 0, 0), (22, .iload_n 2, 23, 2, 0), (23, .if_icmp .ge 9, 26, 32, 0), (26, .iinc 3 1, 29, 3, 1), (29, .goto (-27), 32, 2, 0), (32, .aload_n 0, 33, 0, 0), (33, .getfield 9, 36, 0, 0), (36, .iload_n 3, 37, 3, 0), (37, .iaload, 38, 0, 0), (38, .aload_n 0, 39, 0, 0), (39, .getfield 9, 42, 0, 0), (42, .iload_n 1, 43, 1, 0), (43, .iaload, 44, 0, 0), (44, .isub, 45, 0, 0), (45, .iload_n 2, 46, 2, 0), (46, .if_icmp .ge 9, 49, 55, 0), (49, .sipush 20000, 52, 0, 20000), (52, .goto 4, 55, 56, 0), (55, .iload_n 3, 56, 3, 0), (56, .ireturn, 57, 0, 0)]
theorem tk_X14_behind : fw_tok mm_X14_behind tb_X14_behind := by unfold fw_tok; decide +kernel
abbrev mm_X15_init : fw_M := (yX15_init, cX15_init, 5, none, [])
def tb_X15_init : List fw_R := [(0, .aload_n 0, 1, 0, 0), (1, .invokespecial 3, 4, 0, 0), (4, .aload_n 0, 5, 0, 0), (5, .sipush 20000, 8, 0, 20000), (8, .putfield 9, 11, 0, 0), (11, .aload_n 0, 12, 0, 0), (12, .iload_n 1, 13, 1, 0), (13, .putfield 15, 16, 0, 0), (16, .aload_n 0, 17, 0, 0), (17, .iload_n 2, 18, 2, 0), (18, .putfield 18, 21, 0, 0), (21, .aload_n 0, 22, 0, 0), (22, .iload_n 3, 23, 3, 0), (23, .putfield 21, 26, 0, 0), (26, .aload_n 0, 27, 0, 0), (27, .iload 4, 29, 4, 0), (29, .putfield 25, 32, 0, 0), (32, .return_, 33, 0, 0)]
theorem tk_X15_init : fw_tok mm_X15_init tb_X15_init := by unfold fw_tok; decide +kernel
abbrev mm_X16_init : fw_M := (yX16_init, cX16_init, 6, none, [])
def tb_X16_init : List fw_R := [(0, .aload_n 0, 1, 0, 0), (1, .invokespecial 3, 4, 0, 0), (4, .aload_n 0, 5, 0, 0), (5, .iconst (-1), 6, 0, (-1)), (6, .putfield 9, 9, 0, 0), (9, .aload_n 0, 10, 0, 0), (10, .iconst (-1), 11, 0, (-1)), (11, .putfield 15, 14, 0, 0), (14, .aload_n 0, 15, 0, 0), (15, .iload_n 1, 16, 1, 0), (16, .putfield 18, 19, 0, 0), (19, .aload_n 0, 20, 0, 0), (20, .iload_n 2, 21, 2, 0), (21, .putfield 21, 24, 0, 0), (24, .aload_n 0, 25, 0, 0), (25, .iload_n 3, 26, 3, 0), (26, .putfield 25, 29, 0, 0), (29, .aload_n 0, 30, 0, 0), (30, .iload 4, 32, 4, 0), (32, .putfield 28, 35, 0, 0), (35, .aload_n 0, 36, 0, 0), (36, .iload 5, 38, 5, 0), (38, .putfield 31, 41, 0, 0), (41, .return_, 42, 0, 0)]
theorem tk_X16_init : fw_tok mm_X16_init tb_X16_init := by unfold fw_tok; decide +kernel
abbrev mm_X16_counted : fw_M := (yX16_counted, cX16_counted, 1, (some .int), [])
def tb_X16_counted : List fw_R := [(0, .aload_n 0, 1, 0, 0), (1, .getfield 34, 4, 0, 0), (4, .aload_n 0, 5, 0, 0), (5, .getfield 37, 8, 0, 0), (8, .iconst 2, 9, 0, 2), (9, .idiv, 10, 0, 0), (10, .iadd, 11, 0, 0), (11, .ireturn, 12, 0, 0)]
theorem tk_X16_counted : fw_tok mm_X16_counted tb_X16_counted := by unfold fw_tok; decide +kernel
abbrev mm_X16_counts : fw_M := (yX16_counts, cX16_counts, 1, (some .boolean), [])
def tb_X16_counts : List fw_R := [(0, .aload_n 0, 1, 0, 0), (1, .getfield 40, 4, 0, 0), (4, .ifCond .ne 24, 7, 28, 0), (7, .aload_n 0, 8, 0, 0), (8, .getfield 21, 11, 0, 0), (11, .bipush 115, 13, 0, 115), (13, .if_icmp .ne 11, 16, 24, 0), (16, .aload_n 0, 17, 0, 0), (17, .getfield 9, 20, 0, 0), (20, .iconst (-1), 21, 0, (-1)), (21, .if_icmp .eq 7, 24, 28, 0), (24, .iconst 1, 25, 0, 1), (25, .goto 4, 28, 29, 0), (28, .iconst 0, 29, 0, 0), (29, .ireturn, 30, 0, 0)]
theorem tk_X16_counts : fw_tok mm_X16_counts tb_X16_counts := by unfold fw_tok; decide +kernel
abbrev mm_X16_isFixed : fw_M := (yX16_isFixed, cX16_isFixed, 1, (some .boolean), [])
def tb_X16_isFixed : List fw_R := [(0, .aload_n 0, 1, 0, 0), (1, .getfield 21, 4, 0, 0), (4, .bipush 102, 6, 0, 102), (6, .if_icmp .eq 12, 9, 18, 0), (9, .aload_n 0, 10, 0, 0), (10, .getfield 21, 13, 0, 0), (13, .bipush 115, 15, 0, 115), (15, .if_icmp .ne 7, 18, 22, 0), (18, .iconst 1, 19, 0, 1), (19, .goto 4, 22, 23, 0), (22, .iconst 0, 23, 0, 0), (23, .ireturn, 24, 0, 0)]
theorem tk_X16_isFixed : fw_tok mm_X16_isFixed tb_X16_isFixed := by unfold fw_tok; decide +kernel
abbrev mm_X16_length : fw_M := (yX16_length, cX16_length, 2, (some .int), [])
def tb_X16_length : List fw_R := [(0, .iload_n 1, 1, 1, 0), (1, .aload_n 0, 2, 0, 0), (2, .getfield 44, 5, 0, 0), (5, .aload_n 0, 6, 0, 0), (6, .getfield 47, 9, 0, 0), (9, .aload_n 0, 10, 0, 0), (10, .getfield 50, 13, 0, 0), (13, .invokestatic 53, 16, 0, 0), (16, .ireturn, 17, 0, 0)]
theorem tk_X16_length : fw_tok mm_X16_length tb_X16_length := by unfold fw_tok; decide +kernel
abbrev mm_X17_in : fw_M := (yX17_in, cX17_in, 3, (some .boolean), [])
def tb_X17_in : List fw_R := [(0, .iload_n 0, 1, 0, 0), (1, .iload_n 1, 2, 1, 0), (2, .if_icmp .lt 12, 5, 14, 0), (5, .iload_n 0, 6, 0, 0), (6, .iload_n 2, 7, 2, 0), (7, .if_icmp .gt 7, 10, 14, 0), (10, .iconst 1, 11, 0, 1), (11, .goto 4, 14, 15, 0), (14, .iconst 0, 15, 0, 0), (15, .ireturn, 16, 0, 0)]
theorem tk_X17_in : fw_tok mm_X17_in tb_X17_in := by unfold fw_tok; decide +kernel
abbrev mm_X17_init : fw_M := (yX17_init, cX17_init, 1, none, [])
def tb_X17_init : List fw_R := [(0, .aload_n 0, 1, 0, 0), (1, .invokespecial 1, 4, 0, 0), (4, .aload_n 0, 5, 0, 0), (5, .new 7, 8, 0, 0), (8, .dup, 9, 0, 0), (9, .invokespecial 9, 12, 0, 0), (12, .putfield 10, 15, 0, 0), (15, .aload_n 0, 16, 0, 0), (16, .new 7, 19, 0, 0), (19, .dup, 20, 0, 0), (20, .invokespecial 9, 23, 0, 0), (23, .putfield 16, 26, 0, 0), (26, .aload_n 0, 27, 0, 0), (27, .new 7, 30, 0, 0), (30, .dup, 31, 0, 0), (31, .invokespecial 9, 34, 0, 0), (34, .putfield 19, 37, 0, 0), (37, .aload_n 0, 38, 0, 0), (38, .new 7, 41, 0, 0), (41, .dup, 42, 0, 0), (42, .invokespecial 9, 45, 0, 0), (45, .putfield 22, 48, 0, 0), (48, .aload_n 0, 49, 0, 0), (49, .new 7, 52, 0, 0), (52, .dup, 53, 0, 0), (53, .invokespecial 9, 56, 0, 0), (56, .putfield 25, 59, 0, 0), (59, .return_, 60, 0, 0)]
theorem tk_X17_init : fw_tok mm_X17_init tb_X17_init := by unfold fw_tok; decide +kernel
abbrev mm_X17_thrown : fw_M := (yX17_thrown, cX17_thrown, 1, (some .int), [])
def tb_X17_thrown : List fw_R := [(0, .aload_n 0, 1, 0, 0), (1, .getfield 28, 4, 0, 0), (4, .ireturn, 5, 0, 0)]
theorem tk_X17_thrown : fw_tok mm_X17_thrown tb_X17_thrown := by unfold fw_tok; decide +kernel
abbrev mm_X17_raises : fw_M := (yX17_raises, cX17_raises, 2, (some .int), [])
def tb_X17_raises : List fw_R := [(0, .aload_n 0, 1, 0, 0), (1, .iload_n 1, 2, 1, 0), (2, .putfield 28, 5, 0, 0), (5, .iconst 0, 6, 0, 0), (6, .ireturn, 7, 0, 0)]
theorem tk_X17_raises : fw_tok mm_X17_raises tb_X17_raises := by unfold fw_tok; decide +kernel
abbrev mm_X17_isLeap : fw_M := (yX17_isLeap, cX17_isLeap, 1, (some .boolean), [])
def tb_X17_isLeap : List fw_R := [(0, .iload_n 0, 1, 0, 0), (1, .sipush 400, 4, 0, 400), (4, .irem, 5, 0, 0), (5, .ifCond .eq 16, 8, 21, 0), (8, .iload_n 0, 9, 0, 0), (9, .iconst 4, 10, 0, 4), (10, .irem, 11, 0, 0), (11, .ifCond .ne 14, 14, 25, 0), (14, .iload_n 0, 15, 0, 0), (15, .bipush 100, 17, 0, 100), (17, .irem, 18, 0, 0), (18, .ifCond .eq 7, 21, 25, 0), (21, .iconst 1, 22, 0, 1), (22, .goto 4, 25, 26, 0), (25, .iconst 0, 26, 0, 0), (26, .ireturn, 27, 0, 0)]
theorem tk_X17_isLeap : fw_tok mm_X17_isLeap tb_X17_isLeap := by unfold fw_tok; decide +kernel
abbrev mm_X17_daysOf : fw_M := (yX17_daysOf, cX17_daysOf, 2, (some .int), [])
def tb_X17_daysOf : List fw_R := [(0, .iload_n 1, 1, 1, 0), (1, .iconst 2, 2, 0, 2), (2, .if_icmp .ne 20, 5, 22, 0), (5, .iload_n 0, 6, 0, 0), (6, .invokestatic 32, 9, 0, 0), (9, .ifCond .eq 8, 12, 17, 0), (12, .bipush 29, 14, 0, 29), (14, .goto 38, 17, 52, 0), (17, .bipush 28, 19, 0, 28), (19, .goto 33, 22, 52, 0), (22, .iload_n 1, 23, 1, 0), (23, .iconst 4, 24, 0, 4), (24, .if_icmp .eq 21, 27, 45, 0), (27, .iload_n 1, 28, 1, 0), (28, .bipush 6, 30, 0, 6), (30, .if_icmp .eq 15, 33, 45, 0), (33, .iload_n 1, 34, 1, 0), (34, .bipush 9, 36, 0, 9), (36, .if_icmp .eq 9, 39, 45, 0), (39, .iload_n 1, 40, 1, 0), (40, .bipush 11, 42, 0, 11), (42, .if_icmp .ne 8, 45, 50, 0), (45, .bipush 30, 47, 0, 30), (47, .goto 5, 50, 52, 0), (50, .bipush 31, 52, 0, 31), (52, .ireturn, 53, 0, 0)]
theorem tk_X17_daysOf : fw_tok mm_X17_daysOf tb_X17_daysOf := by unfold fw_tok; decide +kernel
abbrev mm_X17_firstOf : fw_M := (yX17_firstOf, cX17_firstOf, 4, (some .int), [])
def tb_X17_firstOf : List fw_R := [(0, .iload_n 0, 1, 0, 0), (1, .bipush 12, 3, 0, 12), (3, .idiv, 4, 0, 0), (4, .istore_n 1, 5, 1, 0), (5, .sipush 365, 8, 0, 365), (8, .iload_n 1, 9, 1, 0), (9, .imul, 10, 0, 0), (10, .iload_n 1, 11, 1, 0), (11, .iconst 3, 12, 0, 3), (12, .iadd, 13, 0, 0), (13, .iconst 4, 14, 0, 4), (14, .idiv, 15, 0, 0), (15, .iadd, 16, 0, 0), (16, .iload_n 1, 17, 1, 0), (17, .bipush 99, 19, 0, 99), (19, .iadd, 20, 0, 0), (20, .bipush 100, 22, 0, 100), (22, .idiv, 23, 0, 0), (23, .isub, 24, 0, 0), (24, .iload_n 1, 25, 1, 0), (25, .sipush 399, 28, 0, 399), (28, .iadd, 29, 0, 0), (29, .sipush 400, 32, 0, 400), (32, .idiv, 33, 0, 0), (33, .iadd, 34, 0, 0), (34, .istore_n 2, 35, 2, 0), (35, .iconst 1, 36, 0, 1), (36, .istore_n 3, 37, 3, 0), (37, .iload_n 3, 38, 3, 0), (38, .iload_n 0, 39, 0, 0), (39, .bipush 12, 41, 0, 12), (41, .irem, 42, 0, 0), (42, .if_icmp .gt 21, 45, 63, 0), (45, .iload_n 2, 46, 2, 0), (46, .sipush 2000, 49, 0, 2000), (49, .iload_n 1, 50, 1, 0), (50, .iadd, 51, 0, 0), (51, .iload_n 3, 52, 3, 0), (52, .invokestatic 36, 55, 0, 0), (55, .iadd, 56, 0, 0), (56, .istore_n 2, 57, 2, 0), (57, .iinc 3 1, 60, 3, 1), (60, .goto (-23), 63, 37, 0), (63, .iload_n 2, 64, 2, 0), (64, .ireturn, 65, 0, 0)]
theorem tk_X17_firstOf : fw_tok mm_X17_firstOf tb_X17_firstOf := by unfold fw_tok; decide +kernel
end
section
/-! TABLES: methods, rows, words -/
abbrev mm_X17_monthOf : fw_M := (yX17_monthOf, cX17_monthOf, 2, (some .int), [])
def tb_X17_monthOf : List fw_R := [(0, .iload_n 0, 1, 0, 0), (1, .bipush 31, 3, 0, 31), (3, .idiv, 4, 0, 0), (4, .istore_n 1, 5, 1, 0), (5, .iload_n 1, 6, 1, 0), (6, .iconst 1, 7, 0, 1), (7, .iadd, 8, 0, 0), (8, .invokestatic 40, 11, 0, 0), (11, .iload_n 0, 12, 0, 0), (12, .if_icmp .gt 9, 15, 21, 0), (15, .iinc 1 1, 18, 1, 1), (18, .goto (-13), 21, 5, 0), (21, .iload_n 1, 22, 1, 0), (22, .ireturn, 23, 0, 0)]
theorem tk_X17_monthOf : fw_tok mm_X17_monthOf tb_X17_monthOf := by unfold fw_tok; decide +kernel
abbrev mm_X17_lengthOf : fw_M := (yX17_lengthOf, cX17_lengthOf, 7, (some .int), [])
def tb_X17_lengthOf : List fw_R := [(0, .iload_n 0, 1, 0, 0), (1, .invokestatic 44, 4, 0, 0), (4, .istore 4, 6, 4, 0), (6, .iload_n 0, 7, 0, 0), (7, .iload 4, 9, 4, 0), (9, .invokestatic 40, 12, 0, 0), (12, .isub, 13, 0, 0), (13, .istore 5, 15, 5, 0), (15, .iload 4, 17, 4, 0), (17, .bipush 12, 19, 0, 12), (19, .iload_n 1, 20, 1, 0), (20, .imul, 21, 0, 0), (21, .iadd, 22, 0, 0), (22, .iload_n 2, 23, 2, 0), (23, .iadd, 24, 0, 0), (24, .istore 6, 26, 6, 0), (26, .iload 6, 28, 6, 0), (28, .invokestatic 40, 31, 0, 0), (31, .iload 5, 33, 5, 0), (33, .sipush 2000, 36, 0, 2000), (36, .iload 6, 38, 6, 0), (38, .bipush 12, 40, 0, 12), (40, .idiv, 41, 0, 0), (41, .iadd, 42, 0, 0), (42, .iload 6, 44, 6, 0), (44, .bipush 12, 46, 0, 12), (46, .irem, 47, 0, 0), (47, .iconst 1, 48, 0, 1), (48, .iadd, 49, 0, 0), (49, .invokestatic 36, 52, 0, 0), (52, .iconst 1, 53, 0, 1), (53, .isub, 54, 0, 0), (54, .invokestatic 47, 57, 0, 0), (57, .iadd, 58, 0, 0), (58, .iload_n 3, 59, 3, 0), (59, .iadd, 60, 0, 0), (60, .iload_n 0, 61, 0, 0), (61, .isub, 62, 0, 0), (62, .ireturn, 63, 0, 0)]
theorem tk_X17_lengthOf : fw_tok mm_X17_lengthOf tb_X17_lengthOf := by unfold fw_tok; decide +kernel
abbrev mm_X17_dayOf : fw_M := (yX17_dayOf, cX17_dayOf, 6, (some .int), [])
def tb_X17_dayOf : List fw_R := [(0, .iload_n 1, 1, 1, 0), (1, .sipush 2000, 4, 0, 2000), (4, .sipush 2054, 7, 0, 2054), (7, .invokestatic 52, 10, 0, 0), (10, .ifCond .eq 30, 13, 40, 0), (13, .iload_n 2, 14, 2, 0), (14, .iconst 1, 15, 0, 1), (15, .bipush 12, 17, 0, 12), (17, .invokestatic 52, 20, 0, 0), (20, .ifCond .eq 20, 23, 40, 0), (23, .iload_n 3, 24, 3, 0), (24, .iconst 1, 25, 0, 1), (25, .iload_n 1, 26, 1, 0), (26, .iload_n 2, 27, 2, 0), (27, .invokestatic 36, 30, 0, 0), (30, .invokestatic 52, 33, 0, 0), (33, .ifCond .eq 7, 36, 40, 0), (36, .iconst 1, 37, 0, 1), (37, .goto 4, 40, 41, 0), (40, .iconst 0, 41, 0, 0), (41, .istore 4, 43, 4, 0), (43, .iload 4, 45, 4, 0), (45, .ifCond .eq 25, 48, 70, 0), (48, .bipush 12, 50, 0, 12), (50, .iload_n 1, 51, 1, 0), (51, .sipush 2000, 54, 0, 2000), (54, .isub, 55, 0, 0), (55, .imul, 56, 0, 0), (56, .iload_n 2, 57, 2, 0), (57, .iadd, 58, 0, 0), (58, .iconst 1, 59, 0, 1), (59, .isub, 60, 0, 0), (60, .invokestatic 40, 63, 0, 0), (63, .iload_n 3, 64, 3, 0), (64, .iadd, 65, 0, 0), (65, .iconst 1, 66, 0, 1), (66, .isub, 67, 0, 0), (67, .goto 6, 70, 73, 0), (70, .sipush 20000, 73, 0, 20000), (73, .istore 5, 75, 5, 0), (75, .aload_n 0, 76, 0, 0), (76, .iload 5, 78, 5, 0), (78, .sipush 19999, 81, 0, 19999), (81, .if_icmp .gt 7, 84, 88, 0), (84, .iconst 0, 85, 0, 0), (85, .goto 4, 88, 89, 0), (88, .iconst 1, 89, 0, 1), (89, .putfield 28, 92, 0, 0), (92, .aload_n 0, 93, 0, 0), (93, .getfield 28, 96, 0, 0), (96, .ifCond .le 7, 99, 103, 0), (99, .iconst 0, 100, 0, 0), (100, .goto 5, 103, 105, 0), (103, .iload 5, 105, 5, 0), (105, .ireturn, 106, 0, 0)]
theorem tk_X17_dayOf : fw_tok mm_X17_dayOf tb_X17_dayOf := by unfold fw_tok; decide +kernel
abbrev mm_X17_noDay : fw_M := (yX17_noDay, cX17_noDay, 2, (some .boolean), [])
def tb_X17_noDay : List fw_R := [(0, .aload_n 0, 1, 0, 0), (1, .iload_n 1, 2, 1, 0), (2, .iconst 0, 3, 0, 0), (3, .sipush 19999, 6, 0, 19999), (6, .invokestatic 52, 9, 0, 0), (9, .ifCond .eq 7, 12, 16, 0), (12, .iconst 0, 13, 0, 0), (13, .goto 4, 16, 17, 0), (16, .iconst 1, 17, 0, 1), (17, .putfield 28, 20, 0, 0), (20, .aload_n 0, 21, 0, 0), (21, .getfield 28, 24, 0, 0), (24, .ifCond .le 7, 27, 31, 0), (27, .iconst 1, 28, 0, 1), (28, .goto 4, 31, 32, 0), (31, .iconst 0, 32, 0, 0), (32, .ireturn, 33, 0, 0)]
theorem tk_X17_noDay : fw_tok mm_X17_noDay tb_X17_noDay := by unfold fw_tok; decide +kernel
abbrev mm_X17_dateOf : fw_M := (yX17_dateOf, cX17_dateOf, 3, (some .int), [])
def tb_X17_dateOf : List fw_R := [(0, .aload_n 0, 1, 0, 0), (1, .iload_n 1, 2, 1, 0), (2, .invokevirtual 56, 5, 0, 0), (5, .ifCond .eq 5, 8, 10, 0), (8, .iconst 0, 9, 0, 0), (9, .ireturn, 10, 0, 0), (10, .iload_n 1, 11, 1, 0), (11, .invokestatic 44, 14, 0, 0), (14, .istore_n 2, 15, 2, 0), (15, .sipush 10000, 18, 0, 10000), (18, .sipush 2000, 21, 0, 2000), (21, .iload_n 2, 22, 2, 0), (22, .bipush 12, 24, 0, 12), (24, .idiv, 25, 0, 0), (25, .iadd, 26, 0, 0), (26, .imul, 27, 0, 0), (27, .bipush 100, 29, 0, 100), (29, .iload_n 2, 30, 2, 0), (30, .bipush 12, 32, 0, 12), (32, .irem, 33, 0, 0), (33, .iconst 1, 34, 0, 1), (34, .iadd, 35, 0, 0), (35, .imul, 36, 0, 0), (36, .iadd, 37, 0, 0), (37, .iload_n 1, 38, 1, 0), (38, .iadd, 39, 0, 0), (39, .iload_n 2, 40, 2, 0), (40, .invokestatic 40, 43, 0, 0), (43, .isub, 44, 0, 0), (44, .iconst 1, 45, 0, 1), (45, .iadd, 46, 0, 0), (46, .ireturn, 47, 0, 0)]
theorem tk_X17_dateOf : fw_tok mm_X17_dateOf tb_X17_dateOf := by unfold fw_tok; decide +kernel
abbrev mm_X17_areTerm : fw_M := (yX17_areTerm, cX17_areTerm, 3, (some .boolean), [])
def tb_X17_areTerm : List fw_R := [(0, .iload_n 0, 1, 0, 0), (1, .iconst 0, 2, 0, 0), (2, .bipush 40, 4, 0, 40), (4, .invokestatic 52, 7, 0, 0), (7, .ifCond .eq 28, 10, 35, 0), (10, .iload_n 1, 11, 1, 0), (11, .iconst 0, 12, 0, 0), (12, .bipush 11, 14, 0, 11), (14, .invokestatic 52, 17, 0, 0), (17, .ifCond .eq 18, 20, 35, 0), (20, .iload_n 2, 21, 2, 0), (21, .iconst 0, 22, 0, 0), (22, .sipush 9999, 25, 0, 9999), (25, .invokestatic 52, 28, 0, 0), (28, .ifCond .eq 7, 31, 35, 0), (31, .iconst 1, 32, 0, 1), (32, .goto 4, 35, 36, 0), (35, .iconst 0, 36, 0, 0), (36, .ireturn, 37, 0, 0)]
theorem tk_X17_areTerm : fw_tok mm_X17_areTerm tb_X17_areTerm := by unfold fw_tok; decide +kernel
abbrev mm_X17_length : fw_M := (yX17_length, cX17_length, 5, (some .int), [])
def tb_X17_length : List fw_R := [(0, .aload_n 0, 1, 0, 0), (1, .iload_n 1, 2, 1, 0), (2, .iconst 0, 3, 0, 0), (3, .sipush 19999, 6, 0, 19999), (6, .invokestatic 52, 9, 0, 0), (9, .ifCond .eq 17, 12, 26, 0), (12, .iload_n 2, 13, 2, 0), (13, .iload_n 3, 14, 3, 0), (14, .iload 4, 16, 4, 0), (16, .invokestatic 59, 19, 0, 0), (19, .ifCond .eq 7, 22, 26, 0), (22, .iconst 0, 23, 0, 0), (23, .goto 4, 26, 27, 0), (26, .iconst 1, 27, 0, 1), (27, .putfield 28, 30, 0, 0), (30, .aload_n 0, 31, 0, 0), (31, .getfield 28, 34, 0, 0), (34, .ifCond .le 7, 37, 41, 0), (37, .iconst 0, 38, 0, 0), (38, .goto 11, 41, 49, 0), (41, .iload_n 1, 42, 1, 0), (42, .iload_n 2, 43, 2, 0), (43, .iload_n 3, 44, 3, 0), (44, .iload 4, 46, 4, 0), (46, .invokestatic 62, 49, 0, 0), (49, .ireturn, 50, 0, 0)]
theorem tk_X17_length : fw_tok mm_X17_length tb_X17_length := by unfold fw_tok; decide +kernel
abbrev mm_X17_law : fw_M := (yX17_law, cX17_law, 5, (some .int), [])
def tb_X17_law : List fw_R := [(0, .aload_n 0, 1, 0, 0), (1, .iload_n 1, 2, 1, 0), (2, .bipush 111, 4, 0, 111), (4, .if_icmp .eq 9, 7, 13, 0), (7, .iload_n 1, 8, 1, 0), (8, .bipush 112, 10, 0, 112), (10, .if_icmp .ne 24, 13, 34, 0), (13, .iload_n 2, 14, 2, 0), (14, .iconst 0, 15, 0, 0), (15, .sipush 19999, 18, 0, 19999), (18, .invokestatic 52, 21, 0, 0), (21, .ifCond .eq 13, 24, 34, 0), (24, .iload_n 3, 25, 3, 0), (25, .iconst 1, 26, 0, 1), (26, .bipush 8, 28, 0, 8), (28, .invokestatic 52, 31, 0, 0), (31, .ifCond .ne 7, 34, 38, 0), (34, .iconst 1, 35, 0, 1), (35, .goto 20, 38, 55, 0), (38, .aload_n 0, 39, 0, 0), (39, .getfield 10, 42, 0, 0), (42, .invokevirtual 66, 45, 0, 0), (45, .bipush 8, 47, 0, 8), (47, .if_icmp .ne 7, 50, 54, 0), (50, .iconst 2, 51, 0, 2), (51, .goto 4, 54, 55, 0), (54, .iconst 0, 55, 0, 0), (55, .putfield 28, 58, 0, 0), (58, .aload_n 0, 59, 0, 0), (59, .getfield 28, 62, 0, 0), (62, .ifCond .le 5, 65, 67, 0), (65, .iconst 0, 66, 0, 0), (66, .ireturn, 67, 0, 0), (67, .aload_n 0, 68, 0, 0), (68, .getfield 10, 71, 0, 0), (71, .new 70, 74, 0, 0), (74, .dup, 75, 0, 0), (75, .iload_n 1, 76, 1, 0), (76, .iload_n 2, 77, 2, 0), (77, .iload_n 3, 78, 3, 0), (78, .iload 4, 80, 4, 0), (80, .invokespecial 72, 83, 0, 0), (83, .invokevirtual 75, 86, 0, 0), (86, .pop, 87, 0, 0), (87, .aload_n 0, 88, 0, 0), (88, .getfield 10, 91, 0, 0), (91, .invokevirtual 66, 94, 0, 0), (94, .iconst 1, 95, 0, 1), (95, .isub, 96, 0, 0), (96, .ireturn, 97, 0, 0)]
theorem tk_X17_law : fw_tok mm_X17_law tb_X17_law := by unfold fw_tok; decide +kernel
abbrev mm_X17_lawFor : fw_M := (yX17_lawFor, cX17_lawFor, 5, (some .int), [])
def tb_X17_lawFor : List fw_R := [(0, .iconst (-1), 1, 0, (-1)), (1, .istore_n 2, 2, 2, 0), (2, .iconst 0, 3, 0, 0), (3, .istore_n 3, 4, 3, 0), (4, .iload_n 3, 5, 3, 0), (5, .aload_n 0, 6, 0, 0), (6, .getfield 10, 9, 0, 0), (9, .invokevirtual 66, 12, 0, 0), (12, .if_icmp .ge 57, 15, 69, 0), (15, .aload_n 0, 16, 0, 0), (16, .getfield 10, 19, 0, 0), (19, .iload_n 3, 20, 3, 0), (20, .invokevirtual 79, 23, 0, 0), (23, .checkcast 70, 26, 0, 0), (26, .astore 4, 28, 4, 0), (28, .aload 4, 30, 4, 0), (30, .getfield 83, 33, 0, 0), (33, .bipush 111, 35, 0, 111), (35, .if_icmp .ne 10, 38, 45, 0), (38, .aload_n 1, 39, 1, 0), (39, .getfield 87, 42, 0, 0), (42, .goto 7, 45, 49, 0), (45, .aload_n 1, 46, 1, 0), (46, .getfield 92, 49, 0, 0), (49, .aload 4, 51, 4, 0), (51, .getfield 95, 54, 0, 0), (54, .if_icmp .lt 7, 57, 61, 0), (57, .iload_n 3, 58, 3, 0), (58, .goto 4, 61, 62, 0), (61, .iload_n 2, 62, 2, 0), (62, .istore_n 2, 63, 2, 0), (63, .iinc 3 1, 66, 3, 1), (66, .goto (-62), 69, 4, 0), (69, .iload_n 2, 70, 2, 0), (70, .ireturn, 71, 0, 0)]
theorem tk_X17_lawFor : fw_tok mm_X17_lawFor tb_X17_lawFor := by unfold fw_tok; decide +kernel
abbrev mm_X17_isWarrant : fw_M := (yX17_isWarrant, cX17_isWarrant, 2, (some .boolean), [])
def tb_X17_isWarrant : List fw_R := [(0, .iload_n 1, 1, 1, 0), (1, .iconst 0, 2, 0, 0), (2, .aload_n 0, 3, 0, 0), (3, .getfield 19, 6, 0, 0), (6, .invokevirtual 66, 9, 0, 0), (9, .iconst 1, 10, 0, 1), (10, .isub, 11, 0, 0), (11, .invokestatic 52, 14, 0, 0), (14, .ireturn, 15, 0, 0)]
theorem tk_X17_isWarrant : fw_tok mm_X17_isWarrant tb_X17_isWarrant := by unfold fw_tok; decide +kernel
abbrev mm_X17_noWarrant : fw_M := (yX17_noWarrant, cX17_noWarrant, 2, (some .boolean), [])
def tb_X17_noWarrant : List fw_R := [(0, .aload_n 0, 1, 0, 0), (1, .aload_n 0, 2, 0, 0), (2, .iload_n 1, 3, 1, 0), (3, .invokevirtual 98, 6, 0, 0), (6, .ifCond .eq 7, 9, 13, 0), (9, .iconst 0, 10, 0, 0), (10, .goto 4, 13, 14, 0), (13, .iconst 1, 14, 0, 1), (14, .putfield 28, 17, 0, 0), (17, .aload_n 0, 18, 0, 0), (18, .getfield 28, 21, 0, 0), (21, .ifCond .le 7, 24, 28, 0), (24, .iconst 1, 25, 0, 1), (25, .goto 4, 28, 29, 0), (28, .iconst 0, 29, 0, 0), (29, .ireturn, 30, 0, 0)]
theorem tk_X17_noWarrant : fw_tok mm_X17_noWarrant tb_X17_noWarrant := by unfold fw_tok; decide +kernel
abbrev mm_X17_lawOf : fw_M := (yX17_lawOf, cX17_lawOf, 4, (some .int), [])
def tb_X17_lawOf : List fw_R := [(0, .aload_n 0, 1, 0, 0), (1, .iload_n 1, 2, 1, 0), (2, .invokevirtual 101, 5, 0, 0), (5, .ifCond .eq 5, 8, 10, 0), (8, .iconst 0, 9, 0, 0), (9, .ireturn, 10, 0, 0), (10, .aload_n 0, 11, 0, 0), (11, .getfield 19, 14, 0, 0), (14, .iload_n 1, 15, 1, 0), (15, .invokevirtual 79, 18, 0, 0), (18, .checkcast 88, 21, 0, 0), (21, .astore_n 2, 22, 2, 0), (22, .aload_n 0, 23, 0, 0), (23, .aload_n 2, 24, 2, 0), (24, .invokevirtual 104, 27, 0, 0), (27, .istore_n 3, 28, 3, 0), (28, .aload_n 0, 29, 0, 0), (29, .aload_n 2, 30, 2, 0), (30, .invokevirtual 108, 33, 0, 0), (33, .ifCond .ne 7, 36, 40, 0), (36, .iconst 2, 37, 0, 2), (37, .goto 13, 40, 50, 0), (40, .iload_n 3, 41, 3, 0), (41, .iconst (-1), 42, 0, (-1)), (42, .if_icmp .ne 7, 45, 49, 0), (45, .iconst 3, 46, 0, 3), (46, .goto 4, 49, 50, 0), (49, .iconst 0, 50, 0, 0), (50, .putfield 28, 53, 0, 0), (53, .aload_n 0, 54, 0, 0), (54, .getfield 28, 57, 0, 0), (57, .ifCond .le 7, 60, 64, 0), (60, .iconst 0, 61, 0, 0), (61, .goto 4, 64, 65, 0), (64, .iload_n 3, 65, 3, 0), (65, .ireturn, 66, 0, 0)]
theorem tk_X17_lawOf : fw_tok mm_X17_lawOf tb_X17_lawOf := by unfold fw_tok; decide +kernel
abbrev mm_X17_person : fw_M := (yX17_person, cX17_person, 1, (some .int), [])
def tb_X17_person : List fw_R := [(0, .aload_n 0, 1, 0, 0), (1, .aload_n 0, 2, 0, 0), (2, .getfield 16, 5, 0, 0), (5, .invokevirtual 66, 8, 0, 0), (8, .bipush 6, 10, 0, 6), (10, .if_icmp .ne 7, 13, 17, 0), (13, .iconst 1, 14, 0, 1), (14, .goto 4, 17, 18, 0), (17, .iconst 0, 18, 0, 0), (18, .putfield 28, 21, 0, 0), (21, .aload_n 0, 22, 0, 0), (22, .getfield 28, 25, 0, 0), (25, .ifCond .le 5, 28, 30, 0), (28, .iconst 0, 29, 0, 0), (29, .ireturn, 30, 0, 0), (30, .aload_n 0, 31, 0, 0), (31, .getfield 16, 34, 0, 0), (34, .new 112, 37, 0, 0), (37, .dup, 38, 0, 0), (38, .invokespecial 114, 41, 0, 0), (41, .invokevirtual 75, 44, 0, 0), (44, .pop, 45, 0, 0), (45, .aload_n 0, 46, 0, 0), (46, .getfield 16, 49, 0, 0), (49, .invokevirtual 66, 52, 0, 0), (52, .iconst 1, 53, 0, 1), (53, .isub, 54, 0, 0), (54, .ireturn, 55, 0, 0)]
theorem tk_X17_person : fw_tok mm_X17_person tb_X17_person := by unfold fw_tok; decide +kernel
abbrev mm_X17_isPerson : fw_M := (yX17_isPerson, cX17_isPerson, 2, (some .boolean), [])
def tb_X17_isPerson : List fw_R := [(0, .iload_n 1, 1, 1, 0), (1, .iconst 0, 2, 0, 0), (2, .aload_n 0, 3, 0, 0), (3, .getfield 16, 6, 0, 0), (6, .invokevirtual 66, 9, 0, 0), (9, .iconst 1, 10, 0, 1), (10, .isub, 11, 0, 0), (11, .invokestatic 52, 14, 0, 0), (14, .ireturn, 15, 0, 0)]
theorem tk_X17_isPerson : fw_tok mm_X17_isPerson tb_X17_isPerson := by unfold fw_tok; decide +kernel
abbrev mm_X17_warrant : fw_M := (yX17_warrant, cX17_warrant, 12, (some .int), [])
def tb_X17_warrant : List fw_R := [(0, .aload_n 0, 1, 0, 0), (1, .iload_n 1, 2, 1, 0), (2, .invokevirtual 115, 5, 0, 0), (5, .ifCond .eq 18, 8, 23, 0), (8, .iload 8, 10, 8, 0), (10, .iconst (-1), 11, 0, (-1)), (11, .if_icmp .eq 18, 14, 29, 0), (14, .aload_n 0, 15, 0, 0), (15, .iload 8, 17, 8, 0), (17, .invokevirtual 98, 20, 0, 0), (20, .ifCond .ne 9, 23, 29, 0), (23, .aload_n 0, 24, 0, 0), (24, .iconst 1, 25, 0, 1), (25, .invokevirtual 118, 28, 0, 0), (28, .ireturn, 29, 0, 0), (29, .iload_n 3, 30, 3, 0), (30, .iconst 0, 31, 0, 0), (31, .sipush 19999, 34, 0, 19999), (34, .invokestatic 52, 37, 0, 0), (37, .ifCond .eq 19, 40, 56, 0), (40, .iload 4, 42, 4, 0), (42, .iload_n 3, 43, 3, 0), (43, .sipush 19999, 46, 0, 19999), (46, .invokestatic 52, 49, 0, 0), (49, .ifCond .eq 7, 52, 56, 0), (52, .iconst 1, 53, 0, 1), (53, .goto 4, 56, 57, 0), (56, .iconst 0, 57, 0, 0), (57, .istore 9, 59, 9, 0), (59, .ldc 121, 61, 0, 0), (61, .iload_n 2, 62, 2, 0), (62, .invokevirtual 123, 65, 0, 0), (65, .ifCond .lt 35, 68, 100, 0), (68, .iload 9, 70, 9, 0), (70, .ifCond .eq 30, 73, 100, 0), (73, .iload 5, 75, 5, 0), (75, .iload 6, 77, 6, 0), (77, .iload 7, 79, 7, 0), (79, .invokestatic 59, 82, 0, 0), (82, .ifCond .eq 18, 85, 100, 0), (85, .iload 5, 87, 5, 0), (87, .iload 6, 89, 6, 0), (89, .iadd, 90, 0, 0), (90, .iload 7, 92, 7, 0), (92, .iadd, 93, 0, 0), (93, .ifCond .le 7, 96, 100, 0), (96, .iconst 1, 97, 0, 1), (97, .goto 4, 100, 101, 0), (100, .iconst 0, 101, 0, 0), (101, .istore 10, 103, 10, 0), (103, .aload_n 0, 104, 0, 0), (104, .iload 10, 106, 10, 0), (106, .ifCond .ne 7, 109, 113, 0), (109, .iconst 2, 110, 0, 2), (110, .goto 49, 113, 159, 0), (113, .iload 8, 115, 8, 0), (115, .iconst (-1), 116, 0, (-1)), (116, .if_icmp .eq 26, 119, 142, 0), (119, .aload_n 0, 120, 0, 0), (120, .getfield 19, 123, 0, 0), (123, .iload 8, 125, 8, 0), (125, .invokevirtual 79, 128, 0, 0), (128, .checkcast 88, 131, 0, 0), (131, .getfield 128, 134, 0, 0), (134, .iload_n 1, 135, 1, 0), (135, .if_icmp .eq 7, 138, 142, 0), (138, .iconst 3, 139, 0, 3), (139, .goto 20, 142, 159, 0), (142, .aload_n 0, 143, 0, 0), (143, .getfield 19, 146, 0, 0), (146, .invokevirtual 66, 149, 0, 0), (149, .bipush 24, 151, 0, 24), (151, .if_icmp .ne 7, 154, 158, 0), (154, .iconst 4, 155, 0, 4), (155, .goto 4, 158, 159, 0), (158, .iconst 0, 159, 0, 0), (159, .putfield 28, 162, 0, 0), (162, .aload_n 0, 163, 0, 0), (163, .getfield 28, 166, 0, 0), (166, .ifCond .le 5, 169, 171, 0), (169, .iconst 0, 170, 0, 0), (170, .ireturn, 171, 0, 0), (171, .new 88, 174, 0, 0), (174, .dup, 175, 0, 0), (175, .iload_n 1, 176, 1, 0), (176, .iload_n 2, 177, 2, 0), (177, .iload_n 3, 178, 3, 0), (178, .iload 4, 180, 4, 0), (180, .iload 8, 182, 8, 0), (182, .invokespecial 131, 185, 0, 0), (185, .astore 11, 187, 11, 0), (187, .aload 11, 189, 11, 0), (189, .iload 5, 191, 5, 0), (191, .putfield 134, 194, 0, 0), (194, .aload 11, 196, 11, 0), (196, .iload 6, 198, 6, 0), (198, .putfield 137, 201, 0, 0), (201, .aload 11, 203, 11, 0), (203, .iload 7, 205, 7, 0), (205, .putfield 140, 208, 0, 0), (208, .aload_n 0, 209, 0, 0), (209, .getfield 19, 212, 0, 0), (212, .aload 11, 214, 11, 0), (214, .invokevirtual 75, 217, 0, 0), (217, .pop, 218, 0, 0), (218, .aload_n 0, 219, 0, 0), (219, .getfield 19, 222, 0, 0), (222, .invokevirtual 66, 225, 0, 0), (225, .iconst 1, 226, 0, 1), (226, .isub, 227, 0, 0), (227, .ireturn, 228, 0, 0)]
theorem tk_X17_warrant : fw_tok mm_X17_warrant tb_X17_warrant := by unfold fw_tok; decide +kernel
abbrev mm_X17_count : fw_M := (yX17_count, cX17_count, 5, (some .int), [])
def tb_X17_count : List fw_R := [(0, .aload_n 0, 1, 0, 0), (1, .iload_n 1, 2, 1, 0), (2, .invokevirtual 101, 5, 0, 0), (5, .ifCond .eq 5, 8, 10, 0), (8, .iconst 0, 9, 0, 0), (9, .ireturn, 10, 0, 0), (10, .iload_n 2, 11, 2, 0), (11, .iconst 1, 12, 0, 1), (12, .sipush 999, 15, 0, 999), (15, .invokestatic 52, 18, 0, 0), (18, .ifCond .ne 9, 21, 27, 0), (21, .aload_n 0, 22, 0, 0), (22, .iconst 2, 23, 0, 2), (23, .invokevirtual 118, 26, 0, 0), (26, .ireturn, 27, 0, 0), (27, .aload_n 0, 28, 0, 0), (28, .getfield 19, 31, 0, 0), (31, .iload_n 1, 32, 1, 0), (32, .invokevirtual 79, 35, 0, 0), (35, .checkcast 88, 38, 0, 0), (38, .astore 4, 40, 4, 0), (40, .aload 4, 42, 4, 0), (42, .dup, 43, 0, 0), (43, .getfield 143, 46, 0, 0), (46, .iload_n 3, 47, 3, 0), (47, .ifCond .eq 7, 50, 54, 0), (50, .iconst 0, 51, 0, 0), (51, .goto 4, 54, 55, 0), (54, .iload_n 2, 55, 2, 0), (55, .iadd, 56, 0, 0), (56, .putfield 143, 59, 0, 0), (59, .aload 4, 61, 4, 0), (61, .dup, 62, 0, 0), (62, .getfield 146, 65, 0, 0), (65, .iload_n 3, 66, 3, 0), (66, .ifCond .eq 7, 69, 73, 0), (69, .iload_n 2, 70, 2, 0), (70, .goto 4, 73, 74, 0), (73, .iconst 0, 74, 0, 0), (74, .iadd, 75, 0, 0), (75, .putfield 146, 78, 0, 0), (78, .aload 4, 80, 4, 0), (80, .invokevirtual 149, 83, 0, 0), (83, .ireturn, 84, 0, 0)]
theorem tk_X17_count : fw_tok mm_X17_count tb_X17_count := by unfold fw_tok; decide +kernel
abbrev mm_X17_activate : fw_M := (yX17_activate, cX17_activate, 7, (some .int), [])
def tb_X17_activate : List fw_R := [(0, .aload_n 0, 1, 0, 0), (1, .iload_n 1, 2, 1, 0), (2, .invokevirtual 101, 5, 0, 0), (5, .ifCond .eq 5, 8, 10, 0), (8, .iconst 0, 9, 0, 0), (9, .ireturn, 10, 0, 0), (10, .aload_n 0, 11, 0, 0), (11, .getfield 19, 14, 0, 0), (14, .iload_n 1, 15, 1, 0), (15, .invokevirtual 79, 18, 0, 0), (18, .checkcast 88, 21, 0, 0), (21, .astore_n 3, 22, 3, 0), (22, .aload_n 0, 23, 0, 0), (23, .iload_n 2, 24, 2, 0), (24, .aload_n 3, 25, 3, 0), (25, .getfield 92, 28, 0, 0), (28, .sipush 19999, 31, 0, 19999), (31, .invokestatic 52, 34, 0, 0), (34, .ifCond .ne 7, 37, 41, 0), (37, .iconst 2, 38, 0, 2), (38, .goto 25, 41, 63, 0), (41, .aload_n 3, 42, 3, 0), (42, .getfield 152, 45, 0, 0), (45, .bipush 115, 47, 0, 115), (47, .if_icmp .ne 11, 50, 58, 0), (50, .aload_n 3, 51, 3, 0), (51, .getfield 155, 54, 0, 0), (54, .iconst (-1), 55, 0, (-1)), (55, .if_icmp .eq 7, 58, 62, 0), (58, .iconst 3, 59, 0, 3), (59, .goto 4, 62, 63, 0), (62, .iconst 0, 63, 0, 0), (63, .putfield 28, 66, 0, 0), (66, .aload_n 0, 67, 0, 0), (67, .getfield 28, 70, 0, 0), (70, .ifCond .le 5, 73, 75, 0), (73, .iconst 0, 74, 0, 0), (74, .ireturn, 75, 0, 0), (75, .aload_n 3, 76, 3, 0), (76, .iload_n 2, 77, 2, 0), (77, .putfield 155, 80, 0, 0), (80, .iconst 0, 81, 0, 0), (81, .istore 4, 83, 4, 0), (83, .aload_n 0, 84, 0, 0), (84, .getfield 19, 87, 0, 0), (87, .invokevirtual 158, 90, 0, 0), (90, .astore 5, 92, 5, 0), (92, .aload 5, 94, 5, 0), (94, .invokeinterface 162 1, 99, 0, 0), (99, .ifCond .eq 59, 102, 158, 0), (102, .aload 5, 104, 5, 0), (104, .invokeinterface 167 1, 109, 0, 0), (109, .checkcast 88, 112, 0, 0), (112, .astore 6, 114, 6, 0), (114, .iload 4, 116, 4, 0), (116, .aload 6, 118, 6, 0), (118, .getfield 128, 121, 0, 0), (121, .aload_n 3, 122, 3, 0), (122, .getfield 128, 125, 0, 0), (125, .if_icmp .ne 26, 128, 151, 0), (128, .aload 6, 130, 6, 0), (130, .getfield 152, 133, 0, 0), (133, .bipush 115, 135, 0, 115), (135, .if_icmp .ne 16, 138, 151, 0), (138, .aload 6, 140, 6, 0), (140, .getfield 155, 143, 0, 0), (143, .iconst (-1), 144, 0, (-1)), (144, .if_icmp .ne 7, 147, 151, 0), (147, .iconst 1, 148, 0, 1), (148, .goto 4, 151, 152, 0), (151, .iconst 0, 152, 0, 0), (152, .iadd, 153, 0, 0), (153, .istore 4, 155, 4, 0), (155, .goto (-63), 158, 92, 0), (158, .iload 4, 160, 4, 0), (160, .ireturn, 161, 0, 0)]
theorem tk_X17_activate : fw_tok mm_X17_activate tb_X17_activate := by unfold fw_tok; decide +kernel
abbrev mm_X17_vary : fw_M := (yX17_vary, cX17_vary, 6, (some .int), [])
def tb_X17_vary : List fw_R := [(0, .aload_n 0, 1, 0, 0), (1, .iload_n 1, 2, 1, 0), (2, .invokevirtual 101, 5, 0, 0), (5, .ifCond .eq 5, 8, 10, 0), (8, .iconst 0, 9, 0, 0), (9, .ireturn, 10, 0, 0), (10, .iload_n 2, 11, 2, 0), (11, .iload_n 3, 12, 3, 0), (12, .iload 4, 14, 4, 0), (14, .invokestatic 59, 17, 0, 0), (17, .ifCond .eq 12, 20, 29, 0), (20, .iload_n 2, 21, 2, 0), (21, .iload_n 3, 22, 3, 0), (22, .iadd, 23, 0, 0), (23, .iload 4, 25, 4, 0), (25, .iadd, 26, 0, 0), (26, .ifCond .ne 9, 29, 35, 0), (29, .aload_n 0, 30, 0, 0), (30, .iconst 2, 31, 0, 2), (31, .invokevirtual 118, 34, 0, 0), (34, .ireturn, 35, 0, 0), (35, .aload_n 0, 36, 0, 0), (36, .getfield 19, 39, 0, 0), (39, .iload_n 1, 40, 1, 0), (40, .invokevirtual 79, 43, 0, 0), (43, .checkcast 88, 46, 0, 0), (46, .astore 5, 48, 5, 0), (48, .aload 5, 50, 5, 0), (50, .iload_n 2, 51, 2, 0), (51, .putfield 134, 54, 0, 0), (54, .aload 5, 56, 5, 0), (56, .iload_n 3, 57, 3, 0), (57, .putfield 137, 60, 0, 0), (60, .aload 5, 62, 5, 0), (62, .iload 4, 64, 4, 0), (64, .putfield 140, 67, 0, 0), (67, .aload 5, 69, 5, 0), (69, .aload 5, 71, 5, 0), (71, .getfield 92, 74, 0, 0), (74, .invokevirtual 171, 77, 0, 0), (77, .ireturn, 78, 0, 0)]
theorem tk_X17_vary : fw_tok mm_X17_vary tb_X17_vary := by unfold fw_tok; decide +kernel
abbrev mm_X17_quash : fw_M := (yX17_quash, cX17_quash, 3, (some .boolean), [])
def tb_X17_quash : List fw_R := [(0, .aload_n 0, 1, 0, 0), (1, .iload_n 1, 2, 1, 0), (2, .invokevirtual 101, 5, 0, 0), (5, .ifCond .eq 5, 8, 10, 0), (8, .iconst 0, 9, 0, 0), (9, .ireturn, 10, 0, 0), (10, .aload_n 0, 11, 0, 0), (11, .getfield 19, 14, 0, 0), (14, .iload_n 1, 15, 1, 0), (15, .invokevirtual 79, 18, 0, 0), (18, .checkcast 88, 21, 0, 0), (21, .getfield 174, 24, 0, 0), (24, .istore_n 2, 25, 2, 0), (25, .aload_n 0, 26, 0, 0), (26, .getfield 19, 29, 0, 0), (29, .iload_n 1, 30, 1, 0), (30, .invokevirtual 79, 33, 0, 0), (33, .checkcast 88, 36, 0, 0), (36, .iconst 1, 37, 0, 1), (37, .putfield 174, 40, 0, 0), (40, .iload_n 2, 41, 2, 0), (41, .ifCond .ne 7, 44, 48, 0), (44, .iconst 1, 45, 0, 1), (45, .goto 4, 48, 49, 0), (48, .iconst 0, 49, 0, 0), (49, .ireturn, 50, 0, 0)]
theorem tk_X17_quash : fw_tok mm_X17_quash tb_X17_quash := by unfold fw_tok; decide +kernel
abbrev mm_X17_approve : fw_M := (yX17_approve, cX17_approve, 4, (some .int), [])
def tb_X17_approve : List fw_R := [(0, .aload_n 0, 1, 0, 0), (1, .iload_n 1, 2, 1, 0), (2, .invokevirtual 101, 5, 0, 0), (5, .ifCond .eq 5, 8, 10, 0), (8, .iconst 0, 9, 0, 0), (9, .ireturn, 10, 0, 0), (10, .iload_n 2, 11, 2, 0), (11, .iconst 0, 12, 0, 0), (12, .sipush 19999, 15, 0, 19999), (15, .invokestatic 52, 18, 0, 0), (18, .ifCond .ne 9, 21, 27, 0), (21, .aload_n 0, 22, 0, 0), (22, .iconst 2, 23, 0, 2), (23, .invokevirtual 118, 26, 0, 0), (26, .ireturn, 27, 0, 0), (27, .aload_n 0, 28, 0, 0), (28, .getfield 19, 31, 0, 0), (31, .iload_n 1, 32, 1, 0), (32, .invokevirtual 79, 35, 0, 0), (35, .checkcast 88, 38, 0, 0), (38, .getfield 178, 41, 0, 0), (41, .istore_n 3, 42, 3, 0), (42, .aload_n 0, 43, 0, 0), (43, .getfield 19, 46, 0, 0), (46, .iload_n 1, 47, 1, 0), (47, .invokevirtual 79, 50, 0, 0), (50, .checkcast 88, 53, 0, 0), (53, .iload_n 2, 54, 2, 0), (54, .putfield 178, 57, 0, 0), (57, .iload_n 3, 58, 3, 0), (58, .ireturn, 59, 0, 0)]
theorem tk_X17_approve : fw_tok mm_X17_approve tb_X17_approve := by unfold fw_tok; decide +kernel
abbrev mm_X17_noPerson : fw_M := (yX17_noPerson, cX17_noPerson, 3, (some .boolean), [])
def tb_X17_noPerson : List fw_R := [(0, .aload_n 0, 1, 0, 0), (1, .aload_n 0, 2, 0, 0), (2, .iload_n 1, 3, 1, 0), (3, .invokevirtual 115, 6, 0, 0), (6, .ifCond .ne 7, 9, 13, 0), (9, .iconst 1, 10, 0, 1), (10, .goto 12, 13, 22, 0), (13, .iload_n 2, 14, 2, 0), (14, .ifCond .eq 7, 17, 21, 0), (17, .iconst 0, 18, 0, 0), (18, .goto 4, 21, 22, 0), (21, .iconst 2, 22, 0, 2), (22, .putfield 28, 25, 0, 0), (25, .aload_n 0, 26, 0, 0), (26, .getfield 28, 29, 0, 0), (29, .ifCond .le 7, 32, 36, 0), (32, .iconst 1, 33, 0, 1), (33, .goto 4, 36, 37, 0), (36, .iconst 0, 37, 0, 0), (37, .ireturn, 38, 0, 0)]
theorem tk_X17_noPerson : fw_tok mm_X17_noPerson tb_X17_noPerson := by unfold fw_tok; decide +kernel
abbrev mm_X17_add : fw_M := (yX17_add, cX17_add, 4, (some .int), [])
def tb_X17_add : List fw_R := [(0, .aload_n 0, 1, 0, 0), (1, .iload_n 1, 2, 1, 0), (2, .iload_n 2, 3, 2, 0), (3, .iconst 0, 4, 0, 0), (4, .sipush 19999, 7, 0, 19999), (7, .invokestatic 52, 10, 0, 0), (10, .ifCond .eq 18, 13, 28, 0), (13, .iload_n 3, 14, 3, 0), (14, .iconst 1, 15, 0, 1), (15, .sipush 200, 18, 0, 200), (18, .invokestatic 52, 21, 0, 0), (21, .ifCond .eq 7, 24, 28, 0), (24, .iconst 1, 25, 0, 1), (25, .goto 4, 28, 29, 0), (28, .iconst 0, 29, 0, 0), (29, .invokevirtual 181, 32, 0, 0), (32, .ifCond .eq 5, 35, 37, 0), (35, .iconst 0, 36, 0, 0), (36, .ireturn, 37, 0, 0), (37, .aload_n 0, 38, 0, 0), (38, .getfield 22, 41, 0, 0), (41, .invokevirtual 66, 44, 0, 0), (44, .bipush 30, 46, 0, 30), (46, .if_icmp .ne 9, 49, 55, 0), (49, .aload_n 0, 50, 0, 0), (50, .iconst 3, 51, 0, 3), (51, .invokevirtual 118, 54, 0, 0), (54, .ireturn, 55, 0, 0), (55, .aload_n 0, 56, 0, 0), (56, .getfield 22, 59, 0, 0), (59, .new 185, 62, 0, 0), (62, .dup, 63, 0, 0), (63, .iload_n 1, 64, 1, 0), (64, .iload_n 2, 65, 2, 0), (65, .iload_n 3, 66, 3, 0), (66, .invokespecial 187, 69, 0, 0), (69, .invokevirtual 75, 72, 0, 0), (72, .pop, 73, 0, 0), (73, .aload_n 0, 74, 0, 0), (74, .getfield 22, 77, 0, 0), (77, .invokevirtual 66, 80, 0, 0), (80, .iconst 1, 81, 0, 1), (81, .isub, 82, 0, 0), (82, .ireturn, 83, 0, 0)]
theorem tk_X17_add : fw_tok mm_X17_add tb_X17_add := by unfold fw_tok; decide +kernel
abbrev mm_X17_giveBack : fw_M := (yX17_giveBack, cX17_giveBack, 4, (some .int), [])
def tb_X17_giveBack : List fw_R := [(0, .iload_n 1, 1, 1, 0), (1, .iconst 0, 2, 0, 0), (2, .aload_n 0, 3, 0, 0), (3, .getfield 22, 6, 0, 0), (6, .invokevirtual 66, 9, 0, 0), (9, .iconst 1, 10, 0, 1), (10, .isub, 11, 0, 0), (11, .invokestatic 52, 14, 0, 0), (14, .ifCond .ne 9, 17, 23, 0), (17, .aload_n 0, 18, 0, 0), (18, .iconst 1, 19, 0, 1), (19, .invokevirtual 118, 22, 0, 0), (22, .ireturn, 23, 0, 0), (23, .aload_n 0, 24, 0, 0), (24, .getfield 22, 27, 0, 0), (27, .iload_n 1, 28, 1, 0), (28, .invokevirtual 79, 31, 0, 0), (31, .checkcast 185, 34, 0, 0), (34, .astore_n 3, 35, 3, 0), (35, .iload_n 2, 36, 2, 0), (36, .iconst 1, 37, 0, 1), (37, .aload_n 3, 38, 3, 0), (38, .getfield 190, 41, 0, 0), (41, .invokestatic 52, 44, 0, 0), (44, .ifCond .ne 9, 47, 53, 0), (47, .aload_n 0, 48, 0, 0), (48, .iconst 2, 49, 0, 2), (49, .invokevirtual 118, 52, 0, 0), (52, .ireturn, 53, 0, 0), (53, .aload_n 0, 54, 0, 0), (54, .iconst 0, 55, 0, 0), (55, .putfield 28, 58, 0, 0), (58, .aload_n 3, 59, 3, 0), (59, .dup, 60, 0, 0), (60, .getfield 190, 63, 0, 0), (63, .iload_n 2, 64, 2, 0), (64, .isub, 65, 0, 0), (65, .putfield 190, 68, 0, 0), (68, .aload_n 3, 69, 3, 0), (69, .getfield 190, 72, 0, 0), (72, .ireturn, 73, 0, 0)]
theorem tk_X17_giveBack : fw_tok mm_X17_giveBack tb_X17_giveBack := by unfold fw_tok; decide +kernel
abbrev mm_X17_marks : fw_M := (yX17_marks, cX17_marks, 8, (some .int), [])
def tb_X17_marks : List fw_R := [(0, .iload_n 1, 1, 1, 0), (1, .istore_n 3, 2, 3, 0), (2, .iload_n 3, 3, 3, 0), (3, .iload_n 2, 4, 2, 0), (4, .if_icmp .ge 13, 7, 17, 0), (7, .aload_n 0, 8, 0, 0), (8, .iload_n 3, 9, 3, 0), (9, .iconst 1, 10, 0, 1), (10, .bastore, 11, 0, 0), (11, .iinc 3 1, 14, 3, 1), (14, .goto (-12), 17, 2, 0), (17, .iconst 0, 18, 0, 0), (18, .istore_n 3, 19, 3, 0), (19, .aload_n 0, 20, 0, 0), (20, .astore 4, 22, 4, 0), (22, .aload 4, 24, 4, 0), (24, .arraylength, 25, 0, 0), (25, .istore 5, 27, 5, 0), (27, .iconst 0, 28, 0, 0), (28, .istore 6, 30, 6, 0), (30, .iload 6, 32, 6, 0), (32, .iload 5, 34, 5, 0), (34, .if_icmp .ge 29, 37, 63, 0), (37, .aload 4, 39, 4, 0), (39, .iload 6, 41, 6, 0), (41, .baload, 42, 0, 0), (42, .istore 7, 44, 7, 0), (44, .iload_n 3, 45, 3, 0), (45, .iload 7, 47, 7, 0), (47, .ifCond .eq 7, 50, 54, 0), (50, .iconst 1, 51, 0, 1), (51, .goto 4, 54, 55, 0), (54, .iconst 0, 55, 0, 0), (55, .iadd, 56, 0, 0), (56, .istore_n 3, 57, 3, 0), (57, .iinc 6 1, 60, 6, 1), (60, .goto (-30), 63, 30, 0), (63, .iload_n 3, 64, 3, 0), (64, .ireturn, 65, 0, 0)]
theorem tk_X17_marks : fw_tok mm_X17_marks tb_X17_marks := by unfold fw_tok; decide +kernel
abbrev mm_X17_areSpan : fw_M := (yX17_areSpan, cX17_areSpan, 2, (some .boolean), [])
def tb_X17_areSpan : List fw_R := [(0, .iload_n 0, 1, 0, 0), (1, .iconst 0, 2, 0, 0), (2, .sipush 19999, 5, 0, 19999), (5, .invokestatic 52, 8, 0, 0), (8, .ifCond .eq 20, 11, 28, 0), (11, .iload_n 1, 12, 1, 0), (12, .iload_n 0, 13, 0, 0), (13, .iconst 1, 14, 0, 1), (14, .iadd, 15, 0, 0), (15, .sipush 20000, 18, 0, 20000), (18, .invokestatic 52, 21, 0, 0), (21, .ifCond .eq 7, 24, 28, 0), (24, .iconst 1, 25, 0, 1), (25, .goto 4, 28, 29, 0), (28, .iconst 0, 29, 0, 0), (29, .ireturn, 30, 0, 0)]
theorem tk_X17_areSpan : fw_tok mm_X17_areSpan tb_X17_areSpan := by unfold fw_tok; decide +kernel
abbrev mm_X17_atLarge : fw_M := (yX17_atLarge, cX17_atLarge, 5, (some .int), [])
def tb_X17_atLarge : List fw_R := [(0, .aload_n 0, 1, 0, 0), (1, .iload_n 1, 2, 1, 0), (2, .iload_n 2, 3, 2, 0), (3, .iload_n 3, 4, 3, 0), (4, .invokestatic 193, 7, 0, 0), (7, .invokevirtual 181, 10, 0, 0), (10, .ifCond .eq 5, 13, 15, 0), (13, .iconst 0, 14, 0, 0), (14, .ireturn, 15, 0, 0), (15, .aload_n 0, 16, 0, 0), (16, .getfield 16, 19, 0, 0), (19, .iload_n 1, 20, 1, 0), (20, .invokevirtual 79, 23, 0, 0), (23, .checkcast 112, 26, 0, 0), (26, .getfield 197, 29, 0, 0), (29, .iload_n 2, 30, 2, 0), (30, .iload_n 3, 31, 3, 0), (31, .invokestatic 201, 34, 0, 0), (34, .istore 4, 36, 4, 0), (36, .aload_n 0, 37, 0, 0), (37, .getfield 16, 40, 0, 0), (40, .iload_n 1, 41, 1, 0), (41, .invokevirtual 79, 44, 0, 0), (44, .checkcast 112, 47, 0, 0), (47, .invokevirtual 205, 50, 0, 0), (50, .iload 4, 52, 4, 0), (52, .ireturn, 53, 0, 0)]
theorem tk_X17_atLarge : fw_tok mm_X17_atLarge tb_X17_atLarge := by unfold fw_tok; decide +kernel
abbrev mm_X17_releaseBy : fw_M := (yX17_releaseBy, cX17_releaseBy, 7, (some .int), [])
def tb_X17_releaseBy : List fw_R := [(0, .aload_n 1, 1, 1, 0), (1, .invokevirtual 108, 4, 0, 0), (4, .ifCond .eq 11, 7, 15, 0), (7, .aload_n 0, 8, 0, 0), (8, .aload_n 1, 9, 1, 0), (9, .invokevirtual 104, 12, 0, 0), (12, .goto 4, 15, 16, 0), (15, .iconst (-1), 16, 0, (-1)), (16, .istore 4, 18, 4, 0), (18, .aload_n 1, 19, 1, 0), (19, .getfield 152, 22, 0, 0), (22, .bipush 108, 24, 0, 108), (24, .if_icmp .eq 27, 27, 51, 0), (27, .iload 4, 29, 4, 0), (29, .iconst (-1), 30, 0, (-1)), (30, .if_icmp .eq 25, 33, 55, 0), (33, .aload_n 0, 34, 0, 0), (34, .getfield 10, 37, 0, 0), (37, .iload 4, 39, 4, 0), (39, .invokevirtual 79, 42, 0, 0), (42, .checkcast 70, 45, 0, 0), (45, .getfield 208, 48, 0, 0), (48, .ifCond .eq 7, 51, 55, 0), (51, .iconst 1, 52, 0, 1), (52, .goto 4, 55, 56, 0), (55, .iconst 0, 56, 0, 0), (56, .istore 5, 58, 5, 0), (58, .iload_n 2, 59, 2, 0), (59, .sipush 19999, 62, 0, 19999), (62, .if_icmp .le 9, 65, 71, 0), (65, .sipush 20000, 68, 0, 20000), (68, .goto 22, 71, 90, 0), (71, .aload_n 0, 72, 0, 0), (72, .getfield 16, 75, 0, 0), (75, .aload_n 1, 76, 1, 0), (76, .getfield 128, 79, 0, 0), (79, .invokevirtual 79, 82, 0, 0), (82, .checkcast 112, 85, 0, 0), (85, .iload_n 2, 86, 2, 0), (86, .iload_n 3, 87, 3, 0), (87, .invokevirtual 211, 90, 0, 0), (90, .istore 6, 92, 6, 0), (92, .iload 5, 94, 5, 0), (94, .ifCond .ne 8, 97, 102, 0), (97, .iload 6, 99, 6, 0), (99, .goto 26, 102, 125, 0), (102, .aload_n 1, 103, 1, 0), (103, .getfield 178, 106, 0, 0), (106, .iconst (-1), 107, 0, (-1)), (107, .if_icmp .ne 9, 110, 116, 0), (110, .sipush 20000, 113, 0, 20000), (113, .goto 12, 116, 125, 0), (116, .iload 6, 118, 6, 0), (118, .aload_n 1, 119, 1, 0), (119, .getfield 178, 122, 0, 0), (122, .invokestatic 214, 125, 0, 0), (125, .ireturn, 126, 0, 0)]
theorem tk_X17_releaseBy : fw_tok mm_X17_releaseBy tb_X17_releaseBy := by unfold fw_tok; decide +kernel
abbrev mm_X17_addedOf : fw_M := (yX17_addedOf, cX17_addedOf, 6, (some (.object "java/util/ArrayList")), [])
def tb_X17_addedOf : List fw_R := [(0, .new 7, 3, 0, 0), (3, .dup, 4, 0, 0), (4, .invokespecial 9, 7, 0, 0), (7, .astore_n 2, 8, 2, 0), (8, .aload_n 0, 9, 0, 0), (9, .getfield 22, 12, 0, 0), (12, .invokevirtual 158, 15, 0, 0), (15, .astore_n 3, 16, 3, 0), (16, .aload_n 3, 17, 3, 0), (17, .invokeinterface 162 1, 22, 0, 0), (22, .ifCond .eq 81, 25, 103, 0), (25, .aload_n 3, 26, 3, 0), (26, .invokeinterface 167 1, 31, 0, 0), (31, .checkcast 185, 34, 0, 0), (34, .astore 4, 36, 4, 0), (36, .aload_n 2, 37, 2, 0), (37, .invokevirtual 66, 40, 0, 0), (40, .istore 5, 42, 5, 0), (42, .iload 5, 44, 5, 0), (44, .ifCond .le 31, 47, 75, 0), (47, .aload_n 2, 48, 2, 0), (48, .iload 5, 50, 5, 0), (50, .iconst 1, 51, 0, 1), (51, .isub, 52, 0, 0), (52, .invokevirtual 79, 55, 0, 0), (55, .checkcast 185, 58, 0, 0), (58, .getfield 217, 61, 0, 0), (61, .aload 4, 63, 4, 0), (63, .getfield 217, 66, 0, 0), (66, .if_icmp .le 9, 69, 75, 0), (69, .iinc 5 (-1), 72, 5, (-1)), (72, .goto (-30), 75, 42, 0), (75, .aload 4, 77, 4, 0), (77, .getfield 220, 80, 0, 0), (80, .iload_n 1, 81, 1, 0), (81, .if_icmp .ne 19, 84, 100, 0), (84, .aload 4, 86, 4, 0), (86, .getfield 190, 89, 0, 0), (89, .ifCond .le 11, 92, 100, 0), (92, .aload_n 2, 93, 2, 0), (93, .iload 5, 95, 5, 0), (95, .aload 4, 97, 4, 0), (97, .invokevirtual 221, 100, 0, 0), (100, .goto (-84), 103, 16, 0), (103, .aload_n 2, 104, 2, 0), (104, .areturn, 105, 0, 0)]
theorem tk_X17_addedOf : fw_tok mm_X17_addedOf tb_X17_addedOf := by unfold fw_tok; decide +kernel
abbrev mm_X17_factOf : fw_M := (yX17_factOf, cX17_factOf, 10, (some (.object "TermreckonryModel$Fact")), [])
def tb_X17_factOf : List fw_R := [(0, .new 224, 3, 0, 0), (3, .dup, 4, 0, 0), (4, .invokespecial 226, 7, 0, 0), (7, .astore_n 3, 8, 3, 0), (8, .aload_n 1, 9, 1, 0), (9, .invokevirtual 227, 12, 0, 0), (12, .ifCond .ne 5, 15, 17, 0), (15, .aload_n 3, 16, 3, 0), (16, .areturn, 17, 0, 0), (17, .aload_n 1, 18, 1, 0), (18, .getfield 152, 21, 0, 0), (21, .bipush 115, 23, 0, 115), (23, .if_icmp .ne 10, 26, 33, 0), (26, .aload_n 1, 27, 1, 0), (27, .getfield 155, 30, 0, 0), (30, .goto 7, 33, 37, 0), (33, .aload_n 1, 34, 1, 0), (34, .getfield 92, 37, 0, 0), (37, .istore 4, 39, 4, 0), (39, .aload_n 1, 40, 1, 0), (40, .getfield 230, 43, 0, 0), (43, .iconst (-1), 44, 0, (-1)), (44, .if_icmp .eq 57, 47, 101, 0), (47, .aload_n 0, 48, 0, 0), (48, .getfield 19, 51, 0, 0), (51, .aload_n 1, 52, 1, 0), (52, .getfield 230, 55, 0, 0), (55, .invokevirtual 79, 58, 0, 0), (58, .checkcast 88, 61, 0, 0), (61, .invokevirtual 227, 64, 0, 0), (64, .ifCond .eq 37, 67, 101, 0), (67, .aload_n 2, 68, 2, 0), (68, .aload_n 1, 69, 1, 0), (69, .getfield 230, 72, 0, 0), (72, .aaload, 73, 0, 0), (73, .getfield 232, 76, 0, 0), (76, .ifCond .eq 20, 79, 96, 0), (79, .iload 4, 81, 4, 0), (81, .aload_n 2, 82, 2, 0), (82, .aload_n 1, 83, 1, 0), (83, .getfield 230, 86, 0, 0), (86, .aaload, 87, 0, 0), (87, .getfield 235, 90, 0, 0), (90, .invokestatic 214, 93, 0, 0), (93, .goto 6, 96, 99, 0), (96, .sipush 20000, 99, 0, 20000), (99, .istore 4, 101, 4, 0), (101, .iload 4, 103, 4, 0), (103, .sipush 19999, 106, 0, 19999), (106, .if_icmp .le 5, 109, 111, 0), (109, .aload_n 3, 110, 3, 0), (110, .areturn, 111, 0, 0), (111, .aload_n 3, 112, 3, 0), (112, .iconst 1, 113, 0, 1), (113, .putfield 232, 116, 0, 0), (116, .aload_n 3, 117, 3, 0), (117, .iload 4, 119, 4, 0), (119, .putfield 238, 122, 0, 0), (122, .aload_n 3, 123, 3, 0), (123, .aload_n 1, 124, 1, 0), (124, .iload 4, 126, 4, 0), (126, .invokevirtual 171, 129, 0, 0), (129, .putfield 241, 132, 0, 0), (132, .aload_n 1, 133, 1, 0), (133, .invokevirtual 108, 136, 0, 0), (136, .ifCond .eq 11, 139, 147, 0), (139, .aload_n 0, 140, 0, 0), (140, .aload_n 1, 141, 1, 0), (141, .invokevirtual 104, 144, 0, 0), (144, .goto 4, 147, 148, 0), (147, .iconst (-1), 148, 0, (-1)), (148, .istore 5, 150, 5, 0), (150, .aload_n 1, 151, 1, 0), (151, .invokevirtual 108, 154, 0, 0), (154, .ifCond .ne 8, 157, 162, 0), (157, .bipush 8, 159, 0, 8), (159, .goto 28, 162, 187, 0), (162, .iload 5, 164, 5, 0), (164, .iconst (-1), 165, 0, (-1)), (165, .if_icmp .ne 7, 168, 172, 0), (168, .iconst 4, 169, 0, 4), (169, .goto 18, 172, 187, 0), (172, .aload_n 0, 173, 0, 0), (173, .getfield 10, 176, 0, 0), (176, .iload 5, 178, 5, 0), (178, .invokevirtual 79, 181, 0, 0), (181, .checkcast 70, 184, 0, 0), (184, .getfield 243, 187, 0, 0), (187, .istore 6, 189, 6, 0), (189, .iconst 0, 190, 0, 0), (190, .aload_n 3, 191, 3, 0), (191, .getfield 241, 194, 0, 0), (194, .aload_n 1, 195, 1, 0), (195, .invokevirtual 149, 198, 0, 0), (198, .isub, 199, 0, 0), (199, .invokestatic 214, 202, 0, 0), (202, .istore 7, 204, 7, 0), (204, .aload_n 3, 205, 3, 0), (205, .iconst 0, 206, 0, 0), (206, .aload_n 3, 207, 3, 0), (207, .getfield 241, 210, 0, 0), (210, .iload 6, 212, 6, 0), (212, .imul, 213, 0, 0), (213, .bipush 7, 215, 0, 7), (215, .iadd, 216, 0, 0), (216, .bipush 8, 218, 0, 8), (218, .idiv, 219, 0, 0), (219, .aload_n 1, 220, 1, 0), (220, .invokevirtual 149, 223, 0, 0), (223, .isub, 224, 0, 0), (224, .invokestatic 214, 227, 0, 0), (227, .putfield 246, 230, 0, 0), (230, .aload_n 1, 231, 1, 0), (231, .invokevirtual 108, 234, 0, 0), (234, .ifCond .eq 14, 237, 248, 0), (237, .aload_n 0, 238, 0, 0), (238, .aload_n 1, 239, 1, 0), (239, .getfield 128, 242, 0, 0), (242, .invokevirtual 249, 245, 0, 0), (245, .goto 10, 248, 255, 0), (248, .new 7, 251, 0, 0), (251, .dup, 252, 0, 0), (252, .invokespecial 9, 255, 0, 0), (255, .invokevirtual 158, 258, 0, 0), (258, .astore 8, 260, 8, 0), (260, .aload 8, 262, 8, 0), (262, .invokeinterface 162 1, 267, 0, 0), (267, .ifCond .eq 66, 270, 333, 0), (270, .aload 8, 272, 8, 0), (272, .invokeinterface 167 1, 277, 0, 0), (277, .checkcast 185, 280, 0, 0), (280, .astore 9, 282, 9, 0), (282, .iload 4, 284, 4, 0), (284, .aload 9, 286, 9, 0), (286, .getfield 217, 289, 0, 0), (289, .if_icmp .gt 41, 292, 330, 0), (292, .aload_n 0, 293, 0, 0), (293, .aload_n 1, 294, 1, 0), (294, .iload 4, 296, 4, 0), (296, .aload_n 3, 297, 3, 0), (297, .getfield 246, 300, 0, 0), (300, .invokevirtual 253, 303, 0, 0), (303, .aload 9, 305, 9, 0), (305, .getfield 217, 308, 0, 0), (308, .if_icmp .le 22, 311, 330, 0), (311, .aload_n 3, 312, 3, 0), (312, .aload_n 3, 313, 3, 0), (313, .getfield 246, 316, 0, 0), (316, .aload 9, 318, 9, 0), (318, .getfield 190, 321, 0, 0), (321, .iadd, 322, 0, 0), (322, .iload 7, 324, 7, 0), (324, .invokestatic 47, 327, 0, 0), (327, .putfield 246, 330, 0, 0), (330, .goto (-70), 333, 260, 0), (333, .aload_n 3, 334, 3, 0), (334, .aload_n 0, 335, 0, 0), (335, .aload_n 1, 336, 1, 0), (336, .iload 4, 338, 4, 0), (338, .aload_n 3, 339, 3, 0), (339, .getfield 246, 342, 0, 0), (342, .invokevirtual 253, 345, 0, 0), (345, .putfield 235, 348, 0, 0), (348, .aload_n 0, 349, 0, 0), (349, .getfield 16, 352, 0, 0), (352, .aload_n 1, 353, 1, 0), (353, .getfield 128, 356, 0, 0), (356, .invokevirtual 79, 359, 0, 0), (359, .checkcast 112, 362, 0, 0), (362, .getfield 257, 365, 0, 0), (365, .astore 8, 367, 8, 0), (367, .aload_n 3, 368, 3, 0), (368, .getfield 235, 371, 0, 0), (371, .sipush 19999, 374, 0, 19999), (374, .if_icmp .gt 52, 377, 426, 0), (377, .aload_n 1, 378, 1, 0), (378, .invokevirtual 108, 381, 0, 0), (381, .ifCond .eq 45, 384, 426, 0), (384, .aload_n 3, 385, 3, 0), (385, .getfield 235, 388, 0, 0), (388, .iload 4, 390, 4, 0), (390, .isub, 391, 0, 0), (391, .aload 8, 393, 8, 0), (393, .aload_n 3, 394, 3, 0), (394, .getfield 235, 397, 0, 0), (397, .iaload, 398, 0, 0), (398, .aload 8, 400, 8, 0), (400, .iload 4, 402, 4, 0), (402, .iaload, 403, 0, 0), (403, .isub, 404, 0, 0), (404, .isub, 405, 0, 0), (405, .istore 9, 407, 9, 0), (407, .aload_n 3, 408, 3, 0), (408, .iload 4, 410, 4, 0), (410, .aload_n 3, 411, 3, 0), (411, .getfield 241, 414, 0, 0), (414, .iadd, 415, 0, 0), (415, .aload_n 1, 416, 1, 0), (416, .invokevirtual 149, 419, 0, 0), (419, .isub, 420, 0, 0), (420, .iload 9, 422, 9, 0), (422, .iadd, 423, 0, 0), (423, .putfield 261, 426, 0, 0), (426, .aload_n 3, 427, 3, 0), (427, .areturn, 428, 0, 0)]
theorem tk_X17_factOf : fw_tok mm_X17_factOf tb_X17_factOf := by unfold fw_tok; decide +kernel
abbrev mm_X17_facts : fw_M := (yX17_facts, cX17_facts, 3, (some (.array (.object "TermreckonryModel$Fact"))), [])
def tb_X17_facts : List fw_R := [(0, .aload_n 0, 1, 0, 0), (1, .getfield 19, 4, 0, 0), (4, .invokevirtual 66, 7, 0, 0), (7, .anewarray 224, 10, 0, 0), (10, .astore_n 1, 11, 1, 0), (11, .iconst 0, 12, 0, 0), (12, .istore_n 2, 13, 2, 0), (13, .iload_n 2, 14, 2, 0), (14, .aload_n 1, 15, 1, 0), (15, .arraylength, 16, 0, 0), (16, .if_icmp .ge 28, 19, 44, 0), (19, .aload_n 1, 20, 1, 0), (20, .iload_n 2, 21, 2, 0), (21, .aload_n 0, 22, 0, 0), (22, .aload_n 0, 23, 0, 0), (23, .getfield 19, 26, 0, 0), (26, .iload_n 2, 27, 2, 0), (27, .invokevirtual 79, 30, 0, 0), (30, .checkcast 88, 33, 0, 0), (33, .aload_n 1, 34, 1, 0), (34, .invokevirtual 264, 37, 0, 0), (37, .aastore, 38, 0, 0), (38, .iinc 2 1, 41, 2, 1), (41, .goto (-28), 44, 13, 0), (44, .aload_n 1, 45, 1, 0), (45, .areturn, 46, 0, 0)]
theorem tk_X17_facts : fw_tok mm_X17_facts tb_X17_facts := by unfold fw_tok; decide +kernel
abbrev mm_X17_hasLicence : fw_M := (yX17_hasLicence, cX17_hasLicence, 4, (some .boolean), [])
def tb_X17_hasLicence : List fw_R := [(0, .aload_n 1, 1, 1, 0), (1, .getfield 232, 4, 0, 0), (4, .ifCond .eq 15, 7, 19, 0), (7, .aload_n 1, 8, 1, 0), (8, .getfield 235, 11, 0, 0), (11, .iload_n 2, 12, 2, 0), (12, .if_icmp .gt 7, 15, 19, 0), (15, .iconst 1, 16, 0, 1), (16, .goto 4, 19, 20, 0), (19, .iconst 0, 20, 0, 0), (20, .istore_n 3, 21, 3, 0), (21, .iload_n 3, 22, 3, 0), (22, .ifCond .eq 31, 25, 53, 0), (25, .aload_n 0, 26, 0, 0), (26, .getfield 152, 29, 0, 0), (29, .bipush 108, 31, 0, 108), (31, .if_icmp .eq 18, 34, 49, 0), (34, .aload_n 0, 35, 0, 0), (35, .invokevirtual 108, 38, 0, 0), (38, .ifCond .eq 15, 41, 53, 0), (41, .iload_n 2, 42, 2, 0), (42, .aload_n 1, 43, 1, 0), (43, .getfield 261, 46, 0, 0), (46, .if_icmp .ge 7, 49, 53, 0), (49, .iconst 1, 50, 0, 1), (50, .goto 4, 53, 54, 0), (53, .iconst 0, 54, 0, 0), (54, .ireturn, 55, 0, 0)]
theorem tk_X17_hasLicence : fw_tok mm_X17_hasLicence tb_X17_hasLicence := by unfold fw_tok; decide +kernel
abbrev mm_X17_isLicensed : fw_M := (yX17_isLicensed, cX17_isLicensed, 7, (some .boolean), [])
def tb_X17_isLicensed : List fw_R := [(0, .iconst 0, 1, 0, 0), (1, .istore 5, 3, 5, 0), (3, .iconst 0, 4, 0, 0), (4, .istore 6, 6, 6, 0), (6, .iload 6, 8, 6, 0), (8, .iload 4, 10, 4, 0), (10, .if_icmp .ge 63, 13, 73, 0), (13, .iload 5, 15, 5, 0), (15, .ifCond .ne 45, 18, 60, 0), (18, .aload_n 0, 19, 0, 0), (19, .getfield 19, 22, 0, 0), (22, .iload 6, 24, 6, 0), (24, .invokevirtual 79, 27, 0, 0), (27, .checkcast 88, 30, 0, 0), (30, .getfield 128, 33, 0, 0), (33, .iload_n 1, 34, 1, 0), (34, .if_icmp .ne 30, 37, 64, 0), (37, .aload_n 0, 38, 0, 0), (38, .getfield 19, 41, 0, 0), (41, .iload 6, 43, 6, 0), (43, .invokevirtual 79, 46, 0, 0), (46, .checkcast 88, 49, 0, 0), (49, .aload_n 3, 50, 3, 0), (50, .iload 6, 52, 6, 0), (52, .aaload, 53, 0, 0), (53, .iload_n 2, 54, 2, 0), (54, .invokestatic 268, 57, 0, 0), (57, .ifCond .eq 7, 60, 64, 0), (60, .iconst 1, 61, 0, 1), (61, .goto 4, 64, 65, 0), (64, .iconst 0, 65, 0, 0), (65, .istore 5, 67, 5, 0), (67, .iinc 6 1, 70, 6, 1), (70, .goto (-64), 73, 6, 0), (73, .iload 5, 75, 5, 0), (75, .ireturn, 76, 0, 0)]
theorem tk_X17_isLicensed : fw_tok mm_X17_isLicensed tb_X17_isLicensed := by unfold fw_tok; decide +kernel
abbrev mm_X17_goesOn : fw_M := (yX17_goesOn, cX17_goesOn, 7, (some .boolean), [])
def tb_X17_goesOn : List fw_R := [(0, .aload_n 0, 1, 0, 0), (1, .getfield 16, 4, 0, 0), (4, .aload_n 1, 5, 1, 0), (5, .getfield 272, 8, 0, 0), (8, .invokevirtual 79, 11, 0, 0), (11, .checkcast 112, 14, 0, 0), (14, .getfield 257, 17, 0, 0), (17, .astore 4, 19, 4, 0), (19, .iload_n 2, 20, 2, 0), (20, .aload_n 1, 21, 1, 0), (21, .getfield 275, 24, 0, 0), (24, .if_icmp .lt 41, 27, 65, 0), (27, .iload_n 2, 28, 2, 0), (28, .aload_n 1, 29, 1, 0), (29, .getfield 276, 32, 0, 0), (32, .if_icmp .ge 33, 35, 65, 0), (35, .aload_n 1, 36, 1, 0), (36, .getfield 279, 39, 0, 0), (39, .bipush 115, 41, 0, 115), (41, .if_icmp .eq 20, 44, 61, 0), (44, .aload 4, 46, 4, 0), (46, .iload_n 2, 47, 2, 0), (47, .iaload, 48, 0, 0), (48, .aload 4, 50, 4, 0), (50, .aload_n 1, 51, 1, 0), (51, .getfield 275, 54, 0, 0), (54, .iaload, 55, 0, 0), (55, .isub, 56, 0, 0), (56, .bipush 28, 58, 0, 28), (58, .if_icmp .ge 7, 61, 65, 0), (61, .iconst 1, 62, 0, 1), (62, .goto 4, 65, 66, 0), (65, .iconst 0, 66, 0, 0), (66, .istore 5, 68, 5, 0), (68, .aload_n 1, 69, 1, 0), (69, .getfield 275, 72, 0, 0), (72, .istore 6, 74, 6, 0), (74, .iload 6, 76, 6, 0), (76, .iload_n 2, 77, 2, 0), (77, .if_icmp .gt 31, 80, 108, 0), (80, .iload 5, 82, 5, 0), (82, .ifCond .eq 26, 85, 108, 0), (85, .aload_n 0, 86, 0, 0), (86, .aload_n 1, 87, 1, 0), (87, .getfield 272, 90, 0, 0), (90, .iload 6, 92, 6, 0), (92, .aload_n 3, 93, 3, 0), (93, .aload_n 1, 94, 1, 0), (94, .getfield 280, 97, 0, 0), (97, .invokevirtual 282, 100, 0, 0), (100, .istore 5, 102, 5, 0), (102, .iinc 6 1, 105, 6, 1), (105, .goto (-31), 108, 74, 0), (108, .iload 5, 110, 5, 0), (110, .ireturn, 111, 0, 0)]
theorem tk_X17_goesOn : fw_tok mm_X17_goesOn tb_X17_goesOn := by unfold fw_tok; decide +kernel
abbrev mm_X17_isIn : fw_M := (yX17_isIn, cX17_isIn, 4, (some .boolean), [])
def tb_X17_isIn : List fw_R := [(0, .aload_n 3, 1, 3, 0), (1, .iload_n 1, 2, 1, 0), (2, .aaload, 3, 0, 0), (3, .getfield 232, 6, 0, 0), (6, .ifCond .eq 27, 9, 33, 0), (9, .aload_n 3, 10, 3, 0), (10, .iload_n 1, 11, 1, 0), (11, .aaload, 12, 0, 0), (12, .getfield 238, 15, 0, 0), (15, .iload_n 2, 16, 2, 0), (16, .if_icmp .gt 17, 19, 33, 0), (19, .aload_n 3, 20, 3, 0), (20, .iload_n 1, 21, 1, 0), (21, .aaload, 22, 0, 0), (22, .getfield 235, 25, 0, 0), (25, .iload_n 2, 26, 2, 0), (26, .if_icmp .le 7, 29, 33, 0), (29, .iconst 1, 30, 0, 1), (30, .goto 4, 33, 34, 0), (33, .iconst 0, 34, 0, 0), (34, .ireturn, 35, 0, 0)]
theorem tk_X17_isIn : fw_tok mm_X17_isIn tb_X17_isIn := by unfold fw_tok; decide +kernel
abbrev mm_X17_stateOf : fw_M := (yX17_stateOf, cX17_stateOf, 7, (some .char), [])
def tb_X17_stateOf : List fw_R := [(0, .aload_n 0, 1, 0, 0), (1, .iload_n 1, 2, 1, 0), (2, .iload_n 2, 3, 2, 0), (3, .aload_n 3, 4, 3, 0), (4, .aload_n 0, 5, 0, 0), (5, .getfield 19, 8, 0, 0), (8, .invokevirtual 66, 11, 0, 0), (11, .invokevirtual 282, 14, 0, 0), (14, .ifCond .eq 8, 17, 22, 0), (17, .bipush 108, 19, 0, 108), (19, .goto 5, 22, 24, 0), (22, .bipush 111, 24, 0, 111), (24, .istore 4, 26, 4, 0), (26, .aload_n 0, 27, 0, 0), (27, .getfield 25, 30, 0, 0), (30, .invokevirtual 158, 33, 0, 0), (33, .astore 5, 35, 5, 0), (35, .aload 5, 37, 5, 0), (37, .invokeinterface 162 1, 42, 0, 0), (42, .ifCond .eq 47, 45, 89, 0), (45, .aload 5, 47, 5, 0), (47, .invokeinterface 167 1, 52, 0, 0), (52, .checkcast 273, 55, 0, 0), (55, .astore 6, 57, 6, 0), (57, .aload 6, 59, 6, 0), (59, .getfield 272, 62, 0, 0), (62, .iload_n 1, 63, 1, 0), (63, .if_icmp .ne 19, 66, 82, 0), (66, .aload_n 0, 67, 0, 0), (67, .aload 6, 69, 6, 0), (69, .iload_n 2, 70, 2, 0), (70, .aload_n 3, 71, 3, 0), (71, .invokevirtual 286, 74, 0, 0), (74, .ifCond .eq 8, 77, 82, 0), (77, .bipush 114, 79, 0, 114), (79, .goto 5, 82, 84, 0), (82, .iload 4, 84, 4, 0), (84, .istore 4, 86, 4, 0), (86, .goto (-51), 89, 35, 0), (89, .iconst 0, 90, 0, 0), (90, .istore 5, 92, 5, 0), (92, .iload 5, 94, 5, 0), (94, .aload_n 3, 95, 3, 0), (95, .arraylength, 96, 0, 0), (96, .if_icmp .ge 48, 99, 144, 0), (99, .aload_n 0, 100, 0, 0), (100, .getfield 19, 103, 0, 0), (103, .iload 5, 105, 5, 0), (105, .invokevirtual 79, 108, 0, 0), (108, .checkcast 88, 111, 0, 0), (111, .getfield 128, 114, 0, 0), (114, .iload_n 1, 115, 1, 0), (115, .if_icmp .ne 19, 118, 134, 0), (118, .aload_n 0, 119, 0, 0), (119, .iload 5, 121, 5, 0), (121, .iload_n 2, 122, 2, 0), (122, .aload_n 3, 123, 3, 0), (123, .invokevirtual 290, 126, 0, 0), (126, .ifCond .eq 8, 129, 134, 0), (129, .bipush 112, 131, 0, 112), (131, .goto 5, 134, 136, 0), (134, .iload 4, 136, 4, 0), (136, .istore 4, 138, 4, 0), (138, .iinc 5 1, 141, 5, 1), (141, .goto (-49), 144, 92, 0), (144, .aload_n 0, 145, 0, 0), (145, .getfield 16, 148, 0, 0), (148, .iload_n 1, 149, 1, 0), (149, .invokevirtual 79, 152, 0, 0), (152, .checkcast 112, 155, 0, 0), (155, .getfield 197, 158, 0, 0), (158, .iload_n 2, 159, 2, 0), (159, .baload, 160, 0, 0), (160, .istore 5, 162, 5, 0), (162, .iload 5, 164, 5, 0), (164, .ifCond .eq 22, 167, 186, 0), (167, .iload 4, 169, 4, 0), (169, .bipush 112, 171, 0, 112), (171, .if_icmp .eq 10, 174, 181, 0), (174, .iload 4, 176, 4, 0), (176, .bipush 114, 178, 0, 114), (178, .if_icmp .ne 8, 181, 186, 0), (181, .bipush 97, 183, 0, 97), (183, .goto 5, 186, 188, 0), (186, .iload 4, 188, 4, 0), (188, .ireturn, 189, 0, 0)]
theorem tk_X17_stateOf : fw_tok mm_X17_stateOf tb_X17_stateOf := by unfold fw_tok; decide +kernel
abbrev mm_X17_recall : fw_M := (yX17_recall, cX17_recall, 7, (some .int), [])
def tb_X17_recall : List fw_R := [(0, .aload_n 0, 1, 0, 0), (1, .iload_n 1, 2, 1, 0), (2, .iload_n 2, 3, 2, 0), (3, .iconst 0, 4, 0, 0), (4, .sipush 19999, 7, 0, 19999), (7, .invokestatic 52, 10, 0, 0), (10, .ifCond .eq 19, 13, 29, 0), (13, .iload_n 3, 14, 3, 0), (14, .bipush 102, 16, 0, 102), (16, .if_icmp .eq 9, 19, 25, 0), (19, .iload_n 3, 20, 3, 0), (20, .bipush 115, 22, 0, 115), (22, .if_icmp .ne 7, 25, 29, 0), (25, .iconst 1, 26, 0, 1), (26, .goto 4, 29, 30, 0), (29, .iconst 0, 30, 0, 0), (30, .invokevirtual 181, 33, 0, 0), (33, .ifCond .eq 5, 36, 38, 0), (36, .iconst 0, 37, 0, 0), (37, .ireturn, 38, 0, 0), (38, .aload_n 0, 39, 0, 0), (39, .aload_n 0, 40, 0, 0), (40, .iload_n 1, 41, 1, 0), (41, .iload_n 2, 42, 2, 0), (42, .aload_n 0, 43, 0, 0), (43, .invokevirtual 294, 46, 0, 0), (46, .invokevirtual 298, 49, 0, 0), (49, .bipush 108, 51, 0, 108), (51, .if_icmp .eq 7, 54, 58, 0), (54, .iconst 3, 55, 0, 3), (55, .goto 20, 58, 75, 0), (58, .aload_n 0, 59, 0, 0), (59, .getfield 25, 62, 0, 0), (62, .invokevirtual 66, 65, 0, 0), (65, .bipush 20, 67, 0, 20), (67, .if_icmp .ne 7, 70, 74, 0), (70, .iconst 4, 71, 0, 4), (71, .goto 4, 74, 75, 0), (74, .iconst 0, 75, 0, 0), (75, .putfield 28, 78, 0, 0), (78, .aload_n 0, 79, 0, 0), (79, .getfield 28, 82, 0, 0), (82, .ifCond .le 5, 85, 87, 0), (85, .iconst 0, 86, 0, 0), (86, .ireturn, 87, 0, 0), (87, .aload_n 0, 88, 0, 0), (88, .getfield 25, 91, 0, 0), (91, .new 273, 94, 0, 0), (94, .dup, 95, 0, 0), (95, .iload_n 1, 96, 1, 0), (96, .iload_n 2, 97, 2, 0), (97, .iload_n 3, 98, 3, 0), (98, .aload_n 0, 99, 0, 0), (99, .getfield 19, 102, 0, 0), (102, .invokevirtual 66, 105, 0, 0), (105, .invokespecial 302, 108, 0, 0), (108, .invokevirtual 75, 111, 0, 0), (111, .pop, 112, 0, 0), (112, .iconst 0, 113, 0, 0), (113, .istore 4, 115, 4, 0), (115, .aload_n 0, 116, 0, 0), (116, .getfield 25, 119, 0, 0), (119, .invokevirtual 158, 122, 0, 0), (122, .astore 5, 124, 5, 0), (124, .aload 5, 126, 5, 0), (126, .invokeinterface 162 1, 131, 0, 0), (131, .ifCond .eq 37, 134, 168, 0), (134, .aload 5, 136, 5, 0), (136, .invokeinterface 167 1, 141, 0, 0), (141, .checkcast 273, 144, 0, 0), (144, .astore 6, 146, 6, 0), (146, .iload 4, 148, 4, 0), (148, .aload 6, 150, 6, 0), (150, .getfield 272, 153, 0, 0), (153, .iload_n 1, 154, 1, 0), (154, .if_icmp .ne 7, 157, 161, 0), (157, .iconst 1, 158, 0, 1), (158, .goto 4, 161, 162, 0), (161, .iconst 0, 162, 0, 0), (162, .iadd, 163, 0, 0), (163, .istore 4, 165, 4, 0), (165, .goto (-41), 168, 124, 0), (168, .iload 4, 170, 4, 0), (170, .ireturn, 171, 0, 0)]
theorem tk_X17_recall : fw_tok mm_X17_recall tb_X17_recall := by unfold fw_tok; decide +kernel
abbrev mm_X17_letGo : fw_M := (yX17_letGo, cX17_letGo, 6, (some .int), [])
def tb_X17_letGo : List fw_R := [(0, .aload_n 0, 1, 0, 0), (1, .iload_n 1, 2, 1, 0), (2, .iload_n 2, 3, 2, 0), (3, .iconst 0, 4, 0, 0), (4, .sipush 19999, 7, 0, 19999), (7, .invokestatic 52, 10, 0, 0), (10, .invokevirtual 181, 13, 0, 0), (13, .ifCond .eq 5, 16, 18, 0), (16, .iconst 0, 17, 0, 0), (17, .ireturn, 18, 0, 0), (18, .aload_n 0, 19, 0, 0), (19, .invokevirtual 294, 22, 0, 0), (22, .astore_n 3, 23, 3, 0), (23, .aload_n 0, 24, 0, 0), (24, .getfield 25, 27, 0, 0), (27, .invokevirtual 158, 30, 0, 0), (30, .astore 4, 32, 4, 0), (32, .aload 4, 34, 4, 0), (34, .invokeinterface 162 1, 39, 0, 0), (39, .ifCond .eq 50, 42, 89, 0), (42, .aload 4, 44, 4, 0), (44, .invokeinterface 167 1, 49, 0, 0), (49, .checkcast 273, 52, 0, 0), (52, .astore 5, 54, 5, 0), (54, .aload 5, 56, 5, 0), (56, .getfield 272, 59, 0, 0), (59, .iload_n 1, 60, 1, 0), (60, .if_icmp .ne 26, 63, 86, 0), (63, .aload_n 0, 64, 0, 0), (64, .aload 5, 66, 5, 0), (66, .iload_n 2, 67, 2, 0), (67, .aload_n 3, 68, 3, 0), (68, .invokevirtual 286, 71, 0, 0), (71, .ifCond .eq 15, 74, 86, 0), (74, .aload 5, 76, 5, 0), (76, .iload_n 2, 77, 2, 0), (77, .putfield 276, 80, 0, 0), (80, .aload 5, 82, 5, 0), (82, .getfield 275, 85, 0, 0), (85, .ireturn, 86, 0, 0), (86, .goto (-54), 89, 32, 0), (89, .aload_n 0, 90, 0, 0), (90, .iconst 3, 91, 0, 3), (91, .invokevirtual 118, 94, 0, 0), (94, .ireturn, 95, 0, 0)]
theorem tk_X17_letGo : fw_tok mm_X17_letGo tb_X17_letGo := by unfold fw_tok; decide +kernel
abbrev mm_X17_begun : fw_M := (yX17_begun, cX17_begun, 3, (some (.object "TermreckonryModel$Fact")), [])
def tb_X17_begun : List fw_R := [(0, .aload_n 0, 1, 0, 0), (1, .iload_n 1, 2, 1, 0), (2, .invokevirtual 101, 5, 0, 0), (5, .ifCond .eq 5, 8, 10, 0), (8, .aconst_null, 9, 0, 0), (9, .areturn, 10, 0, 0), (10, .aload_n 0, 11, 0, 0), (11, .invokevirtual 294, 14, 0, 0), (14, .iload_n 1, 15, 1, 0), (15, .aaload, 16, 0, 0), (16, .astore_n 2, 17, 2, 0), (17, .aload_n 0, 18, 0, 0), (18, .aload_n 2, 19, 2, 0), (19, .getfield 232, 22, 0, 0), (22, .ifCond .eq 7, 25, 29, 0), (25, .iconst 0, 26, 0, 0), (26, .goto 4, 29, 30, 0), (29, .iconst 2, 30, 0, 2), (30, .putfield 28, 33, 0, 0), (33, .aload_n 0, 34, 0, 0), (34, .getfield 28, 37, 0, 0), (37, .ifCond .le 7, 40, 44, 0), (40, .aconst_null, 41, 0, 0), (41, .goto 4, 44, 45, 0), (44, .aload_n 2, 45, 2, 0), (45, .areturn, 46, 0, 0)]
theorem tk_X17_begun : fw_tok mm_X17_begun tb_X17_begun := by unfold fw_tok; decide +kernel
abbrev mm_X17_begins : fw_M := (yX17_begins, cX17_begins, 3, (some .int), [])
def tb_X17_begins : List fw_R := [(0, .aload_n 0, 1, 0, 0), (1, .iload_n 1, 2, 1, 0), (2, .invokevirtual 305, 5, 0, 0), (5, .astore_n 2, 6, 2, 0), (6, .aload_n 2, 7, 2, 0), (7, .ifnonnull 7, 10, 14, 0), (10, .iconst 0, 11, 0, 0), (11, .goto 7, 14, 18, 0), (14, .aload_n 2, 15, 2, 0), (15, .getfield 238, 18, 0, 0), (18, .ireturn, 19, 0, 0)]
theorem tk_X17_begins : fw_tok mm_X17_begins tb_X17_begins := by unfold fw_tok; decide +kernel
abbrev mm_X17_needed : fw_M := (yX17_needed, cX17_needed, 3, (some .int), [])
def tb_X17_needed : List fw_R := [(0, .aload_n 0, 1, 0, 0), (1, .iload_n 1, 2, 1, 0), (2, .invokevirtual 305, 5, 0, 0), (5, .astore_n 2, 6, 2, 0), (6, .aload_n 2, 7, 2, 0), (7, .ifnonnull 7, 10, 14, 0), (10, .iconst 0, 11, 0, 0), (11, .goto 7, 14, 18, 0), (14, .aload_n 2, 15, 2, 0), (15, .getfield 246, 18, 0, 0), (18, .ireturn, 19, 0, 0)]
theorem tk_X17_needed : fw_tok mm_X17_needed tb_X17_needed := by unfold fw_tok; decide +kernel
abbrev mm_X17_release : fw_M := (yX17_release, cX17_release, 3, (some .int), [])
def tb_X17_release : List fw_R := [(0, .aload_n 0, 1, 0, 0), (1, .iload_n 1, 2, 1, 0), (2, .invokevirtual 305, 5, 0, 0), (5, .astore_n 2, 6, 2, 0), (6, .aload_n 0, 7, 0, 0), (7, .aload_n 0, 8, 0, 0), (8, .getfield 28, 11, 0, 0), (11, .ifCond .ne 17, 14, 28, 0), (14, .aload_n 2, 15, 2, 0), (15, .getfield 235, 18, 0, 0), (18, .sipush 19999, 21, 0, 19999), (21, .if_icmp .le 7, 24, 28, 0), (24, .iconst 2, 25, 0, 2), (25, .goto 7, 28, 32, 0), (28, .aload_n 0, 29, 0, 0), (29, .getfield 28, 32, 0, 0), (32, .putfield 28, 35, 0, 0), (35, .aload_n 0, 36, 0, 0), (36, .getfield 28, 39, 0, 0), (39, .ifCond .le 7, 42, 46, 0), (42, .iconst 0, 43, 0, 0), (43, .goto 7, 46, 50, 0), (46, .aload_n 2, 47, 2, 0), (47, .getfield 235, 50, 0, 0), (50, .ireturn, 51, 0, 0)]
theorem tk_X17_release : fw_tok mm_X17_release tb_X17_release := by unfold fw_tok; decide +kernel
abbrev mm_X17_end : fw_M := (yX17_end, cX17_end, 3, (some .int), [])
def tb_X17_end : List fw_R := [(0, .aload_n 0, 1, 0, 0), (1, .iload_n 1, 2, 1, 0), (2, .invokevirtual 305, 5, 0, 0), (5, .astore_n 2, 6, 2, 0), (6, .aload_n 0, 7, 0, 0), (7, .aload_n 0, 8, 0, 0), (8, .getfield 28, 11, 0, 0), (11, .ifCond .ne 28, 14, 39, 0), (14, .aload_n 2, 15, 2, 0), (15, .getfield 235, 18, 0, 0), (18, .sipush 19999, 21, 0, 19999), (21, .if_icmp .gt 14, 24, 35, 0), (24, .aload_n 2, 25, 2, 0), (25, .getfield 261, 28, 0, 0), (28, .aload_n 2, 29, 2, 0), (29, .getfield 235, 32, 0, 0), (32, .if_icmp .gt 7, 35, 39, 0), (35, .iconst 2, 36, 0, 2), (36, .goto 7, 39, 43, 0), (39, .aload_n 0, 40, 0, 0), (40, .getfield 28, 43, 0, 0), (43, .putfield 28, 46, 0, 0), (46, .aload_n 0, 47, 0, 0), (47, .getfield 28, 50, 0, 0), (50, .ifCond .le 7, 53, 57, 0), (53, .iconst 0, 54, 0, 0), (54, .goto 7, 57, 61, 0), (57, .aload_n 2, 58, 2, 0), (58, .getfield 261, 61, 0, 0), (61, .ireturn, 62, 0, 0)]
theorem tk_X17_end : fw_tok mm_X17_end tb_X17_end := by unfold fw_tok; decide +kernel
abbrev mm_X17_stateOn : fw_M := (yX17_stateOn, cX17_stateOn, 3, (some .char), [])
def tb_X17_stateOn : List fw_R := [(0, .aload_n 0, 1, 0, 0), (1, .iload_n 1, 2, 1, 0), (2, .iload_n 2, 3, 2, 0), (3, .iconst 0, 4, 0, 0), (4, .sipush 19999, 7, 0, 19999), (7, .invokestatic 52, 10, 0, 0), (10, .invokevirtual 181, 13, 0, 0), (13, .ifCond .eq 8, 16, 21, 0), (16, .bipush 32, 18, 0, 32), (18, .goto 13, 21, 31, 0), (21, .aload_n 0, 22, 0, 0), (22, .iload_n 1, 23, 1, 0), (23, .iload_n 2, 24, 2, 0), (24, .aload_n 0, 25, 0, 0), (25, .invokevirtual 294, 28, 0, 0), (28, .invokevirtual 298, 31, 0, 0), (31, .ireturn, 32, 0, 0)]
theorem tk_X17_stateOn : fw_tok mm_X17_stateOn tb_X17_stateOn := by unfold fw_tok; decide +kernel
abbrev mm_X17_byClerk : fw_M := (yX17_byClerk, cX17_byClerk, 3, (some .char), [])
def tb_X17_byClerk : List fw_R := [(0, .aload_n 0, 1, 0, 0), (1, .iload_n 1, 2, 1, 0), (2, .iload_n 2, 3, 2, 0), (3, .invokevirtual 309, 6, 0, 0), (6, .ireturn, 7, 0, 0)]
theorem tk_X17_byClerk : fw_tok mm_X17_byClerk tb_X17_byClerk := by unfold fw_tok; decide +kernel
abbrev mm_X17_keeper : fw_M := (yX17_keeper, cX17_keeper, 7, (some .int), [])
def tb_X17_keeper : List fw_R := [(0, .aload_n 0, 1, 0, 0), (1, .iload_n 1, 2, 1, 0), (2, .iload_n 2, 3, 2, 0), (3, .iconst 0, 4, 0, 0), (4, .sipush 19999, 7, 0, 19999), (7, .invokestatic 52, 10, 0, 0), (10, .invokevirtual 181, 13, 0, 0), (13, .ifCond .eq 5, 16, 18, 0), (16, .iconst 0, 17, 0, 0), (17, .ireturn, 18, 0, 0), (18, .aload_n 0, 19, 0, 0), (19, .invokevirtual 294, 22, 0, 0), (22, .astore_n 3, 23, 3, 0), (23, .iconst (-1), 24, 0, (-1)), (24, .istore 4, 26, 4, 0), (26, .iconst 0, 27, 0, 0), (27, .istore 5, 29, 5, 0), (29, .iload 5, 31, 5, 0), (31, .aload_n 3, 32, 3, 0), (32, .arraylength, 33, 0, 0), (33, .if_icmp .ge 83, 36, 116, 0), (36, .aload_n 0, 37, 0, 0), (37, .getfield 19, 40, 0, 0), (40, .iload 5, 42, 5, 0), (42, .invokevirtual 79, 45, 0, 0), (45, .checkcast 88, 48, 0, 0), (48, .getfield 128, 51, 0, 0), (51, .iload_n 1, 52, 1, 0), (52, .if_icmp .ne 18, 55, 70, 0), (55, .aload_n 0, 56, 0, 0), (56, .iload 5, 58, 5, 0), (58, .iload_n 2, 59, 2, 0), (59, .aload_n 3, 60, 3, 0), (60, .invokevirtual 290, 63, 0, 0), (63, .ifCond .eq 7, 66, 70, 0), (66, .iconst 1, 67, 0, 1), (67, .goto 4, 70, 71, 0), (70, .iconst 0, 71, 0, 0), (71, .istore 6, 73, 6, 0), (73, .iload 6, 75, 6, 0), (75, .ifCond .eq 31, 78, 106, 0), (78, .iload 4, 80, 4, 0), (80, .iconst (-1), 81, 0, (-1)), (81, .if_icmp .eq 20, 84, 101, 0), (84, .aload_n 3, 85, 3, 0), (85, .iload 5, 87, 5, 0), (87, .aaload, 88, 0, 0), (88, .getfield 235, 91, 0, 0), (91, .aload_n 3, 92, 3, 0), (92, .iload 4, 94, 4, 0), (94, .aaload, 95, 0, 0), (95, .getfield 235, 98, 0, 0), (98, .if_icmp .le 8, 101, 106, 0), (101, .iload 5, 103, 5, 0), (103, .goto 5, 106, 108, 0), (106, .iload 4, 108, 4, 0), (108, .istore 4, 110, 4, 0), (110, .iinc 5 1, 113, 5, 1), (113, .goto (-84), 116, 29, 0), (116, .aload_n 0, 117, 0, 0), (117, .iload 4, 119, 4, 0), (119, .iconst (-1), 120, 0, (-1)), (120, .if_icmp .ne 7, 123, 127, 0), (123, .iconst 3, 124, 0, 3), (124, .goto 4, 127, 128, 0), (127, .iconst 0, 128, 0, 0), (128, .putfield 28, 131, 0, 0), (131, .iconst 0, 132, 0, 0), (132, .iload 4, 134, 4, 0), (134, .invokestatic 214, 137, 0, 0), (137, .ireturn, 138, 0, 0)]
theorem tk_X17_keeper : fw_tok mm_X17_keeper tb_X17_keeper := by unfold fw_tok; decide +kernel
abbrev mm_X17_held : fw_M := (yX17_held, cX17_held, 4, (some .int), [])
def tb_X17_held : List fw_R := [(0, .aload_n 0, 1, 0, 0), (1, .iload_n 1, 2, 1, 0), (2, .iload_n 2, 3, 2, 0), (3, .iload_n 3, 4, 3, 0), (4, .invokestatic 193, 7, 0, 0), (7, .invokevirtual 181, 10, 0, 0), (10, .ifCond .eq 7, 13, 17, 0), (13, .iconst 0, 14, 0, 0), (14, .goto 22, 17, 36, 0), (17, .aload_n 0, 18, 0, 0), (18, .getfield 16, 21, 0, 0), (21, .iload_n 1, 22, 1, 0), (22, .invokevirtual 79, 25, 0, 0), (25, .checkcast 112, 28, 0, 0), (28, .getfield 313, 31, 0, 0), (31, .iload_n 2, 32, 2, 0), (32, .iload_n 3, 33, 3, 0), (33, .invokestatic 201, 36, 0, 0), (36, .ireturn, 37, 0, 0)]
theorem tk_X17_held : fw_tok mm_X17_held tb_X17_held := by unfold fw_tok; decide +kernel
abbrev mm_X17_counted : fw_M := (yX17_counted, cX17_counted, 9, (some .int), [])
def tb_X17_counted : List fw_R := [(0, .aload_n 0, 1, 0, 0), (1, .iload_n 1, 2, 1, 0), (2, .iload_n 2, 3, 2, 0), (3, .iconst 0, 4, 0, 0), (4, .sipush 20000, 7, 0, 20000), (7, .invokestatic 52, 10, 0, 0), (10, .invokevirtual 181, 13, 0, 0), (13, .ifCond .eq 5, 16, 18, 0), (16, .iconst 0, 17, 0, 0), (17, .ireturn, 18, 0, 0), (18, .aload_n 0, 19, 0, 0), (19, .invokevirtual 294, 22, 0, 0), (22, .astore 5, 24, 5, 0), (24, .aload_n 0, 25, 0, 0), (25, .getfield 25, 28, 0, 0), (28, .invokevirtual 66, 31, 0, 0), (31, .newarray .int, 33, 0, 0), (33, .astore 6, 35, 6, 0), (35, .iconst 0, 36, 0, 0), (36, .istore 7, 38, 7, 0), (38, .iload 7, 40, 7, 0), (40, .aload 6, 42, 6, 0), (42, .arraylength, 43, 0, 0), (43, .if_icmp .ge 32, 46, 75, 0), (46, .aload 6, 48, 6, 0), (48, .iload 7, 50, 7, 0), (50, .aload_n 0, 51, 0, 0), (51, .aload_n 0, 52, 0, 0), (52, .getfield 25, 55, 0, 0), (55, .iload 7, 57, 7, 0), (57, .invokevirtual 79, 60, 0, 0), (60, .checkcast 273, 63, 0, 0), (63, .aload 5, 65, 5, 0), (65, .invokevirtual 316, 68, 0, 0), (68, .iastore, 69, 0, 0), (69, .iinc 7 1, 72, 7, 1), (72, .goto (-34), 75, 38, 0), (75, .iconst 0, 76, 0, 0), (76, .istore 7, 78, 7, 0), (78, .iconst 0, 79, 0, 0), (79, .istore 8, 81, 8, 0), (81, .iload 8, 83, 8, 0), (83, .iload_n 2, 84, 2, 0), (84, .if_icmp .ge 59, 87, 143, 0), (87, .iload 7, 89, 7, 0), (89, .aload_n 0, 90, 0, 0), (90, .getfield 16, 93, 0, 0), (93, .iload_n 1, 94, 1, 0), (94, .invokevirtual 79, 97, 0, 0), (97, .checkcast 112, 100, 0, 0), (100, .getfield 313, 103, 0, 0), (103, .iload 8, 105, 8, 0), (105, .baload, 106, 0, 0), (106, .iload_n 3, 107, 3, 0), (107, .if_icmp .ne 26, 110, 133, 0), (110, .aload 4, 112, 4, 0), (112, .aload_n 0, 113, 0, 0), (113, .iload_n 1, 114, 1, 0), (114, .iload 8, 116, 8, 0), (116, .aload 5, 118, 5, 0), (118, .aload 6, 120, 6, 0), (120, .invokevirtual 320, 123, 0, 0), (123, .invokevirtual 123, 126, 0, 0), (126, .ifCond .lt 7, 129, 133, 0), (129, .iconst 1, 130, 0, 1), (130, .goto 4, 133, 134, 0), (133, .iconst 0, 134, 0, 0), (134, .iadd, 135, 0, 0), (135, .istore 7, 137, 7, 0), (137, .iinc 8 1, 140, 8, 1), (140, .goto (-59), 143, 81, 0), (143, .iload 7, 145, 7, 0), (145, .ireturn, 146, 0, 0)]
theorem tk_X17_counted : fw_tok mm_X17_counted tb_X17_counted := by unfold fw_tok; decide +kernel
abbrev mm_X17_endOf : fw_M := (yX17_endOf, cX17_endOf, 5, (some .int), [])
def tb_X17_endOf : List fw_R := [(0, .aload_n 0, 1, 0, 0), (1, .getfield 16, 4, 0, 0), (4, .aload_n 1, 5, 1, 0), (5, .getfield 272, 8, 0, 0), (8, .invokevirtual 79, 11, 0, 0), (11, .checkcast 112, 14, 0, 0), (14, .getfield 257, 17, 0, 0), (17, .astore_n 3, 18, 3, 0), (18, .aload_n 1, 19, 1, 0), (19, .getfield 275, 22, 0, 0), (22, .istore 4, 24, 4, 0), (24, .iload 4, 26, 4, 0), (26, .aload_n 1, 27, 1, 0), (27, .getfield 276, 30, 0, 0), (30, .if_icmp .ge 52, 33, 82, 0), (33, .aload_n 1, 34, 1, 0), (34, .getfield 279, 37, 0, 0), (37, .bipush 115, 39, 0, 115), (39, .if_icmp .eq 19, 42, 58, 0), (42, .aload_n 3, 43, 3, 0), (43, .iload 4, 45, 4, 0), (45, .iaload, 46, 0, 0), (46, .aload_n 3, 47, 3, 0), (47, .aload_n 1, 48, 1, 0), (48, .getfield 275, 51, 0, 0), (51, .iaload, 52, 0, 0), (52, .isub, 53, 0, 0), (53, .bipush 28, 55, 0, 28), (55, .if_icmp .ge 27, 58, 82, 0), (58, .aload_n 0, 59, 0, 0), (59, .aload_n 1, 60, 1, 0), (60, .getfield 272, 63, 0, 0), (63, .iload 4, 65, 4, 0), (65, .aload_n 2, 66, 2, 0), (66, .aload_n 1, 67, 1, 0), (67, .getfield 280, 70, 0, 0), (70, .invokevirtual 282, 73, 0, 0), (73, .ifCond .eq 9, 76, 82, 0), (76, .iinc 4 1, 79, 4, 1), (79, .goto (-55), 82, 24, 0), (82, .iload 4, 84, 4, 0), (84, .ireturn, 85, 0, 0)]
theorem tk_X17_endOf : fw_tok mm_X17_endOf tb_X17_endOf := by unfold fw_tok; decide +kernel
abbrev mm_X17_fast : fw_M := (yX17_fast, cX17_fast, 8, (some .char), [])
def tb_X17_fast : List fw_R := [(0, .iconst 0, 1, 0, 0), (1, .istore 5, 3, 5, 0), (3, .iconst 0, 4, 0, 0), (4, .istore 6, 6, 6, 0), (6, .iconst 0, 7, 0, 0), (7, .istore 7, 9, 7, 0), (9, .iload 7, 11, 7, 0), (11, .aload_n 3, 12, 3, 0), (12, .arraylength, 13, 0, 0), (13, .if_icmp .ge 51, 16, 64, 0), (16, .iload 5, 18, 5, 0), (18, .ifCond .ne 33, 21, 51, 0), (21, .aload_n 0, 22, 0, 0), (22, .getfield 19, 25, 0, 0), (25, .iload 7, 27, 7, 0), (27, .invokevirtual 79, 30, 0, 0), (30, .checkcast 88, 33, 0, 0), (33, .getfield 128, 36, 0, 0), (36, .iload_n 1, 37, 1, 0), (37, .if_icmp .ne 18, 40, 55, 0), (40, .aload_n 0, 41, 0, 0), (41, .iload 7, 43, 7, 0), (43, .iload_n 2, 44, 2, 0), (44, .aload_n 3, 45, 3, 0), (45, .invokevirtual 290, 48, 0, 0), (48, .ifCond .eq 7, 51, 55, 0), (51, .iconst 1, 52, 0, 1), (52, .goto 4, 55, 56, 0), (55, .iconst 0, 56, 0, 0), (56, .istore 5, 58, 5, 0), (58, .iinc 7 1, 61, 7, 1), (61, .goto (-52), 64, 9, 0), (64, .iconst 0, 65, 0, 0), (65, .istore 7, 67, 7, 0), (67, .iload 7, 69, 7, 0), (69, .aload 4, 71, 4, 0), (71, .arraylength, 72, 0, 0), (72, .if_icmp .ge 68, 75, 140, 0), (75, .iload 6, 77, 6, 0), (77, .ifCond .ne 50, 80, 127, 0), (80, .aload_n 0, 81, 0, 0), (81, .getfield 25, 84, 0, 0), (84, .iload 7, 86, 7, 0), (86, .invokevirtual 79, 89, 0, 0), (89, .checkcast 273, 92, 0, 0), (92, .getfield 272, 95, 0, 0), (95, .iload_n 1, 96, 1, 0), (96, .if_icmp .ne 35, 99, 131, 0), (99, .iload_n 2, 100, 2, 0), (100, .aload_n 0, 101, 0, 0), (101, .getfield 25, 104, 0, 0), (104, .iload 7, 106, 7, 0), (106, .invokevirtual 79, 109, 0, 0), (109, .checkcast 273, 112, 0, 0), (112, .getfield 275, 115, 0, 0), (115, .if_icmp .lt 16, 118, 131, 0), (118, .iload_n 2, 119, 2, 0), (119, .aload 4, 121, 4, 0), (121, .iload 7, 123, 7, 0), (123, .iaload, 124, 0, 0), (124, .if_icmp .ge 7, 127, 131, 0), (127, .iconst 1, 128, 0, 1), (128, .goto 4, 131, 132, 0), (131, .iconst 0, 132, 0, 0), (132, .istore 6, 134, 6, 0), (134, .iinc 7 1, 137, 7, 1), (137, .goto (-70), 140, 67, 0), (140, .iload 5, 142, 5, 0), (142, .ifCond .ne 8, 145, 150, 0), (145, .iload 6, 147, 6, 0), (147, .ifCond .eq 25, 150, 172, 0), (150, .aload_n 0, 151, 0, 0), (151, .getfield 16, 154, 0, 0), (154, .iload_n 1, 155, 1, 0), (155, .invokevirtual 79, 158, 0, 0), (158, .checkcast 112, 161, 0, 0), (161, .getfield 197, 164, 0, 0), (164, .iload_n 2, 165, 2, 0), (165, .baload, 166, 0, 0), (166, .ifCond .eq 6, 169, 172, 0), (169, .bipush 97, 171, 0, 97), (171, .ireturn, 172, 0, 0), (172, .iload 5, 174, 5, 0), (174, .ifCond .eq 8, 177, 182, 0), (177, .bipush 112, 179, 0, 112), (179, .goto 32, 182, 211, 0), (182, .iload 6, 184, 6, 0), (184, .ifCond .eq 8, 187, 192, 0), (187, .bipush 114, 189, 0, 114), (189, .goto 22, 192, 211, 0), (192, .aload_n 0, 193, 0, 0), (193, .iload_n 1, 194, 1, 0), (194, .iload_n 2, 195, 2, 0), (195, .aload_n 3, 196, 3, 0), (196, .aload_n 3, 197, 3, 0), (197, .arraylength, 198, 0, 0), (198, .invokevirtual 282, 201, 0, 0), (201, .ifCond .eq 8, 204, 209, 0), (204, .bipush 108, 206, 0, 108), (206, .goto 5, 209, 211, 0), (209, .bipush 111, 211, 0, 111), (211, .ireturn, 212, 0, 0)]
theorem tk_X17_fast : fw_tok mm_X17_fast tb_X17_fast := by unfold fw_tok; decide +kernel
abbrev mm_X17_tooLong : fw_M := (yX17_tooLong, cX17_tooLong, 3, (some .int), [])
def tb_X17_tooLong : List fw_R := [(0, .aload_n 0, 1, 0, 0), (1, .iload_n 1, 2, 1, 0), (2, .iload_n 2, 3, 2, 0), (3, .iconst 1, 4, 0, 1), (4, .ldc_w 324, 7, 0, 0), (7, .invokevirtual 326, 10, 0, 0), (10, .ireturn, 11, 0, 0)]
theorem tk_X17_tooLong : fw_tok mm_X17_tooLong tb_X17_tooLong := by unfold fw_tok; decide +kernel
abbrev mm_X17_tooShort : fw_M := (yX17_tooShort, cX17_tooShort, 3, (some .int), [])
def tb_X17_tooShort : List fw_R := [(0, .aload_n 0, 1, 0, 0), (1, .iload_n 1, 2, 1, 0), (2, .iload_n 2, 3, 2, 0), (3, .iconst 0, 4, 0, 0), (4, .ldc_w 329, 7, 0, 0), (7, .invokevirtual 326, 10, 0, 0), (10, .ireturn, 11, 0, 0)]
theorem tk_X17_tooShort : fw_tok mm_X17_tooShort tb_X17_tooShort := by unfold fw_tok; decide +kernel
abbrev mm_X17_warrants : fw_M := (yX17_warrants, cX17_warrants, 1, (some .int), [])
def tb_X17_warrants : List fw_R := [(0, .aload_n 0, 1, 0, 0), (1, .iconst 0, 2, 0, 0), (2, .putfield 28, 5, 0, 0), (5, .aload_n 0, 6, 0, 0), (6, .getfield 19, 9, 0, 0), (9, .invokevirtual 66, 12, 0, 0), (12, .ireturn, 13, 0, 0)]
theorem tk_X17_warrants : fw_tok mm_X17_warrants tb_X17_warrants := by unfold fw_tok; decide +kernel
abbrev mm_X17_owed : fw_M := (yX17_owed, cX17_owed, 7, (some .long), [])
def tb_X17_owed : List fw_R := [(0, .aload_n 0, 1, 0, 0), (1, .iconst 0, 2, 0, 0), (2, .putfield 28, 5, 0, 0), (5, .lconst 0, 6, 0, 0), (6, .lstore_n 1, 7, 1, 0), (7, .aload_n 0, 8, 0, 0), (8, .invokevirtual 294, 11, 0, 0), (11, .astore_n 3, 12, 3, 0), (12, .aload_n 3, 13, 3, 0), (13, .arraylength, 14, 0, 0), (14, .istore 4, 16, 4, 0), (16, .iconst 0, 17, 0, 0), (17, .istore 5, 19, 5, 0), (19, .iload 5, 21, 5, 0), (21, .iload 4, 23, 4, 0), (23, .if_icmp .ge 36, 26, 59, 0), (26, .aload_n 3, 27, 3, 0), (27, .iload 5, 29, 5, 0), (29, .aaload, 30, 0, 0), (30, .astore 6, 32, 6, 0), (32, .lload_n 1, 33, 1, 0), (33, .aload 6, 35, 6, 0), (35, .getfield 232, 38, 0, 0), (38, .ifCond .eq 12, 41, 50, 0), (41, .aload 6, 43, 6, 0), (43, .getfield 246, 46, 0, 0), (46, .i2l, 47, 0, 0), (47, .goto 4, 50, 51, 0), (50, .lconst 0, 51, 0, 0), (51, .ladd, 52, 0, 0), (52, .lstore_n 1, 53, 1, 0), (53, .iinc 5 1, 56, 5, 1), (56, .goto (-37), 59, 19, 0), (59, .lload_n 1, 60, 1, 0), (60, .lreturn, 61, 0, 0)]
theorem tk_X17_owed : fw_tok mm_X17_owed tb_X17_owed := by unfold fw_tok; decide +kernel
abbrev mm_X17_prisonShare : fw_M := (yX17_prisonShare, cX17_prisonShare, 5, (some .float), [])
def tb_X17_prisonShare : List fw_R := [(0, .aload_n 0, 1, 0, 0), (1, .iload_n 1, 2, 1, 0), (2, .iconst 0, 3, 0, 0), (3, .sipush 19999, 6, 0, 19999), (6, .invokestatic 52, 9, 0, 0), (9, .ifCond .ne 7, 12, 16, 0), (12, .iconst 1, 13, 0, 1), (13, .goto 18, 16, 31, 0), (16, .aload_n 0, 17, 0, 0), (17, .getfield 16, 20, 0, 0), (20, .invokevirtual 331, 23, 0, 0), (23, .ifCond .eq 7, 26, 30, 0), (26, .iconst 2, 27, 0, 2), (27, .goto 4, 30, 31, 0), (30, .iconst 0, 31, 0, 0), (31, .putfield 28, 34, 0, 0), (34, .aload_n 0, 35, 0, 0), (35, .invokevirtual 294, 38, 0, 0), (38, .astore_n 2, 39, 2, 0), (39, .iconst 0, 40, 0, 0), (40, .istore_n 3, 41, 3, 0), (41, .iconst 0, 42, 0, 0), (42, .istore 4, 44, 4, 0), (44, .iload 4, 46, 4, 0), (46, .aload_n 0, 47, 0, 0), (47, .getfield 16, 50, 0, 0), (50, .invokevirtual 66, 53, 0, 0), (53, .if_icmp .ge 37, 56, 90, 0), (56, .aload_n 0, 57, 0, 0), (57, .getfield 28, 60, 0, 0), (60, .ifCond .ne 30, 63, 90, 0), (63, .iload_n 3, 64, 3, 0), (64, .aload_n 0, 65, 0, 0), (65, .iload 4, 67, 4, 0), (67, .iload_n 1, 68, 1, 0), (68, .aload_n 2, 69, 2, 0), (69, .invokevirtual 298, 72, 0, 0), (72, .bipush 112, 74, 0, 112), (74, .if_icmp .ne 7, 77, 81, 0), (77, .iconst 1, 78, 0, 1), (78, .goto 4, 81, 82, 0), (81, .iconst 0, 82, 0, 0), (82, .iadd, 83, 0, 0), (83, .istore_n 3, 84, 3, 0), (84, .iinc 4 1, 87, 4, 1), (87, .goto (-43), 90, 44, 0), (90, .aload_n 0, 91, 0, 0), (91, .getfield 28, 94, 0, 0), (94, .ifCond .le 7, 97, 101, 0), (97, .fconst 0, 98, 0, 0), (98, .goto 14, 101, 112, 0), (101, .iload_n 3, 102, 3, 0), (102, .i2f, 103, 0, 0), (103, .aload_n 0, 104, 0, 0), (104, .getfield 16, 107, 0, 0), (107, .invokevirtual 66, 110, 0, 0), (110, .i2f, 111, 0, 0), (111, .fdiv, 112, 0, 0), (112, .freturn, 113, 0, 0)]
theorem tk_X17_prisonShare : fw_tok mm_X17_prisonShare tb_X17_prisonShare := by unfold fw_tok; decide +kernel
abbrev mm_X17_meanNeeded : fw_M := (yX17_meanNeeded, cX17_meanNeeded, 8, (some .double), [])
def tb_X17_meanNeeded : List fw_R := [(0, .lconst 0, 1, 0, 0), (1, .lstore_n 1, 2, 1, 0), (2, .iconst 0, 3, 0, 0), (3, .istore_n 3, 4, 3, 0), (4, .aload_n 0, 5, 0, 0), (5, .invokevirtual 294, 8, 0, 0), (8, .astore 4, 10, 4, 0), (10, .aload 4, 12, 4, 0), (12, .arraylength, 13, 0, 0), (13, .istore 5, 15, 5, 0), (15, .iconst 0, 16, 0, 0), (16, .istore 6, 18, 6, 0), (18, .iload 6, 20, 6, 0), (20, .iload 5, 22, 5, 0), (22, .if_icmp .ge 53, 25, 75, 0), (25, .aload 4, 27, 4, 0), (27, .iload 6, 29, 6, 0), (29, .aaload, 30, 0, 0), (30, .astore 7, 32, 7, 0), (32, .lload_n 1, 33, 1, 0), (33, .aload 7, 35, 7, 0), (35, .getfield 232, 38, 0, 0), (38, .ifCond .eq 12, 41, 50, 0), (41, .aload 7, 43, 7, 0), (43, .getfield 246, 46, 0, 0), (46, .i2l, 47, 0, 0), (47, .goto 4, 50, 51, 0), (50, .lconst 0, 51, 0, 0), (51, .ladd, 52, 0, 0), (52, .lstore_n 1, 53, 1, 0), (53, .iload_n 3, 54, 3, 0), (54, .aload 7, 56, 7, 0), (56, .getfield 232, 59, 0, 0), (59, .ifCond .eq 7, 62, 66, 0), (62, .iconst 1, 63, 0, 1), (63, .goto 4, 66, 67, 0), (66, .iconst 0, 67, 0, 0), (67, .iadd, 68, 0, 0), (68, .istore_n 3, 69, 3, 0), (69, .iinc 6 1, 72, 6, 1), (72, .goto (-54), 75, 18, 0), (75, .aload_n 0, 76, 0, 0), (76, .iload_n 3, 77, 3, 0), (77, .ifCond .ne 7, 80, 84, 0), (80, .iconst 1, 81, 0, 1), (81, .goto 4, 84, 85, 0), (84, .iconst 0, 85, 0, 0), (85, .putfield 28, 88, 0, 0), (88, .aload_n 0, 89, 0, 0), (89, .getfield 28, 92, 0, 0), (92, .ifCond .le 7, 95, 99, 0), (95, .dconst 0, 96, 0, 0), (96, .goto 8, 99, 104, 0), (99, .lload_n 1, 100, 1, 0), (100, .l2d, 101, 0, 0), (101, .iload_n 3, 102, 3, 0), (102, .i2d, 103, 0, 0), (103, .ddiv, 104, 0, 0), (104, .dreturn, 105, 0, 0)]
theorem tk_X17_meanNeeded : fw_tok mm_X17_meanNeeded tb_X17_meanNeeded := by unfold fw_tok; decide +kernel
abbrev mm_X17_isTrue : fw_M := (yX17_isTrue, cX17_isTrue, 1, (some .boolean), [])
def tb_X17_isTrue : List fw_R := [(0, .aload_n 0, 1, 0, 0), (1, .iconst 0, 2, 0, 0), (2, .putfield 28, 5, 0, 0), (5, .iconst 1, 6, 0, 1), (6, .ireturn, 7, 0, 0)]
theorem tk_X17_isTrue : fw_tok mm_X17_isTrue tb_X17_isTrue := by unfold fw_tok; decide +kernel
abbrev mm_J13_bitCount_95d88 : fw_M := (yJ13_bitCount_95d88, cJ13_bitCount_95d88, 2, (some .int), [])
def tb_J13_bitCount_95d88 : List fw_R := [(0, .lload_n 0, 1, 0, 0), (1, .lload_n 0, 2, 0, 0), (2, .iconst 1, 3, 0, 1), (3, .lushr, 4, 0, 0), (4, .ldc2_w 314, 7, 0, 0), (7, .land, 8, 0, 0), (8, .lsub, 9, 0, 0), (9, .lstore_n 0, 10, 0, 0), (10, .lload_n 0, 11, 0, 0), (11, .ldc2_w 316, 14, 0, 0), (14, .land, 15, 0, 0), (15, .lload_n 0, 16, 0, 0), (16, .iconst 2, 17, 0, 2), (17, .lushr, 18, 0, 0), (18, .ldc2_w 316, 21, 0, 0), (21, .land, 22, 0, 0), (22, .ladd, 23, 0, 0), (23, .lstore_n 0, 24, 0, 0), (24, .lload_n 0, 25, 0, 0), (25, .lload_n 0, 26, 0, 0), (26, .iconst 4, 27, 0, 4), (27, .lushr, 28, 0, 0), (28, .ladd, 29, 0, 0), (29, .ldc2_w 318, 32, 0, 0), (32, .land, 33, 0, 0), (33, .lstore_n 0, 34, 0, 0), (34, .lload_n 0, 35, 0, 0), (35, .lload_n 0, 36, 0, 0), (36, .bipush 8, 38, 0, 8), (38, .lushr, 39, 0, 0), (39, .ladd, 40, 0, 0), (40, .lstore_n 0, 41, 0, 0), (41, .lload_n 0, 42, 0, 0), (42, .lload_n 0, 43, 0, 0), (43, .bipush 16, 45, 0, 16), (45, .lushr, 46, 0, 0), (46, .ladd, 47, 0, 0), (47, .lstore_n 0, 48, 0, 0), (48, .lload_n 0, 49, 0, 0), (49, .lload_n 0, 50, 0, 0), (50, .bipush 32, 52, 0, 32), (52, .lushr, 53, 0, 0), (53, .ladd, 54, 0, 0), (54, .lstore_n 0, 55, 0, 0), (55, .lload_n 0, 56, 0, 0), (56, .l2i, 57, 0, 0), (57, .bipush 127, 59, 0, 127), (59, .iand, 60, 0, 0), (60, .ireturn, 61, 0, 0)]
theorem tk_J13_bitCount_95d88 : fw_tok mm_J13_bitCount_95d88 tb_J13_bitCount_95d88 := by unfold fw_tok; decide +kernel
abbrev mm_J9_max_7cf53 : fw_M := (yJ9_max_7cf53, cJ9_max_7cf53, 2, (some .int), [])
def tb_J9_max_7cf53 : List fw_R := [(0, .iload_n 0, 1, 0, 0), (1, .iload_n 1, 2, 1, 0), (2, .if_icmp .lt 7, 5, 9, 0), (5, .iload_n 0, 6, 0, 0), (6, .goto 4, 9, 10, 0), (9, .iload_n 1, 10, 1, 0), (10, .ireturn, 11, 0, 0)]
theorem tk_J9_max_7cf53 : fw_tok mm_J9_max_7cf53 tb_J9_max_7cf53 := by unfold fw_tok; decide +kernel
abbrev mm_J9_min_7cf53 : fw_M := (yJ9_min_7cf53, cJ9_min_7cf53, 2, (some .int), [])
def tb_J9_min_7cf53 : List fw_R := [(0, .iload_n 0, 1, 0, 0), (1, .iload_n 1, 2, 1, 0), (2, .if_icmp .gt 7, 5, 9, 0), (5, .iload_n 0, 6, 0, 0), (6, .goto 4, 9, 10, 0), (9, .iload_n 1, 10, 1, 0), (10, .ireturn, 11, 0, 0)]
theorem tk_J9_min_7cf53 : fw_tok mm_J9_min_7cf53 tb_J9_min_7cf53 := by unfold fw_tok; decide +kernel
abbrev mm_J0_init_81219 : fw_M := (yJ0_init_81219, cJ0_init_81219, 2, none, [])
def tb_J0_init_81219 : List fw_R := [(0, .aload_n 0, 1, 0, 0), (1, .aload_n 1, 2, 1, 0), (2, .aconst_null, 3, 0, 0), (3, .invokespecial 489, 6, 0, 0), (6, .return_, 7, 0, 0)]
theorem tk_J0_init_81219 : fw_tok mm_J0_init_81219 tb_J0_init_81219 := by unfold fw_tok; decide +kernel
abbrev mm_J0_length_8abf5 : fw_M := (yJ0_length_8abf5, cJ0_length_8abf5, 1, (some .int), [])
def tb_J0_length_8abf5 : List fw_R := [(0, .aload_n 0, 1, 0, 0), (1, .getfield 9, 4, 0, 0), (4, .arraylength, 5, 0, 0), (5, .aload_n 0, 6, 0, 0), (6, .invokevirtual 335, 9, 0, 0), (9, .ishr, 10, 0, 0), (10, .ireturn, 11, 0, 0)]
theorem tk_J0_length_8abf5 : fw_tok mm_J0_length_8abf5 tb_J0_length_8abf5 := by unfold fw_tok; decide +kernel
abbrev mm_J0_indexOf_0f7a4 : fw_M := (yJ0_indexOf_0f7a4, cJ0_indexOf_0f7a4, 2, (some .int), [])
def tb_J0_indexOf_0f7a4 : List fw_R := [(0, .aload_n 0, 1, 0, 0), (1, .iload_n 1, 2, 1, 0), (2, .iconst 0, 3, 0, 0), (3, .invokevirtual 633, 6, 0, 0), (6, .ireturn, 7, 0, 0)]
theorem tk_J0_indexOf_0f7a4 : fw_tok mm_J0_indexOf_0f7a4 tb_J0_indexOf_0f7a4 := by unfold fw_tok; decide +kernel
abbrev mm_J0_indexOf_7cf53 : fw_M := (yJ0_indexOf_7cf53, cJ0_indexOf_7cf53, 3, (some .int), [])
def tb_J0_indexOf_7cf53 : List fw_R := [(0, .aload_n 0, 1, 0, 0), (1, .invokevirtual 492, 4, 0, 0), (4, .ifCond .eq 19, 7, 23, 0), (7, .aload_n 0, 8, 0, 0), (8, .getfield 9, 11, 0, 0), (11, .iload_n 1, 12, 1, 0), (12, .iload_n 2, 13, 2, 0), (13, .aload_n 0, 14, 0, 0), (14, .invokevirtual 505, 17, 0, 0), (17, .invokestatic 637, 20, 0, 0), (20, .goto 16, 23, 36, 0), (23, .aload_n 0, 24, 0, 0), (24, .getfield 9, 27, 0, 0), (27, .iload_n 1, 28, 1, 0), (28, .iload_n 2, 29, 2, 0), (29, .aload_n 0, 30, 0, 0), (30, .invokevirtual 505, 33, 0, 0), (33, .invokestatic 640, 36, 0, 0), (36, .ireturn, 37, 0, 0)]
theorem tk_J0_indexOf_7cf53 : fw_tok mm_J0_indexOf_7cf53 tb_J0_indexOf_7cf53 := by unfold fw_tok; decide +kernel
abbrev mm_J0_init_db425 : fw_M := (yJ0_init_db425, cJ0_init_db425, 5, none, [])
def tb_J0_init_db425 : List fw_R := [(0, .aload_n 0, 1, 0, 0), (1, .invokespecial 1, 4, 0, 0), (4, .aload_n 1, 5, 1, 0), (5, .invokevirtual 552, 8, 0, 0), (8, .astore_n 3, 9, 3, 0), (9, .aload_n 1, 10, 1, 0), (10, .invokevirtual 549, 13, 0, 0), (13, .istore 4, 15, 4, 0), (15, .aload_n 1, 16, 1, 0), (16, .invokevirtual 1047, 19, 0, 0), (19, .ifCond .eq 22, 22, 41, 0), (22, .aload_n 0, 23, 0, 0), (23, .iconst 0, 24, 0, 0), (24, .putfield 15, 27, 0, 0), (27, .aload_n 0, 28, 0, 0), (28, .aload_n 3, 29, 3, 0), (29, .iconst 0, 30, 0, 0), (30, .iload 4, 32, 4, 0), (32, .invokestatic 54, 35, 0, 0), (35, .putfield 9, 38, 0, 0), (38, .goto 59, 41, 97, 0), (41, .getstatic 38, 44, 0, 0), (44, .ifCond .eq 35, 47, 79, 0), (47, .aload_n 1, 48, 1, 0), (48, .getfield 1048, 51, 0, 0), (51, .ifCond .eq 28, 54, 79, 0), (54, .aload_n 0, 55, 0, 0), (55, .aload_n 3, 56, 3, 0), (56, .iconst 0, 57, 0, 0), (57, .iload 4, 59, 4, 0), (59, .invokestatic 1051, 62, 0, 0), (62, .putfield 9, 65, 0, 0), (65, .aload_n 0, 66, 0, 0), (66, .aload_n 0, 67, 0, 0), (67, .getfield 9, 70, 0, 0), (70, .iload 4, 72, 4, 0), (72, .invokestatic 47, 75, 0, 0), (75, .putfield 15, 78, 0, 0), (78, .return_, 79, 0, 0), (79, .aload_n 0, 80, 0, 0), (80, .iconst 1, 81, 0, 1), (81, .putfield 15, 84, 0, 0), (84, .aload_n 0, 85, 0, 0), (85, .aload_n 3, 86, 3, 0), (86, .iconst 0, 87, 0, 0), (87, .iload 4, 89, 4, 0), (89, .iconst 1, 90, 0, 1), (90, .ishl, 91, 0, 0), (91, .invokestatic 54, 94, 0, 0), (94, .putfield 9, 97, 0, 0), (97, .return_, 98, 0, 0)]
theorem tk_J0_init_db425 : fw_tok mm_J0_init_db425 tb_J0_init_db425 := by unfold fw_tok; decide +kernel
abbrev mm_J0_coder_7d493 : fw_M := (yJ0_coder_7d493, cJ0_coder_7d493, 1, (some .byte), [])
def tb_J0_coder_7d493 : List fw_R := [(0, .getstatic 38, 3, 0, 0), (3, .ifCond .eq 10, 6, 13, 0), (6, .aload_n 0, 7, 0, 0), (7, .getfield 15, 10, 0, 0), (10, .goto 4, 13, 14, 0), (13, .iconst 1, 14, 0, 1), (14, .ireturn, 15, 0, 0)]
theorem tk_J0_coder_7d493 : fw_tok mm_J0_coder_7d493 tb_J0_coder_7d493 := by unfold fw_tok; decide +kernel
abbrev mm_J0_isLatin1_aae02 : fw_M := (yJ0_isLatin1_aae02, cJ0_isLatin1_aae02, 1, (some .boolean), [])
def tb_J0_isLatin1_aae02 : List fw_R := [(0, .getstatic 38, 3, 0, 0), (3, .ifCond .eq 14, 6, 17, 0), (6, .aload_n 0, 7, 0, 0), (7, .getfield 15, 10, 0, 0), (10, .ifCond .ne 7, 13, 17, 0), (13, .iconst 1, 14, 0, 1), (14, .goto 4, 17, 18, 0), (17, .iconst 0, 18, 0, 0), (18, .ireturn, 19, 0, 0)]
theorem tk_J0_isLatin1_aae02 : fw_tok mm_J0_isLatin1_aae02 tb_J0_isLatin1_aae02 := by unfold fw_tok; decide +kernel
abbrev mm_J0_checkBoundsOffCount_cabcc : fw_M := (yJ0_checkBoundsOffCount_cabcc, cJ0_checkBoundsOffCount_cabcc, 3, (some .int), [])
def tb_J0_checkBoundsOffCount_cabcc : List fw_R := [(0, .iload_n 0, 1, 0, 0), (1, .iload_n 1, 2, 1, 0), (2, .iload_n 2, 3, 2, 0), (3, .getstatic 1053, 6, 0, 0), (6, .invokestatic 1065, 9, 0, 0), (9, .ireturn, 10, 0, 0)]
theorem tk_J0_checkBoundsOffCount_cabcc : fw_tok mm_J0_checkBoundsOffCount_cabcc tb_J0_checkBoundsOffCount_cabcc := by unfold fw_tok; decide +kernel
abbrev mm_J0_checkBoundsBeginEnd_23922 : fw_M := (yJ0_checkBoundsBeginEnd_23922, cJ0_checkBoundsBeginEnd_23922, 3, none, [])
def tb_J0_checkBoundsBeginEnd_23922 : List fw_R := [(0, .iload_n 0, 1, 0, 0), (1, .iload_n 1, 2, 1, 0), (2, .iload_n 2, 3, 2, 0), (3, .getstatic 1053, 6, 0, 0), (6, .invokestatic 1062, 9, 0, 0), (9, .pop, 10, 0, 0), (10, .return_, 11, 0, 0)]
theorem tk_J0_checkBoundsBeginEnd_23922 : fw_tok mm_J0_checkBoundsBeginEnd_23922 tb_J0_checkBoundsBeginEnd_23922 := by unfold fw_tok; decide +kernel
abbrev mm_J1_canEncode_9a6ad : fw_M := (yJ1_canEncode_9a6ad, cJ1_canEncode_9a6ad, 1, (some .boolean), [])
def tb_J1_canEncode_9a6ad : List fw_R := [(0, .iload_n 0, 1, 0, 0), (1, .ifCond .lt 14, 4, 15, 0), (4, .iload_n 0, 5, 0, 0), (5, .sipush 255, 8, 0, 255), (8, .if_icmp .gt 7, 11, 15, 0), (11, .iconst 1, 12, 0, 1), (12, .goto 4, 15, 16, 0), (15, .iconst 0, 16, 0, 0), (16, .ireturn, 17, 0, 0)]
theorem tk_J1_canEncode_9a6ad : fw_tok mm_J1_canEncode_9a6ad tb_J1_canEncode_9a6ad := by unfold fw_tok; decide +kernel
abbrev mm_J1_indexOf_4cfef : fw_M := (yJ1_indexOf_4cfef, cJ1_indexOf_4cfef, 4, (some .int), [])
def tb_J1_indexOf_4cfef : List fw_R := [(0, .iload_n 1, 1, 1, 0), (1, .invokestatic 88, 4, 0, 0), (4, .ifCond .ne 5, 7, 9, 0), (7, .iconst (-1), 8, 0, (-1)), (8, .ireturn, 9, 0, 0), (9, .iload_n 2, 10, 2, 0), (10, .iconst 0, 11, 0, 0), (11, .invokestatic 92, 14, 0, 0), (14, .istore_n 2, 15, 2, 0), (15, .iload_n 3, 16, 3, 0), (16, .aload_n 0, 17, 0, 0), (17, .arraylength, 18, 0, 0), (18, .invokestatic 38, 21, 0, 0), (21, .istore_n 3, 22, 3, 0), (22, .iload_n 2, 23, 2, 0), (23, .iload_n 3, 24, 3, 0), (24, .if_icmp .lt 5, 27, 29, 0), (27, .iconst (-1), 28, 0, (-1)), (28, .ireturn, 29, 0, 0), (29, .aload_n 0, 30, 0, 0), (30, .iload_n 1, 31, 1, 0), (31, .iload_n 2, 32, 2, 0), (32, .iload_n 3, 33, 3, 0), (33, .invokestatic 95, 36, 0, 0), (36, .ireturn, 37, 0, 0)]
theorem tk_J1_indexOf_4cfef : fw_tok mm_J1_indexOf_4cfef tb_J1_indexOf_4cfef := by unfold fw_tok; decide +kernel
abbrev mm_J1_indexOfChar_4cfef : fw_M := (yJ1_indexOfChar_4cfef, cJ1_indexOfChar_4cfef, 6, (some .int), [])
def tb_J1_indexOfChar_4cfef : List fw_R := [(0, .iload_n 1, 1, 1, 0), (1, .i2b, 2, 0, 0), (2, .istore 4, 4, 4, 0), (4, .iload_n 2, 5, 2, 0), (5, .istore 5, 7, 5, 0), (7, .iload 5, 9, 5, 0), (9, .iload_n 3, 10, 3, 0), (10, .if_icmp .ge 21, 13, 31, 0), (13, .aload_n 0, 14, 0, 0), (14, .iload 5, 16, 5, 0), (16, .baload, 17, 0, 0), (17, .iload 4, 19, 4, 0), (19, .if_icmp .ne 6, 22, 25, 0), (22, .iload 5, 24, 5, 0), (24, .ireturn, 25, 0, 0), (25, .iinc 5 1, 28, 5, 1), (28, .goto (-21), 31, 7, 0), (31, .iconst (-1), 32, 0, (-1)), (32, .ireturn, 33, 0, 0)]
theorem tk_J1_indexOfChar_4cfef : fw_tok mm_J1_indexOfChar_4cfef tb_J1_indexOfChar_4cfef := by unfold fw_tok; decide +kernel
abbrev mm_J1_inflate_0e8fd : fw_M := (yJ1_inflate_0e8fd, cJ1_inflate_0e8fd, 5, none, [])
def tb_J1_inflate_0e8fd : List fw_R := [(0, .aload_n 0, 1, 0, 0), (1, .iload_n 1, 2, 1, 0), (2, .aload_n 2, 3, 2, 0), (3, .iload_n 3, 4, 3, 0), (4, .iload 4, 6, 4, 0), (6, .invokestatic 240, 9, 0, 0), (9, .return_, 10, 0, 0)]
theorem tk_J1_inflate_0e8fd : fw_tok mm_J1_inflate_0e8fd tb_J1_inflate_0e8fd := by unfold fw_tok; decide +kernel
abbrev mm_Jxa1e45_init_da8c8 : fw_M := (yJxa1e45_init_da8c8, cJxa1e45_init_da8c8, 1, none, [])
def tb_Jxa1e45_init_da8c8 : List fw_R := [(0, .aload_n 0, 1, 0, 0), (1, .invokespecial 1, 4, 0, 0), (4, .return_, 5, 0, 0)]
theorem tk_Jxa1e45_init_da8c8 : fw_tok mm_Jxa1e45_init_da8c8 tb_Jxa1e45_init_da8c8 := by unfold fw_tok; decide +kernel
abbrev mm_Jxc12de_init_da8c8 : fw_M := (yJxc12de_init_da8c8, cJxc12de_init_da8c8, 1, none, [])
def tb_Jxc12de_init_da8c8 : List fw_R := [(0, .aload_n 0, 1, 0, 0), (1, .invokespecial 1, 4, 0, 0), (4, .aload_n 0, 5, 0, 0), (5, .iconst 0, 6, 0, 0), (6, .putfield 7, 9, 0, 0), (9, .return_, 10, 0, 0)]
theorem tk_Jxc12de_init_da8c8 : fw_tok mm_Jxc12de_init_da8c8 tb_Jxc12de_init_da8c8 := by unfold fw_tok; decide +kernel
abbrev mm_Jx35411_init_45d68 : fw_M := (yJx35411_init_45d68, cJx35411_init_45d68, 2, none, [])
def tb_Jx35411_init_45d68 : List fw_R := [(0, .aload_n 0, 1, 0, 0), (1, .aload_n 1, 2, 1, 0), (2, .putfield 1, 5, 0, 0), (5, .aload_n 0, 6, 0, 0), (6, .invokespecial 7, 9, 0, 0), (9, .aload_n 0, 10, 0, 0), (10, .iconst (-1), 11, 0, (-1)), (11, .putfield 13, 14, 0, 0), (14, .aload_n 0, 15, 0, 0), (15, .aload_n 0, 16, 0, 0), (16, .getfield 1, 19, 0, 0), (19, .getfield 17, 22, 0, 0), (22, .putfield 22, 25, 0, 0), (25, .return_, 26, 0, 0)]
theorem tk_Jx35411_init_45d68 : fw_tok mm_Jx35411_init_45d68 tb_Jx35411_init_45d68 := by unfold fw_tok; decide +kernel
abbrev mm_Jx35411_hasNext_aae02 : fw_M := (yJx35411_hasNext_aae02, cJx35411_hasNext_aae02, 1, (some .boolean), [])
def tb_Jx35411_hasNext_aae02 : List fw_R := [(0, .aload_n 0, 1, 0, 0), (1, .getfield 25, 4, 0, 0), (4, .aload_n 0, 5, 0, 0), (5, .getfield 1, 8, 0, 0), (8, .getfield 28, 11, 0, 0), (11, .if_icmp .eq 7, 14, 18, 0), (14, .iconst 1, 15, 0, 1), (15, .goto 4, 18, 19, 0), (18, .iconst 0, 19, 0, 0), (19, .ireturn, 20, 0, 0)]
theorem tk_Jx35411_hasNext_aae02 : fw_tok mm_Jx35411_hasNext_aae02 tb_Jx35411_hasNext_aae02 := by unfold fw_tok; decide +kernel
abbrev mm_Jx35411_next_0502b : fw_M := (yJx35411_next_0502b, cJx35411_next_0502b, 3, (some (.object "java/lang/Object")), [])
def tb_Jx35411_next_0502b : List fw_R := [(0, .aload_n 0, 1, 0, 0), (1, .invokevirtual 31, 4, 0, 0), (4, .aload_n 0, 5, 0, 0), (5, .getfield 25, 8, 0, 0), (8, .istore_n 1, 9, 1, 0), (9, .iload_n 1, 10, 1, 0), (10, .aload_n 0, 11, 0, 0), (11, .getfield 1, 14, 0, 0), (14, .getfield 28, 17, 0, 0), (17, .if_icmp .lt 11, 20, 28, 0), (20, .new 34, 23, 0, 0), (23, .dup, 24, 0, 0), (24, .invokespecial 36, 27, 0, 0), (27, .athrow, 28, 0, 0), (28, .aload_n 0, 29, 0, 0), (29, .getfield 1, 32, 0, 0), (32, .getfield 37, 35, 0, 0), (35, .astore_n 2, 36, 2, 0), (36, .iload_n 1, 37, 1, 0), (37, .aload_n 2, 38, 2, 0), (38, .arraylength, 39, 0, 0), (39, .if_icmp .lt 11, 42, 50, 0), (42, .new 41, 45, 0, 0), (45, .dup, 46, 0, 0), (46, .invokespecial 43, 49, 0, 0), (49, .athrow, 50, 0, 0), (50, .aload_n 0, 51, 0, 0), (51, .iload_n 1, 52, 1, 0), (52, .iconst 1, 53, 0, 1), (53, .iadd, 54, 0, 0), (54, .putfield 25, 57, 0, 0), (57, .aload_n 2, 58, 2, 0), (58, .aload_n 0, 59, 0, 0), (59, .iload_n 1, 60, 1, 0), (60, .dup_x1, 61, 0, 0), (61, .putfield 13, 64, 0, 0), (64, .aaload, 65, 0, 0), (65, .areturn, 66, 0, 0)]
theorem tk_Jx35411_next_0502b : fw_tok mm_Jx35411_next_0502b tb_Jx35411_next_0502b := by unfold fw_tok; decide +kernel
abbrev mm_Jx35411_checkForComodification_da8c8 : fw_M := (yJx35411_checkForComodification_da8c8, cJx35411_checkForComodification_da8c8, 1, none, [])
def tb_Jx35411_checkForComodification_da8c8 : List fw_R := [(0, .aload_n 0, 1, 0, 0), (1, .getfield 1, 4, 0, 0), (4, .getfield 17, 7, 0, 0), (7, .aload_n 0, 8, 0, 0), (8, .getfield 22, 11, 0, 0), (11, .if_icmp .eq 11, 14, 22, 0), (14, .new 41, 17, 0, 0), (17, .dup, 18, 0, 0), (18, .invokespecial 43, 21, 0, 0), (21, .athrow, 22, 0, 0), (22, .return_, 23, 0, 0)]
theorem tk_Jx35411_checkForComodification_da8c8 : fw_tok mm_Jx35411_checkForComodification_da8c8 tb_Jx35411_checkForComodification_da8c8 := by unfold fw_tok; decide +kernel
abbrev mm_Jx4a65c_init_da8c8 : fw_M := (yJx4a65c_init_da8c8, cJx4a65c_init_da8c8, 1, none, [])
def tb_Jx4a65c_init_da8c8 : List fw_R := [(0, .aload_n 0, 1, 0, 0), (1, .invokespecial 1, 4, 0, 0), (4, .aload_n 0, 5, 0, 0), (5, .getstatic 39, 8, 0, 0), (8, .putfield 9, 11, 0, 0), (11, .return_, 12, 0, 0)]
theorem tk_Jx4a65c_init_da8c8 : fw_tok mm_Jx4a65c_init_da8c8 tb_Jx4a65c_init_da8c8 := by unfold fw_tok; decide +kernel
abbrev mm_Jx4a65c_grow_92f84 : fw_M := (yJx4a65c_grow_92f84, cJx4a65c_grow_92f84, 4, (some (.array (.object "java/lang/Object"))), [])
def tb_Jx4a65c_grow_92f84 : List fw_R := [(0, .aload_n 0, 1, 0, 0), (1, .getfield 9, 4, 0, 0), (4, .arraylength, 5, 0, 0), (5, .istore_n 2, 6, 2, 0), (6, .iload_n 2, 7, 2, 0), (7, .ifCond .gt 13, 10, 20, 0), (10, .aload_n 0, 11, 0, 0), (11, .getfield 9, 14, 0, 0), (14, .getstatic 39, 17, 0, 0), (17, .if_acmp .eq 28, 20, 45, 0), (20, .iload_n 2, 21, 2, 0), (21, .iload_n 1, 22, 1, 0), (22, .iload_n 2, 23, 2, 0), (23, .isub, 24, 0, 0), (24, .iload_n 2, 25, 2, 0), (25, .iconst 1, 26, 0, 1), (26, .ishr, 27, 0, 0), (27, .invokestatic 73, 30, 0, 0), (30, .istore_n 3, 31, 3, 0), (31, .aload_n 0, 32, 0, 0), (32, .aload_n 0, 33, 0, 0), (33, .getfield 9, 36, 0, 0), (36, .iload_n 3, 37, 3, 0), (37, .invokestatic 66, 40, 0, 0), (40, .dup_x1, 41, 0, 0), (41, .putfield 9, 44, 0, 0), (44, .areturn, 45, 0, 0), (45, .aload_n 0, 46, 0, 0), (46, .bipush 10, 48, 0, 10), (48, .iload_n 1, 49, 1, 0), (49, .invokestatic 79, 52, 0, 0), (52, .anewarray 7, 55, 0, 0), (55, .dup_x1, 56, 0, 0), (56, .putfield 9, 59, 0, 0), (59, .areturn, 60, 0, 0)]
theorem tk_Jx4a65c_grow_92f84 : fw_tok mm_Jx4a65c_grow_92f84 tb_Jx4a65c_grow_92f84 := by unfold fw_tok; decide +kernel
abbrev mm_Jx4a65c_grow_d5877 : fw_M := (yJx4a65c_grow_d5877, cJx4a65c_grow_d5877, 1, (some (.array (.object "java/lang/Object"))), [])
def tb_Jx4a65c_grow_d5877 : List fw_R := [(0, .aload_n 0, 1, 0, 0), (1, .aload_n 0, 2, 0, 0), (2, .getfield 48, 5, 0, 0), (5, .iconst 1, 6, 0, 1), (6, .iadd, 7, 0, 0), (7, .invokevirtual 69, 10, 0, 0), (10, .areturn, 11, 0, 0)]
theorem tk_Jx4a65c_grow_d5877 : fw_tok mm_Jx4a65c_grow_d5877 tb_Jx4a65c_grow_d5877 := by unfold fw_tok; decide +kernel
abbrev mm_Jx4a65c_size_8abf5 : fw_M := (yJx4a65c_size_8abf5, cJx4a65c_size_8abf5, 1, (some .int), [])
def tb_Jx4a65c_size_8abf5 : List fw_R := [(0, .aload_n 0, 1, 0, 0), (1, .getfield 48, 4, 0, 0), (4, .ireturn, 5, 0, 0)]
theorem tk_Jx4a65c_size_8abf5 : fw_tok mm_Jx4a65c_size_8abf5 tb_Jx4a65c_size_8abf5 := by unfold fw_tok; decide +kernel
abbrev mm_Jx4a65c_isEmpty_aae02 : fw_M := (yJx4a65c_isEmpty_aae02, cJx4a65c_isEmpty_aae02, 1, (some .boolean), [])
def tb_Jx4a65c_isEmpty_aae02 : List fw_R := [(0, .aload_n 0, 1, 0, 0), (1, .getfield 48, 4, 0, 0), (4, .ifCond .ne 7, 7, 11, 0), (7, .iconst 1, 8, 0, 1), (8, .goto 4, 11, 12, 0), (11, .iconst 0, 12, 0, 0), (12, .ireturn, 13, 0, 0)]
theorem tk_Jx4a65c_isEmpty_aae02 : fw_tok mm_Jx4a65c_isEmpty_aae02 tb_Jx4a65c_isEmpty_aae02 := by unfold fw_tok; decide +kernel
abbrev mm_Jx4a65c_elementData_915e3 : fw_M := (yJx4a65c_elementData_915e3, cJx4a65c_elementData_915e3, 2, (some (.object "java/lang/Object")), [])
def tb_Jx4a65c_elementData_915e3 : List fw_R := [(0, .aload_n 0, 1, 0, 0), (1, .getfield 9, 4, 0, 0), (4, .iload_n 1, 5, 1, 0), (5, .aaload, 6, 0, 0), (6, .areturn, 7, 0, 0)]
theorem tk_Jx4a65c_elementData_915e3 : fw_tok mm_Jx4a65c_elementData_915e3 tb_Jx4a65c_elementData_915e3 := by unfold fw_tok; decide +kernel
abbrev mm_Jx4a65c_get_915e3 : fw_M := (yJx4a65c_get_915e3, cJx4a65c_get_915e3, 2, (some (.object "java/lang/Object")), [])
def tb_Jx4a65c_get_915e3 : List fw_R := [(0, .iload_n 1, 1, 1, 0), (1, .aload_n 0, 2, 0, 0), (2, .getfield 48, 5, 0, 0), (5, .invokestatic 118, 8, 0, 0), (8, .pop, 9, 0, 0), (9, .aload_n 0, 10, 0, 0), (10, .iload_n 1, 11, 1, 0), (11, .invokevirtual 123, 14, 0, 0), (14, .areturn, 15, 0, 0)]
theorem tk_Jx4a65c_get_915e3 : fw_tok mm_Jx4a65c_get_915e3 tb_Jx4a65c_get_915e3 := by unfold fw_tok; decide +kernel
abbrev mm_Jx4a65c_add_72be8 : fw_M := (yJx4a65c_add_72be8, cJx4a65c_add_72be8, 4, none, [])
def tb_Jx4a65c_add_72be8 : List fw_R := [(0, .iload_n 3, 1, 3, 0), (1, .aload_n 2, 2, 2, 0), (2, .arraylength, 3, 0, 0), (3, .if_icmp .ne 8, 6, 11, 0), (6, .aload_n 0, 7, 0, 0), (7, .invokevirtual 129, 10, 0, 0), (10, .astore_n 2, 11, 2, 0), (11, .aload_n 2, 12, 2, 0), (12, .iload_n 3, 13, 3, 0), (13, .aload_n 1, 14, 1, 0), (14, .aastore, 15, 0, 0), (15, .aload_n 0, 16, 0, 0), (16, .iload_n 3, 17, 3, 0), (17, .iconst 1, 18, 0, 1), (18, .iadd, 19, 0, 0), (19, .putfield 48, 22, 0, 0), (22, .return_, 23, 0, 0)]
theorem tk_Jx4a65c_add_72be8 : fw_tok mm_Jx4a65c_add_72be8 tb_Jx4a65c_add_72be8 := by unfold fw_tok; decide +kernel
abbrev mm_Jx4a65c_add_9ea2d : fw_M := (yJx4a65c_add_9ea2d, cJx4a65c_add_9ea2d, 2, (some .boolean), [])
def tb_Jx4a65c_add_9ea2d : List fw_R := [(0, .aload_n 0, 1, 0, 0), (1, .dup, 2, 0, 0), (2, .getfield 63, 5, 0, 0), (5, .iconst 1, 6, 0, 1), (6, .iadd, 7, 0, 0), (7, .putfield 63, 10, 0, 0), (10, .aload_n 0, 11, 0, 0), (11, .aload_n 1, 12, 1, 0), (12, .aload_n 0, 13, 0, 0), (13, .getfield 9, 16, 0, 0), (16, .aload_n 0, 17, 0, 0), (17, .getfield 48, 20, 0, 0), (20, .invokevirtual 131, 23, 0, 0), (23, .iconst 1, 24, 0, 1), (24, .ireturn, 25, 0, 0)]
theorem tk_Jx4a65c_add_9ea2d : fw_tok mm_Jx4a65c_add_9ea2d tb_Jx4a65c_add_9ea2d := by unfold fw_tok; decide +kernel
abbrev mm_Jx4a65c_add_7a177 : fw_M := (yJx4a65c_add_7a177, cJx4a65c_add_7a177, 5, none, [])
def tb_Jx4a65c_add_7a177 : List fw_R := [(0, .aload_n 0, 1, 0, 0), (1, .iload_n 1, 2, 1, 0), (2, .invokevirtual 135, 5, 0, 0), (5, .aload_n 0, 6, 0, 0), (6, .dup, 7, 0, 0), (7, .getfield 63, 10, 0, 0), (10, .iconst 1, 11, 0, 1), (11, .iadd, 12, 0, 0), (12, .putfield 63, 15, 0, 0), (15, .aload_n 0, 16, 0, 0), (16, .getfield 48, 19, 0, 0), (19, .dup, 20, 0, 0), (20, .istore_n 3, 21, 3, 0), (21, .aload_n 0, 22, 0, 0), (22, .getfield 9, 25, 0, 0), (25, .dup, 26, 0, 0), (26, .astore 4, 28, 4, 0), (28, .arraylength, 29, 0, 0), (29, .if_icmp .ne 9, 32, 38, 0), (32, .aload_n 0, 33, 0, 0), (33, .invokevirtual 129, 36, 0, 0), (36, .astore 4, 38, 4, 0), (38, .aload 4, 40, 4, 0), (40, .iload_n 1, 41, 1, 0), (41, .aload 4, 43, 4, 0), (43, .iload_n 1, 44, 1, 0), (44, .iconst 1, 45, 0, 1), (45, .iadd, 46, 0, 0), (46, .iload_n 3, 47, 3, 0), (47, .iload_n 1, 48, 1, 0), (48, .isub, 49, 0, 0), (49, .invokestatic 112, 52, 0, 0), (52, .aload 4, 54, 4, 0), (54, .iload_n 1, 55, 1, 0), (55, .aload_n 2, 56, 2, 0), (56, .aastore, 57, 0, 0), (57, .aload_n 0, 58, 0, 0), (58, .iload_n 3, 59, 3, 0), (59, .iconst 1, 60, 0, 1), (60, .iadd, 61, 0, 0), (61, .putfield 48, 64, 0, 0), (64, .return_, 65, 0, 0)]
theorem tk_Jx4a65c_add_7a177 : fw_tok mm_Jx4a65c_add_7a177 tb_Jx4a65c_add_7a177 := by unfold fw_tok; decide +kernel
abbrev mm_Jx4a65c_rangeCheckForAdd_d00df : fw_M := (yJx4a65c_rangeCheckForAdd_d00df, cJx4a65c_rangeCheckForAdd_d00df, 2, none, [])
def tb_Jx4a65c_rangeCheckForAdd_d00df : List fw_R := [(0, .iload_n 1, 1, 1, 0), (1, .aload_n 0, 2, 0, 0), (2, .getfield 48, 5, 0, 0), (5, .if_icmp .gt 7, 8, 12, 0), (8, .iload_n 1, 9, 1, 0), (9, .ifCond .ge 16, 12, 25, 0), (12, .new 187, 15, 0, 0), (15, .dup, 16, 0, 0), (16, .aload_n 0, 17, 0, 0), (17, .iload_n 1, 18, 1, 0), (18, .invokevirtual 198, 21, 0, 0), (21, .invokespecial 193, 24, 0, 0), (24, .athrow, 25, 0, 0), (25, .return_, 26, 0, 0)]
theorem tk_Jx4a65c_rangeCheckForAdd_d00df : fw_tok mm_Jx4a65c_rangeCheckForAdd_d00df tb_Jx4a65c_rangeCheckForAdd_d00df := by unfold fw_tok; decide +kernel
abbrev mm_Jx4a65c_iterator_32c93 : fw_M := (yJx4a65c_iterator_32c93, cJx4a65c_iterator_32c93, 1, (some (.object "java/util/Iterator")), [])
def tb_Jx4a65c_iterator_32c93 : List fw_R := [(0, .new 267, 3, 0, 0), (3, .dup, 4, 0, 0), (4, .aload_n 0, 5, 0, 0), (5, .invokespecial 269, 8, 0, 0), (8, .areturn, 9, 0, 0)]
theorem tk_Jx4a65c_iterator_32c93 : fw_tok mm_Jx4a65c_iterator_32c93 tb_Jx4a65c_iterator_32c93 := by unfold fw_tok; decide +kernel
abbrev mm_J7_copyOf_1904c : fw_M := (yJ7_copyOf_1904c, cJ7_copyOf_1904c, 2, (some (.array (.object "java/lang/Object"))), [])
def tb_J7_copyOf_1904c : List fw_R := [(0, .aload_n 0, 1, 0, 0), (1, .iload_n 1, 2, 1, 0), (2, .aload_n 0, 3, 0, 0), (3, .invokevirtual 86, 6, 0, 0), (6, .invokestatic 300, 9, 0, 0), (9, .areturn, 10, 0, 0)]
theorem tk_J7_copyOf_1904c : fw_tok mm_J7_copyOf_1904c tb_J7_copyOf_1904c := by unfold fw_tok; decide +kernel
abbrev mm_J7_copyOf_6403c : fw_M := (yJ7_copyOf_6403c, cJ7_copyOf_6403c, 4, (some (.array (.object "java/lang/Object"))), [])
def tb_J7_copyOf_6403c : List fw_R := [(0, .aload_n 2, 1, 2, 0), (1, .ldc 110, 3, 0, 0), (3, .if_acmp .ne 10, 6, 13, 0), (6, .iload_n 1, 7, 1, 0), (7, .anewarray 2, 10, 0, 0), (10, .goto 14, 13, 24, 0), (13, .aload_n 2, 14, 2, 0), (14, .invokevirtual 90, 17, 0, 0), (17, .iload_n 1, 18, 1, 0), (18, .invokestatic 95, 21, 0, 0), (21, .checkcast 110, 24, 0, 0), (24, .astore_n 3, 25, 3, 0), (25, .aload_n 0, 26, 0, 0), (26, .iconst 0, 27, 0, 0), (27, .aload_n 3, 28, 3, 0), (28, .iconst 0, 29, 0, 0), (29, .aload_n 0, 30, 0, 0), (30, .arraylength, 31, 0, 0), (31, .iload_n 1, 32, 1, 0), (32, .invokestatic 304, 35, 0, 0), (35, .invokestatic 150, 38, 0, 0), (38, .aload_n 3, 39, 3, 0), (39, .areturn, 40, 0, 0)]
theorem tk_J7_copyOf_6403c : fw_tok mm_J7_copyOf_6403c tb_J7_copyOf_6403c := by unfold fw_tok; decide +kernel
abbrev mm_J7_copyOf_9075b : fw_M := (yJ7_copyOf_9075b, cJ7_copyOf_9075b, 3, (some (.array .byte)), [])
def tb_J7_copyOf_9075b : List fw_R := [(0, .iload_n 1, 1, 1, 0), (1, .aload_n 0, 2, 0, 0), (2, .arraylength, 3, 0, 0), (3, .if_icmp .ne 11, 6, 14, 0), (6, .aload_n 0, 7, 0, 0), (7, .invokevirtual 310, 10, 0, 0), (10, .checkcast 311, 13, 0, 0), (13, .areturn, 14, 0, 0), (14, .iload_n 1, 15, 1, 0), (15, .newarray .byte, 17, 0, 0), (17, .astore_n 2, 18, 2, 0), (18, .aload_n 0, 19, 0, 0), (19, .iconst 0, 20, 0, 0), (20, .aload_n 2, 21, 2, 0), (21, .iconst 0, 22, 0, 0), (22, .aload_n 0, 23, 0, 0), (23, .arraylength, 24, 0, 0), (24, .iload_n 1, 25, 1, 0), (25, .invokestatic 304, 28, 0, 0), (28, .invokestatic 150, 31, 0, 0), (31, .aload_n 2, 32, 2, 0), (32, .areturn, 33, 0, 0)]
theorem tk_J7_copyOf_9075b : fw_tok mm_J7_copyOf_9075b tb_J7_copyOf_9075b := by unfold fw_tok; decide +kernel
abbrev mm_J7_checkLength_df160 : fw_M := (yJ7_checkLength_df160, cJ7_checkLength_df160, 2, none, [])
def tb_J7_checkLength_df160 : List fw_R := [(0, .iload_n 1, 1, 1, 0), (1, .iload_n 0, 2, 0, 0), (2, .if_icmp .ge 35, 5, 37, 0), (5, .new 43, 8, 0, 0), (8, .dup, 9, 0, 0), (9, .new 45, 12, 0, 0), (12, .dup, 13, 0, 0), (13, .invokespecial 47, 16, 0, 0), (16, .iload_n 0, 17, 0, 0), (17, .invokevirtual 54, 20, 0, 0), (20, .ldc_w 337, 23, 0, 0), (23, .invokevirtual 50, 26, 0, 0), (26, .iload_n 1, 27, 1, 0), (27, .invokevirtual 54, 30, 0, 0), (30, .invokevirtual 61, 33, 0, 0), (33, .invokespecial 65, 36, 0, 0), (36, .athrow, 37, 0, 0), (37, .return_, 38, 0, 0)]
theorem tk_J7_checkLength_df160 : fw_tok mm_J7_checkLength_df160 tb_J7_checkLength_df160 := by unfold fw_tok; decide +kernel
abbrev mm_J7_copyOfRange_39247 : fw_M := (yJ7_copyOfRange_39247, cJ7_copyOfRange_39247, 3, (some (.array .byte)), [])
def tb_J7_copyOfRange_39247 : List fw_R := [(0, .iload_n 1, 1, 1, 0), (1, .ifCond .ne 9, 4, 10, 0), (4, .iload_n 2, 5, 2, 0), (5, .aload_n 0, 6, 0, 0), (6, .arraylength, 7, 0, 0), (7, .if_icmp .eq 10, 10, 17, 0), (10, .aload_n 0, 11, 0, 0), (11, .iload_n 1, 12, 1, 0), (12, .iload_n 2, 13, 2, 0), (13, .invokestatic 339, 16, 0, 0), (16, .areturn, 17, 0, 0), (17, .aload_n 0, 18, 0, 0), (18, .invokevirtual 310, 21, 0, 0), (21, .checkcast 311, 24, 0, 0), (24, .areturn, 25, 0, 0)]
theorem tk_J7_copyOfRange_39247 : fw_tok mm_J7_copyOfRange_39247 tb_J7_copyOfRange_39247 := by unfold fw_tok; decide +kernel
abbrev mm_J7_copyOfRangeByte_39247 : fw_M := (yJ7_copyOfRangeByte_39247, cJ7_copyOfRangeByte_39247, 5, (some (.array .byte)), [])
def tb_J7_copyOfRangeByte_39247 : List fw_R := [(0, .iload_n 1, 1, 1, 0), (1, .iload_n 2, 2, 2, 0), (2, .invokestatic 343, 5, 0, 0), (5, .iload_n 2, 6, 2, 0), (6, .iload_n 1, 7, 1, 0), (7, .isub, 8, 0, 0), (8, .istore_n 3, 9, 3, 0), (9, .iload_n 3, 10, 3, 0), (10, .newarray .byte, 12, 0, 0), (12, .astore 4, 14, 4, 0), (14, .aload_n 0, 15, 0, 0), (15, .iload_n 1, 16, 1, 0), (16, .aload 4, 18, 4, 0), (18, .iconst 0, 19, 0, 0), (19, .aload_n 0, 20, 0, 0), (20, .arraylength, 21, 0, 0), (21, .iload_n 1, 22, 1, 0), (22, .isub, 23, 0, 0), (23, .iload_n 3, 24, 3, 0), (24, .invokestatic 304, 27, 0, 0), (27, .invokestatic 150, 30, 0, 0), (30, .aload 4, 32, 4, 0), (32, .areturn, 33, 0, 0)]
theorem tk_J7_copyOfRangeByte_39247 : fw_tok mm_J7_copyOfRangeByte_39247 tb_J7_copyOfRangeByte_39247 := by unfold fw_tok; decide +kernel
abbrev mm_J15_checkIndex_7cf53 : fw_M := (yJ15_checkIndex_7cf53, cJ15_checkIndex_7cf53, 2, (some .int), [])
def tb_J15_checkIndex_7cf53 : List fw_R := [(0, .iload_n 0, 1, 0, 0), (1, .iload_n 1, 2, 1, 0), (2, .aconst_null, 3, 0, 0), (3, .invokestatic 105, 6, 0, 0), (6, .ireturn, 7, 0, 0)]
theorem tk_J15_checkIndex_7cf53 : fw_tok mm_J15_checkIndex_7cf53 tb_J15_checkIndex_7cf53 := by unfold fw_tok; decide +kernel
abbrev mm_J8_newLength_cabcc : fw_M := (yJ8_newLength_cabcc, cJ8_newLength_cabcc, 4, (some .int), [])
def tb_J8_newLength_cabcc : List fw_R := [(0, .iload_n 0, 1, 0, 0), (1, .iload_n 1, 2, 1, 0), (2, .iload_n 2, 3, 2, 0), (3, .invokestatic 194, 6, 0, 0), (6, .iadd, 7, 0, 0), (7, .istore_n 3, 8, 3, 0), (8, .iconst 0, 9, 0, 0), (9, .iload_n 3, 10, 3, 0), (10, .if_icmp .ge 11, 13, 21, 0), (13, .iload_n 3, 14, 3, 0), (14, .ldc 200, 16, 0, 0), (16, .if_icmp .gt 5, 19, 21, 0), (19, .iload_n 3, 20, 3, 0), (20, .ireturn, 21, 0, 0), (21, .iload_n 0, 22, 0, 0), (22, .iload_n 1, 23, 1, 0), (23, .invokestatic 201, 26, 0, 0), (26, .ireturn, 27, 0, 0)]
theorem tk_J8_newLength_cabcc : fw_tok mm_J8_newLength_cabcc tb_J8_newLength_cabcc := by unfold fw_tok; decide +kernel
abbrev mm_J8_hugeLength_7cf53 : fw_M := (yJ8_hugeLength_7cf53, cJ8_hugeLength_7cf53, 3, (some .int), [])
def tb_J8_hugeLength_7cf53 : List fw_R := [(0, .iload_n 0, 1, 0, 0), (1, .iload_n 1, 2, 1, 0), (2, .iadd, 3, 0, 0), (3, .istore_n 2, 4, 2, 0), (4, .iload_n 2, 5, 2, 0), (5, .ifCond .ge 44, 8, 49, 0), (8, .new 204, 11, 0, 0), (11, .dup, 12, 0, 0), (12, .new 89, 15, 0, 0), (15, .dup, 16, 0, 0), (16, .invokespecial 91, 19, 0, 0), (19, .ldc 206, 21, 0, 0), (21, .invokevirtual 94, 24, 0, 0), (24, .iload_n 0, 25, 0, 0), (25, .invokevirtual 98, 28, 0, 0), (28, .ldc 208, 30, 0, 0), (30, .invokevirtual 94, 33, 0, 0), (33, .iload_n 1, 34, 1, 0), (34, .invokevirtual 98, 37, 0, 0), (37, .ldc 210, 39, 0, 0), (39, .invokevirtual 94, 42, 0, 0), (42, .invokevirtual 101, 45, 0, 0), (45, .invokespecial 212, 48, 0, 0), (48, .athrow, 49, 0, 0), (49, .iload_n 2, 50, 2, 0), (50, .ldc 200, 52, 0, 0), (52, .if_icmp .gt 6, 55, 58, 0), (55, .ldc 200, 57, 0, 0), (57, .ireturn, 58, 0, 0), (58, .iload_n 2, 59, 2, 0), (59, .ireturn, 60, 0, 0)]
theorem tk_J8_hugeLength_7cf53 : fw_tok mm_J8_hugeLength_7cf53 tb_J8_hugeLength_7cf53 := by unfold fw_tok; decide +kernel
abbrev mm_J3_checkIndex_8e157 : fw_M := (yJ3_checkIndex_8e157, cJ3_checkIndex_8e157, 3, (some .int), [])
def tb_J3_checkIndex_8e157 : List fw_R := [(0, .iload_n 0, 1, 0, 0), (1, .ifCond .lt 8, 4, 9, 0), (4, .iload_n 0, 5, 0, 0), (5, .iload_n 1, 6, 1, 0), (6, .if_icmp .lt 10, 9, 16, 0), (9, .aload_n 2, 10, 2, 0), (10, .iload_n 0, 11, 0, 0), (11, .iload_n 1, 12, 1, 0), (12, .invokestatic 95, 15, 0, 0), (15, .athrow, 16, 0, 0), (16, .iload_n 0, 17, 0, 0), (17, .ireturn, 18, 0, 0)]
theorem tk_J3_checkIndex_8e157 : fw_tok mm_J3_checkIndex_8e157 tb_J3_checkIndex_8e157 := by unfold fw_tok; decide +kernel
abbrev mm_J3_checkFromToIndex_8c36e : fw_M := (yJ3_checkFromToIndex_8c36e, cJ3_checkFromToIndex_8c36e, 4, (some .int), [])
def tb_J3_checkFromToIndex_8c36e : List fw_R := [(0, .iload_n 0, 1, 0, 0), (1, .ifCond .lt 13, 4, 14, 0), (4, .iload_n 0, 5, 0, 0), (5, .iload_n 1, 6, 1, 0), (6, .if_icmp .gt 8, 9, 14, 0), (9, .iload_n 1, 10, 1, 0), (10, .iload_n 2, 11, 2, 0), (11, .if_icmp .le 11, 14, 22, 0), (14, .aload_n 3, 15, 3, 0), (15, .iload_n 0, 16, 0, 0), (16, .iload_n 1, 17, 1, 0), (17, .iload_n 2, 18, 2, 0), (18, .invokestatic 99, 21, 0, 0), (21, .athrow, 22, 0, 0), (22, .iload_n 0, 23, 0, 0), (23, .ireturn, 24, 0, 0)]
theorem tk_J3_checkFromToIndex_8c36e : fw_tok mm_J3_checkFromToIndex_8c36e tb_J3_checkFromToIndex_8c36e := by unfold fw_tok; decide +kernel
abbrev mm_J3_checkFromIndexSize_8c36e : fw_M := (yJ3_checkFromIndexSize_8c36e, cJ3_checkFromIndexSize_8c36e, 4, (some .int), [])
def tb_J3_checkFromIndexSize_8c36e : List fw_R := [(0, .iload_n 2, 1, 2, 0), (1, .iload_n 0, 2, 0, 0), (2, .ior, 3, 0, 0), (3, .iload_n 1, 4, 1, 0), (4, .ior, 5, 0, 0), (5, .ifCond .lt 10, 8, 15, 0), (8, .iload_n 1, 9, 1, 0), (9, .iload_n 2, 10, 2, 0), (10, .iload_n 0, 11, 0, 0), (11, .isub, 12, 0, 0), (12, .if_icmp .le 11, 15, 23, 0), (15, .aload_n 3, 16, 3, 0), (16, .iload_n 0, 17, 0, 0), (17, .iload_n 1, 18, 1, 0), (18, .iload_n 2, 19, 2, 0), (19, .invokestatic 103, 22, 0, 0), (22, .athrow, 23, 0, 0), (23, .iload_n 0, 24, 0, 0), (24, .ireturn, 25, 0, 0)]
theorem tk_J3_checkFromIndexSize_8c36e : fw_tok mm_J3_checkFromIndexSize_8c36e tb_J3_checkFromIndexSize_8c36e := by unfold fw_tok; decide +kernel
abbrev mm_L_dayOf : fw_M := (yL_dayOf, cL_dayOf, 6, (some .int), [((0 : Nat), (12 : Nat), (15 : Nat), (13 : Nat))])
def tb_L_dayOf : List fw_R := [(0, .aload 4, 2, 4, 0), (2, .iconst 0, 3, 0, 0), (3, .aload_n 0, 4, 0, 0), (4, .iload_n 1, 5, 1, 0), (5, .iload_n 2, 6, 2, 0), (6, .iload_n 3, 7, 3, 0), (7, .invokevirtual 7, 10, 0, 0), (10, .i2l, 11, 0, 0), (11, .lastore, 12, 0, 0), (12, .goto 7, 15, 19, 0), (15, .astore 5, 17, 5, 0), (17, .iconst 1, 18, 0, 1), (18, .ireturn, 19, 0, 0), (19, .iconst 0, 20, 0, 0), (20, .ireturn, 21, 0, 0)]
theorem tk_L_dayOf : fw_tok mm_L_dayOf tb_L_dayOf := by unfold fw_tok; decide +kernel
abbrev mm_L_dateOf : fw_M := (yL_dateOf, cL_dateOf, 4, (some .int), [((0 : Nat), (9 : Nat), (12 : Nat), (13 : Nat))])
def tb_L_dateOf : List fw_R := [(0, .aload_n 2, 1, 2, 0), (1, .iconst 0, 2, 0, 0), (2, .aload_n 0, 3, 0, 0), (3, .iload_n 1, 4, 1, 0), (4, .invokevirtual 15, 7, 0, 0), (7, .i2l, 8, 0, 0), (8, .lastore, 9, 0, 0), (9, .goto 6, 12, 15, 0), (12, .astore_n 3, 13, 3, 0), (13, .iconst 1, 14, 0, 1), (14, .ireturn, 15, 0, 0), (15, .iconst 0, 16, 0, 0), (16, .ireturn, 17, 0, 0)]
theorem tk_L_dateOf : fw_tok mm_L_dateOf tb_L_dateOf := by unfold fw_tok; decide +kernel
abbrev mm_L_length : fw_M := (yL_length, cL_length, 7, (some .int), [((0 : Nat), (14 : Nat), (17 : Nat), (13 : Nat))])
def tb_L_length : List fw_R := [(0, .aload 5, 2, 5, 0), (2, .iconst 0, 3, 0, 0), (3, .aload_n 0, 4, 0, 0), (4, .iload_n 1, 5, 1, 0), (5, .iload_n 2, 6, 2, 0), (6, .iload_n 3, 7, 3, 0), (7, .iload 4, 9, 4, 0), (9, .invokevirtual 19, 12, 0, 0), (12, .i2l, 13, 0, 0), (13, .lastore, 14, 0, 0), (14, .goto 7, 17, 21, 0), (17, .astore 6, 19, 6, 0), (19, .iconst 1, 20, 0, 1), (20, .ireturn, 21, 0, 0), (21, .iconst 0, 22, 0, 0), (22, .ireturn, 23, 0, 0)]
theorem tk_L_length : fw_tok mm_L_length tb_L_length := by unfold fw_tok; decide +kernel
abbrev mm_L_law : fw_M := (yL_law, cL_law, 7, (some .int), [((0 : Nat), (14 : Nat), (17 : Nat), (13 : Nat)), ((0 : Nat), (14 : Nat), (21 : Nat), (27 : Nat))])
def tb_L_law : List fw_R := [(0, .aload 5, 2, 5, 0), (2, .iconst 0, 3, 0, 0), (3, .aload_n 0, 4, 0, 0), (4, .iload_n 1, 5, 1, 0), (5, .iload_n 2, 6, 2, 0), (6, .iload_n 3, 7, 3, 0), (7, .iload 4, 9, 4, 0), (9, .invokevirtual 23, 12, 0, 0), (12, .i2l, 13, 0, 0), (13, .lastore, 14, 0, 0), (14, .goto 11, 17, 25, 0), (17, .astore 6, 19, 6, 0), (19, .iconst 1, 20, 0, 1), (20, .ireturn, 21, 0, 0), (21, .astore 6, 23, 6, 0), (23, .iconst 2, 24, 0, 2), (24, .ireturn, 25, 0, 0), (25, .iconst 0, 26, 0, 0), (26, .ireturn, 27, 0, 0)]
theorem tk_L_law : fw_tok mm_L_law tb_L_law := by unfold fw_tok; decide +kernel
abbrev mm_L_lawOf : fw_M := (yL_lawOf, cL_lawOf, 4, (some .int), [((0 : Nat), (9 : Nat), (12 : Nat), (32 : Nat)), ((0 : Nat), (9 : Nat), (15 : Nat), (34 : Nat)), ((0 : Nat), (9 : Nat), (18 : Nat), (36 : Nat))])
def tb_L_lawOf : List fw_R := [(0, .aload_n 2, 1, 2, 0), (1, .iconst 0, 2, 0, 0), (2, .aload_n 0, 3, 0, 0), (3, .iload_n 1, 4, 1, 0), (4, .invokevirtual 29, 7, 0, 0), (7, .i2l, 8, 0, 0), (8, .lastore, 9, 0, 0), (9, .goto 12, 12, 21, 0), (12, .astore_n 3, 13, 3, 0), (13, .iconst 1, 14, 0, 1), (14, .ireturn, 15, 0, 0), (15, .astore_n 3, 16, 3, 0), (16, .iconst 2, 17, 0, 2), (17, .ireturn, 18, 0, 0), (18, .astore_n 3, 19, 3, 0), (19, .iconst 3, 20, 0, 3), (20, .ireturn, 21, 0, 0), (21, .iconst 0, 22, 0, 0), (22, .ireturn, 23, 0, 0)]
theorem tk_L_lawOf : fw_tok mm_L_lawOf tb_L_lawOf := by unfold fw_tok; decide +kernel
abbrev mm_L_person : fw_M := (yL_person, cL_person, 3, (some .int), [((0 : Nat), (8 : Nat), (11 : Nat), (27 : Nat))])
def tb_L_person : List fw_R := [(0, .aload_n 1, 1, 1, 0), (1, .iconst 0, 2, 0, 0), (2, .aload_n 0, 3, 0, 0), (3, .invokevirtual 38, 6, 0, 0), (6, .i2l, 7, 0, 0), (7, .lastore, 8, 0, 0), (8, .goto 6, 11, 14, 0), (11, .astore_n 2, 12, 2, 0), (12, .iconst 1, 13, 0, 1), (13, .ireturn, 14, 0, 0), (14, .iconst 0, 15, 0, 0), (15, .ireturn, 16, 0, 0)]
theorem tk_L_person : fw_tok mm_L_person tb_L_person := by unfold fw_tok; decide +kernel
abbrev mm_L_warrant : fw_M := (yL_warrant, cL_warrant, 11, (some .int), [((0 : Nat), (22 : Nat), (25 : Nat), (32 : Nat)), ((0 : Nat), (22 : Nat), (29 : Nat), (13 : Nat)), ((0 : Nat), (22 : Nat), (33 : Nat), (34 : Nat)), ((0 : Nat), (22 : Nat), (37 : Nat), (27 : Nat))])
def tb_L_warrant : List fw_R := [(0, .aload 9, 2, 9, 0), (2, .iconst 0, 3, 0, 0), (3, .aload_n 0, 4, 0, 0), (4, .iload_n 1, 5, 1, 0), (5, .iload_n 2, 6, 2, 0), (6, .iload_n 3, 7, 3, 0), (7, .iload 4, 9, 4, 0), (9, .iload 5, 11, 5, 0), (11, .iload 6, 13, 6, 0), (13, .iload 7, 15, 7, 0), (15, .iload 8, 17, 8, 0), (17, .invokevirtual 42, 20, 0, 0), (20, .i2l, 21, 0, 0), (21, .lastore, 22, 0, 0), (22, .goto 19, 25, 41, 0), (25, .astore 10, 27, 10, 0), (27, .iconst 1, 28, 0, 1), (28, .ireturn, 29, 0, 0), (29, .astore 10, 31, 10, 0), (31, .iconst 2, 32, 0, 2), (32, .ireturn, 33, 0, 0), (33, .astore 10, 35, 10, 0), (35, .iconst 3, 36, 0, 3), (36, .ireturn, 37, 0, 0), (37, .astore 10, 39, 10, 0), (39, .iconst 4, 40, 0, 4), (40, .ireturn, 41, 0, 0), (41, .iconst 0, 42, 0, 0), (42, .ireturn, 43, 0, 0)]
theorem tk_L_warrant : fw_tok mm_L_warrant tb_L_warrant := by unfold fw_tok; decide +kernel
abbrev mm_L_count : fw_M := (yL_count, cL_count, 6, (some .int), [((0 : Nat), (12 : Nat), (15 : Nat), (32 : Nat)), ((0 : Nat), (12 : Nat), (19 : Nat), (13 : Nat))])
def tb_L_count : List fw_R := [(0, .aload 4, 2, 4, 0), (2, .iconst 0, 3, 0, 0), (3, .aload_n 0, 4, 0, 0), (4, .iload_n 1, 5, 1, 0), (5, .iload_n 2, 6, 2, 0), (6, .iload_n 3, 7, 3, 0), (7, .invokevirtual 46, 10, 0, 0), (10, .i2l, 11, 0, 0), (11, .lastore, 12, 0, 0), (12, .goto 11, 15, 23, 0), (15, .astore 5, 17, 5, 0), (17, .iconst 1, 18, 0, 1), (18, .ireturn, 19, 0, 0), (19, .astore 5, 21, 5, 0), (21, .iconst 2, 22, 0, 2), (22, .ireturn, 23, 0, 0), (23, .iconst 0, 24, 0, 0), (24, .ireturn, 25, 0, 0)]
theorem tk_L_count : fw_tok mm_L_count tb_L_count := by unfold fw_tok; decide +kernel
abbrev mm_L_activate : fw_M := (yL_activate, cL_activate, 5, (some .int), [((0 : Nat), (10 : Nat), (13 : Nat), (32 : Nat)), ((0 : Nat), (10 : Nat), (17 : Nat), (13 : Nat)), ((0 : Nat), (10 : Nat), (21 : Nat), (34 : Nat))])
def tb_L_activate : List fw_R := [(0, .aload_n 3, 1, 3, 0), (1, .iconst 0, 2, 0, 0), (2, .aload_n 0, 3, 0, 0), (3, .iload_n 1, 4, 1, 0), (4, .iload_n 2, 5, 2, 0), (5, .invokevirtual 50, 8, 0, 0), (8, .i2l, 9, 0, 0), (9, .lastore, 10, 0, 0), (10, .goto 15, 13, 25, 0), (13, .astore 4, 15, 4, 0), (15, .iconst 1, 16, 0, 1), (16, .ireturn, 17, 0, 0), (17, .astore 4, 19, 4, 0), (19, .iconst 2, 20, 0, 2), (20, .ireturn, 21, 0, 0), (21, .astore 4, 23, 4, 0), (23, .iconst 3, 24, 0, 3), (24, .ireturn, 25, 0, 0), (25, .iconst 0, 26, 0, 0), (26, .ireturn, 27, 0, 0)]
theorem tk_L_activate : fw_tok mm_L_activate tb_L_activate := by unfold fw_tok; decide +kernel
abbrev mm_L_vary : fw_M := (yL_vary, cL_vary, 7, (some .int), [((0 : Nat), (14 : Nat), (17 : Nat), (32 : Nat)), ((0 : Nat), (14 : Nat), (21 : Nat), (13 : Nat))])
def tb_L_vary : List fw_R := [(0, .aload 5, 2, 5, 0), (2, .iconst 0, 3, 0, 0), (3, .aload_n 0, 4, 0, 0), (4, .iload_n 1, 5, 1, 0), (5, .iload_n 2, 6, 2, 0), (6, .iload_n 3, 7, 3, 0), (7, .iload 4, 9, 4, 0), (9, .invokevirtual 54, 12, 0, 0), (12, .i2l, 13, 0, 0), (13, .lastore, 14, 0, 0), (14, .goto 11, 17, 25, 0), (17, .astore 6, 19, 6, 0), (19, .iconst 1, 20, 0, 1), (20, .ireturn, 21, 0, 0), (21, .astore 6, 23, 6, 0), (23, .iconst 2, 24, 0, 2), (24, .ireturn, 25, 0, 0), (25, .iconst 0, 26, 0, 0), (26, .ireturn, 27, 0, 0)]
theorem tk_L_vary : fw_tok mm_L_vary tb_L_vary := by unfold fw_tok; decide +kernel
abbrev mm_L_quash : fw_M := (yL_quash, cL_quash, 4, (some .int), [((0 : Nat), (16 : Nat), (19 : Nat), (32 : Nat))])
def tb_L_quash : List fw_R := [(0, .aload_n 2, 1, 2, 0), (1, .iconst 0, 2, 0, 0), (2, .aload_n 0, 3, 0, 0), (3, .iload_n 1, 4, 1, 0), (4, .invokevirtual 57, 7, 0, 0), (7, .ifCond .eq 7, 10, 14, 0), (10, .lconst 1, 11, 0, 0), (11, .goto 4, 14, 15, 0), (14, .lconst 0, 15, 0, 0), (15, .lastore, 16, 0, 0), (16, .goto 6, 19, 22, 0), (19, .astore_n 3, 20, 3, 0), (20, .iconst 1, 21, 0, 1), (21, .ireturn, 22, 0, 0), (22, .iconst 0, 23, 0, 0), (23, .ireturn, 24, 0, 0)]
theorem tk_L_quash : fw_tok mm_L_quash tb_L_quash := by unfold fw_tok; decide +kernel
abbrev mm_L_approve : fw_M := (yL_approve, cL_approve, 5, (some .int), [((0 : Nat), (10 : Nat), (13 : Nat), (32 : Nat)), ((0 : Nat), (10 : Nat), (17 : Nat), (13 : Nat))])
def tb_L_approve : List fw_R := [(0, .aload_n 3, 1, 3, 0), (1, .iconst 0, 2, 0, 0), (2, .aload_n 0, 3, 0, 0), (3, .iload_n 1, 4, 1, 0), (4, .iload_n 2, 5, 2, 0), (5, .invokevirtual 61, 8, 0, 0), (8, .i2l, 9, 0, 0), (9, .lastore, 10, 0, 0), (10, .goto 11, 13, 21, 0), (13, .astore 4, 15, 4, 0), (15, .iconst 1, 16, 0, 1), (16, .ireturn, 17, 0, 0), (17, .astore 4, 19, 4, 0), (19, .iconst 2, 20, 0, 2), (20, .ireturn, 21, 0, 0), (21, .iconst 0, 22, 0, 0), (22, .ireturn, 23, 0, 0)]
theorem tk_L_approve : fw_tok mm_L_approve tb_L_approve := by unfold fw_tok; decide +kernel
abbrev mm_L_add : fw_M := (yL_add, cL_add, 6, (some .int), [((0 : Nat), (12 : Nat), (15 : Nat), (32 : Nat)), ((0 : Nat), (12 : Nat), (19 : Nat), (13 : Nat)), ((0 : Nat), (12 : Nat), (23 : Nat), (27 : Nat))])
def tb_L_add : List fw_R := [(0, .aload 4, 2, 4, 0), (2, .iconst 0, 3, 0, 0), (3, .aload_n 0, 4, 0, 0), (4, .iload_n 1, 5, 1, 0), (5, .iload_n 2, 6, 2, 0), (6, .iload_n 3, 7, 3, 0), (7, .invokevirtual 64, 10, 0, 0), (10, .i2l, 11, 0, 0), (11, .lastore, 12, 0, 0), (12, .goto 15, 15, 27, 0), (15, .astore 5, 17, 5, 0), (17, .iconst 1, 18, 0, 1), (18, .ireturn, 19, 0, 0), (19, .astore 5, 21, 5, 0), (21, .iconst 2, 22, 0, 2), (22, .ireturn, 23, 0, 0), (23, .astore 5, 25, 5, 0), (25, .iconst 3, 26, 0, 3), (26, .ireturn, 27, 0, 0), (27, .iconst 0, 28, 0, 0), (28, .ireturn, 29, 0, 0)]
theorem tk_L_add : fw_tok mm_L_add tb_L_add := by unfold fw_tok; decide +kernel
abbrev mm_L_giveBack : fw_M := (yL_giveBack, cL_giveBack, 5, (some .int), [((0 : Nat), (10 : Nat), (13 : Nat), (32 : Nat)), ((0 : Nat), (10 : Nat), (17 : Nat), (13 : Nat))])
def tb_L_giveBack : List fw_R := [(0, .aload_n 3, 1, 3, 0), (1, .iconst 0, 2, 0, 0), (2, .aload_n 0, 3, 0, 0), (3, .iload_n 1, 4, 1, 0), (4, .iload_n 2, 5, 2, 0), (5, .invokevirtual 67, 8, 0, 0), (8, .i2l, 9, 0, 0), (9, .lastore, 10, 0, 0), (10, .goto 11, 13, 21, 0), (13, .astore 4, 15, 4, 0), (15, .iconst 1, 16, 0, 1), (16, .ireturn, 17, 0, 0), (17, .astore 4, 19, 4, 0), (19, .iconst 2, 20, 0, 2), (20, .ireturn, 21, 0, 0), (21, .iconst 0, 22, 0, 0), (22, .ireturn, 23, 0, 0)]
theorem tk_L_giveBack : fw_tok mm_L_giveBack tb_L_giveBack := by unfold fw_tok; decide +kernel
abbrev mm_L_atLarge : fw_M := (yL_atLarge, cL_atLarge, 6, (some .int), [((0 : Nat), (12 : Nat), (15 : Nat), (32 : Nat)), ((0 : Nat), (12 : Nat), (19 : Nat), (13 : Nat))])
def tb_L_atLarge : List fw_R := [(0, .aload 4, 2, 4, 0), (2, .iconst 0, 3, 0, 0), (3, .aload_n 0, 4, 0, 0), (4, .iload_n 1, 5, 1, 0), (5, .iload_n 2, 6, 2, 0), (6, .iload_n 3, 7, 3, 0), (7, .invokevirtual 70, 10, 0, 0), (10, .i2l, 11, 0, 0), (11, .lastore, 12, 0, 0), (12, .goto 11, 15, 23, 0), (15, .astore 5, 17, 5, 0), (17, .iconst 1, 18, 0, 1), (18, .ireturn, 19, 0, 0), (19, .astore 5, 21, 5, 0), (21, .iconst 2, 22, 0, 2), (22, .ireturn, 23, 0, 0), (23, .iconst 0, 24, 0, 0), (24, .ireturn, 25, 0, 0)]
theorem tk_L_atLarge : fw_tok mm_L_atLarge tb_L_atLarge := by unfold fw_tok; decide +kernel
abbrev mm_L_recall : fw_M := (yL_recall, cL_recall, 6, (some .int), [((0 : Nat), (12 : Nat), (15 : Nat), (32 : Nat)), ((0 : Nat), (12 : Nat), (19 : Nat), (13 : Nat)), ((0 : Nat), (12 : Nat), (23 : Nat), (34 : Nat)), ((0 : Nat), (12 : Nat), (27 : Nat), (27 : Nat))])
def tb_L_recall : List fw_R := [(0, .aload 4, 2, 4, 0), (2, .iconst 0, 3, 0, 0), (3, .aload_n 0, 4, 0, 0), (4, .iload_n 1, 5, 1, 0), (5, .iload_n 2, 6, 2, 0), (6, .iload_n 3, 7, 3, 0), (7, .invokevirtual 73, 10, 0, 0), (10, .i2l, 11, 0, 0), (11, .lastore, 12, 0, 0), (12, .goto 19, 15, 31, 0), (15, .astore 5, 17, 5, 0), (17, .iconst 1, 18, 0, 1), (18, .ireturn, 19, 0, 0), (19, .astore 5, 21, 5, 0), (21, .iconst 2, 22, 0, 2), (22, .ireturn, 23, 0, 0), (23, .astore 5, 25, 5, 0), (25, .iconst 3, 26, 0, 3), (26, .ireturn, 27, 0, 0), (27, .astore 5, 29, 5, 0), (29, .iconst 4, 30, 0, 4), (30, .ireturn, 31, 0, 0), (31, .iconst 0, 32, 0, 0), (32, .ireturn, 33, 0, 0)]
theorem tk_L_recall : fw_tok mm_L_recall tb_L_recall := by unfold fw_tok; decide +kernel
abbrev mm_L_letGo : fw_M := (yL_letGo, cL_letGo, 5, (some .int), [((0 : Nat), (10 : Nat), (13 : Nat), (32 : Nat)), ((0 : Nat), (10 : Nat), (17 : Nat), (13 : Nat)), ((0 : Nat), (10 : Nat), (21 : Nat), (34 : Nat))])
def tb_L_letGo : List fw_R := [(0, .aload_n 3, 1, 3, 0), (1, .iconst 0, 2, 0, 0), (2, .aload_n 0, 3, 0, 0), (3, .iload_n 1, 4, 1, 0), (4, .iload_n 2, 5, 2, 0), (5, .invokevirtual 77, 8, 0, 0), (8, .i2l, 9, 0, 0), (9, .lastore, 10, 0, 0), (10, .goto 15, 13, 25, 0), (13, .astore 4, 15, 4, 0), (15, .iconst 1, 16, 0, 1), (16, .ireturn, 17, 0, 0), (17, .astore 4, 19, 4, 0), (19, .iconst 2, 20, 0, 2), (20, .ireturn, 21, 0, 0), (21, .astore 4, 23, 4, 0), (23, .iconst 3, 24, 0, 3), (24, .ireturn, 25, 0, 0), (25, .iconst 0, 26, 0, 0), (26, .ireturn, 27, 0, 0)]
theorem tk_L_letGo : fw_tok mm_L_letGo tb_L_letGo := by unfold fw_tok; decide +kernel
abbrev mm_L_begins : fw_M := (yL_begins, cL_begins, 4, (some .int), [((0 : Nat), (9 : Nat), (12 : Nat), (32 : Nat)), ((0 : Nat), (9 : Nat), (15 : Nat), (36 : Nat))])
def tb_L_begins : List fw_R := [(0, .aload_n 2, 1, 2, 0), (1, .iconst 0, 2, 0, 0), (2, .aload_n 0, 3, 0, 0), (3, .iload_n 1, 4, 1, 0), (4, .invokevirtual 80, 7, 0, 0), (7, .i2l, 8, 0, 0), (8, .lastore, 9, 0, 0), (9, .goto 9, 12, 18, 0), (12, .astore_n 3, 13, 3, 0), (13, .iconst 1, 14, 0, 1), (14, .ireturn, 15, 0, 0), (15, .astore_n 3, 16, 3, 0), (16, .iconst 2, 17, 0, 2), (17, .ireturn, 18, 0, 0), (18, .iconst 0, 19, 0, 0), (19, .ireturn, 20, 0, 0)]
theorem tk_L_begins : fw_tok mm_L_begins tb_L_begins := by unfold fw_tok; decide +kernel
abbrev mm_L_needed : fw_M := (yL_needed, cL_needed, 4, (some .int), [((0 : Nat), (9 : Nat), (12 : Nat), (32 : Nat)), ((0 : Nat), (9 : Nat), (15 : Nat), (36 : Nat))])
def tb_L_needed : List fw_R := [(0, .aload_n 2, 1, 2, 0), (1, .iconst 0, 2, 0, 0), (2, .aload_n 0, 3, 0, 0), (3, .iload_n 1, 4, 1, 0), (4, .invokevirtual 83, 7, 0, 0), (7, .i2l, 8, 0, 0), (8, .lastore, 9, 0, 0), (9, .goto 9, 12, 18, 0), (12, .astore_n 3, 13, 3, 0), (13, .iconst 1, 14, 0, 1), (14, .ireturn, 15, 0, 0), (15, .astore_n 3, 16, 3, 0), (16, .iconst 2, 17, 0, 2), (17, .ireturn, 18, 0, 0), (18, .iconst 0, 19, 0, 0), (19, .ireturn, 20, 0, 0)]
theorem tk_L_needed : fw_tok mm_L_needed tb_L_needed := by unfold fw_tok; decide +kernel
abbrev mm_L_release : fw_M := (yL_release, cL_release, 4, (some .int), [((0 : Nat), (9 : Nat), (12 : Nat), (32 : Nat)), ((0 : Nat), (9 : Nat), (15 : Nat), (36 : Nat))])
def tb_L_release : List fw_R := [(0, .aload_n 2, 1, 2, 0), (1, .iconst 0, 2, 0, 0), (2, .aload_n 0, 3, 0, 0), (3, .iload_n 1, 4, 1, 0), (4, .invokevirtual 86, 7, 0, 0), (7, .i2l, 8, 0, 0), (8, .lastore, 9, 0, 0), (9, .goto 9, 12, 18, 0), (12, .astore_n 3, 13, 3, 0), (13, .iconst 1, 14, 0, 1), (14, .ireturn, 15, 0, 0), (15, .astore_n 3, 16, 3, 0), (16, .iconst 2, 17, 0, 2), (17, .ireturn, 18, 0, 0), (18, .iconst 0, 19, 0, 0), (19, .ireturn, 20, 0, 0)]
theorem tk_L_release : fw_tok mm_L_release tb_L_release := by unfold fw_tok; decide +kernel
abbrev mm_L_end : fw_M := (yL_end, cL_end, 4, (some .int), [((0 : Nat), (9 : Nat), (12 : Nat), (32 : Nat)), ((0 : Nat), (9 : Nat), (15 : Nat), (36 : Nat))])
def tb_L_end : List fw_R := [(0, .aload_n 2, 1, 2, 0), (1, .iconst 0, 2, 0, 0), (2, .aload_n 0, 3, 0, 0), (3, .iload_n 1, 4, 1, 0), (4, .invokevirtual 89, 7, 0, 0), (7, .i2l, 8, 0, 0), (8, .lastore, 9, 0, 0), (9, .goto 9, 12, 18, 0), (12, .astore_n 3, 13, 3, 0), (13, .iconst 1, 14, 0, 1), (14, .ireturn, 15, 0, 0), (15, .astore_n 3, 16, 3, 0), (16, .iconst 2, 17, 0, 2), (17, .ireturn, 18, 0, 0), (18, .iconst 0, 19, 0, 0), (19, .ireturn, 20, 0, 0)]
theorem tk_L_end : fw_tok mm_L_end tb_L_end := by unfold fw_tok; decide +kernel
abbrev mm_L_stateOn : fw_M := (yL_stateOn, cL_stateOn, 5, (some .int), [((0 : Nat), (10 : Nat), (13 : Nat), (32 : Nat)), ((0 : Nat), (10 : Nat), (17 : Nat), (13 : Nat))])
def tb_L_stateOn : List fw_R := [(0, .aload_n 3, 1, 3, 0), (1, .iconst 0, 2, 0, 0), (2, .aload_n 0, 3, 0, 0), (3, .iload_n 1, 4, 1, 0), (4, .iload_n 2, 5, 2, 0), (5, .invokevirtual 92, 8, 0, 0), (8, .i2l, 9, 0, 0), (9, .lastore, 10, 0, 0), (10, .goto 11, 13, 21, 0), (13, .astore 4, 15, 4, 0), (15, .iconst 1, 16, 0, 1), (16, .ireturn, 17, 0, 0), (17, .astore 4, 19, 4, 0), (19, .iconst 2, 20, 0, 2), (20, .ireturn, 21, 0, 0), (21, .iconst 0, 22, 0, 0), (22, .ireturn, 23, 0, 0)]
theorem tk_L_stateOn : fw_tok mm_L_stateOn tb_L_stateOn := by unfold fw_tok; decide +kernel
abbrev mm_L_byClerk : fw_M := (yL_byClerk, cL_byClerk, 5, (some .int), [((0 : Nat), (10 : Nat), (13 : Nat), (32 : Nat)), ((0 : Nat), (10 : Nat), (17 : Nat), (13 : Nat))])
def tb_L_byClerk : List fw_R := [(0, .aload_n 3, 1, 3, 0), (1, .iconst 0, 2, 0, 0), (2, .aload_n 0, 3, 0, 0), (3, .iload_n 1, 4, 1, 0), (4, .iload_n 2, 5, 2, 0), (5, .invokevirtual 96, 8, 0, 0), (8, .i2l, 9, 0, 0), (9, .lastore, 10, 0, 0), (10, .goto 11, 13, 21, 0), (13, .astore 4, 15, 4, 0), (15, .iconst 1, 16, 0, 1), (16, .ireturn, 17, 0, 0), (17, .astore 4, 19, 4, 0), (19, .iconst 2, 20, 0, 2), (20, .ireturn, 21, 0, 0), (21, .iconst 0, 22, 0, 0), (22, .ireturn, 23, 0, 0)]
theorem tk_L_byClerk : fw_tok mm_L_byClerk tb_L_byClerk := by unfold fw_tok; decide +kernel
abbrev mm_L_keeper : fw_M := (yL_keeper, cL_keeper, 5, (some .int), [((0 : Nat), (10 : Nat), (13 : Nat), (32 : Nat)), ((0 : Nat), (10 : Nat), (17 : Nat), (13 : Nat)), ((0 : Nat), (10 : Nat), (21 : Nat), (36 : Nat))])
def tb_L_keeper : List fw_R := [(0, .aload_n 3, 1, 3, 0), (1, .iconst 0, 2, 0, 0), (2, .aload_n 0, 3, 0, 0), (3, .iload_n 1, 4, 1, 0), (4, .iload_n 2, 5, 2, 0), (5, .invokevirtual 99, 8, 0, 0), (8, .i2l, 9, 0, 0), (9, .lastore, 10, 0, 0), (10, .goto 15, 13, 25, 0), (13, .astore 4, 15, 4, 0), (15, .iconst 1, 16, 0, 1), (16, .ireturn, 17, 0, 0), (17, .astore 4, 19, 4, 0), (19, .iconst 2, 20, 0, 2), (20, .ireturn, 21, 0, 0), (21, .astore 4, 23, 4, 0), (23, .iconst 3, 24, 0, 3), (24, .ireturn, 25, 0, 0), (25, .iconst 0, 26, 0, 0), (26, .ireturn, 27, 0, 0)]
theorem tk_L_keeper : fw_tok mm_L_keeper tb_L_keeper := by unfold fw_tok; decide +kernel
abbrev mm_L_held : fw_M := (yL_held, cL_held, 6, (some .int), [((0 : Nat), (12 : Nat), (15 : Nat), (32 : Nat)), ((0 : Nat), (12 : Nat), (19 : Nat), (13 : Nat))])
def tb_L_held : List fw_R := [(0, .aload 4, 2, 4, 0), (2, .iconst 0, 3, 0, 0), (3, .aload_n 0, 4, 0, 0), (4, .iload_n 1, 5, 1, 0), (5, .iload_n 2, 6, 2, 0), (6, .iload_n 3, 7, 3, 0), (7, .invokevirtual 102, 10, 0, 0), (10, .i2l, 11, 0, 0), (11, .lastore, 12, 0, 0), (12, .goto 11, 15, 23, 0), (15, .astore 5, 17, 5, 0), (17, .iconst 1, 18, 0, 1), (18, .ireturn, 19, 0, 0), (19, .astore 5, 21, 5, 0), (21, .iconst 2, 22, 0, 2), (22, .ireturn, 23, 0, 0), (23, .iconst 0, 24, 0, 0), (24, .ireturn, 25, 0, 0)]
theorem tk_L_held : fw_tok mm_L_held tb_L_held := by unfold fw_tok; decide +kernel
abbrev mm_L_tooLong : fw_M := (yL_tooLong, cL_tooLong, 5, (some .int), [((0 : Nat), (10 : Nat), (13 : Nat), (32 : Nat)), ((0 : Nat), (10 : Nat), (17 : Nat), (13 : Nat))])
def tb_L_tooLong : List fw_R := [(0, .aload_n 3, 1, 3, 0), (1, .iconst 0, 2, 0, 0), (2, .aload_n 0, 3, 0, 0), (3, .iload_n 1, 4, 1, 0), (4, .iload_n 2, 5, 2, 0), (5, .invokevirtual 105, 8, 0, 0), (8, .i2l, 9, 0, 0), (9, .lastore, 10, 0, 0), (10, .goto 11, 13, 21, 0), (13, .astore 4, 15, 4, 0), (15, .iconst 1, 16, 0, 1), (16, .ireturn, 17, 0, 0), (17, .astore 4, 19, 4, 0), (19, .iconst 2, 20, 0, 2), (20, .ireturn, 21, 0, 0), (21, .iconst 0, 22, 0, 0), (22, .ireturn, 23, 0, 0)]
theorem tk_L_tooLong : fw_tok mm_L_tooLong tb_L_tooLong := by unfold fw_tok; decide +kernel
abbrev mm_L_tooShort : fw_M := (yL_tooShort, cL_tooShort, 5, (some .int), [((0 : Nat), (10 : Nat), (13 : Nat), (32 : Nat)), ((0 : Nat), (10 : Nat), (17 : Nat), (13 : Nat))])
def tb_L_tooShort : List fw_R := [(0, .aload_n 3, 1, 3, 0), (1, .iconst 0, 2, 0, 0), (2, .aload_n 0, 3, 0, 0), (3, .iload_n 1, 4, 1, 0), (4, .iload_n 2, 5, 2, 0), (5, .invokevirtual 108, 8, 0, 0), (8, .i2l, 9, 0, 0), (9, .lastore, 10, 0, 0), (10, .goto 11, 13, 21, 0), (13, .astore 4, 15, 4, 0), (15, .iconst 1, 16, 0, 1), (16, .ireturn, 17, 0, 0), (17, .astore 4, 19, 4, 0), (19, .iconst 2, 20, 0, 2), (20, .ireturn, 21, 0, 0), (21, .iconst 0, 22, 0, 0), (22, .ireturn, 23, 0, 0)]
theorem tk_L_tooShort : fw_tok mm_L_tooShort tb_L_tooShort := by unfold fw_tok; decide +kernel
abbrev mm_L_prisonShare : fw_M := (yL_prisonShare, cL_prisonShare, 4, (some .int), [((0 : Nat), (9 : Nat), (12 : Nat), (13 : Nat)), ((0 : Nat), (9 : Nat), (15 : Nat), (115 : Nat))])
def tb_L_prisonShare : List fw_R := [(0, .aload_n 2, 1, 2, 0), (1, .iconst 0, 2, 0, 0), (2, .aload_n 0, 3, 0, 0), (3, .iload_n 1, 4, 1, 0), (4, .invokevirtual 111, 7, 0, 0), (7, .f2d, 8, 0, 0), (8, .dastore, 9, 0, 0), (9, .goto 9, 12, 18, 0), (12, .astore_n 3, 13, 3, 0), (13, .iconst 1, 14, 0, 1), (14, .ireturn, 15, 0, 0), (15, .astore_n 3, 16, 3, 0), (16, .iconst 2, 17, 0, 2), (17, .ireturn, 18, 0, 0), (18, .iconst 0, 19, 0, 0), (19, .ireturn, 20, 0, 0)]
theorem tk_L_prisonShare : fw_tok mm_L_prisonShare tb_L_prisonShare := by unfold fw_tok; decide +kernel
abbrev mm_L_meanNeeded : fw_M := (yL_meanNeeded, cL_meanNeeded, 3, (some .int), [((0 : Nat), (7 : Nat), (10 : Nat), (115 : Nat))])
def tb_L_meanNeeded : List fw_R := [(0, .aload_n 1, 1, 1, 0), (1, .iconst 0, 2, 0, 0), (2, .aload_n 0, 3, 0, 0), (3, .invokevirtual 117, 6, 0, 0), (6, .dastore, 7, 0, 0), (7, .goto 6, 10, 13, 0), (10, .astore_n 2, 11, 2, 0), (11, .iconst 1, 12, 0, 1), (12, .ireturn, 13, 0, 0), (13, .iconst 0, 14, 0, 0), (14, .ireturn, 15, 0, 0)]
theorem tk_L_meanNeeded : fw_tok mm_L_meanNeeded tb_L_meanNeeded := by unfold fw_tok; decide +kernel
end
section
/-! TABLES: methods, rows, words -/
theorem cl_0 : fw_cls 0 RJ0 TJ0 4 tyJ0 := ⟨rfl, fw_sub [585, 587, 1936, 1938] (by decide +kernel) (by decide +kernel), tyJ0_ok, nmJ0⟩
theorem cl_3 : fw_cls 3 RJx35411 TJx35411 4 tyJx35411 := ⟨rfl, fw_sub [1583, 1585, 1587, 1589] (by decide +kernel) (by decide +kernel), tyJx35411_ok, nmJx35411⟩
theorem cl_4 : fw_cls 4 RJx4a65c TJx4a65c 3 tyJx4a65c := ⟨rfl, fw_sub [1175, 1171, 1173] (by decide +kernel) (by decide +kernel), tyJx4a65c_ok, nmJx4a65c⟩
theorem cl_5 : fw_cls 5 RX0 TX0 3 tyX0 := ⟨rfl, fw_sub [907, 909, 911] (by decide +kernel) (by decide +kernel), tyX0_ok, nmX0⟩
theorem cl_6 : fw_cls 6 RX3 TX3 1 tyX3 := ⟨rfl, fw_sub [108] (by decide +kernel) (by decide +kernel), tyX3_ok, nmX3⟩
theorem cl_7 : fw_cls 7 RX4 TX4 5 tyX4 := ⟨rfl, fw_sub [547, 549, 551, 553, 555] (by decide +kernel) (by decide +kernel), tyX4_ok, nmX4⟩
theorem cl_8 : fw_cls 8 RX5 TX5 9 tyX5 := ⟨rfl, fw_sub [679, 681, 683, 685, 687, 689, 691, 693, 695] (by decide +kernel) (by decide +kernel), tyX5_ok, nmX5⟩
theorem cl_9 : fw_cls 9 RX6 TX6 9 tyX6 := ⟨rfl, fw_sub [980, 982, 984, 986, 988, 990, 992, 994, 996] (by decide +kernel) (by decide +kernel), tyX6_ok, nmX6⟩
theorem cl_10 : fw_cls 10 RX7 TX7 7 tyX7 := ⟨rfl, fw_sub [736, 738, 740, 742, 744, 746, 748] (by decide +kernel) (by decide +kernel), tyX7_ok, nmX7⟩
theorem cl_11 : fw_cls 11 RX8 TX8 3 tyX8 := ⟨rfl, fw_sub [499, 501, 503] (by decide +kernel) (by decide +kernel), tyX8_ok, nmX8⟩
theorem cl_12 : fw_cls 12 RX9 TX9 19 tyX9 := ⟨rfl, fw_sub [797, 799, 801, 803, 805, 807, 809, 811, 813, 815, 817, 819, 821, 823, 825, 827, 829, 831, 833] (by decide +kernel) (by decide +kernel), tyX9_ok, nmX9⟩
theorem cl_13 : fw_cls 13 RX10 TX10 10 tyX10 := ⟨rfl, fw_sub [122, 124, 126, 128, 130, 132, 134, 136, 138, 140] (by decide +kernel) (by decide +kernel), tyX10_ok, nmX10⟩
theorem cl_14 : fw_cls 14 RX11 TX11 3 tyX11 := ⟨rfl, fw_sub [1663, 1665, 1667] (by decide +kernel) (by decide +kernel), tyX11_ok, nmX11⟩
theorem cl_15 : fw_cls 15 RX12 TX12 6 tyX12 := ⟨rfl, fw_sub [1712, 1714, 1716, 1718, 1720, 1722] (by decide +kernel) (by decide +kernel), tyX12_ok, nmX12⟩
theorem cl_16 : fw_cls 16 RX13 TX13 4 tyX13 := ⟨rfl, fw_sub [1261, 1263, 1265, 1267] (by decide +kernel) (by decide +kernel), tyX13_ok, nmX13⟩
theorem cl_17 : fw_cls 17 RX14 TX14 3 tyX14 := ⟨rfl, fw_sub [1395, 1397, 1399] (by decide +kernel) (by decide +kernel), tyX14_ok, nmX14⟩
theorem cl_18 : fw_cls 18 RX15 TX15 5 tyX15 := ⟨rfl, fw_sub [1986, 1988, 1990, 1992, 1994] (by decide +kernel) (by decide +kernel), tyX15_ok, nmX15⟩
theorem cl_19 : fw_cls 19 RX16 TX16 13 tyX16 := ⟨rfl, fw_sub [1530, 1532, 1534, 1536, 1538, 1540, 1542, 1544, 1546, 1548, 1550, 1552, 1554] (by decide +kernel) (by decide +kernel), tyX16_ok, nmX16⟩
theorem cl_20 : fw_cls 20 RX17 TX17 6 tyX17 := ⟨rfl, fw_sub [1184, 1186, 1188, 1190, 1192, 1194] (by decide +kernel) (by decide +kernel), tyX17_ok, nmX17⟩
theorem fl_X10_11 : fw_fld RX10 11 13 0 := ⟨_, _, _, _, cl_13, by decide, Or.inl (fw_gw 112 (by decide +kernel) (by decide +kernel))⟩
theorem fq_X10_11 : fw_fldF RX10 11 13 0 (.array (.object "Termreckonry$Law")) := ⟨_, _, _, _, cl_13, by decide, fw_gw 112 (by decide +kernel) (by decide +kernel), rfl, rfl, by decide +kernel⟩
theorem fl_X10_17 : fw_fld RX10 17 13 1 := ⟨_, _, _, _, cl_13, by decide, Or.inl (fw_gw 113 (by decide +kernel) (by decide +kernel))⟩
theorem fq_X10_17 : fw_fldF RX10 17 13 1 (.array (.object "Termreckonry$Person")) := ⟨_, _, _, _, cl_13, by decide, fw_gw 113 (by decide +kernel) (by decide +kernel), rfl, rfl, by decide +kernel⟩
theorem fl_X10_23 : fw_fld RX10 23 13 2 := ⟨_, _, _, _, cl_13, by decide, Or.inl (fw_gw 114 (by decide +kernel) (by decide +kernel))⟩
theorem fq_X10_23 : fw_fldF RX10 23 13 2 (.array (.object "Termreckonry$Warrant")) := ⟨_, _, _, _, cl_13, by decide, fw_gw 114 (by decide +kernel) (by decide +kernel), rfl, rfl, by decide +kernel⟩
theorem fl_X10_29 : fw_fld RX10 29 13 3 := ⟨_, _, _, _, cl_13, by decide, Or.inl (fw_gw 115 (by decide +kernel) (by decide +kernel))⟩
theorem fq_X10_29 : fw_fldF RX10 29 13 3 (.array (.object "Termreckonry$Added")) := ⟨_, _, _, _, cl_13, by decide, fw_gw 115 (by decide +kernel) (by decide +kernel), rfl, rfl, by decide +kernel⟩
theorem fl_X10_36 : fw_fld RX10 36 13 4 := ⟨_, _, _, _, cl_13, by decide, Or.inl (fw_gw 116 (by decide +kernel) (by decide +kernel))⟩
theorem fq_X10_36 : fw_fldF RX10 36 13 4 (.object "Termreckonry$Days") := ⟨_, _, _, _, cl_13, by decide, fw_gw 116 (by decide +kernel) (by decide +kernel), rfl, rfl, by decide +kernel⟩
theorem fl_X10_87 : fw_fld RX10 87 13 5 := ⟨_, _, _, _, cl_13, by decide, Or.inl (fw_gw 117 (by decide +kernel) (by decide +kernel))⟩
theorem fp_X10_87 : fw_fldW RX10 87 13 5 (.int) := ⟨_, _, _, _, cl_13, by decide, Or.inl (fw_gw 117 (by decide +kernel) (by decide +kernel)), rfl, by decide +kernel⟩
theorem fl_X10_103 : fw_fld RX10 103 7 0 := ⟨_, _, _, _, cl_7, by decide, Or.inr (Or.inl ⟨"Termreckonry", fw_nw 538 (by decide +kernel) (by decide +kernel)⟩)⟩
theorem fl_X10_119 : fw_fld RX10 119 12 7 := ⟨_, _, _, _, cl_12, by decide, Or.inr (Or.inl ⟨"Termreckonry", fw_nw 768 (by decide +kernel) (by decide +kernel)⟩)⟩
theorem fl_X10_128 : fw_fld RX10 128 13 6 := ⟨_, _, _, _, cl_13, by decide, Or.inl (fw_gw 118 (by decide +kernel) (by decide +kernel))⟩
theorem fp_X10_128 : fw_fldW RX10 128 13 6 (.int) := ⟨_, _, _, _, cl_13, by decide, Or.inl (fw_gw 118 (by decide +kernel) (by decide +kernel)), rfl, by decide +kernel⟩
theorem fl_X10_145 : fw_fld RX10 145 12 1 := ⟨_, _, _, _, cl_12, by decide, Or.inr (Or.inl ⟨"Termreckonry", fw_nw 756 (by decide +kernel) (by decide +kernel)⟩)⟩
theorem fl_X10_151 : fw_fld RX10 151 13 7 := ⟨_, _, _, _, cl_13, by decide, Or.inl (fw_gw 119 (by decide +kernel) (by decide +kernel))⟩
theorem fp_X10_151 : fw_fldW RX10 151 13 7 (.int) := ⟨_, _, _, _, cl_13, by decide, Or.inl (fw_gw 119 (by decide +kernel) (by decide +kernel)), rfl, by decide +kernel⟩
theorem fl_X10_163 : fw_fld RX10 163 12 0 := ⟨_, _, _, _, cl_12, by decide, Or.inr (Or.inl ⟨"Termreckonry", fw_nw 754 (by decide +kernel) (by decide +kernel)⟩)⟩
theorem fl_X10_164 : fw_fld RX10 164 12 12 := ⟨_, _, _, _, cl_12, by decide, Or.inr (Or.inl ⟨"Termreckonry", fw_nw 780 (by decide +kernel) (by decide +kernel)⟩)⟩
theorem fp_X10_164 : fw_fldW RX10 164 12 12 (.int) := ⟨_, _, _, _, cl_12, by decide, Or.inr (Or.inl ⟨"Termreckonry", fw_nw 780 (by decide +kernel) (by decide +kernel)⟩), rfl, by decide +kernel⟩
theorem fl_X10_167 : fw_fld RX10 167 12 11 := ⟨_, _, _, _, cl_12, by decide, Or.inr (Or.inl ⟨"Termreckonry", fw_nw 778 (by decide +kernel) (by decide +kernel)⟩)⟩
theorem fp_X10_167 : fw_fldW RX10 167 12 11 (.int) := ⟨_, _, _, _, cl_12, by decide, Or.inr (Or.inl ⟨"Termreckonry", fw_nw 778 (by decide +kernel) (by decide +kernel)⟩), rfl, by decide +kernel⟩
theorem fl_X10_174 : fw_fld RX10 174 12 4 := ⟨_, _, _, _, cl_12, by decide, Or.inr (Or.inl ⟨"Termreckonry", fw_nw 761 (by decide +kernel) (by decide +kernel)⟩)⟩
theorem fl_X10_182 : fw_fld RX10 182 12 9 := ⟨_, _, _, _, cl_12, by decide, Or.inr (Or.inl ⟨"Termreckonry", fw_nw 773 (by decide +kernel) (by decide +kernel)⟩)⟩
theorem fp_X10_182 : fw_fldW RX10 182 12 9 (.int) := ⟨_, _, _, _, cl_12, by decide, Or.inr (Or.inl ⟨"Termreckonry", fw_nw 773 (by decide +kernel) (by decide +kernel)⟩), rfl, by decide +kernel⟩
theorem fl_X10_188 : fw_fld RX10 188 12 8 := ⟨_, _, _, _, cl_12, by decide, Or.inr (Or.inl ⟨"Termreckonry", fw_nw 771 (by decide +kernel) (by decide +kernel)⟩)⟩
theorem fp_X10_188 : fw_fldW RX10 188 12 8 (.object "Termreckonry$Term") := ⟨_, _, _, _, cl_12, by decide, Or.inr (Or.inl ⟨"Termreckonry", fw_nw 771 (by decide +kernel) (by decide +kernel)⟩), rfl, by decide +kernel⟩
theorem fl_X10_192 : fw_fld RX10 192 12 13 := ⟨_, _, _, _, cl_12, by decide, Or.inr (Or.inl ⟨"Termreckonry", fw_nw 782 (by decide +kernel) (by decide +kernel)⟩)⟩
theorem fp_X10_192 : fw_fldW RX10 192 12 13 (.boolean) := ⟨_, _, _, _, cl_12, by decide, Or.inr (Or.inl ⟨"Termreckonry", fw_nw 782 (by decide +kernel) (by decide +kernel)⟩), rfl, by decide +kernel⟩
theorem fl_X10_196 : fw_fld RX10 196 12 10 := ⟨_, _, _, _, cl_12, by decide, Or.inr (Or.inl ⟨"Termreckonry", fw_nw 776 (by decide +kernel) (by decide +kernel)⟩)⟩
theorem fp_X10_196 : fw_fldW RX10 196 12 10 (.int) := ⟨_, _, _, _, cl_12, by decide, Or.inr (Or.inl ⟨"Termreckonry", fw_nw 776 (by decide +kernel) (by decide +kernel)⟩), rfl, by decide +kernel⟩
theorem fl_X10_199 : fw_fld RX10 199 13 8 := ⟨_, _, _, _, cl_13, by decide, Or.inl (fw_gw 120 (by decide +kernel) (by decide +kernel))⟩
theorem fp_X10_199 : fw_fldW RX10 199 13 8 (.int) := ⟨_, _, _, _, cl_13, by decide, Or.inl (fw_gw 120 (by decide +kernel) (by decide +kernel)), rfl, by decide +kernel⟩
theorem fl_X10_215 : fw_fld RX10 215 5 1 := ⟨_, _, _, _, cl_5, by decide, Or.inr (Or.inl ⟨"Termreckonry", fw_nw 903 (by decide +kernel) (by decide +kernel)⟩)⟩
theorem fp_X10_215 : fw_fldW RX10 215 5 1 (.int) := ⟨_, _, _, _, cl_5, by decide, Or.inr (Or.inl ⟨"Termreckonry", fw_nw 903 (by decide +kernel) (by decide +kernel)⟩), rfl, by decide +kernel⟩
theorem fl_X10_221 : fw_fld RX10 221 8 0 := ⟨_, _, _, _, cl_8, by decide, Or.inr (Or.inl ⟨"Termreckonry", fw_nw 664 (by decide +kernel) (by decide +kernel)⟩)⟩
theorem fl_X10_242 : fw_fld RX10 242 13 9 := ⟨_, _, _, _, cl_13, by decide, Or.inl (fw_gw 121 (by decide +kernel) (by decide +kernel))⟩
theorem fp_X10_242 : fw_fldW RX10 242 13 9 (.int) := ⟨_, _, _, _, cl_13, by decide, Or.inl (fw_gw 121 (by decide +kernel) (by decide +kernel)), rfl, by decide +kernel⟩
theorem fl_X10_262 : fw_fld RX10 262 9 4 := ⟨_, _, _, _, cl_9, by decide, Or.inr (Or.inl ⟨"Termreckonry", fw_nw 973 (by decide +kernel) (by decide +kernel)⟩)⟩
theorem fp_X10_262 : fw_fldW RX10 262 9 4 (.int) := ⟨_, _, _, _, cl_9, by decide, Or.inr (Or.inl ⟨"Termreckonry", fw_nw 973 (by decide +kernel) (by decide +kernel)⟩), rfl, by decide +kernel⟩
theorem fl_X10_265 : fw_fld RX10 265 9 1 := ⟨_, _, _, _, cl_9, by decide, Or.inr (Or.inl ⟨"Termreckonry", fw_nw 966 (by decide +kernel) (by decide +kernel)⟩)⟩
theorem fl_X10_271 : fw_fld RX10 271 12 14 := ⟨_, _, _, _, cl_12, by decide, Or.inr (Or.inl ⟨"Termreckonry", fw_nw 785 (by decide +kernel) (by decide +kernel)⟩)⟩
theorem fl_X10_274 : fw_fld RX10 274 12 15 := ⟨_, _, _, _, cl_12, by decide, Or.inr (Or.inl ⟨"Termreckonry", fw_nw 787 (by decide +kernel) (by decide +kernel)⟩)⟩
theorem fl_X10_277 : fw_fld RX10 277 12 16 := ⟨_, _, _, _, cl_12, by decide, Or.inr (Or.inl ⟨"Termreckonry", fw_nw 790 (by decide +kernel) (by decide +kernel)⟩)⟩
theorem fl_X10_283 : fw_fld RX10 283 12 17 := ⟨_, _, _, _, cl_12, by decide, Or.inr (Or.inl ⟨"Termreckonry", fw_nw 793 (by decide +kernel) (by decide +kernel)⟩)⟩
theorem fl_X10_299 : fw_fld RX10 299 8 1 := ⟨_, _, _, _, cl_8, by decide, Or.inr (Or.inl ⟨"Termreckonry", fw_nw 666 (by decide +kernel) (by decide +kernel)⟩)⟩
theorem fl_X0_7 : fw_fld RX0 7 5 0 := ⟨_, _, _, _, cl_5, by decide, Or.inl (fw_gw 896 (by decide +kernel) (by decide +kernel))⟩
theorem fq_X0_7 : fw_fldF RX0 7 5 0 (.int) := ⟨_, _, _, _, cl_5, by decide, fw_gw 896 (by decide +kernel) (by decide +kernel), rfl, rfl, by decide +kernel⟩
theorem fl_X0_13 : fw_fld RX0 13 5 1 := ⟨_, _, _, _, cl_5, by decide, Or.inl (fw_gw 900 (by decide +kernel) (by decide +kernel))⟩
theorem fp_X0_13 : fw_fldW RX0 13 5 1 (.int) := ⟨_, _, _, _, cl_5, by decide, Or.inl (fw_gw 900 (by decide +kernel) (by decide +kernel)), rfl, by decide +kernel⟩
theorem fl_X2_28 : fw_fld RX2 28 8 4 := ⟨_, _, _, _, cl_8, by decide, Or.inr (Or.inl ⟨"Termreckonry", fw_nw 671 (by decide +kernel) (by decide +kernel)⟩)⟩
theorem fl_X2_32 : fw_fld RX2 32 8 5 := ⟨_, _, _, _, cl_8, by decide, Or.inr (Or.inl ⟨"Termreckonry", fw_nw 674 (by decide +kernel) (by decide +kernel)⟩)⟩
theorem fp_X2_32 : fw_fldW RX2 32 8 5 (.object "Termreckonry$Added") := ⟨_, _, _, _, cl_8, by decide, Or.inr (Or.inl ⟨"Termreckonry", fw_nw 674 (by decide +kernel) (by decide +kernel)⟩), rfl, by decide +kernel⟩
theorem fl_X2_35 : fw_fld RX2 35 8 2 := ⟨_, _, _, _, cl_8, by decide, Or.inr (Or.inl ⟨"Termreckonry", fw_nw 669 (by decide +kernel) (by decide +kernel)⟩)⟩
theorem fl_X2_39 : fw_fld RX2 39 12 6 := ⟨_, _, _, _, cl_12, by decide, Or.inr (Or.inl ⟨"Termreckonry", fw_nw 765 (by decide +kernel) (by decide +kernel)⟩)⟩
theorem fl_X2_49 : fw_fld RX2 49 12 18 := ⟨_, _, _, _, cl_12, by decide, Or.inr (Or.inl ⟨"Termreckonry", fw_nw 795 (by decide +kernel) (by decide +kernel)⟩)⟩
theorem fl_X2_52 : fw_fld RX2 52 8 6 := ⟨_, _, _, _, cl_8, by decide, Or.inr (Or.inl ⟨"Termreckonry", fw_nw 676 (by decide +kernel) (by decide +kernel)⟩)⟩
theorem fl_X2_56 : fw_fld RX2 56 9 6 := ⟨_, _, _, _, cl_9, by decide, Or.inr (Or.inl ⟨"Termreckonry", fw_nw 976 (by decide +kernel) (by decide +kernel)⟩)⟩
theorem fp_X2_56 : fw_fldW RX2 56 9 6 (.int) := ⟨_, _, _, _, cl_9, by decide, Or.inr (Or.inl ⟨"Termreckonry", fw_nw 976 (by decide +kernel) (by decide +kernel)⟩), rfl, by decide +kernel⟩
theorem fl_X2_62 : fw_fld RX2 62 9 7 := ⟨_, _, _, _, cl_9, by decide, Or.inr (Or.inl ⟨"Termreckonry", fw_nw 977 (by decide +kernel) (by decide +kernel)⟩)⟩
theorem fp_X2_62 : fw_fldW RX2 62 9 7 (.boolean) := ⟨_, _, _, _, cl_9, by decide, Or.inr (Or.inl ⟨"Termreckonry", fw_nw 977 (by decide +kernel) (by decide +kernel)⟩), rfl, by decide +kernel⟩
theorem fl_X2_66 : fw_fld RX2 66 9 8 := ⟨_, _, _, _, cl_9, by decide, Or.inr (Or.inl ⟨"Termreckonry", fw_nw 979 (by decide +kernel) (by decide +kernel)⟩)⟩
theorem fl_X2_68 : fw_fld RX2 68 8 0 := ⟨_, _, _, _, cl_8, by decide, Or.inr (Or.inl ⟨"Termreckonry", fw_nw 662 (by decide +kernel) (by decide +kernel)⟩)⟩
theorem fl_X2_100 : fw_fld RX2 100 5 0 := ⟨_, _, _, _, cl_5, by decide, Or.inr (Or.inl ⟨"Termreckonry", fw_nw 898 (by decide +kernel) (by decide +kernel)⟩)⟩
theorem fl_X2_109 : fw_fld RX2 109 5 2 := ⟨_, _, _, _, cl_5, by decide, Or.inr (Or.inl ⟨"Termreckonry", fw_nw 905 (by decide +kernel) (by decide +kernel)⟩)⟩
theorem fl_X2_111 : fw_fld RX2 111 9 1 := ⟨_, _, _, _, cl_9, by decide, Or.inr (Or.inl ⟨"Termreckonry", fw_nw 964 (by decide +kernel) (by decide +kernel)⟩)⟩
theorem fl_X2_116 : fw_fld RX2 116 9 4 := ⟨_, _, _, _, cl_9, by decide, Or.inr (Or.inl ⟨"Termreckonry", fw_nw 972 (by decide +kernel) (by decide +kernel)⟩)⟩
theorem fl_X2_119 : fw_fld RX2 119 9 2 := ⟨_, _, _, _, cl_9, by decide, Or.inr (Or.inl ⟨"Termreckonry", fw_nw 968 (by decide +kernel) (by decide +kernel)⟩)⟩
theorem fl_X2_122 : fw_fld RX2 122 12 0 := ⟨_, _, _, _, cl_12, by decide, Or.inr (Or.inl ⟨"Termreckonry", fw_nw 753 (by decide +kernel) (by decide +kernel)⟩)⟩
theorem fl_X2_125 : fw_fld RX2 125 9 3 := ⟨_, _, _, _, cl_9, by decide, Or.inr (Or.inl ⟨"Termreckonry", fw_nw 970 (by decide +kernel) (by decide +kernel)⟩)⟩
theorem fl_X3_11 : fw_fld RX3 11 6 0 := ⟨_, _, _, _, cl_6, by decide, Or.inl (fw_gw 107 (by decide +kernel) (by decide +kernel))⟩
theorem fq_X3_11 : fw_fldF RX3 11 6 0 (.array (.long)) := ⟨_, _, _, _, cl_6, by decide, fw_gw 107 (by decide +kernel) (by decide +kernel), rfl, rfl, by decide +kernel⟩
theorem fl_X4_7 : fw_fld RX4 7 7 0 := ⟨_, _, _, _, cl_7, by decide, Or.inl (fw_gw 537 (by decide +kernel) (by decide +kernel))⟩
theorem fq_X4_7 : fw_fldF RX4 7 7 0 (.int) := ⟨_, _, _, _, cl_7, by decide, fw_gw 537 (by decide +kernel) (by decide +kernel), rfl, rfl, by decide +kernel⟩
theorem fl_X4_13 : fw_fld RX4 13 7 1 := ⟨_, _, _, _, cl_7, by decide, Or.inl (fw_gw 539 (by decide +kernel) (by decide +kernel))⟩
theorem fq_X4_13 : fw_fldF RX4 13 7 1 (.boolean) := ⟨_, _, _, _, cl_7, by decide, fw_gw 539 (by decide +kernel) (by decide +kernel), rfl, rfl, by decide +kernel⟩
theorem fl_X4_17 : fw_fld RX4 17 7 2 := ⟨_, _, _, _, cl_7, by decide, Or.inl (fw_gw 541 (by decide +kernel) (by decide +kernel))⟩
theorem fq_X4_17 : fw_fldF RX4 17 7 2 (.int) := ⟨_, _, _, _, cl_7, by decide, fw_gw 541 (by decide +kernel) (by decide +kernel), rfl, rfl, by decide +kernel⟩
theorem fl_X4_20 : fw_fld RX4 20 7 3 := ⟨_, _, _, _, cl_7, by decide, Or.inl (fw_gw 543 (by decide +kernel) (by decide +kernel))⟩
theorem fq_X4_20 : fw_fldF RX4 20 7 3 (.int) := ⟨_, _, _, _, cl_7, by decide, fw_gw 543 (by decide +kernel) (by decide +kernel), rfl, rfl, by decide +kernel⟩
theorem fl_X4_23 : fw_fld RX4 23 7 4 := ⟨_, _, _, _, cl_7, by decide, Or.inl (fw_gw 545 (by decide +kernel) (by decide +kernel))⟩
theorem fq_X4_23 : fw_fldF RX4 23 7 4 (.boolean) := ⟨_, _, _, _, cl_7, by decide, fw_gw 545 (by decide +kernel) (by decide +kernel), rfl, rfl, by decide +kernel⟩
theorem fl_X5_10 : fw_fld RX5 10 8 0 := ⟨_, _, _, _, cl_8, by decide, Or.inl (fw_gw 660 (by decide +kernel) (by decide +kernel))⟩
theorem fq_X5_10 : fw_fldF RX5 10 8 0 (.object "Termreckonry$Days") := ⟨_, _, _, _, cl_8, by decide, fw_gw 660 (by decide +kernel) (by decide +kernel), rfl, rfl, by decide +kernel⟩
theorem fl_X5_16 : fw_fld RX5 16 8 1 := ⟨_, _, _, _, cl_8, by decide, Or.inl (fw_gw 665 (by decide +kernel) (by decide +kernel))⟩
theorem fq_X5_16 : fw_fldF RX5 16 8 1 (.object "Termreckonry$Days") := ⟨_, _, _, _, cl_8, by decide, fw_gw 665 (by decide +kernel) (by decide +kernel), rfl, rfl, by decide +kernel⟩
theorem fl_X5_19 : fw_fld RX5 19 8 3 := ⟨_, _, _, _, cl_8, by decide, Or.inl (fw_gw 670 (by decide +kernel) (by decide +kernel))⟩
theorem fp_X5_19 : fw_fldW RX5 19 8 3 (.object "Termreckonry$Warrant") := ⟨_, _, _, _, cl_8, by decide, Or.inl (fw_gw 670 (by decide +kernel) (by decide +kernel)), rfl, by decide +kernel⟩
theorem fl_X5_23 : fw_fld RX5 23 8 2 := ⟨_, _, _, _, cl_8, by decide, Or.inl (fw_gw 667 (by decide +kernel) (by decide +kernel))⟩
theorem fp_X5_23 : fw_fldW RX5 23 8 2 (.object "Termreckonry$Warrant") := ⟨_, _, _, _, cl_8, by decide, Or.inl (fw_gw 667 (by decide +kernel) (by decide +kernel)), rfl, by decide +kernel⟩
theorem fl_X5_26 : fw_fld RX5 26 12 18 := ⟨_, _, _, _, cl_12, by decide, Or.inr (Or.inl ⟨"Termreckonry", fw_nw 794 (by decide +kernel) (by decide +kernel)⟩)⟩
theorem fp_X5_26 : fw_fldW RX5 26 12 18 (.object "Termreckonry$Warrant") := ⟨_, _, _, _, cl_12, by decide, Or.inr (Or.inl ⟨"Termreckonry", fw_nw 794 (by decide +kernel) (by decide +kernel)⟩), rfl, by decide +kernel⟩
theorem fl_X5_31 : fw_fld RX5 31 8 7 := ⟨_, _, _, _, cl_8, by decide, Or.inl (fw_gw 677 (by decide +kernel) (by decide +kernel))⟩
theorem fp_X5_31 : fw_fldW RX5 31 8 7 (.object "Termreckonry$Recall") := ⟨_, _, _, _, cl_8, by decide, Or.inl (fw_gw 677 (by decide +kernel) (by decide +kernel)), rfl, by decide +kernel⟩
theorem fl_X5_35 : fw_fld RX5 35 8 6 := ⟨_, _, _, _, cl_8, by decide, Or.inl (fw_gw 675 (by decide +kernel) (by decide +kernel))⟩
theorem fp_X5_35 : fw_fldW RX5 35 8 6 (.object "Termreckonry$Recall") := ⟨_, _, _, _, cl_8, by decide, Or.inl (fw_gw 675 (by decide +kernel) (by decide +kernel)), rfl, by decide +kernel⟩
theorem fl_X5_38 : fw_fld RX5 38 9 8 := ⟨_, _, _, _, cl_9, by decide, Or.inr (Or.inl ⟨"Termreckonry", fw_nw 978 (by decide +kernel) (by decide +kernel)⟩)⟩
theorem fp_X5_38 : fw_fldW RX5 38 9 8 (.object "Termreckonry$Recall") := ⟨_, _, _, _, cl_9, by decide, Or.inr (Or.inl ⟨"Termreckonry", fw_nw 978 (by decide +kernel) (by decide +kernel)⟩), rfl, by decide +kernel⟩
theorem fl_X5_42 : fw_fld RX5 42 8 8 := ⟨_, _, _, _, cl_8, by decide, Or.inl (fw_gw 678 (by decide +kernel) (by decide +kernel))⟩
theorem fp_X5_42 : fw_fldW RX5 42 8 8 (.int) := ⟨_, _, _, _, cl_8, by decide, Or.inl (fw_gw 678 (by decide +kernel) (by decide +kernel)), rfl, by decide +kernel⟩
theorem fl_X5_46 : fw_fld RX5 46 8 4 := ⟨_, _, _, _, cl_8, by decide, Or.inl (fw_gw 672 (by decide +kernel) (by decide +kernel))⟩
theorem fp_X5_46 : fw_fldW RX5 46 8 4 (.object "Termreckonry$Added") := ⟨_, _, _, _, cl_8, by decide, Or.inl (fw_gw 672 (by decide +kernel) (by decide +kernel)), rfl, by decide +kernel⟩
theorem fl_X5_50 : fw_fld RX5 50 5 0 := ⟨_, _, _, _, cl_5, by decide, Or.inr (Or.inl ⟨"Termreckonry", fw_nw 897 (by decide +kernel) (by decide +kernel)⟩)⟩
theorem fl_X5_55 : fw_fld RX5 55 5 2 := ⟨_, _, _, _, cl_5, by decide, Or.inr (Or.inl ⟨"Termreckonry", fw_nw 904 (by decide +kernel) (by decide +kernel)⟩)⟩
theorem fp_X5_55 : fw_fldW RX5 55 5 2 (.object "Termreckonry$Added") := ⟨_, _, _, _, cl_5, by decide, Or.inr (Or.inl ⟨"Termreckonry", fw_nw 904 (by decide +kernel) (by decide +kernel)⟩), rfl, by decide +kernel⟩
theorem fl_X5_87 : fw_fld RX5 87 12 16 := ⟨_, _, _, _, cl_12, by decide, Or.inr (Or.inl ⟨"Termreckonry", fw_nw 789 (by decide +kernel) (by decide +kernel)⟩)⟩
theorem fl_X5_90 : fw_fld RX5 90 9 1 := ⟨_, _, _, _, cl_9, by decide, Or.inr (Or.inl ⟨"Termreckonry", fw_nw 965 (by decide +kernel) (by decide +kernel)⟩)⟩
theorem fl_X5_91 : fw_fld RX5 91 9 5 := ⟨_, _, _, _, cl_9, by decide, Or.inr (Or.inl ⟨"Termreckonry", fw_nw 975 (by decide +kernel) (by decide +kernel)⟩)⟩
theorem fl_X5_100 : fw_fld RX5 100 12 14 := ⟨_, _, _, _, cl_12, by decide, Or.inr (Or.inl ⟨"Termreckonry", fw_nw 784 (by decide +kernel) (by decide +kernel)⟩)⟩
theorem fl_X6_10 : fw_fld RX6 10 9 4 := ⟨_, _, _, _, cl_9, by decide, Or.inl (fw_gw 971 (by decide +kernel) (by decide +kernel))⟩
theorem fp_X6_10 : fw_fldW RX6 10 9 4 (.int) := ⟨_, _, _, _, cl_9, by decide, Or.inl (fw_gw 971 (by decide +kernel) (by decide +kernel)), rfl, by decide +kernel⟩
theorem fl_X6_16 : fw_fld RX6 16 9 0 := ⟨_, _, _, _, cl_9, by decide, Or.inl (fw_gw 962 (by decide +kernel) (by decide +kernel))⟩
theorem fq_X6_16 : fw_fldF RX6 16 9 0 (.object "Termreckonry$Person") := ⟨_, _, _, _, cl_9, by decide, fw_gw 962 (by decide +kernel) (by decide +kernel), rfl, rfl, by decide +kernel⟩
theorem fl_X6_20 : fw_fld RX6 20 9 1 := ⟨_, _, _, _, cl_9, by decide, Or.inl (fw_gw 963 (by decide +kernel) (by decide +kernel))⟩
theorem fq_X6_20 : fw_fldF RX6 20 9 1 (.int) := ⟨_, _, _, _, cl_9, by decide, fw_gw 963 (by decide +kernel) (by decide +kernel), rfl, rfl, by decide +kernel⟩
theorem fl_X6_23 : fw_fld RX6 23 9 2 := ⟨_, _, _, _, cl_9, by decide, Or.inl (fw_gw 967 (by decide +kernel) (by decide +kernel))⟩
theorem fq_X6_23 : fw_fldF RX6 23 9 2 (.boolean) := ⟨_, _, _, _, cl_9, by decide, fw_gw 967 (by decide +kernel) (by decide +kernel), rfl, rfl, by decide +kernel⟩
theorem fl_X6_27 : fw_fld RX6 27 9 3 := ⟨_, _, _, _, cl_9, by decide, Or.inl (fw_gw 969 (by decide +kernel) (by decide +kernel))⟩
theorem fq_X6_27 : fw_fldF RX6 27 9 3 (.int) := ⟨_, _, _, _, cl_9, by decide, fw_gw 969 (by decide +kernel) (by decide +kernel), rfl, rfl, by decide +kernel⟩
theorem fl_X6_40 : fw_fld RX6 40 9 5 := ⟨_, _, _, _, cl_9, by decide, Or.inl (fw_gw 974 (by decide +kernel) (by decide +kernel))⟩
theorem fp_X6_40 : fw_fldW RX6 40 9 5 (.int) := ⟨_, _, _, _, cl_9, by decide, Or.inl (fw_gw 974 (by decide +kernel) (by decide +kernel)), rfl, by decide +kernel⟩
theorem fl_X6_43 : fw_fld RX6 43 8 0 := ⟨_, _, _, _, cl_8, by decide, Or.inr (Or.inl ⟨"Termreckonry", fw_nw 661 (by decide +kernel) (by decide +kernel)⟩)⟩
theorem fl_X6_58 : fw_fld RX6 58 8 2 := ⟨_, _, _, _, cl_8, by decide, Or.inr (Or.inl ⟨"Termreckonry", fw_nw 668 (by decide +kernel) (by decide +kernel)⟩)⟩
theorem fl_X6_62 : fw_fld RX6 62 12 0 := ⟨_, _, _, _, cl_12, by decide, Or.inr (Or.inl ⟨"Termreckonry", fw_nw 752 (by decide +kernel) (by decide +kernel)⟩)⟩
theorem fl_X6_71 : fw_fld RX6 71 12 17 := ⟨_, _, _, _, cl_12, by decide, Or.inr (Or.inl ⟨"Termreckonry", fw_nw 791 (by decide +kernel) (by decide +kernel)⟩)⟩
theorem fl_X6_77 : fw_fld RX6 77 12 18 := ⟨_, _, _, _, cl_12, by decide, Or.inr (Or.inl ⟨"Termreckonry", fw_nw 796 (by decide +kernel) (by decide +kernel)⟩)⟩
theorem fl_X7_10 : fw_fld RX7 10 10 0 := ⟨_, _, _, _, cl_10, by decide, Or.inl (fw_gw 729 (by decide +kernel) (by decide +kernel))⟩
theorem fp_X7_10 : fw_fldW RX7 10 10 0 (.int) := ⟨_, _, _, _, cl_10, by decide, Or.inl (fw_gw 729 (by decide +kernel) (by decide +kernel)), rfl, by decide +kernel⟩
theorem fl_X7_16 : fw_fld RX7 16 10 1 := ⟨_, _, _, _, cl_10, by decide, Or.inl (fw_gw 730 (by decide +kernel) (by decide +kernel))⟩
theorem fp_X7_16 : fw_fldW RX7 16 10 1 (.int) := ⟨_, _, _, _, cl_10, by decide, Or.inl (fw_gw 730 (by decide +kernel) (by decide +kernel)), rfl, by decide +kernel⟩
theorem fl_X7_19 : fw_fld RX7 19 10 2 := ⟨_, _, _, _, cl_10, by decide, Or.inl (fw_gw 731 (by decide +kernel) (by decide +kernel))⟩
theorem fp_X7_19 : fw_fldW RX7 19 10 2 (.int) := ⟨_, _, _, _, cl_10, by decide, Or.inl (fw_gw 731 (by decide +kernel) (by decide +kernel)), rfl, by decide +kernel⟩
theorem fl_X7_22 : fw_fld RX7 22 10 3 := ⟨_, _, _, _, cl_10, by decide, Or.inl (fw_gw 732 (by decide +kernel) (by decide +kernel))⟩
theorem fp_X7_22 : fw_fldW RX7 22 10 3 (.int) := ⟨_, _, _, _, cl_10, by decide, Or.inl (fw_gw 732 (by decide +kernel) (by decide +kernel)), rfl, by decide +kernel⟩
theorem fl_X7_25 : fw_fld RX7 25 10 4 := ⟨_, _, _, _, cl_10, by decide, Or.inl (fw_gw 733 (by decide +kernel) (by decide +kernel))⟩
theorem fp_X7_25 : fw_fldW RX7 25 10 4 (.int) := ⟨_, _, _, _, cl_10, by decide, Or.inl (fw_gw 733 (by decide +kernel) (by decide +kernel)), rfl, by decide +kernel⟩
theorem fl_X7_28 : fw_fld RX7 28 10 5 := ⟨_, _, _, _, cl_10, by decide, Or.inl (fw_gw 734 (by decide +kernel) (by decide +kernel))⟩
theorem fp_X7_28 : fw_fldW RX7 28 10 5 (.int) := ⟨_, _, _, _, cl_10, by decide, Or.inl (fw_gw 734 (by decide +kernel) (by decide +kernel)), rfl, by decide +kernel⟩
theorem fl_X7_31 : fw_fld RX7 31 10 6 := ⟨_, _, _, _, cl_10, by decide, Or.inl (fw_gw 735 (by decide +kernel) (by decide +kernel))⟩
theorem fp_X7_31 : fw_fldW RX7 31 10 6 (.int) := ⟨_, _, _, _, cl_10, by decide, Or.inl (fw_gw 735 (by decide +kernel) (by decide +kernel)), rfl, by decide +kernel⟩
theorem fl_X7_38 : fw_fld RX7 38 12 8 := ⟨_, _, _, _, cl_12, by decide, Or.inr (Or.inl ⟨"Termreckonry", fw_nw 770 (by decide +kernel) (by decide +kernel)⟩)⟩
theorem fl_X7_67 : fw_fld RX7 67 5 1 := ⟨_, _, _, _, cl_5, by decide, Or.inr (Or.inl ⟨"Termreckonry", fw_nw 901 (by decide +kernel) (by decide +kernel)⟩)⟩
theorem fl_X7_88 : fw_fld RX7 88 12 5 := ⟨_, _, _, _, cl_12, by decide, Or.inr (Or.inl ⟨"Termreckonry", fw_nw 763 (by decide +kernel) (by decide +kernel)⟩)⟩
theorem fl_X7_92 : fw_fld RX7 92 12 6 := ⟨_, _, _, _, cl_12, by decide, Or.inr (Or.inl ⟨"Termreckonry", fw_nw 766 (by decide +kernel) (by decide +kernel)⟩)⟩
theorem fl_X7_99 : fw_fld RX7 99 12 10 := ⟨_, _, _, _, cl_12, by decide, Or.inr (Or.inl ⟨"Termreckonry", fw_nw 775 (by decide +kernel) (by decide +kernel)⟩)⟩
theorem fl_X7_102 : fw_fld RX7 102 12 2 := ⟨_, _, _, _, cl_12, by decide, Or.inr (Or.inl ⟨"Termreckonry", fw_nw 758 (by decide +kernel) (by decide +kernel)⟩)⟩
theorem fl_X8_7 : fw_fld RX8 7 11 0 := ⟨_, _, _, _, cl_11, by decide, Or.inl (fw_gw 496 (by decide +kernel) (by decide +kernel))⟩
theorem fq_X8_7 : fw_fldF RX8 7 11 0 (.int) := ⟨_, _, _, _, cl_11, by decide, fw_gw 496 (by decide +kernel) (by decide +kernel), rfl, rfl, by decide +kernel⟩
theorem fl_X8_13 : fw_fld RX8 13 11 1 := ⟨_, _, _, _, cl_11, by decide, Or.inl (fw_gw 497 (by decide +kernel) (by decide +kernel))⟩
theorem fq_X8_13 : fw_fldF RX8 13 11 1 (.int) := ⟨_, _, _, _, cl_11, by decide, fw_gw 497 (by decide +kernel) (by decide +kernel), rfl, rfl, by decide +kernel⟩
theorem fl_X8_16 : fw_fld RX8 16 11 2 := ⟨_, _, _, _, cl_11, by decide, Or.inl (fw_gw 498 (by decide +kernel) (by decide +kernel))⟩
theorem fq_X8_16 : fw_fldF RX8 16 11 2 (.int) := ⟨_, _, _, _, cl_11, by decide, fw_gw 498 (by decide +kernel) (by decide +kernel), rfl, rfl, by decide +kernel⟩
theorem fl_X9_12 : fw_fld RX9 12 12 6 := ⟨_, _, _, _, cl_12, by decide, Or.inl (fw_gw 764 (by decide +kernel) (by decide +kernel))⟩
theorem fq_X9_12 : fw_fldF RX9 12 12 6 (.object "Termreckonry$Tally") := ⟨_, _, _, _, cl_12, by decide, fw_gw 764 (by decide +kernel) (by decide +kernel), rfl, rfl, by decide +kernel⟩
theorem fl_X9_18 : fw_fld RX9 18 12 9 := ⟨_, _, _, _, cl_12, by decide, Or.inl (fw_gw 772 (by decide +kernel) (by decide +kernel))⟩
theorem fp_X9_18 : fw_fldW RX9 18 12 9 (.int) := ⟨_, _, _, _, cl_12, by decide, Or.inl (fw_gw 772 (by decide +kernel) (by decide +kernel)), rfl, by decide +kernel⟩
theorem fl_X9_22 : fw_fld RX9 22 12 10 := ⟨_, _, _, _, cl_12, by decide, Or.inl (fw_gw 774 (by decide +kernel) (by decide +kernel))⟩
theorem fp_X9_22 : fw_fldW RX9 22 12 10 (.int) := ⟨_, _, _, _, cl_12, by decide, Or.inl (fw_gw 774 (by decide +kernel) (by decide +kernel)), rfl, by decide +kernel⟩
theorem fl_X9_26 : fw_fld RX9 26 12 14 := ⟨_, _, _, _, cl_12, by decide, Or.inl (fw_gw 783 (by decide +kernel) (by decide +kernel))⟩
theorem fp_X9_26 : fw_fldW RX9 26 12 14 (.int) := ⟨_, _, _, _, cl_12, by decide, Or.inl (fw_gw 783 (by decide +kernel) (by decide +kernel)), rfl, by decide +kernel⟩
theorem fl_X9_29 : fw_fld RX9 29 12 16 := ⟨_, _, _, _, cl_12, by decide, Or.inl (fw_gw 788 (by decide +kernel) (by decide +kernel))⟩
theorem fp_X9_29 : fw_fldW RX9 29 12 16 (.int) := ⟨_, _, _, _, cl_12, by decide, Or.inl (fw_gw 788 (by decide +kernel) (by decide +kernel)), rfl, by decide +kernel⟩
theorem fl_X9_32 : fw_fld RX9 32 12 0 := ⟨_, _, _, _, cl_12, by decide, Or.inl (fw_gw 751 (by decide +kernel) (by decide +kernel))⟩
theorem fq_X9_32 : fw_fldF RX9 32 12 0 (.int) := ⟨_, _, _, _, cl_12, by decide, fw_gw 751 (by decide +kernel) (by decide +kernel), rfl, rfl, by decide +kernel⟩
theorem fl_X9_35 : fw_fld RX9 35 12 1 := ⟨_, _, _, _, cl_12, by decide, Or.inl (fw_gw 755 (by decide +kernel) (by decide +kernel))⟩
theorem fq_X9_35 : fw_fldF RX9 35 12 1 (.object "Termreckonry$Person") := ⟨_, _, _, _, cl_12, by decide, fw_gw 755 (by decide +kernel) (by decide +kernel), rfl, rfl, by decide +kernel⟩
theorem fl_X9_39 : fw_fld RX9 39 12 2 := ⟨_, _, _, _, cl_12, by decide, Or.inl (fw_gw 757 (by decide +kernel) (by decide +kernel))⟩
theorem fq_X9_39 : fw_fldF RX9 39 12 2 (.char) := ⟨_, _, _, _, cl_12, by decide, fw_gw 757 (by decide +kernel) (by decide +kernel), rfl, rfl, by decide +kernel⟩
theorem fl_X9_43 : fw_fld RX9 43 12 3 := ⟨_, _, _, _, cl_12, by decide, Or.inl (fw_gw 759 (by decide +kernel) (by decide +kernel))⟩
theorem fq_X9_43 : fw_fldF RX9 43 12 3 (.int) := ⟨_, _, _, _, cl_12, by decide, fw_gw 759 (by decide +kernel) (by decide +kernel), rfl, rfl, by decide +kernel⟩
theorem fl_X9_46 : fw_fld RX9 46 12 4 := ⟨_, _, _, _, cl_12, by decide, Or.inl (fw_gw 760 (by decide +kernel) (by decide +kernel))⟩
theorem fq_X9_46 : fw_fldF RX9 46 12 4 (.int) := ⟨_, _, _, _, cl_12, by decide, fw_gw 760 (by decide +kernel) (by decide +kernel), rfl, rfl, by decide +kernel⟩
theorem fl_X9_49 : fw_fld RX9 49 12 5 := ⟨_, _, _, _, cl_12, by decide, Or.inl (fw_gw 762 (by decide +kernel) (by decide +kernel))⟩
theorem fq_X9_49 : fw_fldF RX9 49 12 5 (.object "Termreckonry$Warrant") := ⟨_, _, _, _, cl_12, by decide, fw_gw 762 (by decide +kernel) (by decide +kernel), rfl, rfl, by decide +kernel⟩
theorem fl_X9_53 : fw_fld RX9 53 12 8 := ⟨_, _, _, _, cl_12, by decide, Or.inl (fw_gw 769 (by decide +kernel) (by decide +kernel))⟩
theorem fp_X9_53 : fw_fldW RX9 53 12 8 (.object "Termreckonry$Term") := ⟨_, _, _, _, cl_12, by decide, Or.inl (fw_gw 769 (by decide +kernel) (by decide +kernel)), rfl, by decide +kernel⟩
theorem fl_X9_57 : fw_fld RX9 57 7 1 := ⟨_, _, _, _, cl_7, by decide, Or.inr (Or.inl ⟨"Termreckonry", fw_nw 540 (by decide +kernel) (by decide +kernel)⟩)⟩
theorem fl_X9_67 : fw_fld RX9 67 7 2 := ⟨_, _, _, _, cl_7, by decide, Or.inr (Or.inl ⟨"Termreckonry", fw_nw 542 (by decide +kernel) (by decide +kernel)⟩)⟩
theorem fl_X9_70 : fw_fld RX9 70 12 7 := ⟨_, _, _, _, cl_12, by decide, Or.inl (fw_gw 767 (by decide +kernel) (by decide +kernel))⟩
theorem fp_X9_70 : fw_fldW RX9 70 12 7 (.object "Termreckonry$Law") := ⟨_, _, _, _, cl_12, by decide, Or.inl (fw_gw 767 (by decide +kernel) (by decide +kernel)), rfl, by decide +kernel⟩
theorem fl_X9_74 : fw_fld RX9 74 12 13 := ⟨_, _, _, _, cl_12, by decide, Or.inl (fw_gw 781 (by decide +kernel) (by decide +kernel))⟩
theorem fl_X9_80 : fw_fld RX9 80 7 4 := ⟨_, _, _, _, cl_7, by decide, Or.inr (Or.inl ⟨"Termreckonry", fw_nw 546 (by decide +kernel) (by decide +kernel)⟩)⟩
theorem fl_X9_83 : fw_fld RX9 83 12 11 := ⟨_, _, _, _, cl_12, by decide, Or.inl (fw_gw 777 (by decide +kernel) (by decide +kernel))⟩
theorem fl_X9_86 : fw_fld RX9 86 12 12 := ⟨_, _, _, _, cl_12, by decide, Or.inl (fw_gw 779 (by decide +kernel) (by decide +kernel))⟩
theorem fl_X9_89 : fw_fld RX9 89 7 3 := ⟨_, _, _, _, cl_7, by decide, Or.inr (Or.inl ⟨"Termreckonry", fw_nw 544 (by decide +kernel) (by decide +kernel)⟩)⟩
theorem fl_X9_102 : fw_fld RX9 102 12 17 := ⟨_, _, _, _, cl_12, by decide, Or.inl (fw_gw 792 (by decide +kernel) (by decide +kernel))⟩
theorem fp_X9_102 : fw_fldW RX9 102 12 17 (.int) := ⟨_, _, _, _, cl_12, by decide, Or.inl (fw_gw 792 (by decide +kernel) (by decide +kernel)), rfl, by decide +kernel⟩
theorem fl_X9_108 : fw_fld RX9 108 12 15 := ⟨_, _, _, _, cl_12, by decide, Or.inl (fw_gw 786 (by decide +kernel) (by decide +kernel))⟩
theorem fp_X9_108 : fw_fldW RX9 108 12 15 (.int) := ⟨_, _, _, _, cl_12, by decide, Or.inl (fw_gw 786 (by decide +kernel) (by decide +kernel)), rfl, by decide +kernel⟩
theorem fl_X9_123 : fw_fld RX9 123 8 4 := ⟨_, _, _, _, cl_8, by decide, Or.inr (Or.inl ⟨"Termreckonry", fw_nw 673 (by decide +kernel) (by decide +kernel)⟩)⟩
theorem fl_X9_129 : fw_fld RX9 129 5 0 := ⟨_, _, _, _, cl_5, by decide, Or.inr (Or.inl ⟨"Termreckonry", fw_nw 899 (by decide +kernel) (by decide +kernel)⟩)⟩
theorem fl_X9_138 : fw_fld RX9 138 5 1 := ⟨_, _, _, _, cl_5, by decide, Or.inr (Or.inl ⟨"Termreckonry", fw_nw 902 (by decide +kernel) (by decide +kernel)⟩)⟩
theorem fl_X9_147 : fw_fld RX9 147 5 2 := ⟨_, _, _, _, cl_5, by decide, Or.inr (Or.inl ⟨"Termreckonry", fw_nw 906 (by decide +kernel) (by decide +kernel)⟩)⟩
theorem fl_X9_159 : fw_fld RX9 159 8 0 := ⟨_, _, _, _, cl_8, by decide, Or.inr (Or.inl ⟨"Termreckonry", fw_nw 663 (by decide +kernel) (by decide +kernel)⟩)⟩
theorem fl_X17_10 : fw_fld RX17 10 20 1 := ⟨_, _, _, _, cl_20, by decide, Or.inl (fw_gw 1179 (by decide +kernel) (by decide +kernel))⟩
theorem fq_X17_10 : fw_fldF RX17 10 20 1 (.object "java/util/ArrayList") := ⟨_, _, _, _, cl_20, by decide, fw_gw 1179 (by decide +kernel) (by decide +kernel), rfl, rfl, by decide +kernel⟩
theorem fl_X17_16 : fw_fld RX17 16 20 2 := ⟨_, _, _, _, cl_20, by decide, Or.inl (fw_gw 1180 (by decide +kernel) (by decide +kernel))⟩
theorem fq_X17_16 : fw_fldF RX17 16 20 2 (.object "java/util/ArrayList") := ⟨_, _, _, _, cl_20, by decide, fw_gw 1180 (by decide +kernel) (by decide +kernel), rfl, rfl, by decide +kernel⟩
theorem fl_X17_19 : fw_fld RX17 19 20 3 := ⟨_, _, _, _, cl_20, by decide, Or.inl (fw_gw 1181 (by decide +kernel) (by decide +kernel))⟩
theorem fq_X17_19 : fw_fldF RX17 19 20 3 (.object "java/util/ArrayList") := ⟨_, _, _, _, cl_20, by decide, fw_gw 1181 (by decide +kernel) (by decide +kernel), rfl, rfl, by decide +kernel⟩
theorem fl_X17_22 : fw_fld RX17 22 20 4 := ⟨_, _, _, _, cl_20, by decide, Or.inl (fw_gw 1182 (by decide +kernel) (by decide +kernel))⟩
theorem fq_X17_22 : fw_fldF RX17 22 20 4 (.object "java/util/ArrayList") := ⟨_, _, _, _, cl_20, by decide, fw_gw 1182 (by decide +kernel) (by decide +kernel), rfl, rfl, by decide +kernel⟩
theorem fl_X17_25 : fw_fld RX17 25 20 5 := ⟨_, _, _, _, cl_20, by decide, Or.inl (fw_gw 1183 (by decide +kernel) (by decide +kernel))⟩
theorem fq_X17_25 : fw_fldF RX17 25 20 5 (.object "java/util/ArrayList") := ⟨_, _, _, _, cl_20, by decide, fw_gw 1183 (by decide +kernel) (by decide +kernel), rfl, rfl, by decide +kernel⟩
theorem fl_X17_28 : fw_fld RX17 28 20 0 := ⟨_, _, _, _, cl_20, by decide, Or.inl (fw_gw 1178 (by decide +kernel) (by decide +kernel))⟩
theorem fp_X17_28 : fw_fldW RX17 28 20 0 (.int) := ⟨_, _, _, _, cl_20, by decide, Or.inl (fw_gw 1178 (by decide +kernel) (by decide +kernel)), rfl, by decide +kernel⟩
theorem fl_X17_83 : fw_fld RX17 83 16 0 := ⟨_, _, _, _, cl_16, by decide, Or.inr (Or.inl ⟨"TermreckonryModel", fw_nw 1254 (by decide +kernel) (by decide +kernel)⟩)⟩
theorem fl_X17_87 : fw_fld RX17 87 19 2 := ⟨_, _, _, _, cl_19, by decide, Or.inr (Or.inl ⟨"TermreckonryModel", fw_nw 1509 (by decide +kernel) (by decide +kernel)⟩)⟩
theorem fl_X17_92 : fw_fld RX17 92 19 3 := ⟨_, _, _, _, cl_19, by decide, Or.inr (Or.inl ⟨"TermreckonryModel", fw_nw 1511 (by decide +kernel) (by decide +kernel)⟩)⟩
theorem fl_X17_95 : fw_fld RX17 95 16 1 := ⟨_, _, _, _, cl_16, by decide, Or.inr (Or.inl ⟨"TermreckonryModel", fw_nw 1256 (by decide +kernel) (by decide +kernel)⟩)⟩
theorem fl_X17_128 : fw_fld RX17 128 19 0 := ⟨_, _, _, _, cl_19, by decide, Or.inr (Or.inl ⟨"TermreckonryModel", fw_nw 1505 (by decide +kernel) (by decide +kernel)⟩)⟩
theorem fl_X17_134 : fw_fld RX17 134 19 5 := ⟨_, _, _, _, cl_19, by decide, Or.inr (Or.inl ⟨"TermreckonryModel", fw_nw 1515 (by decide +kernel) (by decide +kernel)⟩)⟩
theorem fp_X17_134 : fw_fldW RX17 134 19 5 (.int) := ⟨_, _, _, _, cl_19, by decide, Or.inr (Or.inl ⟨"TermreckonryModel", fw_nw 1515 (by decide +kernel) (by decide +kernel)⟩), rfl, by decide +kernel⟩
theorem fl_X17_137 : fw_fld RX17 137 19 6 := ⟨_, _, _, _, cl_19, by decide, Or.inr (Or.inl ⟨"TermreckonryModel", fw_nw 1517 (by decide +kernel) (by decide +kernel)⟩)⟩
theorem fp_X17_137 : fw_fldW RX17 137 19 6 (.int) := ⟨_, _, _, _, cl_19, by decide, Or.inr (Or.inl ⟨"TermreckonryModel", fw_nw 1517 (by decide +kernel) (by decide +kernel)⟩), rfl, by decide +kernel⟩
theorem fl_X17_140 : fw_fld RX17 140 19 7 := ⟨_, _, _, _, cl_19, by decide, Or.inr (Or.inl ⟨"TermreckonryModel", fw_nw 1519 (by decide +kernel) (by decide +kernel)⟩)⟩
theorem fp_X17_140 : fw_fldW RX17 140 19 7 (.int) := ⟨_, _, _, _, cl_19, by decide, Or.inr (Or.inl ⟨"TermreckonryModel", fw_nw 1519 (by decide +kernel) (by decide +kernel)⟩), rfl, by decide +kernel⟩
theorem fl_X17_143 : fw_fld RX17 143 19 8 := ⟨_, _, _, _, cl_19, by decide, Or.inr (Or.inl ⟨"TermreckonryModel", fw_nw 1521 (by decide +kernel) (by decide +kernel)⟩)⟩
theorem fp_X17_143 : fw_fldW RX17 143 19 8 (.int) := ⟨_, _, _, _, cl_19, by decide, Or.inr (Or.inl ⟨"TermreckonryModel", fw_nw 1521 (by decide +kernel) (by decide +kernel)⟩), rfl, by decide +kernel⟩
theorem fl_X17_146 : fw_fld RX17 146 19 9 := ⟨_, _, _, _, cl_19, by decide, Or.inr (Or.inl ⟨"TermreckonryModel", fw_nw 1523 (by decide +kernel) (by decide +kernel)⟩)⟩
theorem fp_X17_146 : fw_fldW RX17 146 19 9 (.int) := ⟨_, _, _, _, cl_19, by decide, Or.inr (Or.inl ⟨"TermreckonryModel", fw_nw 1523 (by decide +kernel) (by decide +kernel)⟩), rfl, by decide +kernel⟩
theorem fl_X17_152 : fw_fld RX17 152 19 1 := ⟨_, _, _, _, cl_19, by decide, Or.inr (Or.inl ⟨"TermreckonryModel", fw_nw 1507 (by decide +kernel) (by decide +kernel)⟩)⟩
theorem fl_X17_155 : fw_fld RX17 155 19 10 := ⟨_, _, _, _, cl_19, by decide, Or.inr (Or.inl ⟨"TermreckonryModel", fw_nw 1525 (by decide +kernel) (by decide +kernel)⟩)⟩
theorem fp_X17_155 : fw_fldW RX17 155 19 10 (.int) := ⟨_, _, _, _, cl_19, by decide, Or.inr (Or.inl ⟨"TermreckonryModel", fw_nw 1525 (by decide +kernel) (by decide +kernel)⟩), rfl, by decide +kernel⟩
theorem fl_X17_174 : fw_fld RX17 174 19 11 := ⟨_, _, _, _, cl_19, by decide, Or.inr (Or.inl ⟨"TermreckonryModel", fw_nw 1527 (by decide +kernel) (by decide +kernel)⟩)⟩
theorem fp_X17_174 : fw_fldW RX17 174 19 11 (.boolean) := ⟨_, _, _, _, cl_19, by decide, Or.inr (Or.inl ⟨"TermreckonryModel", fw_nw 1527 (by decide +kernel) (by decide +kernel)⟩), rfl, by decide +kernel⟩
theorem fl_X17_178 : fw_fld RX17 178 19 12 := ⟨_, _, _, _, cl_19, by decide, Or.inr (Or.inl ⟨"TermreckonryModel", fw_nw 1529 (by decide +kernel) (by decide +kernel)⟩)⟩
theorem fp_X17_178 : fw_fldW RX17 178 19 12 (.int) := ⟨_, _, _, _, cl_19, by decide, Or.inr (Or.inl ⟨"TermreckonryModel", fw_nw 1529 (by decide +kernel) (by decide +kernel)⟩), rfl, by decide +kernel⟩
theorem fl_X17_190 : fw_fld RX17 190 14 2 := ⟨_, _, _, _, cl_14, by decide, Or.inr (Or.inl ⟨"TermreckonryModel", fw_nw 1662 (by decide +kernel) (by decide +kernel)⟩)⟩
theorem fp_X17_190 : fw_fldW RX17 190 14 2 (.int) := ⟨_, _, _, _, cl_14, by decide, Or.inr (Or.inl ⟨"TermreckonryModel", fw_nw 1662 (by decide +kernel) (by decide +kernel)⟩), rfl, by decide +kernel⟩
theorem fl_X17_197 : fw_fld RX17 197 17 1 := ⟨_, _, _, _, cl_17, by decide, Or.inr (Or.inl ⟨"TermreckonryModel", fw_nw 1392 (by decide +kernel) (by decide +kernel)⟩)⟩
theorem fl_X17_208 : fw_fld RX17 208 16 3 := ⟨_, _, _, _, cl_16, by decide, Or.inr (Or.inl ⟨"TermreckonryModel", fw_nw 1260 (by decide +kernel) (by decide +kernel)⟩)⟩
theorem fl_X17_217 : fw_fld RX17 217 14 1 := ⟨_, _, _, _, cl_14, by decide, Or.inr (Or.inl ⟨"TermreckonryModel", fw_nw 1660 (by decide +kernel) (by decide +kernel)⟩)⟩
theorem fl_X17_220 : fw_fld RX17 220 14 0 := ⟨_, _, _, _, cl_14, by decide, Or.inr (Or.inl ⟨"TermreckonryModel", fw_nw 1658 (by decide +kernel) (by decide +kernel)⟩)⟩
theorem fl_X17_230 : fw_fld RX17 230 19 4 := ⟨_, _, _, _, cl_19, by decide, Or.inr (Or.inl ⟨"TermreckonryModel", fw_nw 1513 (by decide +kernel) (by decide +kernel)⟩)⟩
theorem fl_X17_232 : fw_fld RX17 232 15 0 := ⟨_, _, _, _, cl_15, by decide, Or.inr (Or.inl ⟨"TermreckonryModel", fw_nw 1704 (by decide +kernel) (by decide +kernel)⟩)⟩
theorem fp_X17_232 : fw_fldW RX17 232 15 0 (.boolean) := ⟨_, _, _, _, cl_15, by decide, Or.inr (Or.inl ⟨"TermreckonryModel", fw_nw 1704 (by decide +kernel) (by decide +kernel)⟩), rfl, by decide +kernel⟩
theorem fl_X17_235 : fw_fld RX17 235 15 4 := ⟨_, _, _, _, cl_15, by decide, Or.inr (Or.inl ⟨"TermreckonryModel", fw_nw 1709 (by decide +kernel) (by decide +kernel)⟩)⟩
theorem fp_X17_235 : fw_fldW RX17 235 15 4 (.int) := ⟨_, _, _, _, cl_15, by decide, Or.inr (Or.inl ⟨"TermreckonryModel", fw_nw 1709 (by decide +kernel) (by decide +kernel)⟩), rfl, by decide +kernel⟩
theorem fl_X17_238 : fw_fld RX17 238 15 1 := ⟨_, _, _, _, cl_15, by decide, Or.inr (Or.inl ⟨"TermreckonryModel", fw_nw 1705 (by decide +kernel) (by decide +kernel)⟩)⟩
theorem fp_X17_238 : fw_fldW RX17 238 15 1 (.int) := ⟨_, _, _, _, cl_15, by decide, Or.inr (Or.inl ⟨"TermreckonryModel", fw_nw 1705 (by decide +kernel) (by decide +kernel)⟩), rfl, by decide +kernel⟩
theorem fl_X17_241 : fw_fld RX17 241 15 2 := ⟨_, _, _, _, cl_15, by decide, Or.inr (Or.inl ⟨"TermreckonryModel", fw_nw 1706 (by decide +kernel) (by decide +kernel)⟩)⟩
theorem fp_X17_241 : fw_fldW RX17 241 15 2 (.int) := ⟨_, _, _, _, cl_15, by decide, Or.inr (Or.inl ⟨"TermreckonryModel", fw_nw 1706 (by decide +kernel) (by decide +kernel)⟩), rfl, by decide +kernel⟩
theorem fl_X17_243 : fw_fld RX17 243 16 2 := ⟨_, _, _, _, cl_16, by decide, Or.inr (Or.inl ⟨"TermreckonryModel", fw_nw 1258 (by decide +kernel) (by decide +kernel)⟩)⟩
theorem fl_X17_246 : fw_fld RX17 246 15 3 := ⟨_, _, _, _, cl_15, by decide, Or.inr (Or.inl ⟨"TermreckonryModel", fw_nw 1707 (by decide +kernel) (by decide +kernel)⟩)⟩
theorem fp_X17_246 : fw_fldW RX17 246 15 3 (.int) := ⟨_, _, _, _, cl_15, by decide, Or.inr (Or.inl ⟨"TermreckonryModel", fw_nw 1707 (by decide +kernel) (by decide +kernel)⟩), rfl, by decide +kernel⟩
theorem fl_X17_257 : fw_fld RX17 257 17 0 := ⟨_, _, _, _, cl_17, by decide, Or.inr (Or.inl ⟨"TermreckonryModel", fw_nw 1390 (by decide +kernel) (by decide +kernel)⟩)⟩
theorem fl_X17_261 : fw_fld RX17 261 15 5 := ⟨_, _, _, _, cl_15, by decide, Or.inr (Or.inl ⟨"TermreckonryModel", fw_nw 1711 (by decide +kernel) (by decide +kernel)⟩)⟩
theorem fp_X17_261 : fw_fldW RX17 261 15 5 (.int) := ⟨_, _, _, _, cl_15, by decide, Or.inr (Or.inl ⟨"TermreckonryModel", fw_nw 1711 (by decide +kernel) (by decide +kernel)⟩), rfl, by decide +kernel⟩
theorem fl_X17_272 : fw_fld RX17 272 18 0 := ⟨_, _, _, _, cl_18, by decide, Or.inr (Or.inl ⟨"TermreckonryModel", fw_nw 1977 (by decide +kernel) (by decide +kernel)⟩)⟩
theorem fl_X17_275 : fw_fld RX17 275 18 1 := ⟨_, _, _, _, cl_18, by decide, Or.inr (Or.inl ⟨"TermreckonryModel", fw_nw 1979 (by decide +kernel) (by decide +kernel)⟩)⟩
theorem fl_X17_276 : fw_fld RX17 276 18 4 := ⟨_, _, _, _, cl_18, by decide, Or.inr (Or.inl ⟨"TermreckonryModel", fw_nw 1985 (by decide +kernel) (by decide +kernel)⟩)⟩
theorem fp_X17_276 : fw_fldW RX17 276 18 4 (.int) := ⟨_, _, _, _, cl_18, by decide, Or.inr (Or.inl ⟨"TermreckonryModel", fw_nw 1985 (by decide +kernel) (by decide +kernel)⟩), rfl, by decide +kernel⟩
theorem fl_X17_279 : fw_fld RX17 279 18 2 := ⟨_, _, _, _, cl_18, by decide, Or.inr (Or.inl ⟨"TermreckonryModel", fw_nw 1981 (by decide +kernel) (by decide +kernel)⟩)⟩
theorem fl_X17_280 : fw_fld RX17 280 18 3 := ⟨_, _, _, _, cl_18, by decide, Or.inr (Or.inl ⟨"TermreckonryModel", fw_nw 1983 (by decide +kernel) (by decide +kernel)⟩)⟩
theorem fl_X17_313 : fw_fld RX17 313 17 2 := ⟨_, _, _, _, cl_17, by decide, Or.inr (Or.inl ⟨"TermreckonryModel", fw_nw 1394 (by decide +kernel) (by decide +kernel)⟩)⟩
theorem fl_X11_7 : fw_fld RX11 7 14 0 := ⟨_, _, _, _, cl_14, by decide, Or.inl (fw_gw 1657 (by decide +kernel) (by decide +kernel))⟩
theorem fq_X11_7 : fw_fldF RX11 7 14 0 (.int) := ⟨_, _, _, _, cl_14, by decide, fw_gw 1657 (by decide +kernel) (by decide +kernel), rfl, rfl, by decide +kernel⟩
theorem fl_X11_13 : fw_fld RX11 13 14 1 := ⟨_, _, _, _, cl_14, by decide, Or.inl (fw_gw 1659 (by decide +kernel) (by decide +kernel))⟩
theorem fq_X11_13 : fw_fldF RX11 13 14 1 (.int) := ⟨_, _, _, _, cl_14, by decide, fw_gw 1659 (by decide +kernel) (by decide +kernel), rfl, rfl, by decide +kernel⟩
theorem fl_X11_16 : fw_fld RX11 16 14 2 := ⟨_, _, _, _, cl_14, by decide, Or.inl (fw_gw 1661 (by decide +kernel) (by decide +kernel))⟩
theorem fp_X11_16 : fw_fldW RX11 16 14 2 (.int) := ⟨_, _, _, _, cl_14, by decide, Or.inl (fw_gw 1661 (by decide +kernel) (by decide +kernel)), rfl, by decide +kernel⟩
theorem fl_X12_9 : fw_fld RX12 9 15 4 := ⟨_, _, _, _, cl_15, by decide, Or.inl (fw_gw 1708 (by decide +kernel) (by decide +kernel))⟩
theorem fp_X12_9 : fw_fldW RX12 9 15 4 (.int) := ⟨_, _, _, _, cl_15, by decide, Or.inl (fw_gw 1708 (by decide +kernel) (by decide +kernel)), rfl, by decide +kernel⟩
theorem fl_X12_15 : fw_fld RX12 15 15 5 := ⟨_, _, _, _, cl_15, by decide, Or.inl (fw_gw 1710 (by decide +kernel) (by decide +kernel))⟩
theorem fp_X12_15 : fw_fldW RX12 15 15 5 (.int) := ⟨_, _, _, _, cl_15, by decide, Or.inl (fw_gw 1710 (by decide +kernel) (by decide +kernel)), rfl, by decide +kernel⟩
theorem fl_X13_7 : fw_fld RX13 7 16 0 := ⟨_, _, _, _, cl_16, by decide, Or.inl (fw_gw 1253 (by decide +kernel) (by decide +kernel))⟩
theorem fq_X13_7 : fw_fldF RX13 7 16 0 (.char) := ⟨_, _, _, _, cl_16, by decide, fw_gw 1253 (by decide +kernel) (by decide +kernel), rfl, rfl, by decide +kernel⟩
theorem fl_X13_13 : fw_fld RX13 13 16 1 := ⟨_, _, _, _, cl_16, by decide, Or.inl (fw_gw 1255 (by decide +kernel) (by decide +kernel))⟩
theorem fq_X13_13 : fw_fldF RX13 13 16 1 (.int) := ⟨_, _, _, _, cl_16, by decide, fw_gw 1255 (by decide +kernel) (by decide +kernel), rfl, rfl, by decide +kernel⟩
theorem fl_X13_17 : fw_fld RX13 17 16 2 := ⟨_, _, _, _, cl_16, by decide, Or.inl (fw_gw 1257 (by decide +kernel) (by decide +kernel))⟩
theorem fq_X13_17 : fw_fldF RX13 17 16 2 (.int) := ⟨_, _, _, _, cl_16, by decide, fw_gw 1257 (by decide +kernel) (by decide +kernel), rfl, rfl, by decide +kernel⟩
theorem fl_X13_20 : fw_fld RX13 20 16 3 := ⟨_, _, _, _, cl_16, by decide, Or.inl (fw_gw 1259 (by decide +kernel) (by decide +kernel))⟩
theorem fq_X13_20 : fw_fldF RX13 20 16 3 (.boolean) := ⟨_, _, _, _, cl_16, by decide, fw_gw 1259 (by decide +kernel) (by decide +kernel), rfl, rfl, by decide +kernel⟩
theorem fl_X14_9 : fw_fld RX14 9 17 0 := ⟨_, _, _, _, cl_17, by decide, Or.inl (fw_gw 1389 (by decide +kernel) (by decide +kernel))⟩
theorem fq_X14_9 : fw_fldF RX14 9 17 0 (.array (.int)) := ⟨_, _, _, _, cl_17, by decide, fw_gw 1389 (by decide +kernel) (by decide +kernel), rfl, rfl, by decide +kernel⟩
theorem fl_X14_15 : fw_fld RX14 15 17 1 := ⟨_, _, _, _, cl_17, by decide, Or.inl (fw_gw 1391 (by decide +kernel) (by decide +kernel))⟩
theorem fq_X14_15 : fw_fldF RX14 15 17 1 (.array (.boolean)) := ⟨_, _, _, _, cl_17, by decide, fw_gw 1391 (by decide +kernel) (by decide +kernel), rfl, rfl, by decide +kernel⟩
theorem fl_X14_19 : fw_fld RX14 19 17 2 := ⟨_, _, _, _, cl_17, by decide, Or.inl (fw_gw 1393 (by decide +kernel) (by decide +kernel))⟩
theorem fq_X14_19 : fw_fldF RX14 19 17 2 (.array (.boolean)) := ⟨_, _, _, _, cl_17, by decide, fw_gw 1393 (by decide +kernel) (by decide +kernel), rfl, rfl, by decide +kernel⟩
theorem fl_X15_9 : fw_fld RX15 9 18 4 := ⟨_, _, _, _, cl_18, by decide, Or.inl (fw_gw 1984 (by decide +kernel) (by decide +kernel))⟩
theorem fp_X15_9 : fw_fldW RX15 9 18 4 (.int) := ⟨_, _, _, _, cl_18, by decide, Or.inl (fw_gw 1984 (by decide +kernel) (by decide +kernel)), rfl, by decide +kernel⟩
theorem fl_X15_15 : fw_fld RX15 15 18 0 := ⟨_, _, _, _, cl_18, by decide, Or.inl (fw_gw 1976 (by decide +kernel) (by decide +kernel))⟩
theorem fq_X15_15 : fw_fldF RX15 15 18 0 (.int) := ⟨_, _, _, _, cl_18, by decide, fw_gw 1976 (by decide +kernel) (by decide +kernel), rfl, rfl, by decide +kernel⟩
theorem fl_X15_18 : fw_fld RX15 18 18 1 := ⟨_, _, _, _, cl_18, by decide, Or.inl (fw_gw 1978 (by decide +kernel) (by decide +kernel))⟩
theorem fq_X15_18 : fw_fldF RX15 18 18 1 (.int) := ⟨_, _, _, _, cl_18, by decide, fw_gw 1978 (by decide +kernel) (by decide +kernel), rfl, rfl, by decide +kernel⟩
theorem fl_X15_21 : fw_fld RX15 21 18 2 := ⟨_, _, _, _, cl_18, by decide, Or.inl (fw_gw 1980 (by decide +kernel) (by decide +kernel))⟩
theorem fq_X15_21 : fw_fldF RX15 21 18 2 (.char) := ⟨_, _, _, _, cl_18, by decide, fw_gw 1980 (by decide +kernel) (by decide +kernel), rfl, rfl, by decide +kernel⟩
theorem fl_X15_25 : fw_fld RX15 25 18 3 := ⟨_, _, _, _, cl_18, by decide, Or.inl (fw_gw 1982 (by decide +kernel) (by decide +kernel))⟩
theorem fq_X15_25 : fw_fldF RX15 25 18 3 (.int) := ⟨_, _, _, _, cl_18, by decide, fw_gw 1982 (by decide +kernel) (by decide +kernel), rfl, rfl, by decide +kernel⟩
theorem fl_X16_9 : fw_fld RX16 9 19 10 := ⟨_, _, _, _, cl_19, by decide, Or.inl (fw_gw 1524 (by decide +kernel) (by decide +kernel))⟩
theorem fp_X16_9 : fw_fldW RX16 9 19 10 (.int) := ⟨_, _, _, _, cl_19, by decide, Or.inl (fw_gw 1524 (by decide +kernel) (by decide +kernel)), rfl, by decide +kernel⟩
theorem fl_X16_15 : fw_fld RX16 15 19 12 := ⟨_, _, _, _, cl_19, by decide, Or.inl (fw_gw 1528 (by decide +kernel) (by decide +kernel))⟩
theorem fp_X16_15 : fw_fldW RX16 15 19 12 (.int) := ⟨_, _, _, _, cl_19, by decide, Or.inl (fw_gw 1528 (by decide +kernel) (by decide +kernel)), rfl, by decide +kernel⟩
theorem fl_X16_18 : fw_fld RX16 18 19 0 := ⟨_, _, _, _, cl_19, by decide, Or.inl (fw_gw 1504 (by decide +kernel) (by decide +kernel))⟩
theorem fq_X16_18 : fw_fldF RX16 18 19 0 (.int) := ⟨_, _, _, _, cl_19, by decide, fw_gw 1504 (by decide +kernel) (by decide +kernel), rfl, rfl, by decide +kernel⟩
theorem fl_X16_21 : fw_fld RX16 21 19 1 := ⟨_, _, _, _, cl_19, by decide, Or.inl (fw_gw 1506 (by decide +kernel) (by decide +kernel))⟩
theorem fq_X16_21 : fw_fldF RX16 21 19 1 (.char) := ⟨_, _, _, _, cl_19, by decide, fw_gw 1506 (by decide +kernel) (by decide +kernel), rfl, rfl, by decide +kernel⟩
theorem fl_X16_25 : fw_fld RX16 25 19 2 := ⟨_, _, _, _, cl_19, by decide, Or.inl (fw_gw 1508 (by decide +kernel) (by decide +kernel))⟩
theorem fq_X16_25 : fw_fldF RX16 25 19 2 (.int) := ⟨_, _, _, _, cl_19, by decide, fw_gw 1508 (by decide +kernel) (by decide +kernel), rfl, rfl, by decide +kernel⟩
theorem fl_X16_28 : fw_fld RX16 28 19 3 := ⟨_, _, _, _, cl_19, by decide, Or.inl (fw_gw 1510 (by decide +kernel) (by decide +kernel))⟩
theorem fq_X16_28 : fw_fldF RX16 28 19 3 (.int) := ⟨_, _, _, _, cl_19, by decide, fw_gw 1510 (by decide +kernel) (by decide +kernel), rfl, rfl, by decide +kernel⟩
theorem fl_X16_31 : fw_fld RX16 31 19 4 := ⟨_, _, _, _, cl_19, by decide, Or.inl (fw_gw 1512 (by decide +kernel) (by decide +kernel))⟩
theorem fq_X16_31 : fw_fldF RX16 31 19 4 (.int) := ⟨_, _, _, _, cl_19, by decide, fw_gw 1512 (by decide +kernel) (by decide +kernel), rfl, rfl, by decide +kernel⟩
theorem fl_X16_34 : fw_fld RX16 34 19 8 := ⟨_, _, _, _, cl_19, by decide, Or.inl (fw_gw 1520 (by decide +kernel) (by decide +kernel))⟩
theorem fl_X16_37 : fw_fld RX16 37 19 9 := ⟨_, _, _, _, cl_19, by decide, Or.inl (fw_gw 1522 (by decide +kernel) (by decide +kernel))⟩
theorem fl_X16_40 : fw_fld RX16 40 19 11 := ⟨_, _, _, _, cl_19, by decide, Or.inl (fw_gw 1526 (by decide +kernel) (by decide +kernel))⟩
theorem fl_X16_44 : fw_fld RX16 44 19 5 := ⟨_, _, _, _, cl_19, by decide, Or.inl (fw_gw 1514 (by decide +kernel) (by decide +kernel))⟩
theorem fl_X16_47 : fw_fld RX16 47 19 6 := ⟨_, _, _, _, cl_19, by decide, Or.inl (fw_gw 1516 (by decide +kernel) (by decide +kernel))⟩
theorem fl_X16_50 : fw_fld RX16 50 19 7 := ⟨_, _, _, _, cl_19, by decide, Or.inl (fw_gw 1518 (by decide +kernel) (by decide +kernel))⟩
theorem fl_J0_9 : fw_fld RJ0 9 0 0 := ⟨_, _, _, _, cl_0, by decide, Or.inl (fw_gw 1934 (by decide +kernel) (by decide +kernel))⟩
theorem fq_J0_9 : fw_fldF RJ0 9 0 0 (.array (.byte)) := ⟨_, _, _, _, cl_0, by decide, fw_gw 1934 (by decide +kernel) (by decide +kernel), rfl, rfl, by decide +kernel⟩
theorem fl_J0_15 : fw_fld RJ0 15 0 1 := ⟨_, _, _, _, cl_0, by decide, Or.inl (fw_gw 1935 (by decide +kernel) (by decide +kernel))⟩
theorem fq_J0_15 : fw_fldF RJ0 15 0 1 (.byte) := ⟨_, _, _, _, cl_0, by decide, fw_gw 1935 (by decide +kernel) (by decide +kernel), rfl, rfl, by decide +kernel⟩
theorem fl_Jx4a65c_9 : fw_fld RJx4a65c 9 4 1 := ⟨_, _, _, _, cl_4, by decide, Or.inl (fw_gw 1163 (by decide +kernel) (by decide +kernel))⟩
theorem fp_Jx4a65c_9 : fw_fldW RJx4a65c 9 4 1 (.array (.object "java/lang/Object")) := ⟨_, _, _, _, cl_4, by decide, Or.inl (fw_gw 1163 (by decide +kernel) (by decide +kernel)), rfl, by decide +kernel⟩
theorem fl_Jx4a65c_48 : fw_fld RJx4a65c 48 4 2 := ⟨_, _, _, _, cl_4, by decide, Or.inl (fw_gw 1166 (by decide +kernel) (by decide +kernel))⟩
theorem fp_Jx4a65c_48 : fw_fldW RJx4a65c 48 4 2 (.int) := ⟨_, _, _, _, cl_4, by decide, Or.inl (fw_gw 1166 (by decide +kernel) (by decide +kernel)), rfl, by decide +kernel⟩
theorem fl_Jx4a65c_63 : fw_fld RJx4a65c 63 4 0 := ⟨_, _, _, _, cl_4, by decide, Or.inr (Or.inr ⟨RJx4a65c, fw_gw 1170 (by decide +kernel) (by decide +kernel), fw_gw 1169 (by decide +kernel) (by decide +kernel)⟩)⟩
theorem fp_Jx4a65c_63 : fw_fldW RJx4a65c 63 4 0 (.int) := ⟨_, _, _, _, cl_4, by decide, Or.inr (Or.inr ⟨RJx4a65c, fw_gw 1170 (by decide +kernel) (by decide +kernel), fw_gw 1169 (by decide +kernel) (by decide +kernel)⟩), rfl, by decide +kernel⟩
theorem fl_Jx35411_1 : fw_fld RJx35411 1 3 3 := ⟨_, _, _, _, cl_3, by decide, Or.inl (fw_gw 1582 (by decide +kernel) (by decide +kernel))⟩
theorem fq_Jx35411_1 : fw_fldF RJx35411 1 3 3 (.object "java/util/ArrayList") := ⟨_, _, _, _, cl_3, by decide, fw_gw 1582 (by decide +kernel) (by decide +kernel), rfl, rfl, by decide +kernel⟩
theorem fl_Jx35411_13 : fw_fld RJx35411 13 3 1 := ⟨_, _, _, _, cl_3, by decide, Or.inl (fw_gw 1580 (by decide +kernel) (by decide +kernel))⟩
theorem fp_Jx35411_13 : fw_fldW RJx35411 13 3 1 (.int) := ⟨_, _, _, _, cl_3, by decide, Or.inl (fw_gw 1580 (by decide +kernel) (by decide +kernel)), rfl, by decide +kernel⟩
theorem fl_Jx35411_17 : fw_fld RJx35411 17 4 0 := ⟨_, _, _, _, cl_4, by decide, Or.inr (Or.inr ⟨RJx4a65c, fw_gw 1168 (by decide +kernel) (by decide +kernel), fw_gw 1169 (by decide +kernel) (by decide +kernel)⟩)⟩
theorem fl_Jx35411_22 : fw_fld RJx35411 22 3 2 := ⟨_, _, _, _, cl_3, by decide, Or.inl (fw_gw 1581 (by decide +kernel) (by decide +kernel))⟩
theorem fp_Jx35411_22 : fw_fldW RJx35411 22 3 2 (.int) := ⟨_, _, _, _, cl_3, by decide, Or.inl (fw_gw 1581 (by decide +kernel) (by decide +kernel)), rfl, by decide +kernel⟩
theorem fl_Jx35411_25 : fw_fld RJx35411 25 3 0 := ⟨_, _, _, _, cl_3, by decide, Or.inl (fw_gw 1579 (by decide +kernel) (by decide +kernel))⟩
theorem fp_Jx35411_25 : fw_fldW RJx35411 25 3 0 (.int) := ⟨_, _, _, _, cl_3, by decide, Or.inl (fw_gw 1579 (by decide +kernel) (by decide +kernel)), rfl, by decide +kernel⟩
theorem fl_Jx35411_28 : fw_fld RJx35411 28 4 2 := ⟨_, _, _, _, cl_4, by decide, Or.inr (Or.inl ⟨"java/util/ArrayList", fw_nw 1165 (by decide +kernel) (by decide +kernel)⟩)⟩
theorem fl_Jx35411_37 : fw_fld RJx35411 37 4 1 := ⟨_, _, _, _, cl_4, by decide, Or.inl (fw_gw 1164 (by decide +kernel) (by decide +kernel))⟩
theorem nw_X10_9 : fw_new RX10 9 7 5 [.int 0, .int 0, .int 0, .int 0, .int 0] := ⟨_, _, _, cl_7, fw_gw 93 (by decide +kernel) (by decide +kernel), fw_gw 532 (by decide +kernel) (by decide +kernel), fw_gw 52 (by decide +kernel) (by decide +kernel), by decide +kernel⟩
theorem nw_X10_15 : fw_new RX10 15 8 9 [.null, .null, .null, .null, .null, .null, .null, .null, .int 0] := ⟨_, _, _, cl_8, fw_gw 95 (by decide +kernel) (by decide +kernel), fw_gw 653 (by decide +kernel) (by decide +kernel), fw_gw 64 (by decide +kernel) (by decide +kernel), by decide +kernel⟩
theorem nw_X10_21 : fw_new RX10 21 12 19 [.int 0, .null, .int 0, .int 0, .int 0, .null, .null, .null, .null, .int 0, .int 0, .int 0, .int 0, .int 0, .int 0, .int 0, .int 0, .int 0, .null] := ⟨_, _, _, cl_12, fw_gw 97 (by decide +kernel) (by decide +kernel), fw_gw 166 (by decide +kernel) (by decide +kernel), fw_gw 66 (by decide +kernel) (by decide +kernel), by decide +kernel⟩
theorem nw_X10_27 : fw_new RX10 27 5 3 [.int 0, .int 0, .null] := ⟨_, _, _, cl_5, fw_gw 99 (by decide +kernel) (by decide +kernel), fw_gw 891 (by decide +kernel) (by decide +kernel), fw_gw 73 (by decide +kernel) (by decide +kernel), by decide +kernel⟩
theorem nw_X10_33 : fw_new RX10 33 6 1 [.null] := ⟨_, _, _, cl_6, fw_gw 101 (by decide +kernel) (by decide +kernel), fw_gw 102 (by decide +kernel) (by decide +kernel), fw_gw 39 (by decide +kernel) (by decide +kernel), by decide +kernel⟩
theorem nw_X10_75 : fw_new RX10 75 11 3 [.int 0, .int 0, .int 0] := ⟨_, _, _, cl_11, fw_gw 490 (by decide +kernel) (by decide +kernel), fw_gw 491 (by decide +kernel) (by decide +kernel), fw_gw 49 (by decide +kernel) (by decide +kernel), by decide +kernel⟩
theorem nw_X10_247 : fw_new RX10 247 9 9 [.null, .int 0, .int 0, .int 0, .int 0, .int 0, .int 0, .int 0, .null] := ⟨_, _, _, cl_9, fw_gw 956 (by decide +kernel) (by decide +kernel), fw_gw 271 (by decide +kernel) (by decide +kernel), fw_gw 77 (by decide +kernel) (by decide +kernel), by decide +kernel⟩
theorem nw_X5_7 : fw_new RX5 7 6 1 [.null] := ⟨_, _, _, cl_6, fw_gw 658 (by decide +kernel) (by decide +kernel), fw_gw 102 (by decide +kernel) (by decide +kernel), fw_gw 39 (by decide +kernel) (by decide +kernel), by decide +kernel⟩
theorem nw_X9_9 : fw_new RX9 9 10 7 [.int 0, .int 0, .int 0, .int 0, .int 0, .int 0, .int 0] := ⟨_, _, _, cl_10, fw_gw 724 (by decide +kernel) (by decide +kernel), fw_gw 334 (by decide +kernel) (by decide +kernel), fw_gw 67 (by decide +kernel) (by decide +kernel), by decide +kernel⟩
theorem nw_L_8 : fw_new RL 8 13 10 [.null, .null, .null, .null, .null, .int 0, .int 0, .int 0, .int 0, .int 0] := ⟨_, _, _, cl_13, fw_gw 85 (by decide +kernel) (by decide +kernel), fw_gw 86 (by decide +kernel) (by decide +kernel), fw_gw 38 (by decide +kernel) (by decide +kernel), by decide +kernel⟩
theorem nw_L_122 : fw_new RL 122 20 6 [.int 0, .null, .null, .null, .null, .null] := ⟨_, _, _, cl_20, fw_gw 1143 (by decide +kernel) (by decide +kernel), fw_gw 1144 (by decide +kernel) (by decide +kernel), fw_gw 40 (by decide +kernel) (by decide +kernel), by decide +kernel⟩
theorem nw_X17_7 : fw_new RX17 7 4 3 [.int 0, .null, .int 0] := ⟨_, _, _, cl_4, fw_gw 1149 (by decide +kernel) (by decide +kernel), fw_gw 1150 (by decide +kernel) (by decide +kernel), fw_gw 43 (by decide +kernel) (by decide +kernel), by decide +kernel⟩
theorem nw_X17_70 : fw_new RX17 70 16 4 [.int 0, .int 0, .int 0, .int 0] := ⟨_, _, _, cl_16, fw_gw 1247 (by decide +kernel) (by decide +kernel), fw_gw 1248 (by decide +kernel) (by decide +kernel), fw_gw 53 (by decide +kernel) (by decide +kernel), by decide +kernel⟩
theorem nw_X17_88 : fw_new RX17 88 19 13 [.int 0, .int 0, .int 0, .int 0, .int 0, .int 0, .int 0, .int 0, .int 0, .int 0, .int 0, .int 0, .int 0] := ⟨_, _, _, cl_19, fw_gw 1366 (by decide +kernel) (by decide +kernel), fw_gw 1499 (by decide +kernel) (by decide +kernel), fw_gw 71 (by decide +kernel) (by decide +kernel), by decide +kernel⟩
theorem nw_X17_112 : fw_new RX17 112 17 3 [.null, .null, .null] := ⟨_, _, _, cl_17, fw_gw 1379 (by decide +kernel) (by decide +kernel), fw_gw 1380 (by decide +kernel) (by decide +kernel), fw_gw 65 (by decide +kernel) (by decide +kernel), by decide +kernel⟩
theorem nw_X17_185 : fw_new RX17 185 14 3 [.int 0, .int 0, .int 0] := ⟨_, _, _, cl_14, fw_gw 1651 (by decide +kernel) (by decide +kernel), fw_gw 1652 (by decide +kernel) (by decide +kernel), fw_gw 74 (by decide +kernel) (by decide +kernel), by decide +kernel⟩
theorem nw_X17_224 : fw_new RX17 224 15 6 [.int 0, .int 0, .int 0, .int 0, .int 0, .int 0] := ⟨_, _, _, cl_15, fw_gw 1693 (by decide +kernel) (by decide +kernel), fw_gw 1699 (by decide +kernel) (by decide +kernel), fw_gw 78 (by decide +kernel) (by decide +kernel), by decide +kernel⟩
theorem nw_X17_273 : fw_new RX17 273 18 5 [.int 0, .int 0, .int 0, .int 0, .int 0] := ⟨_, _, _, cl_18, fw_gw 1962 (by decide +kernel) (by decide +kernel), fw_gw 1971 (by decide +kernel) (by decide +kernel), fw_gw 82 (by decide +kernel) (by decide +kernel), by decide +kernel⟩
theorem nw_Jx4a65c_267 : fw_new RJx4a65c 267 3 4 [.int 0, .int 0, .int 0, .null] := ⟨_, _, _, cl_3, fw_gw 1573 (by decide +kernel) (by decide +kernel), fw_gw 1574 (by decide +kernel) (by decide +kernel), fw_gw 72 (by decide +kernel) (by decide +kernel), by decide +kernel⟩
theorem lk_X10_3 : Cond.methodLink RX10 3 Lib.objectInit ∈ fw_GW := fw_gw 90 (by decide +kernel) (by decide +kernel)
theorem lk_X10_35 : Cond.methodLinkNest RX10 35 yX3_init "Termreckonry" ∈ fw_NW := fw_nw 103 (by decide +kernel) (by decide +kernel)
theorem lk_X10_49 : Cond.methodLink RX10 49 yX1_isLeap ∈ fw_GW := fw_gw 461 (by decide +kernel) (by decide +kernel)
theorem lk_X10_53 : Cond.methodLink RX10 53 yX1_daysOfMonth ∈ fw_GW := fw_gw 462 (by decide +kernel) (by decide +kernel)
theorem lk_X10_59 : Cond.methodLink RX10 59 yX1_numberOf ∈ fw_GW := fw_gw 464 (by decide +kernel) (by decide +kernel)
theorem lk_X10_63 : Cond.methodLink RX10 63 yX10_requireDay ∈ fw_GW := fw_gw 465 (by decide +kernel) (by decide +kernel)
theorem lk_X10_67 : Cond.methodLink RX10 67 yX1_dateAt ∈ fw_GW := fw_gw 479 (by decide +kernel) (by decide +kernel)
theorem lk_X10_71 : Cond.methodLink RX10 71 yX10_requireTerm ∈ fw_GW := fw_gw 487 (by decide +kernel) (by decide +kernel)
theorem lk_X10_77 : Cond.methodLink RX10 77 yX8_init ∈ fw_GW := fw_gw 492 (by decide +kernel) (by decide +kernel)
theorem lk_X10_79 : Cond.methodLink RX10 79 yX8_spanFrom ∈ fw_GW := fw_gw 506 (by decide +kernel) (by decide +kernel)
theorem lk_X10_84 : Cond.methodLink RX10 84 yX10_requireRange ∈ fw_GW := fw_gw 468 (by decide +kernel) (by decide +kernel)
theorem lk_X10_96 : Cond.methodLink RX10 96 yX4_init ∈ fw_GW := fw_gw 533 (by decide +kernel) (by decide +kernel)
theorem lk_X10_99 : Cond.methodLink RX10 99 yX9_apply ∈ fw_GW := fw_gw 558 (by decide +kernel) (by decide +kernel)
theorem lk_X10_106 : Cond.methodLink RX10 106 yX10_knownWarrant ∈ fw_GW := fw_gw 595 (by decide +kernel) (by decide +kernel)
theorem lk_X10_110 : Cond.methodLink RX10 110 yX9_isLikeFixed ∈ fw_GW := fw_gw 612 (by decide +kernel) (by decide +kernel)
theorem lk_X10_133 : Cond.methodLinkNest RX10 133 yX5_init "Termreckonry" ∈ fw_NW := fw_nw 654 (by decide +kernel) (by decide +kernel)
theorem lk_X10_134 : Cond.methodLink RX10 134 yX10_knownPerson ∈ fw_GW := fw_gw 705 (by decide +kernel) (by decide +kernel)
theorem lk_X10_138 : Cond.methodLink RX10 138 yX10_requireKind ∈ fw_GW := fw_gw 710 (by decide +kernel) (by decide +kernel)
theorem lk_X10_142 : Cond.methodLink RX10 142 yX10_requireSomeTerm ∈ fw_GW := fw_gw 714 (by decide +kernel) (by decide +kernel)
theorem lk_X10_156 : Cond.methodLink RX10 156 yX9_init ∈ fw_GW := fw_gw 720 (by decide +kernel) (by decide +kernel)
theorem lk_X10_159 : Cond.methodLink RX10 159 yX5_takeWarrant ∈ fw_GW := fw_gw 836 (by decide +kernel) (by decide +kernel)
theorem lk_X10_170 : Cond.methodLink RX10 170 yX9_countedDays ∈ fw_GW := fw_gw 847 (by decide +kernel) (by decide +kernel)
theorem lk_X10_177 : Cond.methodLink RX10 177 yX9_waits ∈ fw_GW := fw_gw 855 (by decide +kernel) (by decide +kernel)
theorem lk_X10_185 : Cond.methodLink RX10 185 yX5_waitingWarrants ∈ fw_GW := fw_gw 857 (by decide +kernel) (by decide +kernel)
theorem lk_X10_204 : Cond.methodLink RX10 204 yX0_init ∈ fw_GW := fw_gw 892 (by decide +kernel) (by decide +kernel)
theorem lk_X10_207 : Cond.methodLink RX10 207 yX5_takeAdded ∈ fw_GW := fw_gw 914 (by decide +kernel) (by decide +kernel)
theorem lk_X10_211 : Cond.methodLink RX10 211 yX10_knownAdded ∈ fw_GW := fw_gw 925 (by decide +kernel) (by decide +kernel)
theorem lk_X10_218 : Cond.methodLink RX10 218 yX10_requireSpan ∈ fw_GW := fw_gw 937 (by decide +kernel) (by decide +kernel)
theorem lk_X10_224 : Cond.methodLink RX10 224 yX3_put ∈ fw_GW := fw_gw 940 (by decide +kernel) (by decide +kernel)
theorem lk_X10_227 : Cond.methodLink RX10 227 yX3_within ∈ fw_GW := fw_gw 944 (by decide +kernel) (by decide +kernel)
theorem lk_X10_233 : Cond.methodLink RX10 233 yX5_reckon ∈ fw_GW := fw_gw 155 (by decide +kernel) (by decide +kernel)
theorem lk_X10_236 : Cond.methodLink RX10 236 yX5_stateAt ∈ fw_GW := fw_gw 953 (by decide +kernel) (by decide +kernel)
theorem lk_X10_249 : Cond.methodLink RX10 249 yX6_init ∈ fw_GW := fw_gw 957 (by decide +kernel) (by decide +kernel)
theorem lk_X10_252 : Cond.methodLink RX10 252 yX5_takeRecall ∈ fw_GW := fw_gw 999 (by decide +kernel) (by decide +kernel)
theorem lk_X10_256 : Cond.methodLink RX10 256 yX5_recallAt ∈ fw_GW := fw_gw 1010 (by decide +kernel) (by decide +kernel)
theorem lk_X10_268 : Cond.methodLink RX10 268 yX10_begunWarrant ∈ fw_GW := fw_gw 1019 (by decide +kernel) (by decide +kernel)
theorem lk_X10_288 : Cond.methodLink RX10 288 yX2_stateAfterDays ∈ fw_GW := fw_gw 1061 (by decide +kernel) (by decide +kernel)
theorem lk_X10_294 : Cond.methodLink RX10 294 yX5_keeperAt ∈ fw_GW := fw_gw 1071 (by decide +kernel) (by decide +kernel)
theorem lk_X10_302 : Cond.methodLink RX10 302 yX5_putDue ∈ fw_GW := fw_gw 1087 (by decide +kernel) (by decide +kernel)
theorem lk_X10_306 : Cond.methodLink RX10 306 yX3_outside ∈ fw_GW := fw_gw 1096 (by decide +kernel) (by decide +kernel)
theorem lk_X10_310 : Cond.methodLink RX10 310 yX3_remove ∈ fw_GW := fw_gw 1107 (by decide +kernel) (by decide +kernel)
theorem lk_X10_313 : Cond.methodLink RX10 313 yX10_reckonAll ∈ fw_GW := fw_gw 151 (by decide +kernel) (by decide +kernel)
theorem lk_X10_316 : Cond.methodLink RX10 316 yX10_sumNeeded ∈ fw_GW := fw_gw 284 (by decide +kernel) (by decide +kernel)
theorem lk_X10_327 : Cond.methodLink RX10 327 yX2_agrees ∈ fw_GW := fw_gw 293 (by decide +kernel) (by decide +kernel)
theorem lk_X0_1 : Cond.methodLink RX0 1 Lib.objectInit ∈ fw_GW := fw_gw 895 (by decide +kernel) (by decide +kernel)
theorem lk_X1_13 : Cond.methodLink RX1 13 yX1_isLeap ∈ fw_GW := fw_gw 191 (by decide +kernel) (by decide +kernel)
theorem lk_X1_17 : Cond.methodLink RX1 17 yX1_daysOfMonth ∈ fw_GW := fw_gw 194 (by decide +kernel) (by decide +kernel)
theorem lk_X2_9 : Cond.methodLink RX2 9 yX2_open ∈ fw_GW := fw_gw 297 (by decide +kernel) (by decide +kernel)
theorem lk_X2_15 : Cond.methodLink RX2 15 yX2_passDay ∈ fw_GW := fw_gw 305 (by decide +kernel) (by decide +kernel)
theorem lk_X2_19 : Cond.methodLink RX2 19 yX5_reckon ∈ fw_GW := fw_gw 296 (by decide +kernel) (by decide +kernel)
theorem lk_X2_24 : Cond.methodLink RX2 24 yX5_stateAt ∈ fw_GW := fw_gw 361 (by decide +kernel) (by decide +kernel)
theorem lk_X2_45 : Cond.methodLink RX2 45 yX7_open ∈ fw_GW := fw_gw 300 (by decide +kernel) (by decide +kernel)
theorem lk_X2_72 : Cond.methodLink RX2 72 yX3_has ∈ fw_GW := fw_gw 308 (by decide +kernel) (by decide +kernel)
theorem lk_X2_78 : Cond.methodLink RX2 78 yX7_passDay ∈ fw_GW := fw_gw 312 (by decide +kernel) (by decide +kernel)
theorem lk_X2_81 : Cond.methodLink RX2 81 yX7_runs ∈ fw_GW := fw_gw 338 (by decide +kernel) (by decide +kernel)
theorem lk_X2_85 : Cond.methodLink RX2 85 yX7_licenses ∈ fw_GW := fw_gw 339 (by decide +kernel) (by decide +kernel)
theorem lk_X2_88 : Cond.methodLink RX2 88 yX2_readAdded ∈ fw_GW := fw_gw 343 (by decide +kernel) (by decide +kernel)
theorem lk_X2_92 : Cond.methodLink RX2 92 yX2_passRecalls ∈ fw_GW := fw_gw 352 (by decide +kernel) (by decide +kernel)
theorem lk_X2_96 : Cond.methodLink RX2 96 yX5_letter ∈ fw_GW := fw_gw 358 (by decide +kernel) (by decide +kernel)
theorem lk_X2_105 : Cond.methodLink RX2 105 yX7_putAdded ∈ fw_GW := fw_gw 346 (by decide +kernel) (by decide +kernel)
theorem lk_X2_112 : Cond.methodLink RX2 112 yX2_endsOn ∈ fw_GW := fw_gw 355 (by decide +kernel) (by decide +kernel)
theorem lk_X3_3 : Cond.methodLink RX3 3 Lib.objectInit ∈ fw_GW := fw_gw 106 (by decide +kernel) (by decide +kernel)
theorem lk_X3_15 : Cond.methodLink RX3 15 yJ9_min_7cf53 ∈ fw_GW := fw_gw 263 (by decide +kernel) (by decide +kernel)
theorem lk_X3_21 : Cond.methodLink RX3 21 yJ9_max_7cf53 ∈ fw_GW := fw_gw 227 (by decide +kernel) (by decide +kernel)
theorem lk_X3_24 : Cond.methodLink RX3 24 yX3_bitsOf ∈ fw_GW := fw_gw 260 (by decide +kernel) (by decide +kernel)
theorem lk_X3_30 : Cond.methodLink RX3 30 yJ13_bitCount_95d88 ∈ fw_GW := fw_gw 229 (by decide +kernel) (by decide +kernel)
theorem lk_X3_36 : Cond.methodLink RX3 36 yX3_bitBehind ∈ fw_GW := fw_gw 235 (by decide +kernel) (by decide +kernel)
theorem lk_X4_1 : Cond.methodLink RX4 1 Lib.objectInit ∈ fw_GW := fw_gw 536 (by decide +kernel) (by decide +kernel)
theorem lk_X5_1 : Cond.methodLink RX5 1 Lib.objectInit ∈ fw_GW := fw_gw 657 (by decide +kernel) (by decide +kernel)
theorem lk_X5_9 : Cond.methodLinkNest RX5 9 yX3_init "Termreckonry" ∈ fw_NW := fw_nw 659 (by decide +kernel) (by decide +kernel)
theorem lk_X5_57 : Cond.methodLink RX5 57 yX9_waits ∈ fw_GW := fw_gw 861 (by decide +kernel) (by decide +kernel)
theorem lk_X5_61 : Cond.methodLink RX5 61 yX9_reckon ∈ fw_GW := fw_gw 159 (by decide +kernel) (by decide +kernel)
theorem lk_X5_64 : Cond.methodLink RX5 64 yX6_reckon ∈ fw_GW := fw_gw 264 (by decide +kernel) (by decide +kernel)
theorem lk_X5_65 : Cond.methodLink RX5 65 yX5_keeperAt ∈ fw_GW := fw_gw 365 (by decide +kernel) (by decide +kernel)
theorem lk_X5_69 : Cond.methodLink RX5 69 yX5_recallAt ∈ fw_GW := fw_gw 370 (by decide +kernel) (by decide +kernel)
theorem lk_X5_73 : Cond.methodLink RX5 73 yX3_has ∈ fw_GW := fw_gw 374 (by decide +kernel) (by decide +kernel)
theorem lk_X5_77 : Cond.methodLink RX5 77 yX5_letter ∈ fw_GW := fw_gw 375 (by decide +kernel) (by decide +kernel)
theorem lk_X5_81 : Cond.methodLink RX5 81 yX5_isLicensed ∈ fw_GW := fw_gw 376 (by decide +kernel) (by decide +kernel)
theorem lk_X5_84 : Cond.methodLink RX5 84 yX9_keepsOn ∈ fw_GW := fw_gw 369 (by decide +kernel) (by decide +kernel)
theorem lk_X5_94 : Cond.methodLink RX5 94 yX9_licensesOn ∈ fw_GW := fw_gw 380 (by decide +kernel) (by decide +kernel)
theorem lk_X5_97 : Cond.methodLink RX5 97 yX3_clear ∈ fw_GW := fw_gw 1091 (by decide +kernel) (by decide +kernel)
theorem lk_X5_103 : Cond.methodLink RX5 103 yX3_put ∈ fw_GW := fw_gw 1095 (by decide +kernel) (by decide +kernel)
theorem lk_X6_3 : Cond.methodLink RX6 3 Lib.objectInit ∈ fw_GW := fw_gw 960 (by decide +kernel) (by decide +kernel)
theorem lk_X6_30 : Cond.methodLink RX6 30 yX6_firstDayUnlicensed ∈ fw_GW := fw_gw 268 (by decide +kernel) (by decide +kernel)
theorem lk_X6_34 : Cond.methodLink RX6 34 yJ9_min_7cf53 ∈ fw_GW := fw_gw 282 (by decide +kernel) (by decide +kernel)
theorem lk_X6_49 : Cond.methodLink RX6 49 yX3_dayBehind ∈ fw_GW := fw_gw 283 (by decide +kernel) (by decide +kernel)
theorem lk_X6_54 : Cond.methodLink RX6 54 yX6_latestLicenceEnd ∈ fw_GW := fw_gw 273 (by decide +kernel) (by decide +kernel)
theorem lk_X6_67 : Cond.methodLink RX6 67 yX9_licensesOn ∈ fw_GW := fw_gw 277 (by decide +kernel) (by decide +kernel)
theorem lk_X6_74 : Cond.methodLink RX6 74 yJ9_max_7cf53 ∈ fw_GW := fw_gw 281 (by decide +kernel) (by decide +kernel)
theorem lk_X7_3 : Cond.methodLink RX7 3 Lib.objectInit ∈ fw_GW := fw_gw 728 (by decide +kernel) (by decide +kernel)
theorem lk_X7_34 : Cond.methodLink RX7 34 yX7_mayBegin ∈ fw_GW := fw_gw 316 (by decide +kernel) (by decide +kernel)
theorem lk_X7_44 : Cond.methodLink RX7 44 yX8_spanFrom ∈ fw_GW := fw_gw 321 (by decide +kernel) (by decide +kernel)
theorem lk_X7_50 : Cond.methodLink RX7 50 yX9_neededOf ∈ fw_GW := fw_gw 322 (by decide +kernel) (by decide +kernel)
theorem lk_X7_53 : Cond.methodLink RX7 53 yX7_runs ∈ fw_GW := fw_gw 323 (by decide +kernel) (by decide +kernel)
theorem lk_X7_57 : Cond.methodLink RX7 57 yX7_mayLeave ∈ fw_GW := fw_gw 327 (by decide +kernel) (by decide +kernel)
theorem lk_X7_60 : Cond.methodLink RX7 60 yX7_endOfLicence ∈ fw_GW := fw_gw 331 (by decide +kernel) (by decide +kernel)
theorem lk_X7_64 : Cond.methodLink RX7 64 yX9_isLikeFixed ∈ fw_GW := fw_gw 336 (by decide +kernel) (by decide +kernel)
theorem lk_X7_72 : Cond.methodLink RX7 72 yX9_mostNeededOf ∈ fw_GW := fw_gw 350 (by decide +kernel) (by decide +kernel)
theorem lk_X7_75 : Cond.methodLink RX7 75 yJ9_min_7cf53 ∈ fw_GW := fw_gw 351 (by decide +kernel) (by decide +kernel)
theorem lk_X7_81 : Cond.methodLink RX7 81 yX9_counts ∈ fw_GW := fw_gw 319 (by decide +kernel) (by decide +kernel)
theorem lk_X7_84 : Cond.methodLink RX7 84 yX9_ownDay ∈ fw_GW := fw_gw 320 (by decide +kernel) (by decide +kernel)
theorem lk_X7_96 : Cond.methodLink RX7 96 yX9_needsYes ∈ fw_GW := fw_gw 330 (by decide +kernel) (by decide +kernel)
theorem lk_X7_106 : Cond.methodLink RX7 106 yX9_countedDays ∈ fw_GW := fw_gw 337 (by decide +kernel) (by decide +kernel)
theorem lk_X8_1 : Cond.methodLink RX8 1 Lib.objectInit ∈ fw_GW := fw_gw 495 (by decide +kernel) (by decide +kernel)
theorem lk_X8_19 : Cond.methodLink RX8 19 yX1_dateAt ∈ fw_GW := fw_gw 188 (by decide +kernel) (by decide +kernel)
theorem lk_X8_25 : Cond.methodLink RX8 25 yX1_isLeap ∈ fw_GW := fw_gw 199 (by decide +kernel) (by decide +kernel)
theorem lk_X8_29 : Cond.methodLink RX8 29 yX1_daysOfMonth ∈ fw_GW := fw_gw 200 (by decide +kernel) (by decide +kernel)
theorem lk_X8_33 : Cond.methodLink RX8 33 yJ9_min_7cf53 ∈ fw_GW := fw_gw 201 (by decide +kernel) (by decide +kernel)
theorem lk_X8_39 : Cond.methodLink RX8 39 yX1_numberOf ∈ fw_GW := fw_gw 204 (by decide +kernel) (by decide +kernel)
theorem lk_X9_3 : Cond.methodLink RX9 3 Lib.objectInit ∈ fw_GW := fw_gw 723 (by decide +kernel) (by decide +kernel)
theorem lk_X9_11 : Cond.methodLinkNest RX9 11 yX7_init "Termreckonry" ∈ fw_NW := fw_nw 725 (by decide +kernel) (by decide +kernel)
theorem lk_X9_63 : Cond.methodLink RX9 63 yX9_isLikeFixed ∈ fw_GW := fw_gw 211 (by decide +kernel) (by decide +kernel)
theorem lk_X9_77 : Cond.methodLink RX9 77 yX9_waits ∈ fw_GW := fw_gw 172 (by decide +kernel) (by decide +kernel)
theorem lk_X9_92 : Cond.methodLink RX9 92 yX9_countedDays ∈ fw_GW := fw_gw 215 (by decide +kernel) (by decide +kernel)
theorem lk_X9_96 : Cond.methodLink RX9 96 yJ9_max_7cf53 ∈ fw_GW := fw_gw 181 (by decide +kernel) (by decide +kernel)
theorem lk_X9_105 : Cond.methodLink RX9 105 yX9_reckonBegin ∈ fw_GW := fw_gw 163 (by decide +kernel) (by decide +kernel)
theorem lk_X9_111 : Cond.methodLink RX9 111 yX8_spanFrom ∈ fw_GW := fw_gw 184 (by decide +kernel) (by decide +kernel)
theorem lk_X9_117 : Cond.methodLink RX9 117 yX9_neededOf ∈ fw_GW := fw_gw 207 (by decide +kernel) (by decide +kernel)
theorem lk_X9_120 : Cond.methodLink RX9 120 yX9_releaseAfter ∈ fw_GW := fw_gw 219 (by decide +kernel) (by decide +kernel)
theorem lk_X9_134 : Cond.methodLink RX9 134 yX9_keepsOn ∈ fw_GW := fw_gw 243 (by decide +kernel) (by decide +kernel)
theorem lk_X9_141 : Cond.methodLink RX9 141 yX9_mostNeededOf ∈ fw_GW := fw_gw 247 (by decide +kernel) (by decide +kernel)
theorem lk_X9_144 : Cond.methodLink RX9 144 yJ9_min_7cf53 ∈ fw_GW := fw_gw 251 (by decide +kernel) (by decide +kernel)
theorem lk_X9_150 : Cond.methodLink RX9 150 yX9_endAfter ∈ fw_GW := fw_gw 252 (by decide +kernel) (by decide +kernel)
theorem lk_X9_153 : Cond.methodLink RX9 153 yX9_counts ∈ fw_GW := fw_gw 168 (by decide +kernel) (by decide +kernel)
theorem lk_X9_156 : Cond.methodLink RX9 156 yX9_ownDay ∈ fw_GW := fw_gw 177 (by decide +kernel) (by decide +kernel)
theorem lk_X9_163 : Cond.methodLink RX9 163 yX3_dayBehind ∈ fw_GW := fw_gw 223 (by decide +kernel) (by decide +kernel)
theorem lk_X9_168 : Cond.methodLink RX9 168 yX9_needsYes ∈ fw_GW := fw_gw 239 (by decide +kernel) (by decide +kernel)
theorem lk_X9_171 : Cond.methodLink RX9 171 yX3_within ∈ fw_GW := fw_gw 256 (by decide +kernel) (by decide +kernel)
theorem lk_L_7 : Cond.methodLink RL 7 yX10_dayOf ∈ fw_GW := fw_gw 385 (by decide +kernel) (by decide +kernel)
theorem lk_L_15 : Cond.methodLink RL 15 yX10_dateOf ∈ fw_GW := fw_gw 475 (by decide +kernel) (by decide +kernel)
theorem lk_L_19 : Cond.methodLink RL 19 yX10_length ∈ fw_GW := fw_gw 483 (by decide +kernel) (by decide +kernel)
theorem lk_L_23 : Cond.methodLink RL 23 yX10_law ∈ fw_GW := fw_gw 511 (by decide +kernel) (by decide +kernel)
theorem lk_L_29 : Cond.methodLink RL 29 yX10_lawOf ∈ fw_GW := fw_gw 591 (by decide +kernel) (by decide +kernel)
theorem lk_L_38 : Cond.methodLink RL 38 yX10_person ∈ fw_GW := fw_gw 648 (by decide +kernel) (by decide +kernel)
theorem lk_L_42 : Cond.methodLink RL 42 yX10_warrant ∈ fw_GW := fw_gw 701 (by decide +kernel) (by decide +kernel)
theorem lk_L_46 : Cond.methodLink RL 46 yX10_count ∈ fw_GW := fw_gw 843 (by decide +kernel) (by decide +kernel)
theorem lk_L_50 : Cond.methodLink RL 50 yX10_activate ∈ fw_GW := fw_gw 851 (by decide +kernel) (by decide +kernel)
theorem lk_L_54 : Cond.methodLink RL 54 yX10_vary ∈ fw_GW := fw_gw 865 (by decide +kernel) (by decide +kernel)
theorem lk_L_57 : Cond.methodLink RL 57 yX10_quash ∈ fw_GW := fw_gw 872 (by decide +kernel) (by decide +kernel)
theorem lk_L_61 : Cond.methodLink RL 61 yX10_approve ∈ fw_GW := fw_gw 879 (by decide +kernel) (by decide +kernel)
theorem lk_L_64 : Cond.methodLink RL 64 yX10_add ∈ fw_GW := fw_gw 886 (by decide +kernel) (by decide +kernel)
theorem lk_L_67 : Cond.methodLink RL 67 yX10_giveBack ∈ fw_GW := fw_gw 921 (by decide +kernel) (by decide +kernel)
theorem lk_L_70 : Cond.methodLink RL 70 yX10_atLarge ∈ fw_GW := fw_gw 933 (by decide +kernel) (by decide +kernel)
theorem lk_L_73 : Cond.methodLink RL 73 yX10_recall ∈ fw_GW := fw_gw 948 (by decide +kernel) (by decide +kernel)
theorem lk_L_77 : Cond.methodLink RL 77 yX10_letGo ∈ fw_GW := fw_gw 1006 (by decide +kernel) (by decide +kernel)
theorem lk_L_80 : Cond.methodLink RL 80 yX10_begins ∈ fw_GW := fw_gw 1015 (by decide +kernel) (by decide +kernel)
theorem lk_L_83 : Cond.methodLink RL 83 yX10_needed ∈ fw_GW := fw_gw 1027 (by decide +kernel) (by decide +kernel)
theorem lk_L_86 : Cond.methodLink RL 86 yX10_release ∈ fw_GW := fw_gw 1034 (by decide +kernel) (by decide +kernel)
theorem lk_L_89 : Cond.methodLink RL 89 yX10_end ∈ fw_GW := fw_gw 1042 (by decide +kernel) (by decide +kernel)
theorem lk_L_92 : Cond.methodLink RL 92 yX10_stateOn ∈ fw_GW := fw_gw 1050 (by decide +kernel) (by decide +kernel)
theorem lk_L_96 : Cond.methodLink RL 96 yX10_byClerk ∈ fw_GW := fw_gw 1057 (by decide +kernel) (by decide +kernel)
theorem lk_L_99 : Cond.methodLink RL 99 yX10_keeper ∈ fw_GW := fw_gw 1067 (by decide +kernel) (by decide +kernel)
theorem lk_L_102 : Cond.methodLink RL 102 yX10_held ∈ fw_GW := fw_gw 1076 (by decide +kernel) (by decide +kernel)
theorem lk_L_105 : Cond.methodLink RL 105 yX10_tooLong ∈ fw_GW := fw_gw 1083 (by decide +kernel) (by decide +kernel)
theorem lk_L_108 : Cond.methodLink RL 108 yX10_tooShort ∈ fw_GW := fw_gw 1103 (by decide +kernel) (by decide +kernel)
theorem lk_L_111 : Cond.methodLink RL 111 yX10_prisonShare ∈ fw_GW := fw_gw 1128 (by decide +kernel) (by decide +kernel)
theorem lk_L_117 : Cond.methodLink RL 117 yX10_meanNeeded ∈ fw_GW := fw_gw 1138 (by decide +kernel) (by decide +kernel)
theorem lk_L_121 : Cond.methodLink RL 121 yX10_init ∈ fw_GW := fw_gw 87 (by decide +kernel) (by decide +kernel)
theorem lk_L_124 : Cond.methodLink RL 124 yX17_init ∈ fw_GW := fw_gw 1145 (by decide +kernel) (by decide +kernel)
theorem lk_L_125 : Cond.methodLink RL 125 yL_dayOf ∈ fw_GW := fw_gw 381 (by decide +kernel) (by decide +kernel)
theorem lk_L_130 : Cond.methodLink RL 130 yX17_dayOf ∈ fw_GW := fw_gw 1201 (by decide +kernel) (by decide +kernel)
theorem lk_L_131 : Cond.methodLink RL 131 yX17_thrown ∈ fw_GW := fw_gw 1197 (by decide +kernel) (by decide +kernel)
theorem lk_L_134 : Cond.methodLink RL 134 yL_dateOf ∈ fw_GW := fw_gw 472 (by decide +kernel) (by decide +kernel)
theorem lk_L_137 : Cond.methodLink RL 137 yX17_dateOf ∈ fw_GW := fw_gw 1217 (by decide +kernel) (by decide +kernel)
theorem lk_L_138 : Cond.methodLink RL 138 yL_length ∈ fw_GW := fw_gw 480 (by decide +kernel) (by decide +kernel)
theorem lk_L_141 : Cond.methodLink RL 141 yX17_length ∈ fw_GW := fw_gw 1228 (by decide +kernel) (by decide +kernel)
theorem lk_L_142 : Cond.methodLink RL 142 yL_law ∈ fw_GW := fw_gw 507 (by decide +kernel) (by decide +kernel)
theorem lk_L_145 : Cond.methodLink RL 145 yX17_law ∈ fw_GW := fw_gw 1239 (by decide +kernel) (by decide +kernel)
theorem lk_L_146 : Cond.methodLink RL 146 yL_lawOf ∈ fw_GW := fw_gw 562 (by decide +kernel) (by decide +kernel)
theorem lk_L_148 : Cond.methodLink RL 148 yX17_lawOf ∈ fw_GW := fw_gw 1340 (by decide +kernel) (by decide +kernel)
theorem lk_L_149 : Cond.methodLink RL 149 yL_person ∈ fw_GW := fw_gw 645 (by decide +kernel) (by decide +kernel)
theorem lk_L_152 : Cond.methodLink RL 152 yX17_person ∈ fw_GW := fw_gw 1375 (by decide +kernel) (by decide +kernel)
theorem lk_L_153 : Cond.methodLink RL 153 yL_warrant ∈ fw_GW := fw_gw 698 (by decide +kernel) (by decide +kernel)
theorem lk_L_156 : Cond.methodLink RL 156 yX17_warrant ∈ fw_GW := fw_gw 1404 (by decide +kernel) (by decide +kernel)
theorem lk_L_157 : Cond.methodLink RL 157 yL_count ∈ fw_GW := fw_gw 840 (by decide +kernel) (by decide +kernel)
theorem lk_L_160 : Cond.methodLink RL 160 yX17_count ∈ fw_GW := fw_gw 1557 (by decide +kernel) (by decide +kernel)
theorem lk_L_161 : Cond.methodLink RL 161 yL_activate ∈ fw_GW := fw_gw 848 (by decide +kernel) (by decide +kernel)
theorem lk_L_164 : Cond.methodLink RL 164 yX17_activate ∈ fw_GW := fw_gw 1565 (by decide +kernel) (by decide +kernel)
theorem lk_L_165 : Cond.methodLink RL 165 yL_vary ∈ fw_GW := fw_gw 862 (by decide +kernel) (by decide +kernel)
theorem lk_L_167 : Cond.methodLink RL 167 yX17_vary ∈ fw_GW := fw_gw 1626 (by decide +kernel) (by decide +kernel)
theorem lk_L_168 : Cond.methodLink RL 168 yL_quash ∈ fw_GW := fw_gw 869 (by decide +kernel) (by decide +kernel)
theorem lk_L_170 : Cond.methodLink RL 170 yX17_quash ∈ fw_GW := fw_gw 1635 (by decide +kernel) (by decide +kernel)
theorem lk_L_171 : Cond.methodLink RL 171 yL_approve ∈ fw_GW := fw_gw 876 (by decide +kernel) (by decide +kernel)
theorem lk_L_173 : Cond.methodLink RL 173 yX17_approve ∈ fw_GW := fw_gw 1639 (by decide +kernel) (by decide +kernel)
theorem lk_L_174 : Cond.methodLink RL 174 yL_add ∈ fw_GW := fw_gw 883 (by decide +kernel) (by decide +kernel)
theorem lk_L_176 : Cond.methodLink RL 176 yX17_add ∈ fw_GW := fw_gw 1643 (by decide +kernel) (by decide +kernel)
theorem lk_L_177 : Cond.methodLink RL 177 yL_giveBack ∈ fw_GW := fw_gw 918 (by decide +kernel) (by decide +kernel)
theorem lk_L_179 : Cond.methodLink RL 179 yX17_giveBack ∈ fw_GW := fw_gw 1670 (by decide +kernel) (by decide +kernel)
theorem lk_L_180 : Cond.methodLink RL 180 yL_atLarge ∈ fw_GW := fw_gw 930 (by decide +kernel) (by decide +kernel)
theorem lk_L_182 : Cond.methodLink RL 182 yX17_atLarge ∈ fw_GW := fw_gw 1674 (by decide +kernel) (by decide +kernel)
theorem lk_L_183 : Cond.methodLink RL 183 yL_recall ∈ fw_GW := fw_gw 945 (by decide +kernel) (by decide +kernel)
theorem lk_L_186 : Cond.methodLink RL 186 yX17_recall ∈ fw_GW := fw_gw 1685 (by decide +kernel) (by decide +kernel)
theorem lk_L_187 : Cond.methodLink RL 187 yL_letGo ∈ fw_GW := fw_gw 1003 (by decide +kernel) (by decide +kernel)
theorem lk_L_189 : Cond.methodLink RL 189 yX17_letGo ∈ fw_GW := fw_gw 1997 (by decide +kernel) (by decide +kernel)
theorem lk_L_190 : Cond.methodLink RL 190 yL_begins ∈ fw_GW := fw_gw 1012 (by decide +kernel) (by decide +kernel)
theorem lk_L_192 : Cond.methodLink RL 192 yX17_begins ∈ fw_GW := fw_gw 2001 (by decide +kernel) (by decide +kernel)
theorem lk_L_193 : Cond.methodLink RL 193 yL_needed ∈ fw_GW := fw_gw 1024 (by decide +kernel) (by decide +kernel)
theorem lk_L_195 : Cond.methodLink RL 195 yX17_needed ∈ fw_GW := fw_gw 2009 (by decide +kernel) (by decide +kernel)
theorem lk_L_196 : Cond.methodLink RL 196 yL_release ∈ fw_GW := fw_gw 1031 (by decide +kernel) (by decide +kernel)
theorem lk_L_198 : Cond.methodLink RL 198 yX17_release ∈ fw_GW := fw_gw 2013 (by decide +kernel) (by decide +kernel)
theorem lk_L_199 : Cond.methodLink RL 199 yL_end ∈ fw_GW := fw_gw 1039 (by decide +kernel) (by decide +kernel)
theorem lk_L_201 : Cond.methodLink RL 201 yX17_end ∈ fw_GW := fw_gw 2017 (by decide +kernel) (by decide +kernel)
theorem lk_L_202 : Cond.methodLink RL 202 yL_stateOn ∈ fw_GW := fw_gw 1047 (by decide +kernel) (by decide +kernel)
theorem lk_L_204 : Cond.methodLink RL 204 yX17_stateOn ∈ fw_GW := fw_gw 2021 (by decide +kernel) (by decide +kernel)
theorem lk_L_205 : Cond.methodLink RL 205 yL_byClerk ∈ fw_GW := fw_gw 1054 (by decide +kernel) (by decide +kernel)
theorem lk_L_207 : Cond.methodLink RL 207 yX17_byClerk ∈ fw_GW := fw_gw 2025 (by decide +kernel) (by decide +kernel)
theorem lk_L_208 : Cond.methodLink RL 208 yL_keeper ∈ fw_GW := fw_gw 1064 (by decide +kernel) (by decide +kernel)
theorem lk_L_210 : Cond.methodLink RL 210 yX17_keeper ∈ fw_GW := fw_gw 2030 (by decide +kernel) (by decide +kernel)
theorem lk_L_211 : Cond.methodLink RL 211 yL_held ∈ fw_GW := fw_gw 1073 (by decide +kernel) (by decide +kernel)
theorem lk_L_213 : Cond.methodLink RL 213 yX17_held ∈ fw_GW := fw_gw 2034 (by decide +kernel) (by decide +kernel)
theorem lk_L_214 : Cond.methodLink RL 214 yL_tooLong ∈ fw_GW := fw_gw 1080 (by decide +kernel) (by decide +kernel)
theorem lk_L_216 : Cond.methodLink RL 216 yX17_tooLong ∈ fw_GW := fw_gw 2038 (by decide +kernel) (by decide +kernel)
theorem lk_L_217 : Cond.methodLink RL 217 yL_tooShort ∈ fw_GW := fw_gw 1100 (by decide +kernel) (by decide +kernel)
theorem lk_L_219 : Cond.methodLink RL 219 yX17_tooShort ∈ fw_GW := fw_gw 2055 (by decide +kernel) (by decide +kernel)
theorem lk_L_220 : Cond.methodLink RL 220 yX10_warrants ∈ fw_GW := fw_gw 143 (by decide +kernel) (by decide +kernel)
theorem lk_L_223 : Cond.methodLink RL 223 yX17_warrants ∈ fw_GW := fw_gw 2060 (by decide +kernel) (by decide +kernel)
theorem lk_L_224 : Cond.methodLink RL 224 yX10_owed ∈ fw_GW := fw_gw 147 (by decide +kernel) (by decide +kernel)
theorem lk_L_228 : Cond.methodLink RL 228 yX17_owed ∈ fw_GW := fw_gw 2064 (by decide +kernel) (by decide +kernel)
theorem lk_L_229 : Cond.methodLink RL 229 yL_prisonShare ∈ fw_GW := fw_gw 1111 (by decide +kernel) (by decide +kernel)
theorem lk_L_232 : Cond.methodLink RL 232 yX17_prisonShare ∈ fw_GW := fw_gw 2068 (by decide +kernel) (by decide +kernel)
theorem lk_L_233 : Cond.methodLink RL 233 yL_meanNeeded ∈ fw_GW := fw_gw 1135 (by decide +kernel) (by decide +kernel)
theorem lk_L_236 : Cond.methodLink RL 236 yX17_meanNeeded ∈ fw_GW := fw_gw 2076 (by decide +kernel) (by decide +kernel)
theorem lk_L_237 : Cond.methodLink RL 237 yX10_isTrue ∈ fw_GW := fw_gw 289 (by decide +kernel) (by decide +kernel)
theorem lk_L_241 : Cond.methodLink RL 241 yX17_isTrue ∈ fw_GW := fw_gw 2080 (by decide +kernel) (by decide +kernel)
theorem lk_X17_1 : Cond.methodLink RX17 1 Lib.objectInit ∈ fw_GW := fw_gw 1148 (by decide +kernel) (by decide +kernel)
theorem lk_X17_9 : Cond.methodLink RX17 9 yJx4a65c_init_da8c8 ∈ fw_GW := fw_gw 1151 (by decide +kernel) (by decide +kernel)
theorem lk_X17_32 : Cond.methodLink RX17 32 yX17_isLeap ∈ fw_GW := fw_gw 1211 (by decide +kernel) (by decide +kernel)
theorem lk_X17_36 : Cond.methodLink RX17 36 yX17_daysOf ∈ fw_GW := fw_gw 1208 (by decide +kernel) (by decide +kernel)
theorem lk_X17_40 : Cond.methodLink RX17 40 yX17_firstOf ∈ fw_GW := fw_gw 1214 (by decide +kernel) (by decide +kernel)
theorem lk_X17_44 : Cond.methodLink RX17 44 yX17_monthOf ∈ fw_GW := fw_gw 1225 (by decide +kernel) (by decide +kernel)
theorem lk_X17_47 : Cond.methodLink RX17 47 yJ9_min_7cf53 ∈ fw_GW := fw_gw 1238 (by decide +kernel) (by decide +kernel)
theorem lk_X17_52 : Cond.methodLink RX17 52 yX17_in ∈ fw_GW := fw_gw 1205 (by decide +kernel) (by decide +kernel)
theorem lk_X17_56 : Cond.methodLink RX17 56 yX17_noDay ∈ fw_GW := fw_gw 1221 (by decide +kernel) (by decide +kernel)
theorem lk_X17_59 : Cond.methodLink RX17 59 yX17_areTerm ∈ fw_GW := fw_gw 1232 (by decide +kernel) (by decide +kernel)
theorem lk_X17_62 : Cond.methodLink RX17 62 yX17_lengthOf ∈ fw_GW := fw_gw 1235 (by decide +kernel) (by decide +kernel)
theorem lk_X17_66 : Cond.methodLink RX17 66 yJx4a65c_size_8abf5 ∈ fw_GW := fw_gw 1243 (by decide +kernel) (by decide +kernel)
theorem lk_X17_72 : Cond.methodLink RX17 72 yX13_init ∈ fw_GW := fw_gw 1249 (by decide +kernel) (by decide +kernel)
theorem lk_X17_75 : Cond.methodLink RX17 75 yJx4a65c_add_9ea2d ∈ fw_GW := fw_gw 1270 (by decide +kernel) (by decide +kernel)
theorem lk_X17_79 : Cond.methodLink RX17 79 yJx4a65c_get_915e3 ∈ fw_GW := fw_gw 1352 (by decide +kernel) (by decide +kernel)
theorem lk_X17_98 : Cond.methodLink RX17 98 yX17_isWarrant ∈ fw_GW := fw_gw 1348 (by decide +kernel) (by decide +kernel)
theorem lk_X17_101 : Cond.methodLink RX17 101 yX17_noWarrant ∈ fw_GW := fw_gw 1344 (by decide +kernel) (by decide +kernel)
theorem lk_X17_104 : Cond.methodLink RX17 104 yX17_lawFor ∈ fw_GW := fw_gw 1367 (by decide +kernel) (by decide +kernel)
theorem lk_X17_108 : Cond.methodLink RX17 108 yX16_isFixed ∈ fw_GW := fw_gw 1371 (by decide +kernel) (by decide +kernel)
theorem lk_X17_114 : Cond.methodLink RX17 114 yX14_init ∈ fw_GW := fw_gw 1381 (by decide +kernel) (by decide +kernel)
theorem lk_X17_115 : Cond.methodLink RX17 115 yX17_isPerson ∈ fw_GW := fw_gw 1408 (by decide +kernel) (by decide +kernel)
theorem lk_X17_118 : Cond.methodLink RX17 118 yX17_raises ∈ fw_GW := fw_gw 1412 (by decide +kernel) (by decide +kernel)
theorem lk_X17_123 : Cond.methodLink RX17 123 yJ0_indexOf_0f7a4 ∈ fw_GW := fw_gw 1417 (by decide +kernel) (by decide +kernel)
theorem lk_X17_131 : Cond.methodLink RX17 131 yX16_init ∈ fw_GW := fw_gw 1500 (by decide +kernel) (by decide +kernel)
theorem lk_X17_149 : Cond.methodLink RX17 149 yX16_counted ∈ fw_GW := fw_gw 1561 (by decide +kernel) (by decide +kernel)
theorem lk_X17_158 : Cond.methodLink RX17 158 yJx4a65c_iterator_32c93 ∈ fw_GW := fw_gw 1569 (by decide +kernel) (by decide +kernel)
theorem lk_X17_171 : Cond.methodLink RX17 171 yX16_length ∈ fw_GW := fw_gw 1630 (by decide +kernel) (by decide +kernel)
theorem lk_X17_181 : Cond.methodLink RX17 181 yX17_noPerson ∈ fw_GW := fw_gw 1647 (by decide +kernel) (by decide +kernel)
theorem lk_X17_187 : Cond.methodLink RX17 187 yX11_init ∈ fw_GW := fw_gw 1653 (by decide +kernel) (by decide +kernel)
theorem lk_X17_193 : Cond.methodLink RX17 193 yX17_areSpan ∈ fw_GW := fw_gw 1678 (by decide +kernel) (by decide +kernel)
theorem lk_X17_201 : Cond.methodLink RX17 201 yX17_marks ∈ fw_GW := fw_gw 1681 (by decide +kernel) (by decide +kernel)
theorem lk_X17_205 : Cond.methodLink RX17 205 yX14_sums ∈ fw_GW := fw_gw 1684 (by decide +kernel) (by decide +kernel)
theorem lk_X17_211 : Cond.methodLink RX17 211 yX14_behind ∈ fw_GW := fw_gw 1947 (by decide +kernel) (by decide +kernel)
theorem lk_X17_214 : Cond.methodLink RX17 214 yJ9_max_7cf53 ∈ fw_GW := fw_gw 1729 (by decide +kernel) (by decide +kernel)
theorem lk_X17_221 : Cond.methodLink RX17 221 yJx4a65c_add_7a177 ∈ fw_GW := fw_gw 1734 (by decide +kernel) (by decide +kernel)
theorem lk_X17_226 : Cond.methodLinkNest RX17 226 yX12_init "TermreckonryModel" ∈ fw_NW := fw_nw 1700 (by decide +kernel) (by decide +kernel)
theorem lk_X17_227 : Cond.methodLink RX17 227 yX16_counts ∈ fw_GW := fw_gw 1725 (by decide +kernel) (by decide +kernel)
theorem lk_X17_249 : Cond.methodLink RX17 249 yX17_addedOf ∈ fw_GW := fw_gw 1730 (by decide +kernel) (by decide +kernel)
theorem lk_X17_253 : Cond.methodLink RX17 253 yX17_releaseBy ∈ fw_GW := fw_gw 1943 (by decide +kernel) (by decide +kernel)
theorem lk_X17_264 : Cond.methodLink RX17 264 yX17_factOf ∈ fw_GW := fw_gw 1695 (by decide +kernel) (by decide +kernel)
theorem lk_X17_268 : Cond.methodLink RX17 268 yX17_hasLicence ∈ fw_GW := fw_gw 1959 (by decide +kernel) (by decide +kernel)
theorem lk_X17_282 : Cond.methodLink RX17 282 yX17_isLicensed ∈ fw_GW := fw_gw 1955 (by decide +kernel) (by decide +kernel)
theorem lk_X17_286 : Cond.methodLink RX17 286 yX17_goesOn ∈ fw_GW := fw_gw 1963 (by decide +kernel) (by decide +kernel)
theorem lk_X17_290 : Cond.methodLink RX17 290 yX17_isIn ∈ fw_GW := fw_gw 1967 (by decide +kernel) (by decide +kernel)
theorem lk_X17_294 : Cond.methodLink RX17 294 yX17_facts ∈ fw_GW := fw_gw 1689 (by decide +kernel) (by decide +kernel)
theorem lk_X17_298 : Cond.methodLink RX17 298 yX17_stateOf ∈ fw_GW := fw_gw 1951 (by decide +kernel) (by decide +kernel)
theorem lk_X17_302 : Cond.methodLink RX17 302 yX15_init ∈ fw_GW := fw_gw 1972 (by decide +kernel) (by decide +kernel)
theorem lk_X17_305 : Cond.methodLink RX17 305 yX17_begun ∈ fw_GW := fw_gw 2005 (by decide +kernel) (by decide +kernel)
theorem lk_X17_309 : Cond.methodLink RX17 309 yX17_stateOn ∈ fw_GW := fw_gw 2029 (by decide +kernel) (by decide +kernel)
theorem lk_X17_316 : Cond.methodLink RX17 316 yX17_endOf ∈ fw_GW := fw_gw 2047 (by decide +kernel) (by decide +kernel)
theorem lk_X17_320 : Cond.methodLink RX17 320 yX17_fast ∈ fw_GW := fw_gw 2051 (by decide +kernel) (by decide +kernel)
theorem lk_X17_326 : Cond.methodLink RX17 326 yX17_counted ∈ fw_GW := fw_gw 2043 (by decide +kernel) (by decide +kernel)
theorem lk_X17_331 : Cond.methodLink RX17 331 yJx4a65c_isEmpty_aae02 ∈ fw_GW := fw_gw 2072 (by decide +kernel) (by decide +kernel)
theorem lk_X11_1 : Cond.methodLink RX11 1 Lib.objectInit ∈ fw_GW := fw_gw 1656 (by decide +kernel) (by decide +kernel)
theorem lk_X12_3 : Cond.methodLink RX12 3 Lib.objectInit ∈ fw_GW := fw_gw 1703 (by decide +kernel) (by decide +kernel)
theorem lk_X13_1 : Cond.methodLink RX13 1 Lib.objectInit ∈ fw_GW := fw_gw 1252 (by decide +kernel) (by decide +kernel)
theorem lk_X14_3 : Cond.methodLink RX14 3 Lib.objectInit ∈ fw_GW := fw_gw 1384 (by decide +kernel) (by decide +kernel)
theorem lk_X14_22 : Cond.methodLink RX14 22 yX14_sums ∈ fw_GW := fw_gw 1385 (by decide +kernel) (by decide +kernel)
theorem lk_X15_3 : Cond.methodLink RX15 3 Lib.objectInit ∈ fw_GW := fw_gw 1975 (by decide +kernel) (by decide +kernel)
theorem lk_X16_3 : Cond.methodLink RX16 3 Lib.objectInit ∈ fw_GW := fw_gw 1503 (by decide +kernel) (by decide +kernel)
theorem lk_X16_53 : Cond.methodLinkNest RX16 53 yX17_lengthOf "TermreckonryModel" ∈ fw_NW := fw_nw 1634 (by decide +kernel) (by decide +kernel)
theorem lk_J0_1 : Cond.methodLink RJ0 1 Lib.objectInit ∈ fw_GW := fw_gw 1892 (by decide +kernel) (by decide +kernel)
theorem lk_J0_47 : Cond.methodLink RJ0 47 yJ2_coderFromArrayLen_85cad ∈ fw_GW := fw_gw 1931 (by decide +kernel) (by decide +kernel)
theorem lk_J0_54 : Cond.methodLink RJ0 54 yJ7_copyOfRange_39247 ∈ fw_GW := fw_gw 1907 (by decide +kernel) (by decide +kernel)
theorem lk_J0_335 : Cond.methodLink RJ0 335 yJ0_coder_7d493 ∈ fw_GW := fw_gw 1435 (by decide +kernel) (by decide +kernel)
theorem lk_J0_489 : Cond.methodLink RJ0 489 yJ0_init_db425 ∈ fw_GW := fw_gw 1889 (by decide +kernel) (by decide +kernel)
theorem lk_J0_492 : Cond.methodLink RJ0 492 yJ0_isLatin1_aae02 ∈ fw_GW := fw_gw 1425 (by decide +kernel) (by decide +kernel)
theorem lk_J0_505 : Cond.methodLink RJ0 505 yJ0_length_8abf5 ∈ fw_GW := fw_gw 1431 (by decide +kernel) (by decide +kernel)
theorem lk_J0_549 : Cond.methodLink RJ0 549 yJ5_length_8abf5 ∈ fw_GW := fw_gw 1898 (by decide +kernel) (by decide +kernel)
theorem lk_J0_552 : Cond.methodLink RJ0 552 yJ5_getValue_6d5f1 ∈ fw_GW := fw_gw 1893 (by decide +kernel) (by decide +kernel)
theorem lk_J0_633 : Cond.methodLink RJ0 633 yJ0_indexOf_7cf53 ∈ fw_GW := fw_gw 1421 (by decide +kernel) (by decide +kernel)
theorem lk_J0_637 : Cond.methodLink RJ0 637 yJ1_indexOf_4cfef ∈ fw_GW := fw_gw 1439 (by decide +kernel) (by decide +kernel)
theorem lk_J0_640 : Cond.methodLink RJ0 640 yJ2_indexOf_4cfef ∈ fw_GW := fw_gw 1450 (by decide +kernel) (by decide +kernel)
theorem lk_J0_1047 : Cond.methodLink RJ0 1047 yJ5_isLatin1_aae02 ∈ fw_GW := fw_gw 1906 (by decide +kernel) (by decide +kernel)
theorem lk_J0_1051 : Cond.methodLink RJ0 1051 yJ2_compress_39247 ∈ fw_GW := fw_gw 1924 (by decide +kernel) (by decide +kernel)
theorem lk_J0_1062 : Cond.methodLink RJ0 1062 yJ3_checkFromToIndex_8c36e ∈ fw_GW := fw_gw 1470 (by decide +kernel) (by decide +kernel)
theorem lk_J0_1065 : Cond.methodLink RJ0 1065 yJ3_checkFromIndexSize_8c36e ∈ fw_GW := fw_gw 1846 (by decide +kernel) (by decide +kernel)
theorem lk_J1_38 : Cond.methodLink RJ1 38 yJ9_min_7cf53 ∈ fw_GW := fw_gw 1446 (by decide +kernel) (by decide +kernel)
theorem lk_J1_88 : Cond.methodLink RJ1 88 yJ1_canEncode_9a6ad ∈ fw_GW := fw_gw 1442 (by decide +kernel) (by decide +kernel)
theorem lk_J1_92 : Cond.methodLink RJ1 92 yJ9_max_7cf53 ∈ fw_GW := fw_gw 1445 (by decide +kernel) (by decide +kernel)
theorem lk_J1_95 : Cond.methodLink RJ1 95 yJ1_indexOfChar_4cfef ∈ fw_GW := fw_gw 1447 (by decide +kernel) (by decide +kernel)
theorem lk_J1_240 : Cond.methodLink RJ1 240 yJ2_inflate_0e8fd ∈ fw_GW := fw_gw 1837 (by decide +kernel) (by decide +kernel)
theorem lk_Jxa1e45_1 : Cond.methodLink RJxa1e45 1 Lib.objectInit ∈ fw_GW := fw_gw 1160 (by decide +kernel) (by decide +kernel)
theorem lk_Jxc12de_1 : Cond.methodLink RJxc12de 1 yJxa1e45_init_da8c8 ∈ fw_GW := fw_gw 1157 (by decide +kernel) (by decide +kernel)
theorem lk_Jx4a65c_1 : Cond.methodLink RJx4a65c 1 yJxc12de_init_da8c8 ∈ fw_GW := fw_gw 1154 (by decide +kernel) (by decide +kernel)
theorem lk_Jx4a65c_66 : Cond.methodLink RJx4a65c 66 yJ7_copyOf_1904c ∈ fw_GW := fw_gw 1294 (by decide +kernel) (by decide +kernel)
theorem lk_Jx4a65c_69 : Cond.methodLink RJx4a65c 69 yJx4a65c_grow_92f84 ∈ fw_GW := fw_gw 1282 (by decide +kernel) (by decide +kernel)
theorem lk_Jx4a65c_73 : Cond.methodLink RJx4a65c 73 yJ8_newLength_cabcc ∈ fw_GW := fw_gw 1286 (by decide +kernel) (by decide +kernel)
theorem lk_Jx4a65c_79 : Cond.methodLink RJx4a65c 79 yJ9_max_7cf53 ∈ fw_GW := fw_gw 1338 (by decide +kernel) (by decide +kernel)
theorem lk_Jx4a65c_118 : Cond.methodLink RJx4a65c 118 yJ15_checkIndex_7cf53 ∈ fw_GW := fw_gw 1356 (by decide +kernel) (by decide +kernel)
theorem lk_Jx4a65c_123 : Cond.methodLink RJx4a65c 123 yJx4a65c_elementData_915e3 ∈ fw_GW := fw_gw 1362 (by decide +kernel) (by decide +kernel)
theorem lk_Jx4a65c_129 : Cond.methodLink RJx4a65c 129 yJx4a65c_grow_d5877 ∈ fw_GW := fw_gw 1278 (by decide +kernel) (by decide +kernel)
theorem lk_Jx4a65c_131 : Cond.methodLink RJx4a65c 131 yJx4a65c_add_72be8 ∈ fw_GW := fw_gw 1274 (by decide +kernel) (by decide +kernel)
theorem lk_Jx4a65c_135 : Cond.methodLink RJx4a65c 135 yJx4a65c_rangeCheckForAdd_d00df ∈ fw_GW := fw_gw 1738 (by decide +kernel) (by decide +kernel)
theorem lk_Jx4a65c_198 : Cond.methodLink RJx4a65c 198 yJx4a65c_outOfBoundsMsg_b52d3 ∈ fw_GW := fw_gw 1743 (by decide +kernel) (by decide +kernel)
theorem lk_Jx4a65c_269 : Cond.methodLink RJx4a65c 269 yJx35411_init_45d68 ∈ fw_GW := fw_gw 1575 (by decide +kernel) (by decide +kernel)
theorem lk_Jx35411_7 : Cond.methodLink RJx35411 7 Lib.objectInit ∈ fw_GW := fw_gw 1578 (by decide +kernel) (by decide +kernel)
theorem lk_Jx35411_31 : Cond.methodLink RJx35411 31 yJx35411_checkForComodification_da8c8 ∈ fw_GW := fw_gw 1611 (by decide +kernel) (by decide +kernel)
theorem lk_J7_47 : Cond.methodLink RJ7 47 yJ4_init_da8c8 ∈ fw_GW := fw_gw 1918 (by decide +kernel) (by decide +kernel)
theorem lk_J7_50 : Cond.methodLink RJ7 50 yJ4_append_15ec4 ∈ fw_GW := fw_gw 1921 (by decide +kernel) (by decide +kernel)
theorem lk_J7_54 : Cond.methodLink RJ7 54 yJ4_append_bf812 ∈ fw_GW := fw_gw 1919 (by decide +kernel) (by decide +kernel)
theorem lk_J7_61 : Cond.methodLink RJ7 61 yJ4_toString_0e30d ∈ fw_GW := fw_gw 1922 (by decide +kernel) (by decide +kernel)
theorem lk_J7_300 : Cond.methodLink RJ7 300 yJ7_copyOf_6403c ∈ fw_GW := fw_gw 1328 (by decide +kernel) (by decide +kernel)
theorem lk_J7_304 : Cond.methodLink RJ7 304 yJ9_min_7cf53 ∈ fw_GW := fw_gw 1334 (by decide +kernel) (by decide +kernel)
theorem lk_J7_339 : Cond.methodLink RJ7 339 yJ7_copyOfRangeByte_39247 ∈ fw_GW := fw_gw 1910 (by decide +kernel) (by decide +kernel)
theorem lk_J7_343 : Cond.methodLink RJ7 343 yJ7_checkLength_df160 ∈ fw_GW := fw_gw 1913 (by decide +kernel) (by decide +kernel)
theorem lk_J15_105 : Cond.methodLink RJ15 105 yJ3_checkIndex_8e157 ∈ fw_GW := fw_gw 1359 (by decide +kernel) (by decide +kernel)
theorem lk_J8_194 : Cond.methodLink RJ8 194 yJ9_max_7cf53 ∈ fw_GW := fw_gw 1289 (by decide +kernel) (by decide +kernel)
theorem lk_J8_201 : Cond.methodLink RJ8 201 yJ8_hugeLength_7cf53 ∈ fw_GW := fw_gw 1291 (by decide +kernel) (by decide +kernel)
theorem ca_X10_init : fw_cal mm_X10_init 0 := ⟨fw_gw 89 (by decide +kernel) (by decide +kernel), fw_gw 38 (by decide +kernel) (by decide +kernel), ⟨by decide, by decide, by decide +kernel⟩, rfl, rfl⟩
theorem iv_X10_init : Cond.instanceMethod yX10_init ∈ fw_GW := fw_gw 88 (by decide +kernel) (by decide +kernel)
theorem ca_X10_activate : fw_cal mm_X10_activate 2 := ⟨fw_gw 854 (by decide +kernel) (by decide +kernel), fw_gw 38 (by decide +kernel) (by decide +kernel), ⟨by decide, by decide, by decide +kernel⟩, rfl, rfl⟩
theorem iv_X10_activate : Cond.instanceMethod yX10_activate ∈ fw_GW := fw_gw 852 (by decide +kernel) (by decide +kernel)
theorem sv_X10_activate : Cond.selects yX10_activate.cls yX10_activate yX10_activate ∈ fw_GW := fw_gw 853 (by decide +kernel) (by decide +kernel)
theorem ca_X10_add : fw_cal mm_X10_add 3 := ⟨fw_gw 889 (by decide +kernel) (by decide +kernel), fw_gw 38 (by decide +kernel) (by decide +kernel), ⟨by decide, by decide, by decide +kernel⟩, rfl, rfl⟩
theorem iv_X10_add : Cond.instanceMethod yX10_add ∈ fw_GW := fw_gw 887 (by decide +kernel) (by decide +kernel)
theorem sv_X10_add : Cond.selects yX10_add.cls yX10_add yX10_add ∈ fw_GW := fw_gw 888 (by decide +kernel) (by decide +kernel)
theorem ca_X10_approve : fw_cal mm_X10_approve 2 := ⟨fw_gw 882 (by decide +kernel) (by decide +kernel), fw_gw 38 (by decide +kernel) (by decide +kernel), ⟨by decide, by decide, by decide +kernel⟩, rfl, rfl⟩
theorem iv_X10_approve : Cond.instanceMethod yX10_approve ∈ fw_GW := fw_gw 880 (by decide +kernel) (by decide +kernel)
end
section
/-! TABLES: methods, rows, words -/
theorem sv_X10_approve : Cond.selects yX10_approve.cls yX10_approve yX10_approve ∈ fw_GW := fw_gw 881 (by decide +kernel) (by decide +kernel)
theorem ca_X10_atLarge : fw_cal mm_X10_atLarge 3 := ⟨fw_gw 936 (by decide +kernel) (by decide +kernel), fw_gw 38 (by decide +kernel) (by decide +kernel), ⟨by decide, by decide, by decide +kernel⟩, rfl, rfl⟩
theorem iv_X10_atLarge : Cond.instanceMethod yX10_atLarge ∈ fw_GW := fw_gw 934 (by decide +kernel) (by decide +kernel)
theorem sv_X10_atLarge : Cond.selects yX10_atLarge.cls yX10_atLarge yX10_atLarge ∈ fw_GW := fw_gw 935 (by decide +kernel) (by decide +kernel)
theorem ca_X10_begins : fw_cal mm_X10_begins 1 := ⟨fw_gw 1018 (by decide +kernel) (by decide +kernel), fw_gw 38 (by decide +kernel) (by decide +kernel), ⟨by decide, by decide, by decide +kernel⟩, rfl, rfl⟩
theorem iv_X10_begins : Cond.instanceMethod yX10_begins ∈ fw_GW := fw_gw 1016 (by decide +kernel) (by decide +kernel)
theorem sv_X10_begins : Cond.selects yX10_begins.cls yX10_begins yX10_begins ∈ fw_GW := fw_gw 1017 (by decide +kernel) (by decide +kernel)
theorem ca_X10_begunWarrant : fw_cal mm_X10_begunWarrant 1 := ⟨fw_gw 1022 (by decide +kernel) (by decide +kernel), fw_gw 38 (by decide +kernel) (by decide +kernel), ⟨by decide, by decide, by decide +kernel⟩, rfl, rfl⟩
theorem iv_X10_begunWarrant : Cond.instanceMethod yX10_begunWarrant ∈ fw_GW := fw_gw 1021 (by decide +kernel) (by decide +kernel)
theorem sv_X10_begunWarrant : Cond.selects yX10_begunWarrant.cls yX10_begunWarrant yX10_begunWarrant ∈ fw_GW := fw_gw 12 (by decide +kernel) (by decide +kernel)
theorem ca_X10_byClerk : fw_cal mm_X10_byClerk 2 := ⟨fw_gw 1060 (by decide +kernel) (by decide +kernel), fw_gw 38 (by decide +kernel) (by decide +kernel), ⟨by decide, by decide, by decide +kernel⟩, rfl, rfl⟩
theorem iv_X10_byClerk : Cond.instanceMethod yX10_byClerk ∈ fw_GW := fw_gw 1058 (by decide +kernel) (by decide +kernel)
theorem sv_X10_byClerk : Cond.selects yX10_byClerk.cls yX10_byClerk yX10_byClerk ∈ fw_GW := fw_gw 1059 (by decide +kernel) (by decide +kernel)
theorem ca_X10_count : fw_cal mm_X10_count 3 := ⟨fw_gw 846 (by decide +kernel) (by decide +kernel), fw_gw 38 (by decide +kernel) (by decide +kernel), ⟨by decide, by decide, by decide +kernel⟩, rfl, rfl⟩
theorem iv_X10_count : Cond.instanceMethod yX10_count ∈ fw_GW := fw_gw 844 (by decide +kernel) (by decide +kernel)
theorem sv_X10_count : Cond.selects yX10_count.cls yX10_count yX10_count ∈ fw_GW := fw_gw 845 (by decide +kernel) (by decide +kernel)
theorem ca_X10_dateOf : fw_cal mm_X10_dateOf 1 := ⟨fw_gw 478 (by decide +kernel) (by decide +kernel), fw_gw 38 (by decide +kernel) (by decide +kernel), ⟨by decide, by decide, by decide +kernel⟩, rfl, rfl⟩
theorem iv_X10_dateOf : Cond.instanceMethod yX10_dateOf ∈ fw_GW := fw_gw 476 (by decide +kernel) (by decide +kernel)
theorem sv_X10_dateOf : Cond.selects yX10_dateOf.cls yX10_dateOf yX10_dateOf ∈ fw_GW := fw_gw 477 (by decide +kernel) (by decide +kernel)
theorem ca_X10_dayOf : fw_cal mm_X10_dayOf 3 := ⟨fw_gw 388 (by decide +kernel) (by decide +kernel), fw_gw 38 (by decide +kernel) (by decide +kernel), ⟨by decide, by decide, by decide +kernel⟩, rfl, rfl⟩
theorem iv_X10_dayOf : Cond.instanceMethod yX10_dayOf ∈ fw_GW := fw_gw 386 (by decide +kernel) (by decide +kernel)
theorem sv_X10_dayOf : Cond.selects yX10_dayOf.cls yX10_dayOf yX10_dayOf ∈ fw_GW := fw_gw 387 (by decide +kernel) (by decide +kernel)
theorem ca_X10_end : fw_cal mm_X10_end 1 := ⟨fw_gw 1045 (by decide +kernel) (by decide +kernel), fw_gw 38 (by decide +kernel) (by decide +kernel), ⟨by decide, by decide, by decide +kernel⟩, rfl, rfl⟩
theorem iv_X10_end : Cond.instanceMethod yX10_end ∈ fw_GW := fw_gw 1043 (by decide +kernel) (by decide +kernel)
theorem sv_X10_end : Cond.selects yX10_end.cls yX10_end yX10_end ∈ fw_GW := fw_gw 1044 (by decide +kernel) (by decide +kernel)
theorem ca_X10_giveBack : fw_cal mm_X10_giveBack 2 := ⟨fw_gw 924 (by decide +kernel) (by decide +kernel), fw_gw 38 (by decide +kernel) (by decide +kernel), ⟨by decide, by decide, by decide +kernel⟩, rfl, rfl⟩
theorem iv_X10_giveBack : Cond.instanceMethod yX10_giveBack ∈ fw_GW := fw_gw 922 (by decide +kernel) (by decide +kernel)
theorem sv_X10_giveBack : Cond.selects yX10_giveBack.cls yX10_giveBack yX10_giveBack ∈ fw_GW := fw_gw 923 (by decide +kernel) (by decide +kernel)
theorem ca_X10_held : fw_cal mm_X10_held 3 := ⟨fw_gw 1079 (by decide +kernel) (by decide +kernel), fw_gw 38 (by decide +kernel) (by decide +kernel), ⟨by decide, by decide, by decide +kernel⟩, rfl, rfl⟩
theorem iv_X10_held : Cond.instanceMethod yX10_held ∈ fw_GW := fw_gw 1077 (by decide +kernel) (by decide +kernel)
theorem sv_X10_held : Cond.selects yX10_held.cls yX10_held yX10_held ∈ fw_GW := fw_gw 1078 (by decide +kernel) (by decide +kernel)
theorem ca_X10_isTrue : fw_cal mm_X10_isTrue 0 := ⟨fw_gw 292 (by decide +kernel) (by decide +kernel), fw_gw 38 (by decide +kernel) (by decide +kernel), ⟨by decide, by decide, by decide +kernel⟩, rfl, rfl⟩
theorem iv_X10_isTrue : Cond.instanceMethod yX10_isTrue ∈ fw_GW := fw_gw 290 (by decide +kernel) (by decide +kernel)
theorem sv_X10_isTrue : Cond.selects yX10_isTrue.cls yX10_isTrue yX10_isTrue ∈ fw_GW := fw_gw 291 (by decide +kernel) (by decide +kernel)
theorem ca_X10_keeper : fw_cal mm_X10_keeper 2 := ⟨fw_gw 1070 (by decide +kernel) (by decide +kernel), fw_gw 38 (by decide +kernel) (by decide +kernel), ⟨by decide, by decide, by decide +kernel⟩, rfl, rfl⟩
theorem iv_X10_keeper : Cond.instanceMethod yX10_keeper ∈ fw_GW := fw_gw 1068 (by decide +kernel) (by decide +kernel)
theorem sv_X10_keeper : Cond.selects yX10_keeper.cls yX10_keeper yX10_keeper ∈ fw_GW := fw_gw 1069 (by decide +kernel) (by decide +kernel)
theorem ca_X10_knownAdded : fw_cal mm_X10_knownAdded 1 := ⟨fw_gw 928 (by decide +kernel) (by decide +kernel), fw_gw 38 (by decide +kernel) (by decide +kernel), ⟨by decide, by decide, by decide +kernel⟩, rfl, rfl⟩
theorem iv_X10_knownAdded : Cond.instanceMethod yX10_knownAdded ∈ fw_GW := fw_gw 927 (by decide +kernel) (by decide +kernel)
theorem sv_X10_knownAdded : Cond.selects yX10_knownAdded.cls yX10_knownAdded yX10_knownAdded ∈ fw_GW := fw_gw 11 (by decide +kernel) (by decide +kernel)
theorem ca_X10_knownPerson : fw_cal mm_X10_knownPerson 1 := ⟨fw_gw 708 (by decide +kernel) (by decide +kernel), fw_gw 38 (by decide +kernel) (by decide +kernel), ⟨by decide, by decide, by decide +kernel⟩, rfl, rfl⟩
theorem iv_X10_knownPerson : Cond.instanceMethod yX10_knownPerson ∈ fw_GW := fw_gw 707 (by decide +kernel) (by decide +kernel)
theorem sv_X10_knownPerson : Cond.selects yX10_knownPerson.cls yX10_knownPerson yX10_knownPerson ∈ fw_GW := fw_gw 10 (by decide +kernel) (by decide +kernel)
theorem ca_X10_knownWarrant : fw_cal mm_X10_knownWarrant 1 := ⟨fw_gw 598 (by decide +kernel) (by decide +kernel), fw_gw 38 (by decide +kernel) (by decide +kernel), ⟨by decide, by decide, by decide +kernel⟩, rfl, rfl⟩
theorem iv_X10_knownWarrant : Cond.instanceMethod yX10_knownWarrant ∈ fw_GW := fw_gw 597 (by decide +kernel) (by decide +kernel)
theorem sv_X10_knownWarrant : Cond.selects yX10_knownWarrant.cls yX10_knownWarrant yX10_knownWarrant ∈ fw_GW := fw_gw 9 (by decide +kernel) (by decide +kernel)
theorem ca_X10_law : fw_cal mm_X10_law 4 := ⟨fw_gw 514 (by decide +kernel) (by decide +kernel), fw_gw 38 (by decide +kernel) (by decide +kernel), ⟨by decide, by decide, by decide +kernel⟩, rfl, rfl⟩
theorem iv_X10_law : Cond.instanceMethod yX10_law ∈ fw_GW := fw_gw 512 (by decide +kernel) (by decide +kernel)
theorem sv_X10_law : Cond.selects yX10_law.cls yX10_law yX10_law ∈ fw_GW := fw_gw 513 (by decide +kernel) (by decide +kernel)
theorem ca_X10_lawOf : fw_cal mm_X10_lawOf 1 := ⟨fw_gw 594 (by decide +kernel) (by decide +kernel), fw_gw 38 (by decide +kernel) (by decide +kernel), ⟨by decide, by decide, by decide +kernel⟩, rfl, rfl⟩
theorem iv_X10_lawOf : Cond.instanceMethod yX10_lawOf ∈ fw_GW := fw_gw 592 (by decide +kernel) (by decide +kernel)
theorem sv_X10_lawOf : Cond.selects yX10_lawOf.cls yX10_lawOf yX10_lawOf ∈ fw_GW := fw_gw 593 (by decide +kernel) (by decide +kernel)
theorem ca_X10_length : fw_cal mm_X10_length 4 := ⟨fw_gw 486 (by decide +kernel) (by decide +kernel), fw_gw 38 (by decide +kernel) (by decide +kernel), ⟨by decide, by decide, by decide +kernel⟩, rfl, rfl⟩
theorem iv_X10_length : Cond.instanceMethod yX10_length ∈ fw_GW := fw_gw 484 (by decide +kernel) (by decide +kernel)
theorem sv_X10_length : Cond.selects yX10_length.cls yX10_length yX10_length ∈ fw_GW := fw_gw 485 (by decide +kernel) (by decide +kernel)
theorem ca_X10_letGo : fw_cal mm_X10_letGo 2 := ⟨fw_gw 1009 (by decide +kernel) (by decide +kernel), fw_gw 38 (by decide +kernel) (by decide +kernel), ⟨by decide, by decide, by decide +kernel⟩, rfl, rfl⟩
theorem iv_X10_letGo : Cond.instanceMethod yX10_letGo ∈ fw_GW := fw_gw 1007 (by decide +kernel) (by decide +kernel)
theorem sv_X10_letGo : Cond.selects yX10_letGo.cls yX10_letGo yX10_letGo ∈ fw_GW := fw_gw 1008 (by decide +kernel) (by decide +kernel)
theorem ca_X10_meanNeeded : fw_cal mm_X10_meanNeeded 0 := ⟨fw_gw 1141 (by decide +kernel) (by decide +kernel), fw_gw 38 (by decide +kernel) (by decide +kernel), ⟨by decide, by decide, by decide +kernel⟩, rfl, rfl⟩
theorem iv_X10_meanNeeded : Cond.instanceMethod yX10_meanNeeded ∈ fw_GW := fw_gw 1139 (by decide +kernel) (by decide +kernel)
theorem sv_X10_meanNeeded : Cond.selects yX10_meanNeeded.cls yX10_meanNeeded yX10_meanNeeded ∈ fw_GW := fw_gw 1140 (by decide +kernel) (by decide +kernel)
theorem ca_X10_needed : fw_cal mm_X10_needed 1 := ⟨fw_gw 1030 (by decide +kernel) (by decide +kernel), fw_gw 38 (by decide +kernel) (by decide +kernel), ⟨by decide, by decide, by decide +kernel⟩, rfl, rfl⟩
theorem iv_X10_needed : Cond.instanceMethod yX10_needed ∈ fw_GW := fw_gw 1028 (by decide +kernel) (by decide +kernel)
theorem sv_X10_needed : Cond.selects yX10_needed.cls yX10_needed yX10_needed ∈ fw_GW := fw_gw 1029 (by decide +kernel) (by decide +kernel)
theorem ca_X10_owed : fw_cal mm_X10_owed 0 := ⟨fw_gw 150 (by decide +kernel) (by decide +kernel), fw_gw 38 (by decide +kernel) (by decide +kernel), ⟨by decide, by decide, by decide +kernel⟩, rfl, rfl⟩
theorem iv_X10_owed : Cond.instanceMethod yX10_owed ∈ fw_GW := fw_gw 148 (by decide +kernel) (by decide +kernel)
theorem sv_X10_owed : Cond.selects yX10_owed.cls yX10_owed yX10_owed ∈ fw_GW := fw_gw 149 (by decide +kernel) (by decide +kernel)
theorem ca_X10_person : fw_cal mm_X10_person 0 := ⟨fw_gw 651 (by decide +kernel) (by decide +kernel), fw_gw 38 (by decide +kernel) (by decide +kernel), ⟨by decide, by decide, by decide +kernel⟩, rfl, rfl⟩
theorem iv_X10_person : Cond.instanceMethod yX10_person ∈ fw_GW := fw_gw 649 (by decide +kernel) (by decide +kernel)
theorem sv_X10_person : Cond.selects yX10_person.cls yX10_person yX10_person ∈ fw_GW := fw_gw 650 (by decide +kernel) (by decide +kernel)
theorem ca_X10_prisonShare : fw_cal mm_X10_prisonShare 1 := ⟨fw_gw 1131 (by decide +kernel) (by decide +kernel), fw_gw 38 (by decide +kernel) (by decide +kernel), ⟨by decide, by decide, by decide +kernel⟩, rfl, rfl⟩
theorem iv_X10_prisonShare : Cond.instanceMethod yX10_prisonShare ∈ fw_GW := fw_gw 1129 (by decide +kernel) (by decide +kernel)
theorem sv_X10_prisonShare : Cond.selects yX10_prisonShare.cls yX10_prisonShare yX10_prisonShare ∈ fw_GW := fw_gw 1130 (by decide +kernel) (by decide +kernel)
theorem ca_X10_quash : fw_cal mm_X10_quash 1 := ⟨fw_gw 875 (by decide +kernel) (by decide +kernel), fw_gw 38 (by decide +kernel) (by decide +kernel), ⟨by decide, by decide, by decide +kernel⟩, rfl, rfl⟩
theorem iv_X10_quash : Cond.instanceMethod yX10_quash ∈ fw_GW := fw_gw 873 (by decide +kernel) (by decide +kernel)
theorem sv_X10_quash : Cond.selects yX10_quash.cls yX10_quash yX10_quash ∈ fw_GW := fw_gw 874 (by decide +kernel) (by decide +kernel)
theorem ca_X10_recall : fw_cal mm_X10_recall 3 := ⟨fw_gw 951 (by decide +kernel) (by decide +kernel), fw_gw 38 (by decide +kernel) (by decide +kernel), ⟨by decide, by decide, by decide +kernel⟩, rfl, rfl⟩
theorem iv_X10_recall : Cond.instanceMethod yX10_recall ∈ fw_GW := fw_gw 949 (by decide +kernel) (by decide +kernel)
theorem sv_X10_recall : Cond.selects yX10_recall.cls yX10_recall yX10_recall ∈ fw_GW := fw_gw 950 (by decide +kernel) (by decide +kernel)
theorem ca_X10_reckonAll : fw_cal mm_X10_reckonAll 0 := ⟨fw_gw 154 (by decide +kernel) (by decide +kernel), fw_gw 38 (by decide +kernel) (by decide +kernel), ⟨by decide, by decide, by decide +kernel⟩, rfl, rfl⟩
theorem iv_X10_reckonAll : Cond.instanceMethod yX10_reckonAll ∈ fw_GW := fw_gw 153 (by decide +kernel) (by decide +kernel)
theorem sv_X10_reckonAll : Cond.selects yX10_reckonAll.cls yX10_reckonAll yX10_reckonAll ∈ fw_GW := fw_gw 0 (by decide +kernel) (by decide +kernel)
theorem ca_X10_release : fw_cal mm_X10_release 1 := ⟨fw_gw 1037 (by decide +kernel) (by decide +kernel), fw_gw 38 (by decide +kernel) (by decide +kernel), ⟨by decide, by decide, by decide +kernel⟩, rfl, rfl⟩
theorem iv_X10_release : Cond.instanceMethod yX10_release ∈ fw_GW := fw_gw 1035 (by decide +kernel) (by decide +kernel)
theorem sv_X10_release : Cond.selects yX10_release.cls yX10_release yX10_release ∈ fw_GW := fw_gw 1036 (by decide +kernel) (by decide +kernel)
theorem ca_X10_requireDay : fw_cal mm_X10_requireDay 1 := ⟨fw_gw 467 (by decide +kernel) (by decide +kernel), fw_gw 38 (by decide +kernel) (by decide +kernel), ⟨by decide, by decide, by decide +kernel⟩, rfl, rfl⟩
theorem sx_X10_requireDay : Cond.static yX10_requireDay ∈ fw_GW := fw_gw 466 (by decide +kernel) (by decide +kernel)
theorem ca_X10_requireKind : fw_cal mm_X10_requireKind 1 := ⟨fw_gw 712 (by decide +kernel) (by decide +kernel), fw_gw 38 (by decide +kernel) (by decide +kernel), ⟨by decide, by decide, by decide +kernel⟩, rfl, rfl⟩
theorem sx_X10_requireKind : Cond.static yX10_requireKind ∈ fw_GW := fw_gw 711 (by decide +kernel) (by decide +kernel)
theorem ca_X10_requireRange : fw_cal mm_X10_requireRange 3 := ⟨fw_gw 470 (by decide +kernel) (by decide +kernel), fw_gw 38 (by decide +kernel) (by decide +kernel), ⟨by decide, by decide, by decide +kernel⟩, rfl, rfl⟩
theorem sx_X10_requireRange : Cond.static yX10_requireRange ∈ fw_GW := fw_gw 469 (by decide +kernel) (by decide +kernel)
theorem ca_X10_requireSomeTerm : fw_cal mm_X10_requireSomeTerm 3 := ⟨fw_gw 716 (by decide +kernel) (by decide +kernel), fw_gw 38 (by decide +kernel) (by decide +kernel), ⟨by decide, by decide, by decide +kernel⟩, rfl, rfl⟩
theorem sx_X10_requireSomeTerm : Cond.static yX10_requireSomeTerm ∈ fw_GW := fw_gw 715 (by decide +kernel) (by decide +kernel)
theorem ca_X10_requireSpan : fw_cal mm_X10_requireSpan 2 := ⟨fw_gw 939 (by decide +kernel) (by decide +kernel), fw_gw 38 (by decide +kernel) (by decide +kernel), ⟨by decide, by decide, by decide +kernel⟩, rfl, rfl⟩
theorem sx_X10_requireSpan : Cond.static yX10_requireSpan ∈ fw_GW := fw_gw 938 (by decide +kernel) (by decide +kernel)
theorem ca_X10_requireTerm : fw_cal mm_X10_requireTerm 3 := ⟨fw_gw 489 (by decide +kernel) (by decide +kernel), fw_gw 38 (by decide +kernel) (by decide +kernel), ⟨by decide, by decide, by decide +kernel⟩, rfl, rfl⟩
theorem sx_X10_requireTerm : Cond.static yX10_requireTerm ∈ fw_GW := fw_gw 488 (by decide +kernel) (by decide +kernel)
theorem ca_X10_stateOn : fw_cal mm_X10_stateOn 2 := ⟨fw_gw 1053 (by decide +kernel) (by decide +kernel), fw_gw 38 (by decide +kernel) (by decide +kernel), ⟨by decide, by decide, by decide +kernel⟩, rfl, rfl⟩
theorem iv_X10_stateOn : Cond.instanceMethod yX10_stateOn ∈ fw_GW := fw_gw 1051 (by decide +kernel) (by decide +kernel)
theorem sv_X10_stateOn : Cond.selects yX10_stateOn.cls yX10_stateOn yX10_stateOn ∈ fw_GW := fw_gw 1052 (by decide +kernel) (by decide +kernel)
theorem ca_X10_sumNeeded : fw_cal mm_X10_sumNeeded 0 := ⟨fw_gw 287 (by decide +kernel) (by decide +kernel), fw_gw 38 (by decide +kernel) (by decide +kernel), ⟨by decide, by decide, by decide +kernel⟩, rfl, rfl⟩
theorem iv_X10_sumNeeded : Cond.instanceMethod yX10_sumNeeded ∈ fw_GW := fw_gw 286 (by decide +kernel) (by decide +kernel)
theorem sv_X10_sumNeeded : Cond.selects yX10_sumNeeded.cls yX10_sumNeeded yX10_sumNeeded ∈ fw_GW := fw_gw 6 (by decide +kernel) (by decide +kernel)
theorem ca_X10_tooLong : fw_cal mm_X10_tooLong 2 := ⟨fw_gw 1086 (by decide +kernel) (by decide +kernel), fw_gw 38 (by decide +kernel) (by decide +kernel), ⟨by decide, by decide, by decide +kernel⟩, rfl, rfl⟩
theorem iv_X10_tooLong : Cond.instanceMethod yX10_tooLong ∈ fw_GW := fw_gw 1084 (by decide +kernel) (by decide +kernel)
theorem sv_X10_tooLong : Cond.selects yX10_tooLong.cls yX10_tooLong yX10_tooLong ∈ fw_GW := fw_gw 1085 (by decide +kernel) (by decide +kernel)
theorem ca_X10_tooShort : fw_cal mm_X10_tooShort 2 := ⟨fw_gw 1106 (by decide +kernel) (by decide +kernel), fw_gw 38 (by decide +kernel) (by decide +kernel), ⟨by decide, by decide, by decide +kernel⟩, rfl, rfl⟩
theorem iv_X10_tooShort : Cond.instanceMethod yX10_tooShort ∈ fw_GW := fw_gw 1104 (by decide +kernel) (by decide +kernel)
theorem sv_X10_tooShort : Cond.selects yX10_tooShort.cls yX10_tooShort yX10_tooShort ∈ fw_GW := fw_gw 1105 (by decide +kernel) (by decide +kernel)
theorem ca_X10_vary : fw_cal mm_X10_vary 4 := ⟨fw_gw 868 (by decide +kernel) (by decide +kernel), fw_gw 38 (by decide +kernel) (by decide +kernel), ⟨by decide, by decide, by decide +kernel⟩, rfl, rfl⟩
theorem iv_X10_vary : Cond.instanceMethod yX10_vary ∈ fw_GW := fw_gw 866 (by decide +kernel) (by decide +kernel)
theorem sv_X10_vary : Cond.selects yX10_vary.cls yX10_vary yX10_vary ∈ fw_GW := fw_gw 867 (by decide +kernel) (by decide +kernel)
theorem ca_X10_warrant : fw_cal mm_X10_warrant 8 := ⟨fw_gw 704 (by decide +kernel) (by decide +kernel), fw_gw 38 (by decide +kernel) (by decide +kernel), ⟨by decide, by decide, by decide +kernel⟩, rfl, rfl⟩
theorem iv_X10_warrant : Cond.instanceMethod yX10_warrant ∈ fw_GW := fw_gw 702 (by decide +kernel) (by decide +kernel)
theorem sv_X10_warrant : Cond.selects yX10_warrant.cls yX10_warrant yX10_warrant ∈ fw_GW := fw_gw 703 (by decide +kernel) (by decide +kernel)
theorem ca_X10_warrants : fw_cal mm_X10_warrants 0 := ⟨fw_gw 146 (by decide +kernel) (by decide +kernel), fw_gw 38 (by decide +kernel) (by decide +kernel), ⟨by decide, by decide, by decide +kernel⟩, rfl, rfl⟩
theorem iv_X10_warrants : Cond.instanceMethod yX10_warrants ∈ fw_GW := fw_gw 144 (by decide +kernel) (by decide +kernel)
theorem sv_X10_warrants : Cond.selects yX10_warrants.cls yX10_warrants yX10_warrants ∈ fw_GW := fw_gw 145 (by decide +kernel) (by decide +kernel)
theorem ca_X0_init : fw_cal mm_X0_init 2 := ⟨fw_gw 894 (by decide +kernel) (by decide +kernel), fw_gw 73 (by decide +kernel) (by decide +kernel), ⟨by decide, by decide, by decide +kernel⟩, rfl, rfl⟩
theorem iv_X0_init : Cond.instanceMethod yX0_init ∈ fw_GW := fw_gw 893 (by decide +kernel) (by decide +kernel)
theorem ca_X1_dateAt : fw_cal mm_X1_dateAt 1 := ⟨fw_gw 190 (by decide +kernel) (by decide +kernel), fw_gw 48 (by decide +kernel) (by decide +kernel), ⟨by decide, by decide, by decide +kernel⟩, rfl, rfl⟩
theorem sx_X1_dateAt : Cond.static yX1_dateAt ∈ fw_GW := fw_gw 189 (by decide +kernel) (by decide +kernel)
theorem ca_X1_daysOfMonth : fw_cal mm_X1_daysOfMonth 2 := ⟨fw_gw 196 (by decide +kernel) (by decide +kernel), fw_gw 48 (by decide +kernel) (by decide +kernel), ⟨by decide, by decide, by decide +kernel⟩, rfl, rfl⟩
theorem sx_X1_daysOfMonth : Cond.static yX1_daysOfMonth ∈ fw_GW := fw_gw 195 (by decide +kernel) (by decide +kernel)
theorem ca_X1_isLeap : fw_cal mm_X1_isLeap 1 := ⟨fw_gw 193 (by decide +kernel) (by decide +kernel), fw_gw 48 (by decide +kernel) (by decide +kernel), ⟨by decide, by decide, by decide +kernel⟩, rfl, rfl⟩
theorem sx_X1_isLeap : Cond.static yX1_isLeap ∈ fw_GW := fw_gw 192 (by decide +kernel) (by decide +kernel)
theorem ca_X1_numberOf : fw_cal mm_X1_numberOf 3 := ⟨fw_gw 206 (by decide +kernel) (by decide +kernel), fw_gw 48 (by decide +kernel) (by decide +kernel), ⟨by decide, by decide, by decide +kernel⟩, rfl, rfl⟩
theorem sx_X1_numberOf : Cond.static yX1_numberOf ∈ fw_GW := fw_gw 205 (by decide +kernel) (by decide +kernel)
theorem ca_X2_agrees : fw_cal mm_X2_agrees 1 := ⟨fw_gw 295 (by decide +kernel) (by decide +kernel), fw_gw 83 (by decide +kernel) (by decide +kernel), ⟨by decide, by decide, by decide +kernel⟩, rfl, rfl⟩
theorem sx_X2_agrees : Cond.static yX2_agrees ∈ fw_GW := fw_gw 294 (by decide +kernel) (by decide +kernel)
theorem ca_X2_endsOn : fw_cal mm_X2_endsOn 3 := ⟨fw_gw 357 (by decide +kernel) (by decide +kernel), fw_gw 83 (by decide +kernel) (by decide +kernel), ⟨by decide, by decide, by decide +kernel⟩, rfl, rfl⟩
theorem sx_X2_endsOn : Cond.static yX2_endsOn ∈ fw_GW := fw_gw 356 (by decide +kernel) (by decide +kernel)
theorem ca_X2_open : fw_cal mm_X2_open 1 := ⟨fw_gw 299 (by decide +kernel) (by decide +kernel), fw_gw 83 (by decide +kernel) (by decide +kernel), ⟨by decide, by decide, by decide +kernel⟩, rfl, rfl⟩
theorem sx_X2_open : Cond.static yX2_open ∈ fw_GW := fw_gw 298 (by decide +kernel) (by decide +kernel)
theorem ca_X2_passDay : fw_cal mm_X2_passDay 2 := ⟨fw_gw 307 (by decide +kernel) (by decide +kernel), fw_gw 83 (by decide +kernel) (by decide +kernel), ⟨by decide, by decide, by decide +kernel⟩, rfl, rfl⟩
theorem sx_X2_passDay : Cond.static yX2_passDay ∈ fw_GW := fw_gw 306 (by decide +kernel) (by decide +kernel)
theorem ca_X2_passRecalls : fw_cal mm_X2_passRecalls 3 := ⟨fw_gw 354 (by decide +kernel) (by decide +kernel), fw_gw 83 (by decide +kernel) (by decide +kernel), ⟨by decide, by decide, by decide +kernel⟩, rfl, rfl⟩
theorem sx_X2_passRecalls : Cond.static yX2_passRecalls ∈ fw_GW := fw_gw 353 (by decide +kernel) (by decide +kernel)
theorem ca_X2_readAdded : fw_cal mm_X2_readAdded 2 := ⟨fw_gw 345 (by decide +kernel) (by decide +kernel), fw_gw 83 (by decide +kernel) (by decide +kernel), ⟨by decide, by decide, by decide +kernel⟩, rfl, rfl⟩
theorem sx_X2_readAdded : Cond.static yX2_readAdded ∈ fw_GW := fw_gw 344 (by decide +kernel) (by decide +kernel)
theorem ca_X2_stateAfterDays : fw_cal mm_X2_stateAfterDays 2 := ⟨fw_gw 1063 (by decide +kernel) (by decide +kernel), fw_gw 83 (by decide +kernel) (by decide +kernel), ⟨by decide, by decide, by decide +kernel⟩, rfl, rfl⟩
theorem sx_X2_stateAfterDays : Cond.static yX2_stateAfterDays ∈ fw_GW := fw_gw 1062 (by decide +kernel) (by decide +kernel)
theorem ca_X3_init : fw_cal mm_X3_init 0 := ⟨fw_gw 105 (by decide +kernel) (by decide +kernel), fw_gw 39 (by decide +kernel) (by decide +kernel), ⟨by decide, by decide, by decide +kernel⟩, rfl, rfl⟩
theorem iv_X3_init : Cond.instanceMethod yX3_init ∈ fw_GW := fw_gw 104 (by decide +kernel) (by decide +kernel)
theorem ca_X3_bitBehind : fw_cal mm_X3_bitBehind 2 := ⟨fw_gw 237 (by decide +kernel) (by decide +kernel), fw_gw 39 (by decide +kernel) (by decide +kernel), ⟨by decide, by decide, by decide +kernel⟩, rfl, rfl⟩
theorem sx_X3_bitBehind : Cond.static yX3_bitBehind ∈ fw_GW := fw_gw 236 (by decide +kernel) (by decide +kernel)
theorem ca_X3_bitsOf : fw_cal mm_X3_bitsOf 3 := ⟨fw_gw 262 (by decide +kernel) (by decide +kernel), fw_gw 39 (by decide +kernel) (by decide +kernel), ⟨by decide, by decide, by decide +kernel⟩, rfl, rfl⟩
theorem sx_X3_bitsOf : Cond.static yX3_bitsOf ∈ fw_GW := fw_gw 261 (by decide +kernel) (by decide +kernel)
theorem ca_X3_clear : fw_cal mm_X3_clear 0 := ⟨fw_gw 1094 (by decide +kernel) (by decide +kernel), fw_gw 39 (by decide +kernel) (by decide +kernel), ⟨by decide, by decide, by decide +kernel⟩, rfl, rfl⟩
theorem iv_X3_clear : Cond.instanceMethod yX3_clear ∈ fw_GW := fw_gw 1092 (by decide +kernel) (by decide +kernel)
theorem sv_X3_clear : Cond.selects yX3_clear.cls yX3_clear yX3_clear ∈ fw_GW := fw_gw 1093 (by decide +kernel) (by decide +kernel)
theorem ca_X3_dayBehind : fw_cal mm_X3_dayBehind 2 := ⟨fw_gw 226 (by decide +kernel) (by decide +kernel), fw_gw 39 (by decide +kernel) (by decide +kernel), ⟨by decide, by decide, by decide +kernel⟩, rfl, rfl⟩
theorem iv_X3_dayBehind : Cond.instanceMethod yX3_dayBehind ∈ fw_GW := fw_gw 224 (by decide +kernel) (by decide +kernel)
theorem sv_X3_dayBehind : Cond.selects yX3_dayBehind.cls yX3_dayBehind yX3_dayBehind ∈ fw_GW := fw_gw 225 (by decide +kernel) (by decide +kernel)
theorem ca_X3_has : fw_cal mm_X3_has 1 := ⟨fw_gw 311 (by decide +kernel) (by decide +kernel), fw_gw 39 (by decide +kernel) (by decide +kernel), ⟨by decide, by decide, by decide +kernel⟩, rfl, rfl⟩
theorem iv_X3_has : Cond.instanceMethod yX3_has ∈ fw_GW := fw_gw 309 (by decide +kernel) (by decide +kernel)
theorem sv_X3_has : Cond.selects yX3_has.cls yX3_has yX3_has ∈ fw_GW := fw_gw 310 (by decide +kernel) (by decide +kernel)
theorem ca_X3_outside : fw_cal mm_X3_outside 2 := ⟨fw_gw 1099 (by decide +kernel) (by decide +kernel), fw_gw 39 (by decide +kernel) (by decide +kernel), ⟨by decide, by decide, by decide +kernel⟩, rfl, rfl⟩
theorem iv_X3_outside : Cond.instanceMethod yX3_outside ∈ fw_GW := fw_gw 1097 (by decide +kernel) (by decide +kernel)
theorem sv_X3_outside : Cond.selects yX3_outside.cls yX3_outside yX3_outside ∈ fw_GW := fw_gw 1098 (by decide +kernel) (by decide +kernel)
theorem ca_X3_put : fw_cal mm_X3_put 2 := ⟨fw_gw 943 (by decide +kernel) (by decide +kernel), fw_gw 39 (by decide +kernel) (by decide +kernel), ⟨by decide, by decide, by decide +kernel⟩, rfl, rfl⟩
theorem iv_X3_put : Cond.instanceMethod yX3_put ∈ fw_GW := fw_gw 941 (by decide +kernel) (by decide +kernel)
theorem sv_X3_put : Cond.selects yX3_put.cls yX3_put yX3_put ∈ fw_GW := fw_gw 942 (by decide +kernel) (by decide +kernel)
theorem ca_X3_remove : fw_cal mm_X3_remove 1 := ⟨fw_gw 1110 (by decide +kernel) (by decide +kernel), fw_gw 39 (by decide +kernel) (by decide +kernel), ⟨by decide, by decide, by decide +kernel⟩, rfl, rfl⟩
theorem iv_X3_remove : Cond.instanceMethod yX3_remove ∈ fw_GW := fw_gw 1108 (by decide +kernel) (by decide +kernel)
theorem sv_X3_remove : Cond.selects yX3_remove.cls yX3_remove yX3_remove ∈ fw_GW := fw_gw 1109 (by decide +kernel) (by decide +kernel)
theorem ca_X3_within : fw_cal mm_X3_within 2 := ⟨fw_gw 259 (by decide +kernel) (by decide +kernel), fw_gw 39 (by decide +kernel) (by decide +kernel), ⟨by decide, by decide, by decide +kernel⟩, rfl, rfl⟩
theorem iv_X3_within : Cond.instanceMethod yX3_within ∈ fw_GW := fw_gw 257 (by decide +kernel) (by decide +kernel)
theorem sv_X3_within : Cond.selects yX3_within.cls yX3_within yX3_within ∈ fw_GW := fw_gw 258 (by decide +kernel) (by decide +kernel)
theorem ca_X4_init : fw_cal mm_X4_init 5 := ⟨fw_gw 535 (by decide +kernel) (by decide +kernel), fw_gw 52 (by decide +kernel) (by decide +kernel), ⟨by decide, by decide, by decide +kernel⟩, rfl, rfl⟩
theorem iv_X4_init : Cond.instanceMethod yX4_init ∈ fw_GW := fw_gw 534 (by decide +kernel) (by decide +kernel)
theorem ca_X5_init : fw_cal mm_X5_init 0 := ⟨fw_gw 656 (by decide +kernel) (by decide +kernel), fw_gw 64 (by decide +kernel) (by decide +kernel), ⟨by decide, by decide, by decide +kernel⟩, rfl, rfl⟩
theorem iv_X5_init : Cond.instanceMethod yX5_init ∈ fw_GW := fw_gw 655 (by decide +kernel) (by decide +kernel)
theorem ca_X5_isLicensed : fw_cal mm_X5_isLicensed 1 := ⟨fw_gw 379 (by decide +kernel) (by decide +kernel), fw_gw 64 (by decide +kernel) (by decide +kernel), ⟨by decide, by decide, by decide +kernel⟩, rfl, rfl⟩
theorem iv_X5_isLicensed : Cond.instanceMethod yX5_isLicensed ∈ fw_GW := fw_gw 377 (by decide +kernel) (by decide +kernel)
theorem sv_X5_isLicensed : Cond.selects yX5_isLicensed.cls yX5_isLicensed yX5_isLicensed ∈ fw_GW := fw_gw 378 (by decide +kernel) (by decide +kernel)
theorem ca_X5_keeperAt : fw_cal mm_X5_keeperAt 1 := ⟨fw_gw 368 (by decide +kernel) (by decide +kernel), fw_gw 64 (by decide +kernel) (by decide +kernel), ⟨by decide, by decide, by decide +kernel⟩, rfl, rfl⟩
theorem iv_X5_keeperAt : Cond.instanceMethod yX5_keeperAt ∈ fw_GW := fw_gw 366 (by decide +kernel) (by decide +kernel)
theorem sv_X5_keeperAt : Cond.selects yX5_keeperAt.cls yX5_keeperAt yX5_keeperAt ∈ fw_GW := fw_gw 367 (by decide +kernel) (by decide +kernel)
theorem ca_X5_letter : fw_cal mm_X5_letter 2 := ⟨fw_gw 360 (by decide +kernel) (by decide +kernel), fw_gw 64 (by decide +kernel) (by decide +kernel), ⟨by decide, by decide, by decide +kernel⟩, rfl, rfl⟩
theorem sx_X5_letter : Cond.static yX5_letter ∈ fw_GW := fw_gw 359 (by decide +kernel) (by decide +kernel)
theorem ca_X5_putDue : fw_cal mm_X5_putDue 1 := ⟨fw_gw 1090 (by decide +kernel) (by decide +kernel), fw_gw 64 (by decide +kernel) (by decide +kernel), ⟨by decide, by decide, by decide +kernel⟩, rfl, rfl⟩
theorem iv_X5_putDue : Cond.instanceMethod yX5_putDue ∈ fw_GW := fw_gw 1088 (by decide +kernel) (by decide +kernel)
theorem sv_X5_putDue : Cond.selects yX5_putDue.cls yX5_putDue yX5_putDue ∈ fw_GW := fw_gw 1089 (by decide +kernel) (by decide +kernel)
theorem ca_X5_recallAt : fw_cal mm_X5_recallAt 1 := ⟨fw_gw 373 (by decide +kernel) (by decide +kernel), fw_gw 64 (by decide +kernel) (by decide +kernel), ⟨by decide, by decide, by decide +kernel⟩, rfl, rfl⟩
theorem iv_X5_recallAt : Cond.instanceMethod yX5_recallAt ∈ fw_GW := fw_gw 371 (by decide +kernel) (by decide +kernel)
theorem sv_X5_recallAt : Cond.selects yX5_recallAt.cls yX5_recallAt yX5_recallAt ∈ fw_GW := fw_gw 372 (by decide +kernel) (by decide +kernel)
theorem ca_X5_reckon : fw_cal mm_X5_reckon 0 := ⟨fw_gw 158 (by decide +kernel) (by decide +kernel), fw_gw 64 (by decide +kernel) (by decide +kernel), ⟨by decide, by decide, by decide +kernel⟩, rfl, rfl⟩
theorem iv_X5_reckon : Cond.instanceMethod yX5_reckon ∈ fw_GW := fw_gw 156 (by decide +kernel) (by decide +kernel)
theorem sv_X5_reckon : Cond.selects yX5_reckon.cls yX5_reckon yX5_reckon ∈ fw_GW := fw_gw 157 (by decide +kernel) (by decide +kernel)
theorem ca_X5_stateAt : fw_cal mm_X5_stateAt 1 := ⟨fw_gw 364 (by decide +kernel) (by decide +kernel), fw_gw 64 (by decide +kernel) (by decide +kernel), ⟨by decide, by decide, by decide +kernel⟩, rfl, rfl⟩
theorem iv_X5_stateAt : Cond.instanceMethod yX5_stateAt ∈ fw_GW := fw_gw 362 (by decide +kernel) (by decide +kernel)
theorem sv_X5_stateAt : Cond.selects yX5_stateAt.cls yX5_stateAt yX5_stateAt ∈ fw_GW := fw_gw 363 (by decide +kernel) (by decide +kernel)
theorem ca_X5_takeAdded : fw_cal mm_X5_takeAdded 1 := ⟨fw_gw 917 (by decide +kernel) (by decide +kernel), fw_gw 64 (by decide +kernel) (by decide +kernel), ⟨by decide, by decide, by decide +kernel⟩, rfl, rfl⟩
theorem iv_X5_takeAdded : Cond.instanceMethod yX5_takeAdded ∈ fw_GW := fw_gw 915 (by decide +kernel) (by decide +kernel)
theorem sv_X5_takeAdded : Cond.selects yX5_takeAdded.cls yX5_takeAdded yX5_takeAdded ∈ fw_GW := fw_gw 916 (by decide +kernel) (by decide +kernel)
theorem ca_X5_takeRecall : fw_cal mm_X5_takeRecall 1 := ⟨fw_gw 1002 (by decide +kernel) (by decide +kernel), fw_gw 64 (by decide +kernel) (by decide +kernel), ⟨by decide, by decide, by decide +kernel⟩, rfl, rfl⟩
theorem iv_X5_takeRecall : Cond.instanceMethod yX5_takeRecall ∈ fw_GW := fw_gw 1000 (by decide +kernel) (by decide +kernel)
theorem sv_X5_takeRecall : Cond.selects yX5_takeRecall.cls yX5_takeRecall yX5_takeRecall ∈ fw_GW := fw_gw 1001 (by decide +kernel) (by decide +kernel)
theorem ca_X5_takeWarrant : fw_cal mm_X5_takeWarrant 1 := ⟨fw_gw 839 (by decide +kernel) (by decide +kernel), fw_gw 64 (by decide +kernel) (by decide +kernel), ⟨by decide, by decide, by decide +kernel⟩, rfl, rfl⟩
theorem iv_X5_takeWarrant : Cond.instanceMethod yX5_takeWarrant ∈ fw_GW := fw_gw 837 (by decide +kernel) (by decide +kernel)
theorem sv_X5_takeWarrant : Cond.selects yX5_takeWarrant.cls yX5_takeWarrant yX5_takeWarrant ∈ fw_GW := fw_gw 838 (by decide +kernel) (by decide +kernel)
theorem ca_X5_waitingWarrants : fw_cal mm_X5_waitingWarrants 0 := ⟨fw_gw 860 (by decide +kernel) (by decide +kernel), fw_gw 64 (by decide +kernel) (by decide +kernel), ⟨by decide, by decide, by decide +kernel⟩, rfl, rfl⟩
theorem iv_X5_waitingWarrants : Cond.instanceMethod yX5_waitingWarrants ∈ fw_GW := fw_gw 858 (by decide +kernel) (by decide +kernel)
theorem sv_X5_waitingWarrants : Cond.selects yX5_waitingWarrants.cls yX5_waitingWarrants yX5_waitingWarrants ∈ fw_GW := fw_gw 859 (by decide +kernel) (by decide +kernel)
theorem ca_X6_init : fw_cal mm_X6_init 4 := ⟨fw_gw 959 (by decide +kernel) (by decide +kernel), fw_gw 77 (by decide +kernel) (by decide +kernel), ⟨by decide, by decide, by decide +kernel⟩, rfl, rfl⟩
theorem iv_X6_init : Cond.instanceMethod yX6_init ∈ fw_GW := fw_gw 958 (by decide +kernel) (by decide +kernel)
theorem ca_X6_firstDayUnlicensed : fw_cal mm_X6_firstDayUnlicensed 0 := ⟨fw_gw 272 (by decide +kernel) (by decide +kernel), fw_gw 77 (by decide +kernel) (by decide +kernel), ⟨by decide, by decide, by decide +kernel⟩, rfl, rfl⟩
theorem iv_X6_firstDayUnlicensed : Cond.instanceMethod yX6_firstDayUnlicensed ∈ fw_GW := fw_gw 270 (by decide +kernel) (by decide +kernel)
theorem sv_X6_firstDayUnlicensed : Cond.selects yX6_firstDayUnlicensed.cls yX6_firstDayUnlicensed yX6_firstDayUnlicensed ∈ fw_GW := fw_gw 4 (by decide +kernel) (by decide +kernel)
theorem ca_X6_latestLicenceEnd : fw_cal mm_X6_latestLicenceEnd 1 := ⟨fw_gw 276 (by decide +kernel) (by decide +kernel), fw_gw 77 (by decide +kernel) (by decide +kernel), ⟨by decide, by decide, by decide +kernel⟩, rfl, rfl⟩
theorem iv_X6_latestLicenceEnd : Cond.instanceMethod yX6_latestLicenceEnd ∈ fw_GW := fw_gw 275 (by decide +kernel) (by decide +kernel)
theorem sv_X6_latestLicenceEnd : Cond.selects yX6_latestLicenceEnd.cls yX6_latestLicenceEnd yX6_latestLicenceEnd ∈ fw_GW := fw_gw 5 (by decide +kernel) (by decide +kernel)
theorem ca_X6_reckon : fw_cal mm_X6_reckon 0 := ⟨fw_gw 267 (by decide +kernel) (by decide +kernel), fw_gw 77 (by decide +kernel) (by decide +kernel), ⟨by decide, by decide, by decide +kernel⟩, rfl, rfl⟩
theorem iv_X6_reckon : Cond.instanceMethod yX6_reckon ∈ fw_GW := fw_gw 265 (by decide +kernel) (by decide +kernel)
theorem sv_X6_reckon : Cond.selects yX6_reckon.cls yX6_reckon yX6_reckon ∈ fw_GW := fw_gw 266 (by decide +kernel) (by decide +kernel)
theorem ca_X7_init : fw_cal mm_X7_init 0 := ⟨fw_gw 727 (by decide +kernel) (by decide +kernel), fw_gw 67 (by decide +kernel) (by decide +kernel), ⟨by decide, by decide, by decide +kernel⟩, rfl, rfl⟩
theorem iv_X7_init : Cond.instanceMethod yX7_init ∈ fw_GW := fw_gw 726 (by decide +kernel) (by decide +kernel)
theorem ca_X7_endOfLicence : fw_cal mm_X7_endOfLicence 1 := ⟨fw_gw 335 (by decide +kernel) (by decide +kernel), fw_gw 67 (by decide +kernel) (by decide +kernel), ⟨by decide, by decide, by decide +kernel⟩, rfl, rfl⟩
theorem iv_X7_endOfLicence : Cond.instanceMethod yX7_endOfLicence ∈ fw_GW := fw_gw 333 (by decide +kernel) (by decide +kernel)
theorem sv_X7_endOfLicence : Cond.selects yX7_endOfLicence.cls yX7_endOfLicence yX7_endOfLicence ∈ fw_GW := fw_gw 7 (by decide +kernel) (by decide +kernel)
theorem ca_X7_licenses : fw_cal mm_X7_licenses 1 := ⟨fw_gw 342 (by decide +kernel) (by decide +kernel), fw_gw 67 (by decide +kernel) (by decide +kernel), ⟨by decide, by decide, by decide +kernel⟩, rfl, rfl⟩
theorem iv_X7_licenses : Cond.instanceMethod yX7_licenses ∈ fw_GW := fw_gw 340 (by decide +kernel) (by decide +kernel)
theorem sv_X7_licenses : Cond.selects yX7_licenses.cls yX7_licenses yX7_licenses ∈ fw_GW := fw_gw 341 (by decide +kernel) (by decide +kernel)
theorem ca_X7_mayBegin : fw_cal mm_X7_mayBegin 2 := ⟨fw_gw 318 (by decide +kernel) (by decide +kernel), fw_gw 67 (by decide +kernel) (by decide +kernel), ⟨by decide, by decide, by decide +kernel⟩, rfl, rfl⟩
theorem sx_X7_mayBegin : Cond.static yX7_mayBegin ∈ fw_GW := fw_gw 317 (by decide +kernel) (by decide +kernel)
theorem ca_X7_mayLeave : fw_cal mm_X7_mayLeave 2 := ⟨fw_gw 329 (by decide +kernel) (by decide +kernel), fw_gw 67 (by decide +kernel) (by decide +kernel), ⟨by decide, by decide, by decide +kernel⟩, rfl, rfl⟩
theorem sx_X7_mayLeave : Cond.static yX7_mayLeave ∈ fw_GW := fw_gw 328 (by decide +kernel) (by decide +kernel)
theorem ca_X7_open : fw_cal mm_X7_open 0 := ⟨fw_gw 303 (by decide +kernel) (by decide +kernel), fw_gw 67 (by decide +kernel) (by decide +kernel), ⟨by decide, by decide, by decide +kernel⟩, rfl, rfl⟩
theorem iv_X7_open : Cond.instanceMethod yX7_open ∈ fw_GW := fw_gw 301 (by decide +kernel) (by decide +kernel)
theorem sv_X7_open : Cond.selects yX7_open.cls yX7_open yX7_open ∈ fw_GW := fw_gw 302 (by decide +kernel) (by decide +kernel)
theorem ca_X7_passDay : fw_cal mm_X7_passDay 3 := ⟨fw_gw 315 (by decide +kernel) (by decide +kernel), fw_gw 67 (by decide +kernel) (by decide +kernel), ⟨by decide, by decide, by decide +kernel⟩, rfl, rfl⟩
theorem iv_X7_passDay : Cond.instanceMethod yX7_passDay ∈ fw_GW := fw_gw 313 (by decide +kernel) (by decide +kernel)
theorem sv_X7_passDay : Cond.selects yX7_passDay.cls yX7_passDay yX7_passDay ∈ fw_GW := fw_gw 314 (by decide +kernel) (by decide +kernel)
theorem ca_X7_putAdded : fw_cal mm_X7_putAdded 2 := ⟨fw_gw 349 (by decide +kernel) (by decide +kernel), fw_gw 67 (by decide +kernel) (by decide +kernel), ⟨by decide, by decide, by decide +kernel⟩, rfl, rfl⟩
theorem iv_X7_putAdded : Cond.instanceMethod yX7_putAdded ∈ fw_GW := fw_gw 347 (by decide +kernel) (by decide +kernel)
theorem sv_X7_putAdded : Cond.selects yX7_putAdded.cls yX7_putAdded yX7_putAdded ∈ fw_GW := fw_gw 348 (by decide +kernel) (by decide +kernel)
theorem ca_X7_runs : fw_cal mm_X7_runs 0 := ⟨fw_gw 326 (by decide +kernel) (by decide +kernel), fw_gw 67 (by decide +kernel) (by decide +kernel), ⟨by decide, by decide, by decide +kernel⟩, rfl, rfl⟩
theorem iv_X7_runs : Cond.instanceMethod yX7_runs ∈ fw_GW := fw_gw 324 (by decide +kernel) (by decide +kernel)
theorem sv_X7_runs : Cond.selects yX7_runs.cls yX7_runs yX7_runs ∈ fw_GW := fw_gw 325 (by decide +kernel) (by decide +kernel)
theorem ca_X8_init : fw_cal mm_X8_init 3 := ⟨fw_gw 494 (by decide +kernel) (by decide +kernel), fw_gw 49 (by decide +kernel) (by decide +kernel), ⟨by decide, by decide, by decide +kernel⟩, rfl, rfl⟩
theorem iv_X8_init : Cond.instanceMethod yX8_init ∈ fw_GW := fw_gw 493 (by decide +kernel) (by decide +kernel)
theorem ca_X8_spanFrom : fw_cal mm_X8_spanFrom 1 := ⟨fw_gw 187 (by decide +kernel) (by decide +kernel), fw_gw 49 (by decide +kernel) (by decide +kernel), ⟨by decide, by decide, by decide +kernel⟩, rfl, rfl⟩
theorem iv_X8_spanFrom : Cond.instanceMethod yX8_spanFrom ∈ fw_GW := fw_gw 185 (by decide +kernel) (by decide +kernel)
theorem sv_X8_spanFrom : Cond.selects yX8_spanFrom.cls yX8_spanFrom yX8_spanFrom ∈ fw_GW := fw_gw 186 (by decide +kernel) (by decide +kernel)
theorem ca_X9_init : fw_cal mm_X9_init 7 := ⟨fw_gw 722 (by decide +kernel) (by decide +kernel), fw_gw 66 (by decide +kernel) (by decide +kernel), ⟨by decide, by decide, by decide +kernel⟩, rfl, rfl⟩
theorem iv_X9_init : Cond.instanceMethod yX9_init ∈ fw_GW := fw_gw 721 (by decide +kernel) (by decide +kernel)
theorem ca_X9_apply : fw_cal mm_X9_apply 1 := ⟨fw_gw 561 (by decide +kernel) (by decide +kernel), fw_gw 66 (by decide +kernel) (by decide +kernel), ⟨by decide, by decide, by decide +kernel⟩, rfl, rfl⟩
theorem iv_X9_apply : Cond.instanceMethod yX9_apply ∈ fw_GW := fw_gw 559 (by decide +kernel) (by decide +kernel)
theorem sv_X9_apply : Cond.selects yX9_apply.cls yX9_apply yX9_apply ∈ fw_GW := fw_gw 560 (by decide +kernel) (by decide +kernel)
theorem ca_X9_countedDays : fw_cal mm_X9_countedDays 0 := ⟨fw_gw 218 (by decide +kernel) (by decide +kernel), fw_gw 66 (by decide +kernel) (by decide +kernel), ⟨by decide, by decide, by decide +kernel⟩, rfl, rfl⟩
theorem iv_X9_countedDays : Cond.instanceMethod yX9_countedDays ∈ fw_GW := fw_gw 216 (by decide +kernel) (by decide +kernel)
theorem sv_X9_countedDays : Cond.selects yX9_countedDays.cls yX9_countedDays yX9_countedDays ∈ fw_GW := fw_gw 217 (by decide +kernel) (by decide +kernel)
theorem ca_X9_counts : fw_cal mm_X9_counts 0 := ⟨fw_gw 171 (by decide +kernel) (by decide +kernel), fw_gw 66 (by decide +kernel) (by decide +kernel), ⟨by decide, by decide, by decide +kernel⟩, rfl, rfl⟩
theorem iv_X9_counts : Cond.instanceMethod yX9_counts ∈ fw_GW := fw_gw 169 (by decide +kernel) (by decide +kernel)
theorem sv_X9_counts : Cond.selects yX9_counts.cls yX9_counts yX9_counts ∈ fw_GW := fw_gw 170 (by decide +kernel) (by decide +kernel)
theorem ca_X9_endAfter : fw_cal mm_X9_endAfter 1 := ⟨fw_gw 255 (by decide +kernel) (by decide +kernel), fw_gw 66 (by decide +kernel) (by decide +kernel), ⟨by decide, by decide, by decide +kernel⟩, rfl, rfl⟩
theorem iv_X9_endAfter : Cond.instanceMethod yX9_endAfter ∈ fw_GW := fw_gw 254 (by decide +kernel) (by decide +kernel)
theorem sv_X9_endAfter : Cond.selects yX9_endAfter.cls yX9_endAfter yX9_endAfter ∈ fw_GW := fw_gw 3 (by decide +kernel) (by decide +kernel)
theorem ca_X9_isLikeFixed : fw_cal mm_X9_isLikeFixed 0 := ⟨fw_gw 214 (by decide +kernel) (by decide +kernel), fw_gw 66 (by decide +kernel) (by decide +kernel), ⟨by decide, by decide, by decide +kernel⟩, rfl, rfl⟩
theorem iv_X9_isLikeFixed : Cond.instanceMethod yX9_isLikeFixed ∈ fw_GW := fw_gw 212 (by decide +kernel) (by decide +kernel)
theorem sv_X9_isLikeFixed : Cond.selects yX9_isLikeFixed.cls yX9_isLikeFixed yX9_isLikeFixed ∈ fw_GW := fw_gw 213 (by decide +kernel) (by decide +kernel)
theorem ca_X9_keepsOn : fw_cal mm_X9_keepsOn 1 := ⟨fw_gw 246 (by decide +kernel) (by decide +kernel), fw_gw 66 (by decide +kernel) (by decide +kernel), ⟨by decide, by decide, by decide +kernel⟩, rfl, rfl⟩
theorem iv_X9_keepsOn : Cond.instanceMethod yX9_keepsOn ∈ fw_GW := fw_gw 244 (by decide +kernel) (by decide +kernel)
theorem sv_X9_keepsOn : Cond.selects yX9_keepsOn.cls yX9_keepsOn yX9_keepsOn ∈ fw_GW := fw_gw 245 (by decide +kernel) (by decide +kernel)
theorem ca_X9_licensesOn : fw_cal mm_X9_licensesOn 1 := ⟨fw_gw 280 (by decide +kernel) (by decide +kernel), fw_gw 66 (by decide +kernel) (by decide +kernel), ⟨by decide, by decide, by decide +kernel⟩, rfl, rfl⟩
theorem iv_X9_licensesOn : Cond.instanceMethod yX9_licensesOn ∈ fw_GW := fw_gw 278 (by decide +kernel) (by decide +kernel)
theorem sv_X9_licensesOn : Cond.selects yX9_licensesOn.cls yX9_licensesOn yX9_licensesOn ∈ fw_GW := fw_gw 279 (by decide +kernel) (by decide +kernel)
theorem ca_X9_mostNeededOf : fw_cal mm_X9_mostNeededOf 1 := ⟨fw_gw 250 (by decide +kernel) (by decide +kernel), fw_gw 66 (by decide +kernel) (by decide +kernel), ⟨by decide, by decide, by decide +kernel⟩, rfl, rfl⟩
theorem iv_X9_mostNeededOf : Cond.instanceMethod yX9_mostNeededOf ∈ fw_GW := fw_gw 248 (by decide +kernel) (by decide +kernel)
theorem sv_X9_mostNeededOf : Cond.selects yX9_mostNeededOf.cls yX9_mostNeededOf yX9_mostNeededOf ∈ fw_GW := fw_gw 249 (by decide +kernel) (by decide +kernel)
theorem ca_X9_neededOf : fw_cal mm_X9_neededOf 1 := ⟨fw_gw 210 (by decide +kernel) (by decide +kernel), fw_gw 66 (by decide +kernel) (by decide +kernel), ⟨by decide, by decide, by decide +kernel⟩, rfl, rfl⟩
theorem iv_X9_neededOf : Cond.instanceMethod yX9_neededOf ∈ fw_GW := fw_gw 208 (by decide +kernel) (by decide +kernel)
theorem sv_X9_neededOf : Cond.selects yX9_neededOf.cls yX9_neededOf yX9_neededOf ∈ fw_GW := fw_gw 209 (by decide +kernel) (by decide +kernel)
theorem ca_X9_needsYes : fw_cal mm_X9_needsYes 0 := ⟨fw_gw 242 (by decide +kernel) (by decide +kernel), fw_gw 66 (by decide +kernel) (by decide +kernel), ⟨by decide, by decide, by decide +kernel⟩, rfl, rfl⟩
theorem iv_X9_needsYes : Cond.instanceMethod yX9_needsYes ∈ fw_GW := fw_gw 240 (by decide +kernel) (by decide +kernel)
theorem sv_X9_needsYes : Cond.selects yX9_needsYes.cls yX9_needsYes yX9_needsYes ∈ fw_GW := fw_gw 241 (by decide +kernel) (by decide +kernel)
theorem ca_X9_ownDay : fw_cal mm_X9_ownDay 0 := ⟨fw_gw 180 (by decide +kernel) (by decide +kernel), fw_gw 66 (by decide +kernel) (by decide +kernel), ⟨by decide, by decide, by decide +kernel⟩, rfl, rfl⟩
theorem iv_X9_ownDay : Cond.instanceMethod yX9_ownDay ∈ fw_GW := fw_gw 178 (by decide +kernel) (by decide +kernel)
theorem sv_X9_ownDay : Cond.selects yX9_ownDay.cls yX9_ownDay yX9_ownDay ∈ fw_GW := fw_gw 179 (by decide +kernel) (by decide +kernel)
theorem ca_X9_reckon : fw_cal mm_X9_reckon 0 := ⟨fw_gw 162 (by decide +kernel) (by decide +kernel), fw_gw 66 (by decide +kernel) (by decide +kernel), ⟨by decide, by decide, by decide +kernel⟩, rfl, rfl⟩
theorem iv_X9_reckon : Cond.instanceMethod yX9_reckon ∈ fw_GW := fw_gw 160 (by decide +kernel) (by decide +kernel)
theorem sv_X9_reckon : Cond.selects yX9_reckon.cls yX9_reckon yX9_reckon ∈ fw_GW := fw_gw 161 (by decide +kernel) (by decide +kernel)
theorem ca_X9_reckonBegin : fw_cal mm_X9_reckonBegin 0 := ⟨fw_gw 167 (by decide +kernel) (by decide +kernel), fw_gw 66 (by decide +kernel) (by decide +kernel), ⟨by decide, by decide, by decide +kernel⟩, rfl, rfl⟩
theorem iv_X9_reckonBegin : Cond.instanceMethod yX9_reckonBegin ∈ fw_GW := fw_gw 165 (by decide +kernel) (by decide +kernel)
theorem sv_X9_reckonBegin : Cond.selects yX9_reckonBegin.cls yX9_reckonBegin yX9_reckonBegin ∈ fw_GW := fw_gw 1 (by decide +kernel) (by decide +kernel)
theorem ca_X9_releaseAfter : fw_cal mm_X9_releaseAfter 1 := ⟨fw_gw 222 (by decide +kernel) (by decide +kernel), fw_gw 66 (by decide +kernel) (by decide +kernel), ⟨by decide, by decide, by decide +kernel⟩, rfl, rfl⟩
theorem iv_X9_releaseAfter : Cond.instanceMethod yX9_releaseAfter ∈ fw_GW := fw_gw 221 (by decide +kernel) (by decide +kernel)
theorem sv_X9_releaseAfter : Cond.selects yX9_releaseAfter.cls yX9_releaseAfter yX9_releaseAfter ∈ fw_GW := fw_gw 2 (by decide +kernel) (by decide +kernel)
theorem ca_X9_waits : fw_cal mm_X9_waits 0 := ⟨fw_gw 175 (by decide +kernel) (by decide +kernel), fw_gw 66 (by decide +kernel) (by decide +kernel), ⟨by decide, by decide, by decide +kernel⟩, rfl, rfl⟩
theorem iv_X9_waits : Cond.instanceMethod yX9_waits ∈ fw_GW := fw_gw 173 (by decide +kernel) (by decide +kernel)
theorem sv_X9_waits : Cond.selects yX9_waits.cls yX9_waits yX9_waits ∈ fw_GW := fw_gw 174 (by decide +kernel) (by decide +kernel)
theorem sx_L_activate : Cond.static yL_activate ∈ fw_GW := fw_gw 849 (by decide +kernel) (by decide +kernel)
theorem sx_L_add : Cond.static yL_add ∈ fw_GW := fw_gw 884 (by decide +kernel) (by decide +kernel)
theorem sx_L_approve : Cond.static yL_approve ∈ fw_GW := fw_gw 877 (by decide +kernel) (by decide +kernel)
theorem sx_L_atLarge : Cond.static yL_atLarge ∈ fw_GW := fw_gw 931 (by decide +kernel) (by decide +kernel)
theorem sx_L_begins : Cond.static yL_begins ∈ fw_GW := fw_gw 1013 (by decide +kernel) (by decide +kernel)
theorem sx_L_byClerk : Cond.static yL_byClerk ∈ fw_GW := fw_gw 1055 (by decide +kernel) (by decide +kernel)
theorem sx_L_count : Cond.static yL_count ∈ fw_GW := fw_gw 841 (by decide +kernel) (by decide +kernel)
theorem sx_L_dateOf : Cond.static yL_dateOf ∈ fw_GW := fw_gw 473 (by decide +kernel) (by decide +kernel)
theorem sx_L_dayOf : Cond.static yL_dayOf ∈ fw_GW := fw_gw 382 (by decide +kernel) (by decide +kernel)
theorem sx_L_end : Cond.static yL_end ∈ fw_GW := fw_gw 1040 (by decide +kernel) (by decide +kernel)
theorem sx_L_giveBack : Cond.static yL_giveBack ∈ fw_GW := fw_gw 919 (by decide +kernel) (by decide +kernel)
theorem sx_L_held : Cond.static yL_held ∈ fw_GW := fw_gw 1074 (by decide +kernel) (by decide +kernel)
theorem sx_L_keeper : Cond.static yL_keeper ∈ fw_GW := fw_gw 1065 (by decide +kernel) (by decide +kernel)
theorem sx_L_law : Cond.static yL_law ∈ fw_GW := fw_gw 508 (by decide +kernel) (by decide +kernel)
theorem sx_L_lawOf : Cond.static yL_lawOf ∈ fw_GW := fw_gw 563 (by decide +kernel) (by decide +kernel)
theorem sx_L_length : Cond.static yL_length ∈ fw_GW := fw_gw 481 (by decide +kernel) (by decide +kernel)
theorem sx_L_letGo : Cond.static yL_letGo ∈ fw_GW := fw_gw 1004 (by decide +kernel) (by decide +kernel)
theorem sx_L_meanNeeded : Cond.static yL_meanNeeded ∈ fw_GW := fw_gw 1136 (by decide +kernel) (by decide +kernel)
theorem sx_L_needed : Cond.static yL_needed ∈ fw_GW := fw_gw 1025 (by decide +kernel) (by decide +kernel)
theorem sx_L_person : Cond.static yL_person ∈ fw_GW := fw_gw 646 (by decide +kernel) (by decide +kernel)
theorem sx_L_prisonShare : Cond.static yL_prisonShare ∈ fw_GW := fw_gw 1112 (by decide +kernel) (by decide +kernel)
theorem sx_L_quash : Cond.static yL_quash ∈ fw_GW := fw_gw 870 (by decide +kernel) (by decide +kernel)
theorem sx_L_recall : Cond.static yL_recall ∈ fw_GW := fw_gw 946 (by decide +kernel) (by decide +kernel)
theorem sx_L_release : Cond.static yL_release ∈ fw_GW := fw_gw 1032 (by decide +kernel) (by decide +kernel)
theorem sx_L_stateOn : Cond.static yL_stateOn ∈ fw_GW := fw_gw 1048 (by decide +kernel) (by decide +kernel)
theorem sx_L_tooLong : Cond.static yL_tooLong ∈ fw_GW := fw_gw 1081 (by decide +kernel) (by decide +kernel)
theorem sx_L_tooShort : Cond.static yL_tooShort ∈ fw_GW := fw_gw 1101 (by decide +kernel) (by decide +kernel)
theorem sx_L_vary : Cond.static yL_vary ∈ fw_GW := fw_gw 863 (by decide +kernel) (by decide +kernel)
theorem sx_L_warrant : Cond.static yL_warrant ∈ fw_GW := fw_gw 699 (by decide +kernel) (by decide +kernel)
theorem ca_X17_init : fw_cal mm_X17_init 0 := ⟨fw_gw 1147 (by decide +kernel) (by decide +kernel), fw_gw 40 (by decide +kernel) (by decide +kernel), ⟨by decide, by decide, by decide +kernel⟩, rfl, rfl⟩
theorem iv_X17_init : Cond.instanceMethod yX17_init ∈ fw_GW := fw_gw 1146 (by decide +kernel) (by decide +kernel)
theorem ca_X17_activate : fw_cal mm_X17_activate 2 := ⟨fw_gw 1568 (by decide +kernel) (by decide +kernel), fw_gw 40 (by decide +kernel) (by decide +kernel), ⟨by decide, by decide, by decide +kernel⟩, rfl, rfl⟩
theorem iv_X17_activate : Cond.instanceMethod yX17_activate ∈ fw_GW := fw_gw 1566 (by decide +kernel) (by decide +kernel)
theorem sv_X17_activate : Cond.selects yX17_activate.cls yX17_activate yX17_activate ∈ fw_GW := fw_gw 1567 (by decide +kernel) (by decide +kernel)
theorem ca_X17_add : fw_cal mm_X17_add 3 := ⟨fw_gw 1646 (by decide +kernel) (by decide +kernel), fw_gw 40 (by decide +kernel) (by decide +kernel), ⟨by decide, by decide, by decide +kernel⟩, rfl, rfl⟩
theorem iv_X17_add : Cond.instanceMethod yX17_add ∈ fw_GW := fw_gw 1644 (by decide +kernel) (by decide +kernel)
theorem sv_X17_add : Cond.selects yX17_add.cls yX17_add yX17_add ∈ fw_GW := fw_gw 1645 (by decide +kernel) (by decide +kernel)
theorem ca_X17_addedOf : fw_cal mm_X17_addedOf 1 := ⟨fw_gw 1733 (by decide +kernel) (by decide +kernel), fw_gw 40 (by decide +kernel) (by decide +kernel), ⟨by decide, by decide, by decide +kernel⟩, rfl, rfl⟩
theorem iv_X17_addedOf : Cond.instanceMethod yX17_addedOf ∈ fw_GW := fw_gw 1732 (by decide +kernel) (by decide +kernel)
theorem sv_X17_addedOf : Cond.selects yX17_addedOf.cls yX17_addedOf yX17_addedOf ∈ fw_GW := fw_gw 25 (by decide +kernel) (by decide +kernel)
theorem ca_X17_approve : fw_cal mm_X17_approve 2 := ⟨fw_gw 1642 (by decide +kernel) (by decide +kernel), fw_gw 40 (by decide +kernel) (by decide +kernel), ⟨by decide, by decide, by decide +kernel⟩, rfl, rfl⟩
theorem iv_X17_approve : Cond.instanceMethod yX17_approve ∈ fw_GW := fw_gw 1640 (by decide +kernel) (by decide +kernel)
theorem sv_X17_approve : Cond.selects yX17_approve.cls yX17_approve yX17_approve ∈ fw_GW := fw_gw 1641 (by decide +kernel) (by decide +kernel)
theorem ca_X17_areSpan : fw_cal mm_X17_areSpan 2 := ⟨fw_gw 1680 (by decide +kernel) (by decide +kernel), fw_gw 40 (by decide +kernel) (by decide +kernel), ⟨by decide, by decide, by decide +kernel⟩, rfl, rfl⟩
theorem sx_X17_areSpan : Cond.static yX17_areSpan ∈ fw_GW := fw_gw 1679 (by decide +kernel) (by decide +kernel)
theorem ca_X17_areTerm : fw_cal mm_X17_areTerm 3 := ⟨fw_gw 1234 (by decide +kernel) (by decide +kernel), fw_gw 40 (by decide +kernel) (by decide +kernel), ⟨by decide, by decide, by decide +kernel⟩, rfl, rfl⟩
theorem sx_X17_areTerm : Cond.static yX17_areTerm ∈ fw_GW := fw_gw 1233 (by decide +kernel) (by decide +kernel)
theorem ca_X17_atLarge : fw_cal mm_X17_atLarge 3 := ⟨fw_gw 1677 (by decide +kernel) (by decide +kernel), fw_gw 40 (by decide +kernel) (by decide +kernel), ⟨by decide, by decide, by decide +kernel⟩, rfl, rfl⟩
theorem iv_X17_atLarge : Cond.instanceMethod yX17_atLarge ∈ fw_GW := fw_gw 1675 (by decide +kernel) (by decide +kernel)
theorem sv_X17_atLarge : Cond.selects yX17_atLarge.cls yX17_atLarge yX17_atLarge ∈ fw_GW := fw_gw 1676 (by decide +kernel) (by decide +kernel)
theorem ca_X17_begins : fw_cal mm_X17_begins 1 := ⟨fw_gw 2004 (by decide +kernel) (by decide +kernel), fw_gw 40 (by decide +kernel) (by decide +kernel), ⟨by decide, by decide, by decide +kernel⟩, rfl, rfl⟩
theorem iv_X17_begins : Cond.instanceMethod yX17_begins ∈ fw_GW := fw_gw 2002 (by decide +kernel) (by decide +kernel)
theorem sv_X17_begins : Cond.selects yX17_begins.cls yX17_begins yX17_begins ∈ fw_GW := fw_gw 2003 (by decide +kernel) (by decide +kernel)
theorem ca_X17_begun : fw_cal mm_X17_begun 1 := ⟨fw_gw 2008 (by decide +kernel) (by decide +kernel), fw_gw 40 (by decide +kernel) (by decide +kernel), ⟨by decide, by decide, by decide +kernel⟩, rfl, rfl⟩
theorem iv_X17_begun : Cond.instanceMethod yX17_begun ∈ fw_GW := fw_gw 2007 (by decide +kernel) (by decide +kernel)
theorem sv_X17_begun : Cond.selects yX17_begun.cls yX17_begun yX17_begun ∈ fw_GW := fw_gw 33 (by decide +kernel) (by decide +kernel)
theorem ca_X17_byClerk : fw_cal mm_X17_byClerk 2 := ⟨fw_gw 2028 (by decide +kernel) (by decide +kernel), fw_gw 40 (by decide +kernel) (by decide +kernel), ⟨by decide, by decide, by decide +kernel⟩, rfl, rfl⟩
theorem iv_X17_byClerk : Cond.instanceMethod yX17_byClerk ∈ fw_GW := fw_gw 2026 (by decide +kernel) (by decide +kernel)
theorem sv_X17_byClerk : Cond.selects yX17_byClerk.cls yX17_byClerk yX17_byClerk ∈ fw_GW := fw_gw 2027 (by decide +kernel) (by decide +kernel)
theorem ca_X17_count : fw_cal mm_X17_count 3 := ⟨fw_gw 1560 (by decide +kernel) (by decide +kernel), fw_gw 40 (by decide +kernel) (by decide +kernel), ⟨by decide, by decide, by decide +kernel⟩, rfl, rfl⟩
end
section
/-! TABLES: methods, rows, words -/
theorem iv_X17_count : Cond.instanceMethod yX17_count ∈ fw_GW := fw_gw 1558 (by decide +kernel) (by decide +kernel)
theorem sv_X17_count : Cond.selects yX17_count.cls yX17_count yX17_count ∈ fw_GW := fw_gw 1559 (by decide +kernel) (by decide +kernel)
theorem ca_X17_counted : fw_cal mm_X17_counted 4 := ⟨fw_gw 2046 (by decide +kernel) (by decide +kernel), fw_gw 40 (by decide +kernel) (by decide +kernel), ⟨by decide, by decide, by decide +kernel⟩, rfl, rfl⟩
theorem iv_X17_counted : Cond.instanceMethod yX17_counted ∈ fw_GW := fw_gw 2045 (by decide +kernel) (by decide +kernel)
theorem sv_X17_counted : Cond.selects yX17_counted.cls yX17_counted yX17_counted ∈ fw_GW := fw_gw 34 (by decide +kernel) (by decide +kernel)
theorem ca_X17_dateOf : fw_cal mm_X17_dateOf 1 := ⟨fw_gw 1220 (by decide +kernel) (by decide +kernel), fw_gw 40 (by decide +kernel) (by decide +kernel), ⟨by decide, by decide, by decide +kernel⟩, rfl, rfl⟩
theorem iv_X17_dateOf : Cond.instanceMethod yX17_dateOf ∈ fw_GW := fw_gw 1218 (by decide +kernel) (by decide +kernel)
theorem sv_X17_dateOf : Cond.selects yX17_dateOf.cls yX17_dateOf yX17_dateOf ∈ fw_GW := fw_gw 1219 (by decide +kernel) (by decide +kernel)
theorem ca_X17_dayOf : fw_cal mm_X17_dayOf 3 := ⟨fw_gw 1204 (by decide +kernel) (by decide +kernel), fw_gw 40 (by decide +kernel) (by decide +kernel), ⟨by decide, by decide, by decide +kernel⟩, rfl, rfl⟩
theorem iv_X17_dayOf : Cond.instanceMethod yX17_dayOf ∈ fw_GW := fw_gw 1202 (by decide +kernel) (by decide +kernel)
theorem sv_X17_dayOf : Cond.selects yX17_dayOf.cls yX17_dayOf yX17_dayOf ∈ fw_GW := fw_gw 1203 (by decide +kernel) (by decide +kernel)
theorem ca_X17_daysOf : fw_cal mm_X17_daysOf 2 := ⟨fw_gw 1210 (by decide +kernel) (by decide +kernel), fw_gw 40 (by decide +kernel) (by decide +kernel), ⟨by decide, by decide, by decide +kernel⟩, rfl, rfl⟩
theorem sx_X17_daysOf : Cond.static yX17_daysOf ∈ fw_GW := fw_gw 1209 (by decide +kernel) (by decide +kernel)
theorem ca_X17_end : fw_cal mm_X17_end 1 := ⟨fw_gw 2020 (by decide +kernel) (by decide +kernel), fw_gw 40 (by decide +kernel) (by decide +kernel), ⟨by decide, by decide, by decide +kernel⟩, rfl, rfl⟩
theorem iv_X17_end : Cond.instanceMethod yX17_end ∈ fw_GW := fw_gw 2018 (by decide +kernel) (by decide +kernel)
theorem sv_X17_end : Cond.selects yX17_end.cls yX17_end yX17_end ∈ fw_GW := fw_gw 2019 (by decide +kernel) (by decide +kernel)
theorem ca_X17_endOf : fw_cal mm_X17_endOf 2 := ⟨fw_gw 2050 (by decide +kernel) (by decide +kernel), fw_gw 40 (by decide +kernel) (by decide +kernel), ⟨by decide, by decide, by decide +kernel⟩, rfl, rfl⟩
theorem iv_X17_endOf : Cond.instanceMethod yX17_endOf ∈ fw_GW := fw_gw 2049 (by decide +kernel) (by decide +kernel)
theorem sv_X17_endOf : Cond.selects yX17_endOf.cls yX17_endOf yX17_endOf ∈ fw_GW := fw_gw 35 (by decide +kernel) (by decide +kernel)
theorem ca_X17_factOf : fw_cal mm_X17_factOf 2 := ⟨fw_gw 1698 (by decide +kernel) (by decide +kernel), fw_gw 40 (by decide +kernel) (by decide +kernel), ⟨by decide, by decide, by decide +kernel⟩, rfl, rfl⟩
theorem iv_X17_factOf : Cond.instanceMethod yX17_factOf ∈ fw_GW := fw_gw 1697 (by decide +kernel) (by decide +kernel)
theorem sv_X17_factOf : Cond.selects yX17_factOf.cls yX17_factOf yX17_factOf ∈ fw_GW := fw_gw 24 (by decide +kernel) (by decide +kernel)
theorem ca_X17_facts : fw_cal mm_X17_facts 0 := ⟨fw_gw 1692 (by decide +kernel) (by decide +kernel), fw_gw 40 (by decide +kernel) (by decide +kernel), ⟨by decide, by decide, by decide +kernel⟩, rfl, rfl⟩
theorem iv_X17_facts : Cond.instanceMethod yX17_facts ∈ fw_GW := fw_gw 1691 (by decide +kernel) (by decide +kernel)
theorem sv_X17_facts : Cond.selects yX17_facts.cls yX17_facts yX17_facts ∈ fw_GW := fw_gw 23 (by decide +kernel) (by decide +kernel)
theorem ca_X17_fast : fw_cal mm_X17_fast 4 := ⟨fw_gw 2054 (by decide +kernel) (by decide +kernel), fw_gw 40 (by decide +kernel) (by decide +kernel), ⟨by decide, by decide, by decide +kernel⟩, rfl, rfl⟩
theorem iv_X17_fast : Cond.instanceMethod yX17_fast ∈ fw_GW := fw_gw 2053 (by decide +kernel) (by decide +kernel)
theorem sv_X17_fast : Cond.selects yX17_fast.cls yX17_fast yX17_fast ∈ fw_GW := fw_gw 36 (by decide +kernel) (by decide +kernel)
theorem ca_X17_firstOf : fw_cal mm_X17_firstOf 1 := ⟨fw_gw 1216 (by decide +kernel) (by decide +kernel), fw_gw 40 (by decide +kernel) (by decide +kernel), ⟨by decide, by decide, by decide +kernel⟩, rfl, rfl⟩
theorem sx_X17_firstOf : Cond.static yX17_firstOf ∈ fw_GW := fw_gw 1215 (by decide +kernel) (by decide +kernel)
theorem ca_X17_giveBack : fw_cal mm_X17_giveBack 2 := ⟨fw_gw 1673 (by decide +kernel) (by decide +kernel), fw_gw 40 (by decide +kernel) (by decide +kernel), ⟨by decide, by decide, by decide +kernel⟩, rfl, rfl⟩
theorem iv_X17_giveBack : Cond.instanceMethod yX17_giveBack ∈ fw_GW := fw_gw 1671 (by decide +kernel) (by decide +kernel)
theorem sv_X17_giveBack : Cond.selects yX17_giveBack.cls yX17_giveBack yX17_giveBack ∈ fw_GW := fw_gw 1672 (by decide +kernel) (by decide +kernel)
theorem ca_X17_goesOn : fw_cal mm_X17_goesOn 3 := ⟨fw_gw 1966 (by decide +kernel) (by decide +kernel), fw_gw 40 (by decide +kernel) (by decide +kernel), ⟨by decide, by decide, by decide +kernel⟩, rfl, rfl⟩
theorem iv_X17_goesOn : Cond.instanceMethod yX17_goesOn ∈ fw_GW := fw_gw 1965 (by decide +kernel) (by decide +kernel)
theorem sv_X17_goesOn : Cond.selects yX17_goesOn.cls yX17_goesOn yX17_goesOn ∈ fw_GW := fw_gw 31 (by decide +kernel) (by decide +kernel)
theorem ca_X17_hasLicence : fw_cal mm_X17_hasLicence 3 := ⟨fw_gw 1961 (by decide +kernel) (by decide +kernel), fw_gw 40 (by decide +kernel) (by decide +kernel), ⟨by decide, by decide, by decide +kernel⟩, rfl, rfl⟩
theorem sx_X17_hasLicence : Cond.static yX17_hasLicence ∈ fw_GW := fw_gw 1960 (by decide +kernel) (by decide +kernel)
theorem ca_X17_held : fw_cal mm_X17_held 3 := ⟨fw_gw 2037 (by decide +kernel) (by decide +kernel), fw_gw 40 (by decide +kernel) (by decide +kernel), ⟨by decide, by decide, by decide +kernel⟩, rfl, rfl⟩
theorem iv_X17_held : Cond.instanceMethod yX17_held ∈ fw_GW := fw_gw 2035 (by decide +kernel) (by decide +kernel)
theorem sv_X17_held : Cond.selects yX17_held.cls yX17_held yX17_held ∈ fw_GW := fw_gw 2036 (by decide +kernel) (by decide +kernel)
theorem ca_X17_in : fw_cal mm_X17_in 3 := ⟨fw_gw 1207 (by decide +kernel) (by decide +kernel), fw_gw 40 (by decide +kernel) (by decide +kernel), ⟨by decide, by decide, by decide +kernel⟩, rfl, rfl⟩
theorem sx_X17_in : Cond.static yX17_in ∈ fw_GW := fw_gw 1206 (by decide +kernel) (by decide +kernel)
theorem ca_X17_isIn : fw_cal mm_X17_isIn 3 := ⟨fw_gw 1970 (by decide +kernel) (by decide +kernel), fw_gw 40 (by decide +kernel) (by decide +kernel), ⟨by decide, by decide, by decide +kernel⟩, rfl, rfl⟩
theorem iv_X17_isIn : Cond.instanceMethod yX17_isIn ∈ fw_GW := fw_gw 1969 (by decide +kernel) (by decide +kernel)
theorem sv_X17_isIn : Cond.selects yX17_isIn.cls yX17_isIn yX17_isIn ∈ fw_GW := fw_gw 32 (by decide +kernel) (by decide +kernel)
theorem ca_X17_isLeap : fw_cal mm_X17_isLeap 1 := ⟨fw_gw 1213 (by decide +kernel) (by decide +kernel), fw_gw 40 (by decide +kernel) (by decide +kernel), ⟨by decide, by decide, by decide +kernel⟩, rfl, rfl⟩
theorem sx_X17_isLeap : Cond.static yX17_isLeap ∈ fw_GW := fw_gw 1212 (by decide +kernel) (by decide +kernel)
theorem ca_X17_isLicensed : fw_cal mm_X17_isLicensed 4 := ⟨fw_gw 1958 (by decide +kernel) (by decide +kernel), fw_gw 40 (by decide +kernel) (by decide +kernel), ⟨by decide, by decide, by decide +kernel⟩, rfl, rfl⟩
theorem iv_X17_isLicensed : Cond.instanceMethod yX17_isLicensed ∈ fw_GW := fw_gw 1957 (by decide +kernel) (by decide +kernel)
theorem sv_X17_isLicensed : Cond.selects yX17_isLicensed.cls yX17_isLicensed yX17_isLicensed ∈ fw_GW := fw_gw 30 (by decide +kernel) (by decide +kernel)
theorem ca_X17_isPerson : fw_cal mm_X17_isPerson 1 := ⟨fw_gw 1411 (by decide +kernel) (by decide +kernel), fw_gw 40 (by decide +kernel) (by decide +kernel), ⟨by decide, by decide, by decide +kernel⟩, rfl, rfl⟩
theorem iv_X17_isPerson : Cond.instanceMethod yX17_isPerson ∈ fw_GW := fw_gw 1410 (by decide +kernel) (by decide +kernel)
theorem sv_X17_isPerson : Cond.selects yX17_isPerson.cls yX17_isPerson yX17_isPerson ∈ fw_GW := fw_gw 20 (by decide +kernel) (by decide +kernel)
theorem ca_X17_isTrue : fw_cal mm_X17_isTrue 0 := ⟨fw_gw 2083 (by decide +kernel) (by decide +kernel), fw_gw 40 (by decide +kernel) (by decide +kernel), ⟨by decide, by decide, by decide +kernel⟩, rfl, rfl⟩
theorem iv_X17_isTrue : Cond.instanceMethod yX17_isTrue ∈ fw_GW := fw_gw 2081 (by decide +kernel) (by decide +kernel)
theorem sv_X17_isTrue : Cond.selects yX17_isTrue.cls yX17_isTrue yX17_isTrue ∈ fw_GW := fw_gw 2082 (by decide +kernel) (by decide +kernel)
theorem ca_X17_isWarrant : fw_cal mm_X17_isWarrant 1 := ⟨fw_gw 1351 (by decide +kernel) (by decide +kernel), fw_gw 40 (by decide +kernel) (by decide +kernel), ⟨by decide, by decide, by decide +kernel⟩, rfl, rfl⟩
theorem iv_X17_isWarrant : Cond.instanceMethod yX17_isWarrant ∈ fw_GW := fw_gw 1350 (by decide +kernel) (by decide +kernel)
theorem sv_X17_isWarrant : Cond.selects yX17_isWarrant.cls yX17_isWarrant yX17_isWarrant ∈ fw_GW := fw_gw 18 (by decide +kernel) (by decide +kernel)
theorem ca_X17_keeper : fw_cal mm_X17_keeper 2 := ⟨fw_gw 2033 (by decide +kernel) (by decide +kernel), fw_gw 40 (by decide +kernel) (by decide +kernel), ⟨by decide, by decide, by decide +kernel⟩, rfl, rfl⟩
theorem iv_X17_keeper : Cond.instanceMethod yX17_keeper ∈ fw_GW := fw_gw 2031 (by decide +kernel) (by decide +kernel)
theorem sv_X17_keeper : Cond.selects yX17_keeper.cls yX17_keeper yX17_keeper ∈ fw_GW := fw_gw 2032 (by decide +kernel) (by decide +kernel)
theorem ca_X17_law : fw_cal mm_X17_law 4 := ⟨fw_gw 1242 (by decide +kernel) (by decide +kernel), fw_gw 40 (by decide +kernel) (by decide +kernel), ⟨by decide, by decide, by decide +kernel⟩, rfl, rfl⟩
theorem iv_X17_law : Cond.instanceMethod yX17_law ∈ fw_GW := fw_gw 1240 (by decide +kernel) (by decide +kernel)
theorem sv_X17_law : Cond.selects yX17_law.cls yX17_law yX17_law ∈ fw_GW := fw_gw 1241 (by decide +kernel) (by decide +kernel)
theorem ca_X17_lawFor : fw_cal mm_X17_lawFor 1 := ⟨fw_gw 1370 (by decide +kernel) (by decide +kernel), fw_gw 40 (by decide +kernel) (by decide +kernel), ⟨by decide, by decide, by decide +kernel⟩, rfl, rfl⟩
theorem iv_X17_lawFor : Cond.instanceMethod yX17_lawFor ∈ fw_GW := fw_gw 1369 (by decide +kernel) (by decide +kernel)
theorem sv_X17_lawFor : Cond.selects yX17_lawFor.cls yX17_lawFor yX17_lawFor ∈ fw_GW := fw_gw 19 (by decide +kernel) (by decide +kernel)
theorem ca_X17_lawOf : fw_cal mm_X17_lawOf 1 := ⟨fw_gw 1343 (by decide +kernel) (by decide +kernel), fw_gw 40 (by decide +kernel) (by decide +kernel), ⟨by decide, by decide, by decide +kernel⟩, rfl, rfl⟩
theorem iv_X17_lawOf : Cond.instanceMethod yX17_lawOf ∈ fw_GW := fw_gw 1341 (by decide +kernel) (by decide +kernel)
theorem sv_X17_lawOf : Cond.selects yX17_lawOf.cls yX17_lawOf yX17_lawOf ∈ fw_GW := fw_gw 1342 (by decide +kernel) (by decide +kernel)
theorem ca_X17_length : fw_cal mm_X17_length 4 := ⟨fw_gw 1231 (by decide +kernel) (by decide +kernel), fw_gw 40 (by decide +kernel) (by decide +kernel), ⟨by decide, by decide, by decide +kernel⟩, rfl, rfl⟩
theorem iv_X17_length : Cond.instanceMethod yX17_length ∈ fw_GW := fw_gw 1229 (by decide +kernel) (by decide +kernel)
theorem sv_X17_length : Cond.selects yX17_length.cls yX17_length yX17_length ∈ fw_GW := fw_gw 1230 (by decide +kernel) (by decide +kernel)
theorem ca_X17_lengthOf : fw_cal mm_X17_lengthOf 4 := ⟨fw_gw 1237 (by decide +kernel) (by decide +kernel), fw_gw 40 (by decide +kernel) (by decide +kernel), ⟨by decide, by decide, by decide +kernel⟩, rfl, rfl⟩
theorem sx_X17_lengthOf : Cond.static yX17_lengthOf ∈ fw_GW := fw_gw 1236 (by decide +kernel) (by decide +kernel)
theorem ca_X17_letGo : fw_cal mm_X17_letGo 2 := ⟨fw_gw 2000 (by decide +kernel) (by decide +kernel), fw_gw 40 (by decide +kernel) (by decide +kernel), ⟨by decide, by decide, by decide +kernel⟩, rfl, rfl⟩
theorem iv_X17_letGo : Cond.instanceMethod yX17_letGo ∈ fw_GW := fw_gw 1998 (by decide +kernel) (by decide +kernel)
theorem sv_X17_letGo : Cond.selects yX17_letGo.cls yX17_letGo yX17_letGo ∈ fw_GW := fw_gw 1999 (by decide +kernel) (by decide +kernel)
theorem ca_X17_marks : fw_cal mm_X17_marks 3 := ⟨fw_gw 1683 (by decide +kernel) (by decide +kernel), fw_gw 40 (by decide +kernel) (by decide +kernel), ⟨by decide, by decide, by decide +kernel⟩, rfl, rfl⟩
theorem sx_X17_marks : Cond.static yX17_marks ∈ fw_GW := fw_gw 1682 (by decide +kernel) (by decide +kernel)
theorem ca_X17_meanNeeded : fw_cal mm_X17_meanNeeded 0 := ⟨fw_gw 2079 (by decide +kernel) (by decide +kernel), fw_gw 40 (by decide +kernel) (by decide +kernel), ⟨by decide, by decide, by decide +kernel⟩, rfl, rfl⟩
theorem iv_X17_meanNeeded : Cond.instanceMethod yX17_meanNeeded ∈ fw_GW := fw_gw 2077 (by decide +kernel) (by decide +kernel)
theorem sv_X17_meanNeeded : Cond.selects yX17_meanNeeded.cls yX17_meanNeeded yX17_meanNeeded ∈ fw_GW := fw_gw 2078 (by decide +kernel) (by decide +kernel)
theorem ca_X17_monthOf : fw_cal mm_X17_monthOf 1 := ⟨fw_gw 1227 (by decide +kernel) (by decide +kernel), fw_gw 40 (by decide +kernel) (by decide +kernel), ⟨by decide, by decide, by decide +kernel⟩, rfl, rfl⟩
theorem sx_X17_monthOf : Cond.static yX17_monthOf ∈ fw_GW := fw_gw 1226 (by decide +kernel) (by decide +kernel)
theorem ca_X17_needed : fw_cal mm_X17_needed 1 := ⟨fw_gw 2012 (by decide +kernel) (by decide +kernel), fw_gw 40 (by decide +kernel) (by decide +kernel), ⟨by decide, by decide, by decide +kernel⟩, rfl, rfl⟩
theorem iv_X17_needed : Cond.instanceMethod yX17_needed ∈ fw_GW := fw_gw 2010 (by decide +kernel) (by decide +kernel)
theorem sv_X17_needed : Cond.selects yX17_needed.cls yX17_needed yX17_needed ∈ fw_GW := fw_gw 2011 (by decide +kernel) (by decide +kernel)
theorem ca_X17_noDay : fw_cal mm_X17_noDay 1 := ⟨fw_gw 1224 (by decide +kernel) (by decide +kernel), fw_gw 40 (by decide +kernel) (by decide +kernel), ⟨by decide, by decide, by decide +kernel⟩, rfl, rfl⟩
theorem iv_X17_noDay : Cond.instanceMethod yX17_noDay ∈ fw_GW := fw_gw 1223 (by decide +kernel) (by decide +kernel)
theorem sv_X17_noDay : Cond.selects yX17_noDay.cls yX17_noDay yX17_noDay ∈ fw_GW := fw_gw 13 (by decide +kernel) (by decide +kernel)
theorem ca_X17_noPerson : fw_cal mm_X17_noPerson 2 := ⟨fw_gw 1650 (by decide +kernel) (by decide +kernel), fw_gw 40 (by decide +kernel) (by decide +kernel), ⟨by decide, by decide, by decide +kernel⟩, rfl, rfl⟩
theorem iv_X17_noPerson : Cond.instanceMethod yX17_noPerson ∈ fw_GW := fw_gw 1649 (by decide +kernel) (by decide +kernel)
theorem sv_X17_noPerson : Cond.selects yX17_noPerson.cls yX17_noPerson yX17_noPerson ∈ fw_GW := fw_gw 22 (by decide +kernel) (by decide +kernel)
theorem ca_X17_noWarrant : fw_cal mm_X17_noWarrant 1 := ⟨fw_gw 1347 (by decide +kernel) (by decide +kernel), fw_gw 40 (by decide +kernel) (by decide +kernel), ⟨by decide, by decide, by decide +kernel⟩, rfl, rfl⟩
theorem iv_X17_noWarrant : Cond.instanceMethod yX17_noWarrant ∈ fw_GW := fw_gw 1346 (by decide +kernel) (by decide +kernel)
theorem sv_X17_noWarrant : Cond.selects yX17_noWarrant.cls yX17_noWarrant yX17_noWarrant ∈ fw_GW := fw_gw 17 (by decide +kernel) (by decide +kernel)
theorem ca_X17_owed : fw_cal mm_X17_owed 0 := ⟨fw_gw 2067 (by decide +kernel) (by decide +kernel), fw_gw 40 (by decide +kernel) (by decide +kernel), ⟨by decide, by decide, by decide +kernel⟩, rfl, rfl⟩
theorem iv_X17_owed : Cond.instanceMethod yX17_owed ∈ fw_GW := fw_gw 2065 (by decide +kernel) (by decide +kernel)
theorem sv_X17_owed : Cond.selects yX17_owed.cls yX17_owed yX17_owed ∈ fw_GW := fw_gw 2066 (by decide +kernel) (by decide +kernel)
theorem ca_X17_person : fw_cal mm_X17_person 0 := ⟨fw_gw 1378 (by decide +kernel) (by decide +kernel), fw_gw 40 (by decide +kernel) (by decide +kernel), ⟨by decide, by decide, by decide +kernel⟩, rfl, rfl⟩
theorem iv_X17_person : Cond.instanceMethod yX17_person ∈ fw_GW := fw_gw 1376 (by decide +kernel) (by decide +kernel)
theorem sv_X17_person : Cond.selects yX17_person.cls yX17_person yX17_person ∈ fw_GW := fw_gw 1377 (by decide +kernel) (by decide +kernel)
theorem ca_X17_prisonShare : fw_cal mm_X17_prisonShare 1 := ⟨fw_gw 2071 (by decide +kernel) (by decide +kernel), fw_gw 40 (by decide +kernel) (by decide +kernel), ⟨by decide, by decide, by decide +kernel⟩, rfl, rfl⟩
theorem iv_X17_prisonShare : Cond.instanceMethod yX17_prisonShare ∈ fw_GW := fw_gw 2069 (by decide +kernel) (by decide +kernel)
theorem sv_X17_prisonShare : Cond.selects yX17_prisonShare.cls yX17_prisonShare yX17_prisonShare ∈ fw_GW := fw_gw 2070 (by decide +kernel) (by decide +kernel)
theorem ca_X17_quash : fw_cal mm_X17_quash 1 := ⟨fw_gw 1638 (by decide +kernel) (by decide +kernel), fw_gw 40 (by decide +kernel) (by decide +kernel), ⟨by decide, by decide, by decide +kernel⟩, rfl, rfl⟩
theorem iv_X17_quash : Cond.instanceMethod yX17_quash ∈ fw_GW := fw_gw 1636 (by decide +kernel) (by decide +kernel)
theorem sv_X17_quash : Cond.selects yX17_quash.cls yX17_quash yX17_quash ∈ fw_GW := fw_gw 1637 (by decide +kernel) (by decide +kernel)
theorem ca_X17_raises : fw_cal mm_X17_raises 1 := ⟨fw_gw 1415 (by decide +kernel) (by decide +kernel), fw_gw 40 (by decide +kernel) (by decide +kernel), ⟨by decide, by decide, by decide +kernel⟩, rfl, rfl⟩
theorem iv_X17_raises : Cond.instanceMethod yX17_raises ∈ fw_GW := fw_gw 1414 (by decide +kernel) (by decide +kernel)
theorem sv_X17_raises : Cond.selects yX17_raises.cls yX17_raises yX17_raises ∈ fw_GW := fw_gw 21 (by decide +kernel) (by decide +kernel)
theorem ca_X17_recall : fw_cal mm_X17_recall 3 := ⟨fw_gw 1688 (by decide +kernel) (by decide +kernel), fw_gw 40 (by decide +kernel) (by decide +kernel), ⟨by decide, by decide, by decide +kernel⟩, rfl, rfl⟩
theorem iv_X17_recall : Cond.instanceMethod yX17_recall ∈ fw_GW := fw_gw 1686 (by decide +kernel) (by decide +kernel)
theorem sv_X17_recall : Cond.selects yX17_recall.cls yX17_recall yX17_recall ∈ fw_GW := fw_gw 1687 (by decide +kernel) (by decide +kernel)
theorem ca_X17_release : fw_cal mm_X17_release 1 := ⟨fw_gw 2016 (by decide +kernel) (by decide +kernel), fw_gw 40 (by decide +kernel) (by decide +kernel), ⟨by decide, by decide, by decide +kernel⟩, rfl, rfl⟩
theorem iv_X17_release : Cond.instanceMethod yX17_release ∈ fw_GW := fw_gw 2014 (by decide +kernel) (by decide +kernel)
theorem sv_X17_release : Cond.selects yX17_release.cls yX17_release yX17_release ∈ fw_GW := fw_gw 2015 (by decide +kernel) (by decide +kernel)
theorem ca_X17_releaseBy : fw_cal mm_X17_releaseBy 3 := ⟨fw_gw 1946 (by decide +kernel) (by decide +kernel), fw_gw 40 (by decide +kernel) (by decide +kernel), ⟨by decide, by decide, by decide +kernel⟩, rfl, rfl⟩
theorem iv_X17_releaseBy : Cond.instanceMethod yX17_releaseBy ∈ fw_GW := fw_gw 1945 (by decide +kernel) (by decide +kernel)
theorem sv_X17_releaseBy : Cond.selects yX17_releaseBy.cls yX17_releaseBy yX17_releaseBy ∈ fw_GW := fw_gw 28 (by decide +kernel) (by decide +kernel)
theorem ca_X17_stateOf : fw_cal mm_X17_stateOf 3 := ⟨fw_gw 1954 (by decide +kernel) (by decide +kernel), fw_gw 40 (by decide +kernel) (by decide +kernel), ⟨by decide, by decide, by decide +kernel⟩, rfl, rfl⟩
theorem iv_X17_stateOf : Cond.instanceMethod yX17_stateOf ∈ fw_GW := fw_gw 1953 (by decide +kernel) (by decide +kernel)
theorem sv_X17_stateOf : Cond.selects yX17_stateOf.cls yX17_stateOf yX17_stateOf ∈ fw_GW := fw_gw 29 (by decide +kernel) (by decide +kernel)
theorem ca_X17_stateOn : fw_cal mm_X17_stateOn 2 := ⟨fw_gw 2024 (by decide +kernel) (by decide +kernel), fw_gw 40 (by decide +kernel) (by decide +kernel), ⟨by decide, by decide, by decide +kernel⟩, rfl, rfl⟩
theorem iv_X17_stateOn : Cond.instanceMethod yX17_stateOn ∈ fw_GW := fw_gw 2022 (by decide +kernel) (by decide +kernel)
theorem sv_X17_stateOn : Cond.selects yX17_stateOn.cls yX17_stateOn yX17_stateOn ∈ fw_GW := fw_gw 2023 (by decide +kernel) (by decide +kernel)
theorem ca_X17_thrown : fw_cal mm_X17_thrown 0 := ⟨fw_gw 1200 (by decide +kernel) (by decide +kernel), fw_gw 40 (by decide +kernel) (by decide +kernel), ⟨by decide, by decide, by decide +kernel⟩, rfl, rfl⟩
theorem iv_X17_thrown : Cond.instanceMethod yX17_thrown ∈ fw_GW := fw_gw 1198 (by decide +kernel) (by decide +kernel)
theorem sv_X17_thrown : Cond.selects yX17_thrown.cls yX17_thrown yX17_thrown ∈ fw_GW := fw_gw 1199 (by decide +kernel) (by decide +kernel)
theorem ca_X17_tooLong : fw_cal mm_X17_tooLong 2 := ⟨fw_gw 2041 (by decide +kernel) (by decide +kernel), fw_gw 40 (by decide +kernel) (by decide +kernel), ⟨by decide, by decide, by decide +kernel⟩, rfl, rfl⟩
theorem iv_X17_tooLong : Cond.instanceMethod yX17_tooLong ∈ fw_GW := fw_gw 2039 (by decide +kernel) (by decide +kernel)
theorem sv_X17_tooLong : Cond.selects yX17_tooLong.cls yX17_tooLong yX17_tooLong ∈ fw_GW := fw_gw 2040 (by decide +kernel) (by decide +kernel)
theorem ca_X17_tooShort : fw_cal mm_X17_tooShort 2 := ⟨fw_gw 2058 (by decide +kernel) (by decide +kernel), fw_gw 40 (by decide +kernel) (by decide +kernel), ⟨by decide, by decide, by decide +kernel⟩, rfl, rfl⟩
theorem iv_X17_tooShort : Cond.instanceMethod yX17_tooShort ∈ fw_GW := fw_gw 2056 (by decide +kernel) (by decide +kernel)
theorem sv_X17_tooShort : Cond.selects yX17_tooShort.cls yX17_tooShort yX17_tooShort ∈ fw_GW := fw_gw 2057 (by decide +kernel) (by decide +kernel)
theorem ca_X17_vary : fw_cal mm_X17_vary 4 := ⟨fw_gw 1629 (by decide +kernel) (by decide +kernel), fw_gw 40 (by decide +kernel) (by decide +kernel), ⟨by decide, by decide, by decide +kernel⟩, rfl, rfl⟩
theorem iv_X17_vary : Cond.instanceMethod yX17_vary ∈ fw_GW := fw_gw 1627 (by decide +kernel) (by decide +kernel)
theorem sv_X17_vary : Cond.selects yX17_vary.cls yX17_vary yX17_vary ∈ fw_GW := fw_gw 1628 (by decide +kernel) (by decide +kernel)
theorem ca_X17_warrant : fw_cal mm_X17_warrant 8 := ⟨fw_gw 1407 (by decide +kernel) (by decide +kernel), fw_gw 40 (by decide +kernel) (by decide +kernel), ⟨by decide, by decide, by decide +kernel⟩, rfl, rfl⟩
theorem iv_X17_warrant : Cond.instanceMethod yX17_warrant ∈ fw_GW := fw_gw 1405 (by decide +kernel) (by decide +kernel)
theorem sv_X17_warrant : Cond.selects yX17_warrant.cls yX17_warrant yX17_warrant ∈ fw_GW := fw_gw 1406 (by decide +kernel) (by decide +kernel)
theorem ca_X17_warrants : fw_cal mm_X17_warrants 0 := ⟨fw_gw 2063 (by decide +kernel) (by decide +kernel), fw_gw 40 (by decide +kernel) (by decide +kernel), ⟨by decide, by decide, by decide +kernel⟩, rfl, rfl⟩
theorem iv_X17_warrants : Cond.instanceMethod yX17_warrants ∈ fw_GW := fw_gw 2061 (by decide +kernel) (by decide +kernel)
theorem sv_X17_warrants : Cond.selects yX17_warrants.cls yX17_warrants yX17_warrants ∈ fw_GW := fw_gw 2062 (by decide +kernel) (by decide +kernel)
theorem ca_X11_init : fw_cal mm_X11_init 3 := ⟨fw_gw 1655 (by decide +kernel) (by decide +kernel), fw_gw 74 (by decide +kernel) (by decide +kernel), ⟨by decide, by decide, by decide +kernel⟩, rfl, rfl⟩
theorem iv_X11_init : Cond.instanceMethod yX11_init ∈ fw_GW := fw_gw 1654 (by decide +kernel) (by decide +kernel)
theorem ca_X12_init : fw_cal mm_X12_init 0 := ⟨fw_gw 1702 (by decide +kernel) (by decide +kernel), fw_gw 78 (by decide +kernel) (by decide +kernel), ⟨by decide, by decide, by decide +kernel⟩, rfl, rfl⟩
theorem iv_X12_init : Cond.instanceMethod yX12_init ∈ fw_GW := fw_gw 1701 (by decide +kernel) (by decide +kernel)
theorem ca_X13_init : fw_cal mm_X13_init 4 := ⟨fw_gw 1251 (by decide +kernel) (by decide +kernel), fw_gw 53 (by decide +kernel) (by decide +kernel), ⟨by decide, by decide, by decide +kernel⟩, rfl, rfl⟩
theorem iv_X13_init : Cond.instanceMethod yX13_init ∈ fw_GW := fw_gw 1250 (by decide +kernel) (by decide +kernel)
theorem ca_X14_init : fw_cal mm_X14_init 0 := ⟨fw_gw 1383 (by decide +kernel) (by decide +kernel), fw_gw 65 (by decide +kernel) (by decide +kernel), ⟨by decide, by decide, by decide +kernel⟩, rfl, rfl⟩
theorem iv_X14_init : Cond.instanceMethod yX14_init ∈ fw_GW := fw_gw 1382 (by decide +kernel) (by decide +kernel)
theorem ca_X14_behind : fw_cal mm_X14_behind 2 := ⟨fw_gw 1950 (by decide +kernel) (by decide +kernel), fw_gw 65 (by decide +kernel) (by decide +kernel), ⟨by decide, by decide, by decide +kernel⟩, rfl, rfl⟩
theorem iv_X14_behind : Cond.instanceMethod yX14_behind ∈ fw_GW := fw_gw 1948 (by decide +kernel) (by decide +kernel)
theorem sv_X14_behind : Cond.selects yX14_behind.cls yX14_behind yX14_behind ∈ fw_GW := fw_gw 1949 (by decide +kernel) (by decide +kernel)
theorem ca_X14_sums : fw_cal mm_X14_sums 0 := ⟨fw_gw 1388 (by decide +kernel) (by decide +kernel), fw_gw 65 (by decide +kernel) (by decide +kernel), ⟨by decide, by decide, by decide +kernel⟩, rfl, rfl⟩
theorem iv_X14_sums : Cond.instanceMethod yX14_sums ∈ fw_GW := fw_gw 1386 (by decide +kernel) (by decide +kernel)
theorem sv_X14_sums : Cond.selects yX14_sums.cls yX14_sums yX14_sums ∈ fw_GW := fw_gw 1387 (by decide +kernel) (by decide +kernel)
theorem ca_X15_init : fw_cal mm_X15_init 4 := ⟨fw_gw 1974 (by decide +kernel) (by decide +kernel), fw_gw 82 (by decide +kernel) (by decide +kernel), ⟨by decide, by decide, by decide +kernel⟩, rfl, rfl⟩
theorem iv_X15_init : Cond.instanceMethod yX15_init ∈ fw_GW := fw_gw 1973 (by decide +kernel) (by decide +kernel)
theorem ca_X16_init : fw_cal mm_X16_init 5 := ⟨fw_gw 1502 (by decide +kernel) (by decide +kernel), fw_gw 71 (by decide +kernel) (by decide +kernel), ⟨by decide, by decide, by decide +kernel⟩, rfl, rfl⟩
theorem iv_X16_init : Cond.instanceMethod yX16_init ∈ fw_GW := fw_gw 1501 (by decide +kernel) (by decide +kernel)
theorem ca_X16_counted : fw_cal mm_X16_counted 0 := ⟨fw_gw 1564 (by decide +kernel) (by decide +kernel), fw_gw 71 (by decide +kernel) (by decide +kernel), ⟨by decide, by decide, by decide +kernel⟩, rfl, rfl⟩
theorem iv_X16_counted : Cond.instanceMethod yX16_counted ∈ fw_GW := fw_gw 1562 (by decide +kernel) (by decide +kernel)
theorem sv_X16_counted : Cond.selects yX16_counted.cls yX16_counted yX16_counted ∈ fw_GW := fw_gw 1563 (by decide +kernel) (by decide +kernel)
theorem ca_X16_counts : fw_cal mm_X16_counts 0 := ⟨fw_gw 1728 (by decide +kernel) (by decide +kernel), fw_gw 71 (by decide +kernel) (by decide +kernel), ⟨by decide, by decide, by decide +kernel⟩, rfl, rfl⟩
theorem iv_X16_counts : Cond.instanceMethod yX16_counts ∈ fw_GW := fw_gw 1726 (by decide +kernel) (by decide +kernel)
theorem sv_X16_counts : Cond.selects yX16_counts.cls yX16_counts yX16_counts ∈ fw_GW := fw_gw 1727 (by decide +kernel) (by decide +kernel)
theorem ca_X16_isFixed : fw_cal mm_X16_isFixed 0 := ⟨fw_gw 1374 (by decide +kernel) (by decide +kernel), fw_gw 71 (by decide +kernel) (by decide +kernel), ⟨by decide, by decide, by decide +kernel⟩, rfl, rfl⟩
theorem iv_X16_isFixed : Cond.instanceMethod yX16_isFixed ∈ fw_GW := fw_gw 1372 (by decide +kernel) (by decide +kernel)
theorem sv_X16_isFixed : Cond.selects yX16_isFixed.cls yX16_isFixed yX16_isFixed ∈ fw_GW := fw_gw 1373 (by decide +kernel) (by decide +kernel)
theorem ca_X16_length : fw_cal mm_X16_length 1 := ⟨fw_gw 1633 (by decide +kernel) (by decide +kernel), fw_gw 71 (by decide +kernel) (by decide +kernel), ⟨by decide, by decide, by decide +kernel⟩, rfl, rfl⟩
theorem iv_X16_length : Cond.instanceMethod yX16_length ∈ fw_GW := fw_gw 1631 (by decide +kernel) (by decide +kernel)
theorem sv_X16_length : Cond.selects yX16_length.cls yX16_length yX16_length ∈ fw_GW := fw_gw 1632 (by decide +kernel) (by decide +kernel)
theorem iv_J5_getValue_6d5f1 : Cond.instanceMethod yJ5_getValue_6d5f1 ∈ fw_GW := fw_gw 1894 (by decide +kernel) (by decide +kernel)
theorem iv_J5_isLatin1_aae02 : Cond.instanceMethod yJ5_isLatin1_aae02 ∈ fw_GW := fw_gw 1810 (by decide +kernel) (by decide +kernel)
theorem iv_J5_length_8abf5 : Cond.instanceMethod yJ5_length_8abf5 ∈ fw_GW := fw_gw 1899 (by decide +kernel) (by decide +kernel)
theorem ca_J13_bitCount_95d88 : fw_cal mm_J13_bitCount_95d88 1 := ⟨fw_gw 231 (by decide +kernel) (by decide +kernel), fw_gw 76 (by decide +kernel) (by decide +kernel), ⟨by decide, by decide, by decide +kernel⟩, rfl, rfl⟩
theorem sx_J13_bitCount_95d88 : Cond.static yJ13_bitCount_95d88 ∈ fw_GW := fw_gw 230 (by decide +kernel) (by decide +kernel)
theorem ca_J9_max_7cf53 : fw_cal mm_J9_max_7cf53 2 := ⟨fw_gw 183 (by decide +kernel) (by decide +kernel), fw_gw 50 (by decide +kernel) (by decide +kernel), ⟨by decide, by decide, by decide +kernel⟩, rfl, rfl⟩
theorem sx_J9_max_7cf53 : Cond.static yJ9_max_7cf53 ∈ fw_GW := fw_gw 182 (by decide +kernel) (by decide +kernel)
theorem ca_J9_min_7cf53 : fw_cal mm_J9_min_7cf53 2 := ⟨fw_gw 203 (by decide +kernel) (by decide +kernel), fw_gw 50 (by decide +kernel) (by decide +kernel), ⟨by decide, by decide, by decide +kernel⟩, rfl, rfl⟩
theorem sx_J9_min_7cf53 : Cond.static yJ9_min_7cf53 ∈ fw_GW := fw_gw 202 (by decide +kernel) (by decide +kernel)
theorem ca_J0_init_db425 : fw_cal mm_J0_init_db425 2 := ⟨fw_gw 1891 (by decide +kernel) (by decide +kernel), fw_gw 59 (by decide +kernel) (by decide +kernel), ⟨by decide, by decide, by decide +kernel⟩, rfl, rfl⟩
theorem iv_J0_init_db425 : Cond.instanceMethod yJ0_init_db425 ∈ fw_GW := fw_gw 1890 (by decide +kernel) (by decide +kernel)
theorem ca_J0_coder_7d493 : fw_cal mm_J0_coder_7d493 0 := ⟨fw_gw 1438 (by decide +kernel) (by decide +kernel), fw_gw 59 (by decide +kernel) (by decide +kernel), ⟨by decide, by decide, by decide +kernel⟩, rfl, rfl⟩
theorem iv_J0_coder_7d493 : Cond.instanceMethod yJ0_coder_7d493 ∈ fw_GW := fw_gw 1436 (by decide +kernel) (by decide +kernel)
theorem sv_J0_coder_7d493 : Cond.selects yJ0_coder_7d493.cls yJ0_coder_7d493 yJ0_coder_7d493 ∈ fw_GW := fw_gw 1437 (by decide +kernel) (by decide +kernel)
theorem ca_J0_indexOf_0f7a4 : fw_cal mm_J0_indexOf_0f7a4 1 := ⟨fw_gw 1420 (by decide +kernel) (by decide +kernel), fw_gw 59 (by decide +kernel) (by decide +kernel), ⟨by decide, by decide, by decide +kernel⟩, rfl, rfl⟩
theorem iv_J0_indexOf_0f7a4 : Cond.instanceMethod yJ0_indexOf_0f7a4 ∈ fw_GW := fw_gw 1418 (by decide +kernel) (by decide +kernel)
theorem sv_J0_indexOf_0f7a4 : Cond.selects yJ0_indexOf_0f7a4.cls yJ0_indexOf_0f7a4 yJ0_indexOf_0f7a4 ∈ fw_GW := fw_gw 1419 (by decide +kernel) (by decide +kernel)
theorem ca_J0_indexOf_7cf53 : fw_cal mm_J0_indexOf_7cf53 2 := ⟨fw_gw 1424 (by decide +kernel) (by decide +kernel), fw_gw 59 (by decide +kernel) (by decide +kernel), ⟨by decide, by decide, by decide +kernel⟩, rfl, rfl⟩
theorem iv_J0_indexOf_7cf53 : Cond.instanceMethod yJ0_indexOf_7cf53 ∈ fw_GW := fw_gw 1422 (by decide +kernel) (by decide +kernel)
theorem sv_J0_indexOf_7cf53 : Cond.selects yJ0_indexOf_7cf53.cls yJ0_indexOf_7cf53 yJ0_indexOf_7cf53 ∈ fw_GW := fw_gw 1423 (by decide +kernel) (by decide +kernel)
theorem ca_J0_isLatin1_aae02 : fw_cal mm_J0_isLatin1_aae02 0 := ⟨fw_gw 1428 (by decide +kernel) (by decide +kernel), fw_gw 59 (by decide +kernel) (by decide +kernel), ⟨by decide, by decide, by decide +kernel⟩, rfl, rfl⟩
theorem iv_J0_isLatin1_aae02 : Cond.instanceMethod yJ0_isLatin1_aae02 ∈ fw_GW := fw_gw 1426 (by decide +kernel) (by decide +kernel)
theorem sv_J0_isLatin1_aae02 : Cond.selects yJ0_isLatin1_aae02.cls yJ0_isLatin1_aae02 yJ0_isLatin1_aae02 ∈ fw_GW := fw_gw 1427 (by decide +kernel) (by decide +kernel)
theorem ca_J0_length_8abf5 : fw_cal mm_J0_length_8abf5 0 := ⟨fw_gw 1434 (by decide +kernel) (by decide +kernel), fw_gw 59 (by decide +kernel) (by decide +kernel), ⟨by decide, by decide, by decide +kernel⟩, rfl, rfl⟩
theorem iv_J0_length_8abf5 : Cond.instanceMethod yJ0_length_8abf5 ∈ fw_GW := fw_gw 1432 (by decide +kernel) (by decide +kernel)
theorem sv_J0_length_8abf5 : Cond.selects yJ0_length_8abf5.cls yJ0_length_8abf5 yJ0_length_8abf5 ∈ fw_GW := fw_gw 1433 (by decide +kernel) (by decide +kernel)
theorem iv_J4_init_da8c8 : Cond.instanceMethod yJ4_init_da8c8 ∈ fw_GW := fw_gw 1750 (by decide +kernel) (by decide +kernel)
theorem iv_J4_append_bf812 : Cond.instanceMethod yJ4_append_bf812 ∈ fw_GW := fw_gw 1856 (by decide +kernel) (by decide +kernel)
theorem sv_J4_append_bf812 : Cond.selects yJ4_append_bf812.cls yJ4_append_bf812 yJ4_append_bf812 ∈ fw_GW := fw_gw 1857 (by decide +kernel) (by decide +kernel)
theorem iv_J4_append_15ec4 : Cond.instanceMethod yJ4_append_15ec4 ∈ fw_GW := fw_gw 1779 (by decide +kernel) (by decide +kernel)
theorem sv_J4_append_15ec4 : Cond.selects yJ4_append_15ec4.cls yJ4_append_15ec4 yJ4_append_15ec4 ∈ fw_GW := fw_gw 1780 (by decide +kernel) (by decide +kernel)
theorem iv_J4_toString_0e30d : Cond.instanceMethod yJ4_toString_0e30d ∈ fw_GW := fw_gw 1882 (by decide +kernel) (by decide +kernel)
theorem sv_J4_toString_0e30d : Cond.selects yJ4_toString_0e30d.cls yJ4_toString_0e30d yJ4_toString_0e30d ∈ fw_GW := fw_gw 1883 (by decide +kernel) (by decide +kernel)
theorem ca_J1_canEncode_9a6ad : fw_cal mm_J1_canEncode_9a6ad 1 := ⟨fw_gw 1444 (by decide +kernel) (by decide +kernel), fw_gw 68 (by decide +kernel) (by decide +kernel), ⟨by decide, by decide, by decide +kernel⟩, rfl, rfl⟩
theorem sx_J1_canEncode_9a6ad : Cond.static yJ1_canEncode_9a6ad ∈ fw_GW := fw_gw 1443 (by decide +kernel) (by decide +kernel)
theorem ca_J1_indexOf_4cfef : fw_cal mm_J1_indexOf_4cfef 4 := ⟨fw_gw 1441 (by decide +kernel) (by decide +kernel), fw_gw 68 (by decide +kernel) (by decide +kernel), ⟨by decide, by decide, by decide +kernel⟩, rfl, rfl⟩
theorem sx_J1_indexOf_4cfef : Cond.static yJ1_indexOf_4cfef ∈ fw_GW := fw_gw 1440 (by decide +kernel) (by decide +kernel)
theorem ca_J1_indexOfChar_4cfef : fw_cal mm_J1_indexOfChar_4cfef 4 := ⟨fw_gw 1449 (by decide +kernel) (by decide +kernel), fw_gw 68 (by decide +kernel) (by decide +kernel), ⟨by decide, by decide, by decide +kernel⟩, rfl, rfl⟩
theorem sx_J1_indexOfChar_4cfef : Cond.static yJ1_indexOfChar_4cfef ∈ fw_GW := fw_gw 1448 (by decide +kernel) (by decide +kernel)
theorem sx_J2_coderFromArrayLen_85cad : Cond.static yJ2_coderFromArrayLen_85cad ∈ fw_GW := fw_gw 1932 (by decide +kernel) (by decide +kernel)
theorem sx_J2_compress_39247 : Cond.static yJ2_compress_39247 ∈ fw_GW := fw_gw 1925 (by decide +kernel) (by decide +kernel)
theorem sx_J2_indexOf_4cfef : Cond.static yJ2_indexOf_4cfef ∈ fw_GW := fw_gw 1451 (by decide +kernel) (by decide +kernel)
theorem sx_J2_inflate_0e8fd : Cond.static yJ2_inflate_0e8fd ∈ fw_GW := fw_gw 1838 (by decide +kernel) (by decide +kernel)
theorem ca_Jxa1e45_init_da8c8 : fw_cal mm_Jxa1e45_init_da8c8 0 := ⟨fw_gw 1159 (by decide +kernel) (by decide +kernel), fw_gw 41 (by decide +kernel) (by decide +kernel), ⟨by decide, by decide, by decide +kernel⟩, rfl, rfl⟩
theorem iv_Jxa1e45_init_da8c8 : Cond.instanceMethod yJxa1e45_init_da8c8 ∈ fw_GW := fw_gw 1158 (by decide +kernel) (by decide +kernel)
theorem ca_Jxc12de_init_da8c8 : fw_cal mm_Jxc12de_init_da8c8 0 := ⟨fw_gw 1156 (by decide +kernel) (by decide +kernel), fw_gw 42 (by decide +kernel) (by decide +kernel), ⟨by decide, by decide, by decide +kernel⟩, rfl, rfl⟩
theorem iv_Jxc12de_init_da8c8 : Cond.instanceMethod yJxc12de_init_da8c8 ∈ fw_GW := fw_gw 1155 (by decide +kernel) (by decide +kernel)
theorem ca_Jx4a65c_init_da8c8 : fw_cal mm_Jx4a65c_init_da8c8 0 := ⟨fw_gw 1153 (by decide +kernel) (by decide +kernel), fw_gw 43 (by decide +kernel) (by decide +kernel), ⟨by decide, by decide, by decide +kernel⟩, rfl, rfl⟩
theorem iv_Jx4a65c_init_da8c8 : Cond.instanceMethod yJx4a65c_init_da8c8 ∈ fw_GW := fw_gw 1152 (by decide +kernel) (by decide +kernel)
theorem ca_Jx4a65c_add_7a177 : fw_cal mm_Jx4a65c_add_7a177 2 := ⟨fw_gw 1737 (by decide +kernel) (by decide +kernel), fw_gw 43 (by decide +kernel) (by decide +kernel), ⟨by decide, by decide, by decide +kernel⟩, rfl, rfl⟩
theorem iv_Jx4a65c_add_7a177 : Cond.instanceMethod yJx4a65c_add_7a177 ∈ fw_GW := fw_gw 1735 (by decide +kernel) (by decide +kernel)
theorem sv_Jx4a65c_add_7a177 : Cond.selects yJx4a65c_add_7a177.cls yJx4a65c_add_7a177 yJx4a65c_add_7a177 ∈ fw_GW := fw_gw 1736 (by decide +kernel) (by decide +kernel)
theorem ca_Jx4a65c_add_9ea2d : fw_cal mm_Jx4a65c_add_9ea2d 1 := ⟨fw_gw 1273 (by decide +kernel) (by decide +kernel), fw_gw 43 (by decide +kernel) (by decide +kernel), ⟨by decide, by decide, by decide +kernel⟩, rfl, rfl⟩
theorem iv_Jx4a65c_add_9ea2d : Cond.instanceMethod yJx4a65c_add_9ea2d ∈ fw_GW := fw_gw 1271 (by decide +kernel) (by decide +kernel)
theorem sv_Jx4a65c_add_9ea2d : Cond.selects yJx4a65c_add_9ea2d.cls yJx4a65c_add_9ea2d yJx4a65c_add_9ea2d ∈ fw_GW := fw_gw 1272 (by decide +kernel) (by decide +kernel)
theorem ca_Jx4a65c_add_72be8 : fw_cal mm_Jx4a65c_add_72be8 3 := ⟨fw_gw 1277 (by decide +kernel) (by decide +kernel), fw_gw 43 (by decide +kernel) (by decide +kernel), ⟨by decide, by decide, by decide +kernel⟩, rfl, rfl⟩
theorem iv_Jx4a65c_add_72be8 : Cond.instanceMethod yJx4a65c_add_72be8 ∈ fw_GW := fw_gw 1276 (by decide +kernel) (by decide +kernel)
theorem sv_Jx4a65c_add_72be8 : Cond.selects yJx4a65c_add_72be8.cls yJx4a65c_add_72be8 yJx4a65c_add_72be8 ∈ fw_GW := fw_gw 14 (by decide +kernel) (by decide +kernel)
theorem ca_Jx4a65c_elementData_915e3 : fw_cal mm_Jx4a65c_elementData_915e3 1 := ⟨fw_gw 1365 (by decide +kernel) (by decide +kernel), fw_gw 43 (by decide +kernel) (by decide +kernel), ⟨by decide, by decide, by decide +kernel⟩, rfl, rfl⟩
theorem iv_Jx4a65c_elementData_915e3 : Cond.instanceMethod yJx4a65c_elementData_915e3 ∈ fw_GW := fw_gw 1363 (by decide +kernel) (by decide +kernel)
theorem sv_Jx4a65c_elementData_915e3 : Cond.selects yJx4a65c_elementData_915e3.cls yJx4a65c_elementData_915e3 yJx4a65c_elementData_915e3 ∈ fw_GW := fw_gw 1364 (by decide +kernel) (by decide +kernel)
theorem ca_Jx4a65c_get_915e3 : fw_cal mm_Jx4a65c_get_915e3 1 := ⟨fw_gw 1355 (by decide +kernel) (by decide +kernel), fw_gw 43 (by decide +kernel) (by decide +kernel), ⟨by decide, by decide, by decide +kernel⟩, rfl, rfl⟩
theorem iv_Jx4a65c_get_915e3 : Cond.instanceMethod yJx4a65c_get_915e3 ∈ fw_GW := fw_gw 1353 (by decide +kernel) (by decide +kernel)
theorem sv_Jx4a65c_get_915e3 : Cond.selects yJx4a65c_get_915e3.cls yJx4a65c_get_915e3 yJx4a65c_get_915e3 ∈ fw_GW := fw_gw 1354 (by decide +kernel) (by decide +kernel)
theorem ca_Jx4a65c_grow_d5877 : fw_cal mm_Jx4a65c_grow_d5877 0 := ⟨fw_gw 1281 (by decide +kernel) (by decide +kernel), fw_gw 43 (by decide +kernel) (by decide +kernel), ⟨by decide, by decide, by decide +kernel⟩, rfl, rfl⟩
theorem iv_Jx4a65c_grow_d5877 : Cond.instanceMethod yJx4a65c_grow_d5877 ∈ fw_GW := fw_gw 1280 (by decide +kernel) (by decide +kernel)
theorem sv_Jx4a65c_grow_d5877 : Cond.selects yJx4a65c_grow_d5877.cls yJx4a65c_grow_d5877 yJx4a65c_grow_d5877 ∈ fw_GW := fw_gw 15 (by decide +kernel) (by decide +kernel)
theorem ca_Jx4a65c_grow_92f84 : fw_cal mm_Jx4a65c_grow_92f84 1 := ⟨fw_gw 1285 (by decide +kernel) (by decide +kernel), fw_gw 43 (by decide +kernel) (by decide +kernel), ⟨by decide, by decide, by decide +kernel⟩, rfl, rfl⟩
theorem iv_Jx4a65c_grow_92f84 : Cond.instanceMethod yJx4a65c_grow_92f84 ∈ fw_GW := fw_gw 1284 (by decide +kernel) (by decide +kernel)
theorem sv_Jx4a65c_grow_92f84 : Cond.selects yJx4a65c_grow_92f84.cls yJx4a65c_grow_92f84 yJx4a65c_grow_92f84 ∈ fw_GW := fw_gw 16 (by decide +kernel) (by decide +kernel)
theorem ca_Jx4a65c_isEmpty_aae02 : fw_cal mm_Jx4a65c_isEmpty_aae02 0 := ⟨fw_gw 2075 (by decide +kernel) (by decide +kernel), fw_gw 43 (by decide +kernel) (by decide +kernel), ⟨by decide, by decide, by decide +kernel⟩, rfl, rfl⟩
theorem iv_Jx4a65c_isEmpty_aae02 : Cond.instanceMethod yJx4a65c_isEmpty_aae02 ∈ fw_GW := fw_gw 2073 (by decide +kernel) (by decide +kernel)
theorem sv_Jx4a65c_isEmpty_aae02 : Cond.selects yJx4a65c_isEmpty_aae02.cls yJx4a65c_isEmpty_aae02 yJx4a65c_isEmpty_aae02 ∈ fw_GW := fw_gw 2074 (by decide +kernel) (by decide +kernel)
theorem ca_Jx4a65c_iterator_32c93 : fw_cal mm_Jx4a65c_iterator_32c93 0 := ⟨fw_gw 1572 (by decide +kernel) (by decide +kernel), fw_gw 43 (by decide +kernel) (by decide +kernel), ⟨by decide, by decide, by decide +kernel⟩, rfl, rfl⟩
theorem iv_Jx4a65c_iterator_32c93 : Cond.instanceMethod yJx4a65c_iterator_32c93 ∈ fw_GW := fw_gw 1570 (by decide +kernel) (by decide +kernel)
theorem sv_Jx4a65c_iterator_32c93 : Cond.selects yJx4a65c_iterator_32c93.cls yJx4a65c_iterator_32c93 yJx4a65c_iterator_32c93 ∈ fw_GW := fw_gw 1571 (by decide +kernel) (by decide +kernel)
theorem iv_Jx4a65c_outOfBoundsMsg_b52d3 : Cond.instanceMethod yJx4a65c_outOfBoundsMsg_b52d3 ∈ fw_GW := fw_gw 1745 (by decide +kernel) (by decide +kernel)
theorem sv_Jx4a65c_outOfBoundsMsg_b52d3 : Cond.selects yJx4a65c_outOfBoundsMsg_b52d3.cls yJx4a65c_outOfBoundsMsg_b52d3 yJx4a65c_outOfBoundsMsg_b52d3 ∈ fw_GW := fw_gw 27 (by decide +kernel) (by decide +kernel)
theorem ca_Jx4a65c_rangeCheckForAdd_d00df : fw_cal mm_Jx4a65c_rangeCheckForAdd_d00df 1 := ⟨fw_gw 1741 (by decide +kernel) (by decide +kernel), fw_gw 43 (by decide +kernel) (by decide +kernel), ⟨by decide, by decide, by decide +kernel⟩, rfl, rfl⟩
theorem iv_Jx4a65c_rangeCheckForAdd_d00df : Cond.instanceMethod yJx4a65c_rangeCheckForAdd_d00df ∈ fw_GW := fw_gw 1740 (by decide +kernel) (by decide +kernel)
theorem sv_Jx4a65c_rangeCheckForAdd_d00df : Cond.selects yJx4a65c_rangeCheckForAdd_d00df.cls yJx4a65c_rangeCheckForAdd_d00df yJx4a65c_rangeCheckForAdd_d00df ∈ fw_GW := fw_gw 26 (by decide +kernel) (by decide +kernel)
theorem ca_Jx4a65c_size_8abf5 : fw_cal mm_Jx4a65c_size_8abf5 0 := ⟨fw_gw 1246 (by decide +kernel) (by decide +kernel), fw_gw 43 (by decide +kernel) (by decide +kernel), ⟨by decide, by decide, by decide +kernel⟩, rfl, rfl⟩
theorem iv_Jx4a65c_size_8abf5 : Cond.instanceMethod yJx4a65c_size_8abf5 ∈ fw_GW := fw_gw 1244 (by decide +kernel) (by decide +kernel)
theorem sv_Jx4a65c_size_8abf5 : Cond.selects yJx4a65c_size_8abf5.cls yJx4a65c_size_8abf5 yJx4a65c_size_8abf5 ∈ fw_GW := fw_gw 1245 (by decide +kernel) (by decide +kernel)
theorem ca_Jx35411_init_45d68 : fw_cal mm_Jx35411_init_45d68 1 := ⟨fw_gw 1577 (by decide +kernel) (by decide +kernel), fw_gw 72 (by decide +kernel) (by decide +kernel), ⟨by decide, by decide, by decide +kernel⟩, rfl, rfl⟩
theorem iv_Jx35411_init_45d68 : Cond.instanceMethod yJx35411_init_45d68 ∈ fw_GW := fw_gw 1576 (by decide +kernel) (by decide +kernel)
theorem ca_Jx35411_checkForComodification_da8c8 : fw_cal mm_Jx35411_checkForComodification_da8c8 0 := ⟨fw_gw 1614 (by decide +kernel) (by decide +kernel), fw_gw 72 (by decide +kernel) (by decide +kernel), ⟨by decide, by decide, by decide +kernel⟩, rfl, rfl⟩
theorem iv_Jx35411_checkForComodification_da8c8 : Cond.instanceMethod yJx35411_checkForComodification_da8c8 ∈ fw_GW := fw_gw 1612 (by decide +kernel) (by decide +kernel)
theorem sv_Jx35411_checkForComodification_da8c8 : Cond.selects yJx35411_checkForComodification_da8c8.cls yJx35411_checkForComodification_da8c8 yJx35411_checkForComodification_da8c8 ∈ fw_GW := fw_gw 1613 (by decide +kernel) (by decide +kernel)
theorem ca_J7_checkLength_df160 : fw_cal mm_J7_checkLength_df160 2 := ⟨fw_gw 1915 (by decide +kernel) (by decide +kernel), fw_gw 55 (by decide +kernel) (by decide +kernel), ⟨by decide, by decide, by decide +kernel⟩, rfl, rfl⟩
theorem sx_J7_checkLength_df160 : Cond.static yJ7_checkLength_df160 ∈ fw_GW := fw_gw 1914 (by decide +kernel) (by decide +kernel)
theorem ca_J7_copyOf_1904c : fw_cal mm_J7_copyOf_1904c 2 := ⟨fw_gw 1296 (by decide +kernel) (by decide +kernel), fw_gw 55 (by decide +kernel) (by decide +kernel), ⟨by decide, by decide, by decide +kernel⟩, rfl, rfl⟩
theorem sx_J7_copyOf_1904c : Cond.static yJ7_copyOf_1904c ∈ fw_GW := fw_gw 1295 (by decide +kernel) (by decide +kernel)
theorem ca_J7_copyOf_6403c : fw_cal mm_J7_copyOf_6403c 3 := ⟨fw_gw 1330 (by decide +kernel) (by decide +kernel), fw_gw 55 (by decide +kernel) (by decide +kernel), ⟨by decide, by decide, by decide +kernel⟩, rfl, rfl⟩
theorem sx_J7_copyOf_6403c : Cond.static yJ7_copyOf_6403c ∈ fw_GW := fw_gw 1329 (by decide +kernel) (by decide +kernel)
theorem ca_J7_copyOfRange_39247 : fw_cal mm_J7_copyOfRange_39247 3 := ⟨fw_gw 1909 (by decide +kernel) (by decide +kernel), fw_gw 55 (by decide +kernel) (by decide +kernel), ⟨by decide, by decide, by decide +kernel⟩, rfl, rfl⟩
theorem sx_J7_copyOfRange_39247 : Cond.static yJ7_copyOfRange_39247 ∈ fw_GW := fw_gw 1908 (by decide +kernel) (by decide +kernel)
theorem ca_J7_copyOfRangeByte_39247 : fw_cal mm_J7_copyOfRangeByte_39247 3 := ⟨fw_gw 1912 (by decide +kernel) (by decide +kernel), fw_gw 55 (by decide +kernel) (by decide +kernel), ⟨by decide, by decide, by decide +kernel⟩, rfl, rfl⟩
theorem sx_J7_copyOfRangeByte_39247 : Cond.static yJ7_copyOfRangeByte_39247 ∈ fw_GW := fw_gw 1911 (by decide +kernel) (by decide +kernel)
theorem ca_J15_checkIndex_7cf53 : fw_cal mm_J15_checkIndex_7cf53 2 := ⟨fw_gw 1358 (by decide +kernel) (by decide +kernel), fw_gw 62 (by decide +kernel) (by decide +kernel), ⟨by decide, by decide, by decide +kernel⟩, rfl, rfl⟩
theorem sx_J15_checkIndex_7cf53 : Cond.static yJ15_checkIndex_7cf53 ∈ fw_GW := fw_gw 1357 (by decide +kernel) (by decide +kernel)
theorem ca_J8_hugeLength_7cf53 : fw_cal mm_J8_hugeLength_7cf53 2 := ⟨fw_gw 1293 (by decide +kernel) (by decide +kernel), fw_gw 54 (by decide +kernel) (by decide +kernel), ⟨by decide, by decide, by decide +kernel⟩, rfl, rfl⟩
theorem sx_J8_hugeLength_7cf53 : Cond.static yJ8_hugeLength_7cf53 ∈ fw_GW := fw_gw 1292 (by decide +kernel) (by decide +kernel)
theorem ca_J8_newLength_cabcc : fw_cal mm_J8_newLength_cabcc 3 := ⟨fw_gw 1288 (by decide +kernel) (by decide +kernel), fw_gw 54 (by decide +kernel) (by decide +kernel), ⟨by decide, by decide, by decide +kernel⟩, rfl, rfl⟩
theorem sx_J8_newLength_cabcc : Cond.static yJ8_newLength_cabcc ∈ fw_GW := fw_gw 1287 (by decide +kernel) (by decide +kernel)
theorem ca_J3_checkFromIndexSize_8c36e : fw_cal mm_J3_checkFromIndexSize_8c36e 4 := ⟨fw_gw 1848 (by decide +kernel) (by decide +kernel), fw_gw 63 (by decide +kernel) (by decide +kernel), ⟨by decide, by decide, by decide +kernel⟩, rfl, rfl⟩
theorem sx_J3_checkFromIndexSize_8c36e : Cond.static yJ3_checkFromIndexSize_8c36e ∈ fw_GW := fw_gw 1847 (by decide +kernel) (by decide +kernel)
theorem ca_J3_checkFromToIndex_8c36e : fw_cal mm_J3_checkFromToIndex_8c36e 4 := ⟨fw_gw 1472 (by decide +kernel) (by decide +kernel), fw_gw 63 (by decide +kernel) (by decide +kernel), ⟨by decide, by decide, by decide +kernel⟩, rfl, rfl⟩
theorem sx_J3_checkFromToIndex_8c36e : Cond.static yJ3_checkFromToIndex_8c36e ∈ fw_GW := fw_gw 1471 (by decide +kernel) (by decide +kernel)
theorem ca_J3_checkIndex_8e157 : fw_cal mm_J3_checkIndex_8e157 3 := ⟨fw_gw 1361 (by decide +kernel) (by decide +kernel), fw_gw 63 (by decide +kernel) (by decide +kernel), ⟨by decide, by decide, by decide +kernel⟩, rfl, rfl⟩
theorem sx_J3_checkIndex_8e157 : Cond.static yJ3_checkIndex_8e157 ∈ fw_GW := fw_gw 1360 (by decide +kernel) (by decide +kernel)
theorem oi_1 : Cond.instanceMethod Lib.objectInit ∈ fw_GW := fw_gw 91 (by decide +kernel) (by decide +kernel)
theorem oi_2 : Cond.code Lib.objectInit ⟨#[0xb1]⟩ 1 none ∈ fw_GW := fw_gw 92 (by decide +kernel) (by decide +kernel)
theorem kc_X9_25 : Cond.constant RX9 25 1000000 ∈ fw_GW := fw_gw 176 (by decide +kernel) (by decide +kernel)
theorem kc_X3_28 : Cond.constantLong RX3 28 (-1) ∈ fw_GW := fw_gw 228 (by decide +kernel) (by decide +kernel)
theorem kc_J13_314 : Cond.constantLong RJ13 314 (6148914691236517205) ∈ fw_GW := fw_gw 232 (by decide +kernel) (by decide +kernel)
theorem kc_J13_316 : Cond.constantLong RJ13 316 (3689348814741910323) ∈ fw_GW := fw_gw 233 (by decide +kernel) (by decide +kernel)
theorem kc_J13_318 : Cond.constantLong RJ13 318 (1085102592571150095) ∈ fw_GW := fw_gw 234 (by decide +kernel) (by decide +kernel)
theorem kc_X3_40 : Cond.constant RX3 40 1000000 ∈ fw_GW := fw_gw 238 (by decide +kernel) (by decide +kernel)
theorem kc_X10_280 : Cond.constant RX10 280 1000000 ∈ fw_GW := fw_gw 288 (by decide +kernel) (by decide +kernel)
theorem kc_X7_9 : Cond.constant RX7 9 1000000 ∈ fw_GW := fw_gw 304 (by decide +kernel) (by decide +kernel)
theorem kc_X6_9 : Cond.constant RX6 9 1000000 ∈ fw_GW := fw_gw 961 (by decide +kernel) (by decide +kernel)
theorem kc_J8_200 : Cond.constant RJ8 200 2147483639 ∈ fw_GW := fw_gw 1290 (by decide +kernel) (by decide +kernel)
theorem kc_J2_227 : Cond.constant RJ2 227 65536 ∈ fw_GW := fw_gw 1455 (by decide +kernel) (by decide +kernel)
theorem kc_J11_110 : Cond.constant RJ11 110 55232 ∈ fw_GW := fw_gw 1494 (by decide +kernel) (by decide +kernel)
theorem kc_J11_76 : Cond.constant RJ11 76 56320 ∈ fw_GW := fw_gw 1498 (by decide +kernel) (by decide +kernel)
theorem kc_J2_20 : Cond.constant RJ2 20 1073741823 ∈ fw_GW := fw_gw 1763 (by decide +kernel) (by decide +kernel)
theorem kc_J5_39 : Cond.constant RJ5 39 2147483647 ∈ fw_GW := fw_gw 1798 (by decide +kernel) (by decide +kernel)
theorem ar_int : Cond.arrayClass .int ∈ fw_GW := fw_gw 1402 (by decide +kernel) (by decide +kernel)
theorem ar_long : Cond.arrayClass .long ∈ fw_GW := fw_gw 111 (by decide +kernel) (by decide +kernel)
theorem ar_boolean : Cond.arrayClass .boolean ∈ fw_GW := fw_gw 1403 (by decide +kernel) (by decide +kernel)
theorem ar_double : Cond.arrayClass .double ∈ fw_GW := fw_gw 2084 (by decide +kernel) (by decide +kernel)
theorem ar_byte : Cond.arrayClass .byte ∈ fw_GW := fw_gw 460 (by decide +kernel) (by decide +kernel)
theorem cn_X10_9 : Cond.classLink RX10 9 "Termreckonry$Law" ∈ fw_GW := fw_gw 93 (by decide +kernel) (by decide +kernel)
theorem cn_X10_15 : Cond.classLink RX10 15 "Termreckonry$Person" ∈ fw_GW := fw_gw 95 (by decide +kernel) (by decide +kernel)
theorem cn_X10_21 : Cond.classLink RX10 21 "Termreckonry$Warrant" ∈ fw_GW := fw_gw 97 (by decide +kernel) (by decide +kernel)
theorem cn_X10_27 : Cond.classLink RX10 27 "Termreckonry$Added" ∈ fw_GW := fw_gw 99 (by decide +kernel) (by decide +kernel)
theorem cn_X10_33 : Cond.classLink RX10 33 "Termreckonry$Days" ∈ fw_GW := fw_gw 101 (by decide +kernel) (by decide +kernel)
theorem cn_X10_42 : Cond.classLink RX10 42 "java/lang/IllegalArgumentException" ∈ fw_GW := fw_gw 389 (by decide +kernel) (by decide +kernel)
theorem cn_X10_75 : Cond.classLink RX10 75 "Termreckonry$Term" ∈ fw_GW := fw_gw 490 (by decide +kernel) (by decide +kernel)
theorem cn_X10_91 : Cond.classLink RX10 91 "java/lang/IllegalStateException" ∈ fw_GW := fw_gw 516 (by decide +kernel) (by decide +kernel)
theorem cn_X10_114 : Cond.classLink RX10 114 "java/lang/UnsupportedOperationException" ∈ fw_GW := fw_gw 613 (by decide +kernel) (by decide +kernel)
theorem cn_X10_123 : Cond.classLink RX10 123 "java/util/NoSuchElementException" ∈ fw_GW := fw_gw 629 (by decide +kernel) (by decide +kernel)
theorem cn_X10_247 : Cond.classLink RX10 247 "Termreckonry$Recall" ∈ fw_GW := fw_gw 956 (by decide +kernel) (by decide +kernel)
theorem cn_X10_320 : Cond.classLink RX10 320 "java/lang/ArithmeticException" ∈ fw_GW := fw_gw 1132 (by decide +kernel) (by decide +kernel)
theorem cn_X10_331 : Cond.classLink RX10 331 "java/lang/IndexOutOfBoundsException" ∈ fw_GW := fw_gw 599 (by decide +kernel) (by decide +kernel)
theorem cn_X5_7 : Cond.classLink RX5 7 "Termreckonry$Days" ∈ fw_GW := fw_gw 658 (by decide +kernel) (by decide +kernel)
theorem cn_X9_9 : Cond.classLink RX9 9 "Termreckonry$Tally" ∈ fw_GW := fw_gw 724 (by decide +kernel) (by decide +kernel)
theorem cn_L_8 : Cond.classLink RL 8 "Termreckonry" ∈ fw_GW := fw_gw 85 (by decide +kernel) (by decide +kernel)
theorem cn_L_13 : Cond.classLink RL 13 "java/lang/IllegalArgumentException" ∈ fw_GW := fw_gw 384 (by decide +kernel) (by decide +kernel)
theorem cn_L_27 : Cond.classLink RL 27 "java/lang/IllegalStateException" ∈ fw_GW := fw_gw 510 (by decide +kernel) (by decide +kernel)
theorem cn_L_32 : Cond.classLink RL 32 "java/lang/IndexOutOfBoundsException" ∈ fw_GW := fw_gw 565 (by decide +kernel) (by decide +kernel)
theorem cn_L_34 : Cond.classLink RL 34 "java/lang/UnsupportedOperationException" ∈ fw_GW := fw_gw 589 (by decide +kernel) (by decide +kernel)
theorem cn_L_36 : Cond.classLink RL 36 "java/util/NoSuchElementException" ∈ fw_GW := fw_gw 590 (by decide +kernel) (by decide +kernel)
theorem cn_L_115 : Cond.classLink RL 115 "java/lang/ArithmeticException" ∈ fw_GW := fw_gw 1114 (by decide +kernel) (by decide +kernel)
theorem cn_L_122 : Cond.classLink RL 122 "TermreckonryModel" ∈ fw_GW := fw_gw 1143 (by decide +kernel) (by decide +kernel)
theorem cn_X17_7 : Cond.classLink RX17 7 "java/util/ArrayList" ∈ fw_GW := fw_gw 1149 (by decide +kernel) (by decide +kernel)
theorem cn_X17_70 : Cond.classLink RX17 70 "TermreckonryModel$Law" ∈ fw_GW := fw_gw 1247 (by decide +kernel) (by decide +kernel)
theorem cn_X17_88 : Cond.classLink RX17 88 "TermreckonryModel$Warrant" ∈ fw_GW := fw_gw 1366 (by decide +kernel) (by decide +kernel)
theorem cn_X17_112 : Cond.classLink RX17 112 "TermreckonryModel$Person" ∈ fw_GW := fw_gw 1379 (by decide +kernel) (by decide +kernel)
theorem cn_X17_185 : Cond.classLink RX17 185 "TermreckonryModel$Added" ∈ fw_GW := fw_gw 1651 (by decide +kernel) (by decide +kernel)
theorem cn_X17_224 : Cond.classLink RX17 224 "TermreckonryModel$Fact" ∈ fw_GW := fw_gw 1693 (by decide +kernel) (by decide +kernel)
theorem cn_X17_273 : Cond.classLink RX17 273 "TermreckonryModel$Recall" ∈ fw_GW := fw_gw 1962 (by decide +kernel) (by decide +kernel)
theorem cn_J4_18 : Cond.classLink RJ4 18 "java/lang/String" ∈ fw_GW := fw_gw 1885 (by decide +kernel) (by decide +kernel)
theorem cn_Jx4a65c_7 : Cond.classLink RJx4a65c 7 "java/lang/Object" ∈ fw_GW := fw_gw 1339 (by decide +kernel) (by decide +kernel)
theorem cn_Jx4a65c_20 : Cond.classLink RJx4a65c 20 "java/lang/StringBuilder" ∈ fw_GW := fw_gw 1747 (by decide +kernel) (by decide +kernel)
theorem cn_Jx4a65c_187 : Cond.classLink RJx4a65c 187 "java/lang/IndexOutOfBoundsException" ∈ fw_GW := fw_gw 1742 (by decide +kernel) (by decide +kernel)
theorem cn_Jx4a65c_267 : Cond.classLink RJx4a65c 267 "java/util/ArrayList$Itr" ∈ fw_GW := fw_gw 1573 (by decide +kernel) (by decide +kernel)
theorem cn_Jx35411_34 : Cond.classLink RJx35411 34 "java/util/NoSuchElementException" ∈ fw_GW := fw_gw 1615 (by decide +kernel) (by decide +kernel)
theorem cn_J7_2 : Cond.classLink RJ7 2 "java/lang/Object" ∈ fw_GW := fw_gw 1333 (by decide +kernel) (by decide +kernel)
theorem cn_J7_43 : Cond.classLink RJ7 43 "java/lang/IllegalArgumentException" ∈ fw_GW := fw_gw 1916 (by decide +kernel) (by decide +kernel)
theorem cn_J7_45 : Cond.classLink RJ7 45 "java/lang/StringBuilder" ∈ fw_GW := fw_gw 1917 (by decide +kernel) (by decide +kernel)
theorem cn_J7_110 : Cond.classLink RJ7 110 "[Ljava/lang/Object;" ∈ fw_GW := fw_gw 1331 (by decide +kernel) (by decide +kernel)
theorem cn_J7_311 : Cond.classLink RJ7 311 "[B" ∈ fw_GW := fw_gw 1808 (by decide +kernel) (by decide +kernel)
end
section
/-! FRAME: one judgement over an abstract heap, a rule an instruction kind -/
/-- an object: an array of the type number t, or an object of the class number ci -/
abbrev fw_O : Type := (Nat × vp_A) ⊕ (Nat × List Value)
abbrev fw_H : Type := Nat → Option fw_O
def fw_up (h : fw_H) (a : Nat) (o : fw_O) : fw_H := fun b => if b = a then some o else h b
theorem fw_up_s {h : fw_H} {a : Nat} {o : fw_O} : fw_up h a o a = some o := if_pos rfl
theorem fw_up_n {h : fw_H} {a b : Nat} {o : fw_O} (n : b ≠ a) : fw_up h a o b = h b := if_neg n
/-- launch, first address of the run's own, classes' numbers, array classes, the script: its cell, its length, its numbers -/
abbrev fw_G : Type := Launch × Nat × va_G × (Nat → ClassId) × (Nat × Nat × (Nat → Int32))
def fw_E (cT : Nat → ClassId) (o : fw_O) : va_E := match o with
  | .inl x => .inl (cT x.1, x.2)
  | .inr x => .inr x
def fw_ty : Nat → FieldType := fun t => match t with
  | 0 => .int
  | 1 => .long
  | 2 => .boolean
  | 3 => .double
  | 4 => .byte
  | 5 => .object "Termreckonry$Law"
  | 6 => .object "Termreckonry$Person"
  | 7 => .object "Termreckonry$Warrant"
  | 8 => .object "Termreckonry$Added"
  | 9 => .object "TermreckonryModel$Fact"
  | _ => .object "java/lang/Object"
def fw_tys (cT : Nat → ClassId) : List (ClassId × FieldType) := (List.range 11).map (fun t => (cT t, fw_ty t))
theorem fw_tys_at (cT : Nat → ClassId) {t : Nat} (h : t < 11) : (fw_tys cT)[t]? = some (cT t, fw_ty t) := by
  unfold fw_tys
  rw [List.getElem?_map, List.getElem?_range h]
  rfl
/-- the heap holds the abstract heap -/
def fw_P (G : fw_G) (h : fw_H) (H : Heap) : Prop := ∃ ws : va_W, va_P G.2.2.1 vwCl ws H ∧ va_D (fun q => G.2.1 ≤ q) ws ∧ ∀ (a : Nat) (o : fw_O), h a = some o → (a, fw_E G.2.2.2.1 o) ∈ ws
theorem fw_P.get {G : fw_G} {h : fw_H} {H : Heap} (hP : fw_P G h H) {a : Nat} {o : fw_O} (ho : h a = some o) : ∃ (ws : va_W) (k : Nat), va_P G.2.2.1 vwCl ws H ∧ va_D (fun q => G.2.1 ≤ q) ws ∧ (∀ (a : Nat) (o : fw_O), h a = some o → (a, fw_E G.2.2.2.1 o) ∈ ws) ∧ ws[k]? = some (a, fw_E G.2.2.2.1 o) := by
  obtain ⟨ws, h1, h2, h3⟩ := hP
  obtain ⟨k, hk⟩ := List.getElem?_of_mem (h3 a o ho)
  exact ⟨ws, k, h1, h2, h3, hk⟩
theorem fw_P.set {G : fw_G} {h : fw_H} {H1 : Heap} {ws : va_W} {k a : Nat} {o o' : fw_O} (h3 : ∀ (a : Nat) (o : fw_O), h a = some o → (a, fw_E G.2.2.2.1 o) ∈ ws) (hk : ws[k]? = some (a, fw_E G.2.2.2.1 o)) (h1 : va_P G.2.2.1 vwCl (ws.set k (a, fw_E G.2.2.2.1 o')) H1) (h2 : va_D (fun q => G.2.1 ≤ q) (ws.set k (a, fw_E G.2.2.2.1 o'))) : fw_P G (fw_up h a o') H1 := by
  refine ⟨_, h1, h2, fun b x hb => ?_⟩
  have hl := (List.getElem?_eq_some_iff.mp hk).1
  by_cases e : b = a
  · subst e
    rw [fw_up_s] at hb
    cases hb
    exact List.mem_of_getElem? (i := k) (List.getElem?_set_self hl)
  · rw [fw_up_n e] at hb
    obtain ⟨j, hj⟩ := List.getElem?_of_mem (h3 b x hb)
    have hjk : k ≠ j := fun z => by subst z; rw [hk] at hj; exact e (congrArg Prod.fst (Option.some.inj hj)).symm
    exact List.mem_of_getElem? (i := j) (by rw [List.getElem?_set_ne hjk]; exact hj)
theorem fw_P.push {G : fw_G} {h : fw_H} {H1 : Heap} {ws : va_W} {a : Nat} {o : fw_O} (h3 : ∀ (a : Nat) (o : fw_O), h a = some o → (a, fw_E G.2.2.2.1 o) ∈ ws) (h1 : va_P G.2.2.1 vwCl (ws ++ [(a, fw_E G.2.2.2.1 o)]) H1) (h2 : va_D (fun q => G.2.1 ≤ q) (ws ++ [(a, fw_E G.2.2.2.1 o)])) : h a = none ∧ G.2.1 ≤ a ∧ fw_P G (fw_up h a o) H1 := by
  have hlast : (ws ++ [(a, fw_E G.2.2.2.1 o)])[ws.length]? = some (a, fw_E G.2.2.2.1 o) := by
    rw [List.getElem?_append_right (Nat.le_refl _), Nat.sub_self]; rfl
  refine ⟨?_, h2.2 _ _ hlast, _, h1, h2, fun b x hb => ?_⟩
  · cases hx : h a with
    | none => rfl
    | some x =>
      obtain ⟨j, hj⟩ := List.getElem?_of_mem (h3 a x hx)
      have hl := (List.getElem?_eq_some_iff.mp hj).1
      have hj2 : (ws ++ [(a, fw_E G.2.2.2.1 o)])[j]? = some (a, fw_E G.2.2.2.1 x) := by rw [List.getElem?_append_left hl]; exact hj
      have := h2.1 _ _ _ _ hj2 hlast rfl
      omega
  · by_cases e : b = a
    · subst e
      rw [fw_up_s] at hb
      cases hb
      exact List.mem_of_getElem? hlast
    · rw [fw_up_n e] at hb
      exact List.mem_append_left _ (h3 b x hb)
theorem fw_P.lt {G : fw_G} {h : fw_H} {H : Heap} (hP : fw_P G h H) {a : Nat} {o : fw_O} (ho : h a = some o) : a < H.size ∧ G.2.1 ≤ a := by
  obtain ⟨ws, k, h1, h2, -, hk⟩ := hP.get ho
  exact ⟨(h1 k _ hk).lt, h2.2 k _ hk⟩
/-- array classes are told by their names -/
theorem fw_RA1 {U : State} {c1 c2 : ClassId} {ty : FieldType} (h1 : va_RA U c1 ty) (h2 : va_RA U c2 ty) : c1 = c2 := by
  cases ty with
  | object C =>
    obtain ⟨_, _, _, _, _, e1⟩ := h1
    obtain ⟨_, _, _, _, _, e2⟩ := h2
    exact Option.some.inj (e1.symm.trans e2)
  | _ => exact Option.some.inj (Eq.trans (Eq.symm h1) h2)
def fw_md : Nat → Value := fun j => .int (([31, 28, 31, 30, 31, 30, 31, 31, 30, 31, 30, 31] : List Int32).getD j 0)
/-- the messages of the exceptions, by their places in the class's pool -/
def fw_strs : List (Nat × String) := [(44, "no such year"), (57, "no such date"), (342, "a number is out of range"), (82, "no such way"), (93, "no more laws"), (336, "no such warrant"), (116, "no law for this kind"), (125, "no law counts"), (131, "no more persons"), (333, "no such person"), (346, "no such kind of warrant"), (344, "the term is nothing"), (149, "another person's warrant"), (154, "no more warrants"), (180, "not suspended, or it runs"), (202, "no more added days"), (338, "no such added days"), (231, "no such kind of recall"), (240, "not on licence"), (245, "no more recalls"), (260, "no recall goes on"), (340, "it counts for nothing, or never begins"), (281, "no release"), (286, "no licence, or one for ever"), (297, "no warrant keeps"), (322, "no persons"), (325, "no warrant has begun")]
def fw_exs : List String := ["java/lang/IllegalArgumentException", "java/lang/IllegalStateException", "java/lang/IndexOutOfBoundsException", "java/lang/UnsupportedOperationException", "java/util/NoSuchElementException", "java/lang/ArithmeticException"]
def fw_aos : List String := ["Termreckonry$Law", "Termreckonry$Person", "Termreckonry$Warrant", "Termreckonry$Added", "TermreckonryModel$Fact", "java/lang/Object"]
def fw_A (N0 : Nat) : Nat → Prop := fun q => N0 ≤ q
/-- what lies in the heap from the start on and is only read -/
def fw_F (N0 : Nat) (sc : Nat × Nat × (Nat → Int32)) (U : State) (H : Heap) : Prop :=
  (∃ t, va_Z "Termreckonry$Calendar" "MONTH_DAYS" "[I" (.ref t) (fw_A N0) U H ∧ va_T .int t 12 fw_md (fw_A N0) U H) ∧
  (vx_Zq Bundle.tN "UNASSIGNED_STACK" Bundle.steD (fw_A N0) U H ∧ vx_Zq Bundle.tN "SUPPRESSED_SENTINEL" Bundle.listD (fw_A N0) U H) ∧
  (∀ q ∈ fw_strs, ∃ a, vk_R "Termreckonry" q.1 q.2 a U) ∧
  (∃ t, va_Z "java/util/ArrayList" "DEFAULTCAPACITY_EMPTY_ELEMENTDATA" "[Ljava/lang/Object;" (.ref t) (fw_A N0) U H ∧ va_T (.object "java/lang/Object") t 0 (fun _ => .null) (fw_A N0) U H) ∧
  (va_Z "java/lang/String" "COMPACT_STRINGS" "Z" (.int 1) (fw_A N0) U H) ∧
  (∃ adK adV : Nat → Nat, vk_R "TermreckonryModel" 121 "flds" (adK 0) U ∧ vk_R "TermreckonryModel" 324 "lo" (adK 1) U ∧ vk_R "TermreckonryModel" 329 "pr" (adK 2) U ∧ vk_S 3 [4, 2, 2] [[102, 108, 100, 115], [108, 111], [112, 114]] adK adV (fw_A N0) U H) ∧
  (∃ mi, va_Mi "[Ljava/lang/Object;" mi U) ∧
  ((∀ w ∈ fw_NW, va_Nw w U) ∧ (∀ a ∈ fw_exs, ∀ b ∈ fw_exs, a ≠ b → va_Nc a b U) ∧ (∀ C ∈ fw_aos, va_AO C U) ∧ va_T .int sc.1 sc.2.1 (fun j => .int (sc.2.2 j)) (fw_A N0) U H)
theorem fw_F.kept {N0 : Nat} {sc : Nat × Nat × (Nat → Int32)} {U : State} {H H1 : Heap} (h : fw_F N0 sc U H) (hq : ∀ a : Nat, a < H.size → ¬ fw_A N0 a → H1[a]? = H[a]?) : fw_F N0 sc U H1 := by
  obtain ⟨⟨t, a1, a2⟩, ⟨b1, b2⟩, c1, ⟨t2, d1, d2⟩, e1, ⟨k, v, f1, f2, f3, f4⟩, g, i1, i2, i3, i4⟩ := h
  exact ⟨⟨t, a1.kept hq, a2.kept hq⟩, ⟨b1.kept hq, b2.kept hq⟩, c1, ⟨t2, d1.kept hq, d2.kept hq⟩, e1.kept hq, ⟨k, v, f1, f2, f3, f4.kept hq⟩, g, i1, i2, i3, i4.kept hq⟩
theorem fw_F.warm {N0 : Nat} {sc : Nat × Nat × (Nat → Int32)} {s U : State} {H : Heap} (hW : s.WarmedH U.vm) (h : fw_F N0 sc s H) : fw_F N0 sc U H := by
  obtain ⟨⟨t, a1, a2⟩, ⟨b1, b2⟩, c1, ⟨t2, d1, d2⟩, e1, ⟨k, v, f1, f2, f3, f4⟩, ⟨mi, g⟩, i1, i2, i3, i4⟩ := h
  have hA : s.vm.Alike U.vm := hW.alike
  exact ⟨⟨t, va_Z.moved hA a1, va_T.moved hA a2⟩, ⟨vx_Zq.moved hA b1, vx_Zq.moved hA b2⟩, fun q hq => (c1 q hq).imp fun a ha => vk_R.warm hW ha, ⟨t2, va_Z.moved hA d1, va_T.moved hA d2⟩, va_Z.moved hA e1, ⟨k, v, vk_R.warm hW f1, vk_R.warm hW f2, vk_R.warm hW f3, vk_S.moved hA f4⟩, ⟨mi, va_Mi.moved hA g⟩, fun w hw => fw_Nw_warm hW (List.mem_filter.mp hw).2 (i1 w hw), fun a ha b hb n => va_Nc.moved hA (i2 a ha b hb n), fun C hC => va_AO.moved hA (i3 C hC), va_T.moved hA i4⟩
theorem fw_F.same {N0 : Nat} {sc : Nat × Nat × (Nat → Int32)} {u U : State} {H : Heap} (hv : U.vm = u.vm) (h : fw_F N0 sc u H) : fw_F N0 sc U H := by
  obtain ⟨⟨t, a1, a2⟩, ⟨b1, b2⟩, c1, ⟨t2, d1, d2⟩, e1, ⟨k, v, f1, f2, f3, f4⟩, ⟨mi, g⟩, i1, i2, i3, i4⟩ := h
  have hA : u.vm.Alike U.vm := by rw [hv]; exact Vm.Alike.refl u.vm
  exact ⟨⟨t, va_Z.moved hA a1, va_T.moved hA a2⟩, ⟨vx_Zq.moved hA b1, vx_Zq.moved hA b2⟩, fun q hq => (c1 q hq).imp fun a ha => vk_R.same hv ha, ⟨t2, va_Z.moved hA d1, va_T.moved hA d2⟩, va_Z.moved hA e1, ⟨k, v, vk_R.same hv f1, vk_R.same hv f2, vk_R.same hv f3, vk_S.moved hA f4⟩, ⟨mi, va_Mi.moved hA g⟩, fun w hw => va_tabs (fw_ww_on (List.mem_filter.mp hw).2) hv.symm (i1 w hw), fun a ha b hb n => va_Nc.moved hA (i2 a ha b hb n), fun C hC => va_AO.moved hA (i3 C hC), va_T.moved hA i4⟩
/-- what every method's start holds: tables, statics -/
def fw_K (G : fw_G) (U : State) (H : Heap) : Prop := va_K G.2.2.1 vwCl (fw_tys G.2.2.2.1) U ∧ fw_F G.2.1 G.2.2.2.2 U H
/-- locals, a later store before an older one -/
def fw_lk : List (Nat × Value) → Nat → Option Value
  | [], _ => none
  | q :: L, i => bif Nat.beq q.1 i then some q.2 else fw_lk L i
theorem fw_lk_c (i j : Nat) (v : Value) (L : List (Nat × Value)) : fw_lk ((i, v) :: L) j = if i = j then some v else fw_lk L j := by
  show (bif Nat.beq i j then some v else fw_lk L j) = _
  by_cases h : i = j
  · subst h; simp
  · rw [if_neg h]
    have : Nat.beq i j = false := by
      cases hb : Nat.beq i j with
      | false => rfl
      | true => exact absurd (Nat.eq_of_beq_eq_true hb) h
    rw [this]; rfl
def fw_has (ls : Array Slot) (n : Nat) (L : List (Nat × Value)) : Prop := ls.size = n ∧ lv_wf ls ∧ ∀ (i : Nat) (v : Value), fw_lk L i = some v → ls[i]? = some (.val v)
def fw_all (n : Nat) (L : List (Nat × Value)) : List (Nat × Value) := (List.range n).filterMap (fun i => (fw_lk L i).map (fun v => (i, v)))
theorem fw_has.lv {ls : Array Slot} {n : Nat} {L : List (Nat × Value)} (h : fw_has ls n L) : lv_has ls n (fw_all n L) := by
  refine ⟨h.1, h.2.1, fun q hq => ?_⟩
  obtain ⟨i, -, hi⟩ := List.mem_filterMap.mp hq
  cases hv : fw_lk L i with
  | none => rw [hv] at hi; cases hi
  | some v =>
    rw [hv] at hi
    cases hi
    exact h.2.2 i v hv
theorem fw_all_mem {ls : Array Slot} {n : Nat} {L : List (Nat × Value)} (h : fw_has ls n L) {i : Nat} {v : Value} (hv : fw_lk L i = some v) : (i, v) ∈ fw_all n L := by
  have hl := h.2.2 i v hv
  have hi : i < n := by rw [← h.1]; exact lv_lt hl
  refine List.mem_filterMap.mpr ⟨i, List.mem_range.mpr hi, ?_⟩
  rw [hv]; rfl
def fw_c2 (o : Option Value) : Bool := match o with
  | some v => Nat.beq v.category 2
  | none => false
/-- a store at i harms no long below -/
def fw_ok1 (L : List (Nat × Value)) (i : Nat) : Bool := match i with
  | 0 => true
  | j + 1 => !fw_c2 (fw_lk L j)
def fw_ok2 (L : List (Nat × Value)) (i : Nat) : Bool := fw_ok1 L i && (match fw_lk L (i + 1) with | none => true | some _ => false)
theorem fw_cat2 {v : Value} (h : Nat.beq v.category 2 = false) : (v.category == 2) = false := by
  cases hc : (v.category == 2) with
  | false => rfl
  | true =>
    have e : v.category = 2 := by simpa using hc
    rw [e] at h; cases h
theorem fw_store1 {ls ls' : Array Slot} {n : Nat} {L : List (Nat × Value)} {i : Nat} {v : Value} (h : fw_has ls n L) (ho : fw_ok1 L i = true)
    (h' : lv_has ls' n ((i, v) :: (fw_all n L).filter (fun q => !(q.1 == i) && !(q.1 + 1 == i && q.2.category == 2)))) : fw_has ls' n ((i, v) :: L) := by
  refine ⟨h'.1, h'.2.1, fun j w hj => ?_⟩
  rw [fw_lk_c] at hj
  by_cases e : i = j
  · rw [if_pos e] at hj
    cases hj
    subst e
    exact h'.2.2 (i, v) List.mem_cons_self
  · rw [if_neg e] at hj
    refine h'.2.2 (j, w) (List.mem_cons_of_mem _ (List.mem_filter.mpr ⟨fw_all_mem h hj, ?_⟩))
    have e1 : (j == i) = false := by simpa using fun z => e (Eq.symm z)
    by_cases e2 : j + 1 = i
    · subst e2
      have e3 : fw_c2 (fw_lk L j) = false := by simpa [fw_ok1] using ho
      rw [hj] at e3
      simp only [e1, fw_cat2 e3, Bool.and_false, Bool.not_false, Bool.and_self]
    · have e3 : (j + 1 == i) = false := by simpa using e2
      simp only [e1, e3, Bool.false_and, Bool.not_false, Bool.and_self]
theorem fw_store2 {ls ls' : Array Slot} {n : Nat} {L : List (Nat × Value)} {i : Nat} {v : Value} (h : fw_has ls n L) (ho : fw_ok2 L i = true)
    (h' : lv_has ls' n ((i, v) :: (fw_all n L).filter (fun q => !(q.1 == i) && (!(q.1 == i + 1) && !(q.1 + 1 == i && q.2.category == 2))))) : fw_has ls' n ((i, v) :: L) := by
  unfold fw_ok2 at ho
  obtain ⟨ho1, ho2⟩ := Bool.and_eq_true_iff.mp ho
  refine ⟨h'.1, h'.2.1, fun j w hj => ?_⟩
  rw [fw_lk_c] at hj
  by_cases e : i = j
  · rw [if_pos e] at hj
    cases hj
    subst e
    exact h'.2.2 (i, v) List.mem_cons_self
  · rw [if_neg e] at hj
    refine h'.2.2 (j, w) (List.mem_cons_of_mem _ (List.mem_filter.mpr ⟨fw_all_mem h hj, ?_⟩))
    have e1 : (j == i) = false := by simpa using fun z => e (Eq.symm z)
    have e4 : (j == i + 1) = false := by
      cases hb : (j == i + 1) with
      | false => rfl
      | true =>
        have hz : j = i + 1 := by simpa using hb
        subst hz
        rw [hj] at ho2
        cases ho2
    by_cases e2 : j + 1 = i
    · subst e2
      have e3 : fw_c2 (fw_lk L j) = false := by simpa [fw_ok1] using ho1
      rw [hj] at e3
      simp only [e1, e4, fw_cat2 e3, Bool.and_false, Bool.not_false, Bool.and_self]
    · have e3 : (j + 1 == i) = false := by simpa using e2
      simp only [e1, e4, e3, Bool.false_and, Bool.not_false, Bool.and_self]
theorem fw_has.sub {ls : Array Slot} {n : Nat} {L L' : List (Nat × Value)} (h : fw_has ls n L) (hs : ∀ q ∈ L', fw_lk L q.1 = some q.2) : fw_has ls n L' := by
  refine ⟨h.1, h.2.1, fun i v hi => h.2.2 i v ?_⟩
  induction L' with
  | nil => cases hi
  | cons q L' ih =>
    obtain ⟨j, w⟩ := q
    rw [fw_lk_c] at hi
    by_cases e : j = i
    · rw [if_pos e] at hi
      cases hi
      subst e
      exact hs (j, _) List.mem_cons_self
    · rw [if_neg e] at hi
      exact ih (fun q hq => hs q (List.mem_cons_of_mem _ hq)) hi
/-- what is to hold at its end: by an answer, by a throw -/
abbrev fw_Q : Type := (Option Value → fw_H → Prop) × (String → fw_H → Prop)
def fw_Qc (G : fw_G) (Q : fw_Q) : Array Value → State → Outcome → State → Prop := fun _ _ o t => ∃ (r : Option Value) (h : fw_H), o = .returned r ∧ Q.1 r h ∧ fw_P G h t.heap
def fw_XC (G : fw_G) (Q : fw_Q) : String → State → State → Prop := fun E _ t => ∃ h : fw_H, Q.2 E h ∧ fw_P G h t.heap
/-- the frame's surroundings -/
def fw_C (G : fw_G) (y : fw_M) (p : Program) (R : Room) (s : State) (m : MethodId) (args : Array Value) (meth : Method) (c : Code) : Prop :=
  p.tables.exec = Jvm.exec ∧ c.code = y.2.1 ∧ meth.sig.returnType = y.2.2.2.1 ∧ meth.locks = false ∧ c.maxLocals = y.2.2.1 ∧ s.vm.findClass y.1.cls = some m.cls ∧ meth.name = y.1.name ∧ (∀ w ∈ fw_GW, w.before args s = true) ∧ c.exceptionTable.toList = tableOf y.2.2.2.2 ∧ fw_K G s s.heap ∧ G.2.1 ≤ s.heap.size
def fw_D (G : fw_G) (y : fw_M) (d kc ks : Nat) (h : fw_H) (L : List (Nat × Value)) (R : Room) (s : State) (H : Heap) (locs : List Loc) (cells slots : Nat) (ls : Array Slot) : Prop :=
  fw_P G h H ∧ va_S (fw_A G.2.1) s.heap H locs ∧ (d + 20 ≤ R.frames ∧ 60 * d + 400 ≤ R.locals ∧ cells + kc ≤ R.cells ∧ slots + ks ≤ R.slots) ∧ fw_has ls y.2.2.1 L
/-- from this frame on, the method comes to its end, with Q; d: how deep it may call, kc, ks: cells and slots that it may make -/
def PW (G : fw_G) (y : fw_M) (Q : fw_Q) (d kc ks : Nat) (h : fw_H) (pc : Nat) (L : List (Nat × Value)) (st : List Value) : Prop :=
  ∀ (p : Program) (e : Env) (R : Room) (s : State) (m : MethodId) (args : Array Value) (below : List Frame) (meth : Method) (c : Code) (H : Heap) (locs : List Loc) (cells slots : Nat) (ls : Array Slot),
    fw_C G y p R s m args meth c → fw_D G y d kc ks h L R s H locs cells slots ls →
    W p G.1 e R s m args below meth c H locs cells slots (vx_MQ below (fw_Qc G Q) (fw_XC G Q) args s R.cells R.slots (fw_A G.2.1)) (F0 m pc ls st)
/-- a method's contract -/
def fw_pre (G : fw_G) (h : fw_H) (U : State) : Prop := G.2.1 ≤ U.heap.size ∧ fw_P G h U.heap ∧ fw_K G U U.heap
def fw_rm (d mc ms : Nat) : Room := { frames := d + 20, cells := mc, slots := ms, locals := 60 * d + 400 }
def PM (G : fw_G) (d mc ms : Nat) (y : fw_M) (av : List Value) (h : fw_H) (Q : fw_Q) : Prop :=
  vx_Met G.1 y.1 (fw_cw y :: fw_GW) (fw_rm d mc ms) (va_Pc av (fw_pre G h)) (fw_Qc G Q) (fw_XC G Q) mc ms (fw_A G.2.1)
end
section
/-! RULES: what touches no heap -/
def fw_ldi (L : List (Nat × Value)) (a nx : Nat) (st : List Value) : Option (Nat × List (Nat × Value) × List Value) := match fw_lk L a with
  | some (.int x) => some (nx, L, .int x :: st)
  | _ => none
def fw_ldl (L : List (Nat × Value)) (a nx : Nat) (st : List Value) : Option (Nat × List (Nat × Value) × List Value) := match fw_lk L a with
  | some (.long x) => some (nx, L, .long x :: st)
  | _ => none
def fw_ldf (L : List (Nat × Value)) (a nx : Nat) (st : List Value) : Option (Nat × List (Nat × Value) × List Value) := match fw_lk L a with
  | some (.float x) => some (nx, L, .float x :: st)
  | _ => none
def fw_ldd (L : List (Nat × Value)) (a nx : Nat) (st : List Value) : Option (Nat × List (Nat × Value) × List Value) := match fw_lk L a with
  | some (.double x) => some (nx, L, .double x :: st)
  | _ => none
def fw_lda (L : List (Nat × Value)) (a nx : Nat) (st : List Value) : Option (Nat × List (Nat × Value) × List Value) := match fw_lk L a with
  | some (.ref x) => some (nx, L, .ref x :: st)
  | some .null => some (nx, L, .null :: st)
  | _ => none
def fw_svi (L : List (Nat × Value)) (a nx : Nat) (st : List Value) : Option (Nat × List (Nat × Value) × List Value) := match st with
  | .int x :: r => bif fw_ok1 L a then some (nx, (a, .int x) :: L, r) else none
  | _ => none
def fw_svl (L : List (Nat × Value)) (a nx : Nat) (st : List Value) : Option (Nat × List (Nat × Value) × List Value) := match st with
  | .long x :: r => bif fw_ok2 L a then some (nx, (a, .long x) :: L, r) else none
  | _ => none
def fw_svf (L : List (Nat × Value)) (a nx : Nat) (st : List Value) : Option (Nat × List (Nat × Value) × List Value) := match st with
  | .float x :: r => bif fw_ok1 L a then some (nx, (a, .float x) :: L, r) else none
  | _ => none
def fw_svd (L : List (Nat × Value)) (a nx : Nat) (st : List Value) : Option (Nat × List (Nat × Value) × List Value) := match st with
  | .double x :: r => bif fw_ok2 L a then some (nx, (a, .double x) :: L, r) else none
  | _ => none
def fw_sva (L : List (Nat × Value)) (a nx : Nat) (st : List Value) : Option (Nat × List (Nat × Value) × List Value) := match st with
  | .ref x :: r => bif fw_ok1 L a then some (nx, (a, .ref x) :: L, r) else none
  | .null :: r => bif fw_ok1 L a then some (nx, (a, .null) :: L, r) else none
  | _ => none
def fw_inc (L : List (Nat × Value)) (a nx : Nat) (v : Int32) (st : List Value) : Option (Nat × List (Nat × Value) × List Value) := match fw_lk L a with
  | some (.int x) => bif fw_ok1 L a then some (nx, (a, .int (x + v)) :: L, st) else none
  | _ => none
def fw_o_iadd (L : List (Nat × Value)) (nx : Nat) (st : List Value) : Option (Nat × List (Nat × Value) × List Value) := match st with
  | .int y :: .int x :: r => some (nx, L, .int (x + y) :: r)
  | _ => none
def fw_o_isub (L : List (Nat × Value)) (nx : Nat) (st : List Value) : Option (Nat × List (Nat × Value) × List Value) := match st with
  | .int y :: .int x :: r => some (nx, L, .int (x - y) :: r)
  | _ => none
def fw_o_imul (L : List (Nat × Value)) (nx : Nat) (st : List Value) : Option (Nat × List (Nat × Value) × List Value) := match st with
  | .int y :: .int x :: r => some (nx, L, .int (x * y) :: r)
  | _ => none
def fw_o_iand (L : List (Nat × Value)) (nx : Nat) (st : List Value) : Option (Nat × List (Nat × Value) × List Value) := match st with
  | .int y :: .int x :: r => some (nx, L, .int (x &&& y) :: r)
  | _ => none
def fw_o_ior (L : List (Nat × Value)) (nx : Nat) (st : List Value) : Option (Nat × List (Nat × Value) × List Value) := match st with
  | .int y :: .int x :: r => some (nx, L, .int (x ||| y) :: r)
  | _ => none
def fw_o_ishl (L : List (Nat × Value)) (nx : Nat) (st : List Value) : Option (Nat × List (Nat × Value) × List Value) := match st with
  | .int y :: .int x :: r => some (nx, L, .int (x <<< (y &&& 31)) :: r)
  | _ => none
def fw_o_ishr (L : List (Nat × Value)) (nx : Nat) (st : List Value) : Option (Nat × List (Nat × Value) × List Value) := match st with
  | .int y :: .int x :: r => some (nx, L, .int (x >>> (y &&& 31)) :: r)
  | _ => none
def fw_o_iushr (L : List (Nat × Value)) (nx : Nat) (st : List Value) : Option (Nat × List (Nat × Value) × List Value) := match st with
  | .int y :: .int x :: r => some (nx, L, .int (x.toUInt32 >>> (y.toUInt32 &&& Int32.toUInt32 31)).toInt32 :: r)
  | _ => none
def fw_o_ineg (L : List (Nat × Value)) (nx : Nat) (st : List Value) : Option (Nat × List (Nat × Value) × List Value) := match st with
  | .int x :: r => some (nx, L, .int (-x) :: r)
  | _ => none
def fw_o_ladd (L : List (Nat × Value)) (nx : Nat) (st : List Value) : Option (Nat × List (Nat × Value) × List Value) := match st with
  | .long y :: .long x :: r => some (nx, L, .long (x + y) :: r)
  | _ => none
def fw_o_lsub (L : List (Nat × Value)) (nx : Nat) (st : List Value) : Option (Nat × List (Nat × Value) × List Value) := match st with
  | .long y :: .long x :: r => some (nx, L, .long (x - y) :: r)
  | _ => none
def fw_o_land (L : List (Nat × Value)) (nx : Nat) (st : List Value) : Option (Nat × List (Nat × Value) × List Value) := match st with
  | .long y :: .long x :: r => some (nx, L, .long (x &&& y) :: r)
  | _ => none
def fw_o_lor (L : List (Nat × Value)) (nx : Nat) (st : List Value) : Option (Nat × List (Nat × Value) × List Value) := match st with
  | .long y :: .long x :: r => some (nx, L, .long (x ||| y) :: r)
  | _ => none
def fw_o_lxor (L : List (Nat × Value)) (nx : Nat) (st : List Value) : Option (Nat × List (Nat × Value) × List Value) := match st with
  | .long y :: .long x :: r => some (nx, L, .long (x ^^^ y) :: r)
  | _ => none
def fw_o_lshl (L : List (Nat × Value)) (nx : Nat) (st : List Value) : Option (Nat × List (Nat × Value) × List Value) := match st with
  | .int y :: .long x :: r => some (nx, L, .long (x <<< (y.toInt64 &&& 63)) :: r)
  | _ => none
def fw_o_lushr (L : List (Nat × Value)) (nx : Nat) (st : List Value) : Option (Nat × List (Nat × Value) × List Value) := match st with
  | .int y :: .long x :: r => some (nx, L, .long (x.toUInt64 >>> (y.toInt64.toUInt64 &&& Int64.toUInt64 63)).toInt64 :: r)
  | _ => none
def fw_o_i2l (L : List (Nat × Value)) (nx : Nat) (st : List Value) : Option (Nat × List (Nat × Value) × List Value) := match st with
  | .int x :: r => some (nx, L, .long x.toInt64 :: r)
  | _ => none
def fw_o_l2i (L : List (Nat × Value)) (nx : Nat) (st : List Value) : Option (Nat × List (Nat × Value) × List Value) := match st with
  | .long x :: r => some (nx, L, .int x.toInt32 :: r)
  | _ => none
def fw_o_i2c (L : List (Nat × Value)) (nx : Nat) (st : List Value) : Option (Nat × List (Nat × Value) × List Value) := match st with
  | .int x :: r => some (nx, L, .int (x.toUInt32 % 65536).toInt32 :: r)
  | _ => none
def fw_o_i2b (L : List (Nat × Value)) (nx : Nat) (st : List Value) : Option (Nat × List (Nat × Value) × List Value) := match st with
  | .int x :: r => some (nx, L, .int x.toInt8.toInt32 :: r)
  | _ => none
def fw_o_i2f (L : List (Nat × Value)) (nx : Nat) (st : List Value) : Option (Nat × List (Nat × Value) × List Value) := match st with
  | .int x :: r => some (nx, L, .float (FP.i2f x) :: r)
  | _ => none
def fw_o_i2d (L : List (Nat × Value)) (nx : Nat) (st : List Value) : Option (Nat × List (Nat × Value) × List Value) := match st with
  | .int x :: r => some (nx, L, .double (FP.i2d x) :: r)
  | _ => none
def fw_o_l2d (L : List (Nat × Value)) (nx : Nat) (st : List Value) : Option (Nat × List (Nat × Value) × List Value) := match st with
  | .long x :: r => some (nx, L, .double (FP.l2d x) :: r)
  | _ => none
def fw_o_lcmp (L : List (Nat × Value)) (nx : Nat) (st : List Value) : Option (Nat × List (Nat × Value) × List Value) := match st with
  | .long y :: .long x :: r => some (nx, L, .int (lg_cmp x y) :: r)
  | _ => none
def fw_dup (L : List (Nat × Value)) (nx : Nat) (st : List Value) : Option (Nat × List (Nat × Value) × List Value) := match st with
  | v :: r => bif Nat.beq v.category 1 then some (nx, L, v :: v :: r) else none
  | _ => none
def fw_pop (L : List (Nat × Value)) (nx : Nat) (st : List Value) : Option (Nat × List (Nat × Value) × List Value) := match st with
  | v :: r => bif Nat.beq v.category 1 then some (nx, L, r) else none
  | _ => none
def fw_dupx1 (L : List (Nat × Value)) (nx : Nat) (st : List Value) : Option (Nat × List (Nat × Value) × List Value) := match st with
  | v :: u :: r => bif Nat.beq v.category 1 && Nat.beq u.category 1 then some (nx, L, v :: u :: v :: r) else none
  | _ => none
def fw_dup2 (L : List (Nat × Value)) (nx : Nat) (st : List Value) : Option (Nat × List (Nat × Value) × List Value) := match st with
  | v :: u :: r => bif Nat.beq v.category 1 && Nat.beq u.category 1 then some (nx, L, v :: u :: v :: u :: r) else none
  | _ => none
def fw_ifn (L : List (Nat × Value)) (nx a : Nat) (st : List Value) : Option (Nat × List (Nat × Value) × List Value) := match st with
  | .ref _ :: r => some (nx, L, r)
  | .null :: r => some (a, L, r)
  | _ => none
def fw_ifnn (L : List (Nat × Value)) (nx a : Nat) (st : List Value) : Option (Nat × List (Nat × Value) × List Value) := match st with
  | .ref _ :: r => some (a, L, r)
  | .null :: r => some (nx, L, r)
  | _ => none
def fw_st (i : Instr) (nx a : Nat) (v : Int32) (L : List (Nat × Value)) (st : List Value) : Option (Nat × List (Nat × Value) × List Value) := match i with
  | .iload _ => fw_ldi L a nx st
  | .iload_n _ => fw_ldi L a nx st
  | .lload _ => fw_ldl L a nx st
  | .lload_n _ => fw_ldl L a nx st
  | .fload _ => fw_ldf L a nx st
  | .fload_n _ => fw_ldf L a nx st
  | .dload _ => fw_ldd L a nx st
  | .dload_n _ => fw_ldd L a nx st
  | .aload _ => fw_lda L a nx st
  | .aload_n _ => fw_lda L a nx st
  | .istore _ => fw_svi L a nx st
  | .istore_n _ => fw_svi L a nx st
  | .astore _ => fw_sva L a nx st
  | .astore_n _ => fw_sva L a nx st
  | .fstore _ => fw_svf L a nx st
  | .lstore _ => fw_svl L a nx st
  | .lstore_n _ => fw_svl L a nx st
  | .dstore _ => fw_svd L a nx st
  | .iinc _ _ => fw_inc L a nx v st
  | .iconst _ => some (nx, L, .int v :: st)
  | .bipush _ => some (nx, L, .int v :: st)
  | .sipush _ => some (nx, L, .int v :: st)
  | .lconst n => some (nx, L, .long (Int64.ofNat (n : Nat)) :: st)
  | .iadd => fw_o_iadd L nx st
  | .isub => fw_o_isub L nx st
  | .imul => fw_o_imul L nx st
  | .iand => fw_o_iand L nx st
  | .ior => fw_o_ior L nx st
  | .ishl => fw_o_ishl L nx st
  | .ishr => fw_o_ishr L nx st
  | .iushr => fw_o_iushr L nx st
  | .ineg => fw_o_ineg L nx st
  | .ladd => fw_o_ladd L nx st
  | .lsub => fw_o_lsub L nx st
  | .land => fw_o_land L nx st
  | .lor => fw_o_lor L nx st
  | .lxor => fw_o_lxor L nx st
  | .lshl => fw_o_lshl L nx st
  | .lushr => fw_o_lushr L nx st
  | .i2l => fw_o_i2l L nx st
  | .l2i => fw_o_l2i L nx st
  | .i2c => fw_o_i2c L nx st
  | .i2b => fw_o_i2b L nx st
  | .i2f => fw_o_i2f L nx st
  | .i2d => fw_o_i2d L nx st
  | .l2d => fw_o_l2d L nx st
  | .lcmp => fw_o_lcmp L nx st
  | .dup => fw_dup L nx st
  | .pop => fw_pop L nx st
  | .dup_x1 => fw_dupx1 L nx st
  | .dup2 => fw_dup2 L nx st
  | .aconst_null => some (nx, L, .null :: st)
  | .goto _ => some (a, L, st)
  | .ifnull _ => fw_ifn L nx a st
  | .ifnonnull _ => fw_ifnn L nx a st
  | _ => none
section PWR
variable {G : fw_G} {y : fw_M} {Q : fw_Q} {d kc ks : Nat} {h : fw_H} {pc nx a : Nat} {v : Int32} {L L' : List (Nat × Value)} {st st' : List Value} {pc' : Nat}
theorem pw_iload {j : Nat} (hd : fw_rok y (pc, .iload j, nx, a, v)) (hs : fw_ldi L a nx st = some (pc', L', st')) (k : PW G y Q d kc ks h pc' L' st') : PW G y Q d kc ks h pc L st := by
  unfold fw_ldi at hs
  have ej : a = j := Nat.eq_of_beq_eq_true hd.2.2
  have en : nx = pc + 2 := hd.2.1
  split at hs
  · cases hs
    intro p e R s m args below meth c H locs cells slots ls C X
    exact lv_iload C.1 C.2.1 hd.1 (ej ▸ X.2.2.2.2.2 a _ ‹_›) (en ▸ k p e R s m args below meth c H locs cells slots ls C X)
  · cases hs
theorem pw_iload_n {j : Fin 4} (hd : fw_rok y (pc, .iload_n j, nx, a, v)) (hs : fw_ldi L a nx st = some (pc', L', st')) (k : PW G y Q d kc ks h pc' L' st') : PW G y Q d kc ks h pc L st := by
  unfold fw_ldi at hs
  have ej : a = j.val := Nat.eq_of_beq_eq_true hd.2.2
  have en : nx = pc + 1 := hd.2.1
  split at hs
  · cases hs
    intro p e R s m args below meth c H locs cells slots ls C X
    exact lv_iload_n C.1 C.2.1 hd.1 ej.symm (X.2.2.2.2.2 a _ ‹_›) (en ▸ k p e R s m args below meth c H locs cells slots ls C X)
  · cases hs
theorem pw_lload {j : Nat} (hd : fw_rok y (pc, .lload j, nx, a, v)) (hs : fw_ldl L a nx st = some (pc', L', st')) (k : PW G y Q d kc ks h pc' L' st') : PW G y Q d kc ks h pc L st := by
  unfold fw_ldl at hs
  have ej : a = j := Nat.eq_of_beq_eq_true hd.2.2
  have en : nx = pc + 2 := hd.2.1
  split at hs
  · cases hs
    intro p e R s m args below meth c H locs cells slots ls C X
    exact lv_lload C.1 C.2.1 hd.1 (ej ▸ X.2.2.2.2.2 a _ ‹_›) (en ▸ k p e R s m args below meth c H locs cells slots ls C X)
  · cases hs
theorem pw_lload_n {j : Fin 4} (hd : fw_rok y (pc, .lload_n j, nx, a, v)) (hs : fw_ldl L a nx st = some (pc', L', st')) (k : PW G y Q d kc ks h pc' L' st') : PW G y Q d kc ks h pc L st := by
  unfold fw_ldl at hs
  have ej : a = j.val := Nat.eq_of_beq_eq_true hd.2.2
  have en : nx = pc + 1 := hd.2.1
  split at hs
  · cases hs
    intro p e R s m args below meth c H locs cells slots ls C X
    exact lv_lload_n C.1 C.2.1 hd.1 ej.symm (X.2.2.2.2.2 a _ ‹_›) (en ▸ k p e R s m args below meth c H locs cells slots ls C X)
  · cases hs
theorem pw_fload {j : Nat} (hd : fw_rok y (pc, .fload j, nx, a, v)) (hs : fw_ldf L a nx st = some (pc', L', st')) (k : PW G y Q d kc ks h pc' L' st') : PW G y Q d kc ks h pc L st := by
  unfold fw_ldf at hs
  have ej : a = j := Nat.eq_of_beq_eq_true hd.2.2
  have en : nx = pc + 2 := hd.2.1
  split at hs
  · cases hs
    intro p e R s m args below meth c H locs cells slots ls C X
    exact lv_fload C.1 C.2.1 hd.1 (ej ▸ X.2.2.2.2.2 a _ ‹_›) (en ▸ k p e R s m args below meth c H locs cells slots ls C X)
  · cases hs
theorem pw_fload_n {j : Fin 4} (hd : fw_rok y (pc, .fload_n j, nx, a, v)) (hs : fw_ldf L a nx st = some (pc', L', st')) (k : PW G y Q d kc ks h pc' L' st') : PW G y Q d kc ks h pc L st := by
  unfold fw_ldf at hs
  have ej : a = j.val := Nat.eq_of_beq_eq_true hd.2.2
  have en : nx = pc + 1 := hd.2.1
  split at hs
  · cases hs
    intro p e R s m args below meth c H locs cells slots ls C X
    exact lv_fload_n C.1 C.2.1 hd.1 ej.symm (X.2.2.2.2.2 a _ ‹_›) (en ▸ k p e R s m args below meth c H locs cells slots ls C X)
  · cases hs
theorem pw_dload {j : Nat} (hd : fw_rok y (pc, .dload j, nx, a, v)) (hs : fw_ldd L a nx st = some (pc', L', st')) (k : PW G y Q d kc ks h pc' L' st') : PW G y Q d kc ks h pc L st := by
  unfold fw_ldd at hs
  have ej : a = j := Nat.eq_of_beq_eq_true hd.2.2
  have en : nx = pc + 2 := hd.2.1
  split at hs
  · cases hs
    intro p e R s m args below meth c H locs cells slots ls C X
    exact lv_dload C.1 C.2.1 hd.1 (ej ▸ X.2.2.2.2.2 a _ ‹_›) (en ▸ k p e R s m args below meth c H locs cells slots ls C X)
  · cases hs
theorem pw_dload_n {j : Fin 4} (hd : fw_rok y (pc, .dload_n j, nx, a, v)) (hs : fw_ldd L a nx st = some (pc', L', st')) (k : PW G y Q d kc ks h pc' L' st') : PW G y Q d kc ks h pc L st := by
  unfold fw_ldd at hs
  have ej : a = j.val := Nat.eq_of_beq_eq_true hd.2.2
  have en : nx = pc + 1 := hd.2.1
  split at hs
  · cases hs
    intro p e R s m args below meth c H locs cells slots ls C X
    exact lv_dload_n C.1 C.2.1 hd.1 ej.symm (X.2.2.2.2.2 a _ ‹_›) (en ▸ k p e R s m args below meth c H locs cells slots ls C X)
  · cases hs
theorem pw_aload {j : Nat} (hd : fw_rok y (pc, .aload j, nx, a, v)) (hs : fw_lda L a nx st = some (pc', L', st')) (k : PW G y Q d kc ks h pc' L' st') : PW G y Q d kc ks h pc L st := by
  unfold fw_lda at hs
  have ej : a = j := Nat.eq_of_beq_eq_true hd.2.2
  have en : nx = pc + 2 := hd.2.1
  split at hs
  · cases hs
    intro p e R s m args below meth c H locs cells slots ls C X
    exact lv_aload C.1 C.2.1 hd.1 (ej ▸ X.2.2.2.2.2 a _ ‹_›) (en ▸ k p e R s m args below meth c H locs cells slots ls C X)
  · cases hs
    intro p e R s m args below meth c H locs cells slots ls C X
    exact lv_aloadN C.1 C.2.1 hd.1 (ej ▸ X.2.2.2.2.2 a _ ‹_›) (en ▸ k p e R s m args below meth c H locs cells slots ls C X)
  · cases hs
theorem pw_aload_n {j : Fin 4} (hd : fw_rok y (pc, .aload_n j, nx, a, v)) (hs : fw_lda L a nx st = some (pc', L', st')) (k : PW G y Q d kc ks h pc' L' st') : PW G y Q d kc ks h pc L st := by
  unfold fw_lda at hs
  have ej : a = j.val := Nat.eq_of_beq_eq_true hd.2.2
  have en : nx = pc + 1 := hd.2.1
  split at hs
  · cases hs
    intro p e R s m args below meth c H locs cells slots ls C X
    exact lv_aload_n C.1 C.2.1 hd.1 ej.symm (X.2.2.2.2.2 a _ ‹_›) (en ▸ k p e R s m args below meth c H locs cells slots ls C X)
  · cases hs
    intro p e R s m args below meth c H locs cells slots ls C X
    exact lv_aload_nN C.1 C.2.1 hd.1 ej.symm (X.2.2.2.2.2 a _ ‹_›) (en ▸ k p e R s m args below meth c H locs cells slots ls C X)
  · cases hs
theorem pw_istore {j : Nat} (hd : fw_rok y (pc, .istore j, nx, a, v)) (hs : fw_svi L a nx st = some (pc', L', st')) (k : PW G y Q d kc ks h pc' L' st') : PW G y Q d kc ks h pc L st := by
  unfold fw_svi at hs
  obtain ⟨e1, e2⟩ := Bool.and_eq_true_iff.mp hd.2.2
  have ej : a = j := Nat.eq_of_beq_eq_true e1
  have el : a < y.2.2.1 := Nat.le_of_ble_eq_true e2
  have en : nx = pc + 2 := hd.2.1
  split at hs
  · cases ho : fw_ok1 L a with
    | false => rw [ho] at hs; cases hs
    | true =>
      rw [ho] at hs
      cases hs
      intro p e R s m args below meth c H locs cells slots ls C X
      subst ej
      exact lv_istore C.1 C.2.1 hd.1 X.2.2.2.lv el rfl (fun ls' h' => en ▸ k p e R s m args below meth c H locs cells slots ls' C ⟨X.1, X.2.1, X.2.2.1, fw_store1 X.2.2.2 ho h'⟩)
  · cases hs
theorem pw_istore_n {j : Fin 4} (hd : fw_rok y (pc, .istore_n j, nx, a, v)) (hs : fw_svi L a nx st = some (pc', L', st')) (k : PW G y Q d kc ks h pc' L' st') : PW G y Q d kc ks h pc L st := by
  unfold fw_svi at hs
  obtain ⟨e1, e2⟩ := Bool.and_eq_true_iff.mp hd.2.2
  have ej : a = j.val := Nat.eq_of_beq_eq_true e1
  have el : a < y.2.2.1 := Nat.le_of_ble_eq_true e2
  have en : nx = pc + 1 := hd.2.1
  split at hs
  · cases ho : fw_ok1 L a with
    | false => rw [ho] at hs; cases hs
    | true =>
      rw [ho] at hs
      cases hs
      intro p e R s m args below meth c H locs cells slots ls C X
      exact lv_istore_n C.1 C.2.1 hd.1 ej.symm X.2.2.2.lv el rfl (fun ls' h' => en ▸ k p e R s m args below meth c H locs cells slots ls' C ⟨X.1, X.2.1, X.2.2.1, fw_store1 X.2.2.2 ho h'⟩)
  · cases hs
theorem pw_astore {j : Nat} (hd : fw_rok y (pc, .astore j, nx, a, v)) (hs : fw_sva L a nx st = some (pc', L', st')) (k : PW G y Q d kc ks h pc' L' st') : PW G y Q d kc ks h pc L st := by
  unfold fw_sva at hs
  obtain ⟨e1, e2⟩ := Bool.and_eq_true_iff.mp hd.2.2
  have ej : a = j := Nat.eq_of_beq_eq_true e1
  have el : a < y.2.2.1 := Nat.le_of_ble_eq_true e2
  have en : nx = pc + 2 := hd.2.1
  split at hs
  · cases ho : fw_ok1 L a with
    | false => rw [ho] at hs; cases hs
    | true =>
      rw [ho] at hs
      cases hs
      intro p e R s m args below meth c H locs cells slots ls C X
      subst ej
      exact lv_astore C.1 C.2.1 hd.1 X.2.2.2.lv el rfl (fun ls' h' => en ▸ k p e R s m args below meth c H locs cells slots ls' C ⟨X.1, X.2.1, X.2.2.1, fw_store1 X.2.2.2 ho h'⟩)
  · cases ho : fw_ok1 L a with
    | false => rw [ho] at hs; cases hs
    | true =>
      rw [ho] at hs
      cases hs
      intro p e R s m args below meth c H locs cells slots ls C X
      subst ej
      exact lv_astoreN C.1 C.2.1 hd.1 X.2.2.2.lv el rfl (fun ls' h' => en ▸ k p e R s m args below meth c H locs cells slots ls' C ⟨X.1, X.2.1, X.2.2.1, fw_store1 X.2.2.2 ho h'⟩)
  · cases hs
theorem pw_astore_n {j : Fin 4} (hd : fw_rok y (pc, .astore_n j, nx, a, v)) (hs : fw_sva L a nx st = some (pc', L', st')) (k : PW G y Q d kc ks h pc' L' st') : PW G y Q d kc ks h pc L st := by
  unfold fw_sva at hs
  obtain ⟨e1, e2⟩ := Bool.and_eq_true_iff.mp hd.2.2
  have ej : a = j.val := Nat.eq_of_beq_eq_true e1
  have el : a < y.2.2.1 := Nat.le_of_ble_eq_true e2
  have en : nx = pc + 1 := hd.2.1
  split at hs
  · cases ho : fw_ok1 L a with
    | false => rw [ho] at hs; cases hs
    | true =>
      rw [ho] at hs
      cases hs
      intro p e R s m args below meth c H locs cells slots ls C X
      exact lv_astore_n C.1 C.2.1 hd.1 ej.symm X.2.2.2.lv el rfl (fun ls' h' => en ▸ k p e R s m args below meth c H locs cells slots ls' C ⟨X.1, X.2.1, X.2.2.1, fw_store1 X.2.2.2 ho h'⟩)
  · cases ho : fw_ok1 L a with
    | false => rw [ho] at hs; cases hs
    | true =>
      rw [ho] at hs
      cases hs
      intro p e R s m args below meth c H locs cells slots ls C X
      exact lv_astore_nN C.1 C.2.1 hd.1 ej.symm X.2.2.2.lv el rfl (fun ls' h' => en ▸ k p e R s m args below meth c H locs cells slots ls' C ⟨X.1, X.2.1, X.2.2.1, fw_store1 X.2.2.2 ho h'⟩)
  · cases hs
theorem pw_fstore {j : Nat} (hd : fw_rok y (pc, .fstore j, nx, a, v)) (hs : fw_svf L a nx st = some (pc', L', st')) (k : PW G y Q d kc ks h pc' L' st') : PW G y Q d kc ks h pc L st := by
  unfold fw_svf at hs
  obtain ⟨e1, e2⟩ := Bool.and_eq_true_iff.mp hd.2.2
  have ej : a = j := Nat.eq_of_beq_eq_true e1
  have el : a < y.2.2.1 := Nat.le_of_ble_eq_true e2
  have en : nx = pc + 2 := hd.2.1
  split at hs
  · cases ho : fw_ok1 L a with
    | false => rw [ho] at hs; cases hs
    | true =>
      rw [ho] at hs
      cases hs
      intro p e R s m args below meth c H locs cells slots ls C X
      subst ej
      exact lv_fstore C.1 C.2.1 hd.1 X.2.2.2.lv el rfl (fun ls' h' => en ▸ k p e R s m args below meth c H locs cells slots ls' C ⟨X.1, X.2.1, X.2.2.1, fw_store1 X.2.2.2 ho h'⟩)
  · cases hs
theorem pw_lstore {j : Nat} (hd : fw_rok y (pc, .lstore j, nx, a, v)) (hs : fw_svl L a nx st = some (pc', L', st')) (k : PW G y Q d kc ks h pc' L' st') : PW G y Q d kc ks h pc L st := by
  unfold fw_svl at hs
  obtain ⟨e1, e2⟩ := Bool.and_eq_true_iff.mp hd.2.2
  have ej : a = j := Nat.eq_of_beq_eq_true e1
  have el : a + 1 < y.2.2.1 := Nat.le_of_ble_eq_true e2
  have en : nx = pc + 2 := hd.2.1
  split at hs
  · cases ho : fw_ok2 L a with
    | false => rw [ho] at hs; cases hs
    | true =>
      rw [ho] at hs
      cases hs
      intro p e R s m args below meth c H locs cells slots ls C X
      subst ej
      exact lv_lstore C.1 C.2.1 hd.1 X.2.2.2.lv el rfl (fun ls' h' => en ▸ k p e R s m args below meth c H locs cells slots ls' C ⟨X.1, X.2.1, X.2.2.1, fw_store2 X.2.2.2 ho h'⟩)
  · cases hs
theorem pw_lstore_n {j : Fin 4} (hd : fw_rok y (pc, .lstore_n j, nx, a, v)) (hs : fw_svl L a nx st = some (pc', L', st')) (k : PW G y Q d kc ks h pc' L' st') : PW G y Q d kc ks h pc L st := by
  unfold fw_svl at hs
  obtain ⟨e1, e2⟩ := Bool.and_eq_true_iff.mp hd.2.2
  have ej : a = j.val := Nat.eq_of_beq_eq_true e1
  have el : a + 1 < y.2.2.1 := Nat.le_of_ble_eq_true e2
  have en : nx = pc + 1 := hd.2.1
  split at hs
  · cases ho : fw_ok2 L a with
    | false => rw [ho] at hs; cases hs
    | true =>
      rw [ho] at hs
      cases hs
      intro p e R s m args below meth c H locs cells slots ls C X
      exact lv_lstore_n C.1 C.2.1 hd.1 ej.symm X.2.2.2.lv el rfl (fun ls' h' => en ▸ k p e R s m args below meth c H locs cells slots ls' C ⟨X.1, X.2.1, X.2.2.1, fw_store2 X.2.2.2 ho h'⟩)
  · cases hs
theorem pw_dstore {j : Nat} (hd : fw_rok y (pc, .dstore j, nx, a, v)) (hs : fw_svd L a nx st = some (pc', L', st')) (k : PW G y Q d kc ks h pc' L' st') : PW G y Q d kc ks h pc L st := by
  unfold fw_svd at hs
  obtain ⟨e1, e2⟩ := Bool.and_eq_true_iff.mp hd.2.2
  have ej : a = j := Nat.eq_of_beq_eq_true e1
  have el : a + 1 < y.2.2.1 := Nat.le_of_ble_eq_true e2
  have en : nx = pc + 2 := hd.2.1
  split at hs
  · cases ho : fw_ok2 L a with
    | false => rw [ho] at hs; cases hs
    | true =>
      rw [ho] at hs
      cases hs
      intro p e R s m args below meth c H locs cells slots ls C X
      subst ej
      exact lv_dstore C.1 C.2.1 hd.1 X.2.2.2.lv el rfl (fun ls' h' => en ▸ k p e R s m args below meth c H locs cells slots ls' C ⟨X.1, X.2.1, X.2.2.1, fw_store2 X.2.2.2 ho h'⟩)
  · cases hs
theorem pw_iinc {j : Nat} {n : Int} (hd : fw_rok y (pc, .iinc j n, nx, a, v)) (hs : fw_inc L a nx v st = some (pc', L', st')) (k : PW G y Q d kc ks h pc' L' st') : PW G y Q d kc ks h pc L st := by
  unfold fw_inc at hs
  obtain ⟨e0, e3⟩ := Bool.and_eq_true_iff.mp hd.2.2
  obtain ⟨e1, e2⟩ := Bool.and_eq_true_iff.mp e0
  have ej : a = j := Nat.eq_of_beq_eq_true e1
  have el : a < y.2.2.1 := Nat.le_of_ble_eq_true e2
  have ev : Int32.ofInt n = v := of_decide_eq_true e3
  have en : nx = pc + 3 := hd.2.1
  split at hs
  · rename_i x hx
    cases ho : fw_ok1 L a with
    | false => rw [ho] at hs; cases hs
    | true =>
      rw [ho] at hs
      cases hs
      intro p e R s m args below meth c H locs cells slots ls C X
      subst ej
      obtain ⟨k9, h9⟩ := List.getElem?_of_mem (fw_all_mem X.2.2.2 hx)
      exact lv_iinc C.1 C.2.1 hd.1 X.2.2.2.lv h9 (by rw [ev]) el rfl (fun ls' h' => en ▸ k p e R s m args below meth c H locs cells slots ls' C ⟨X.1, X.2.1, X.2.2.1, fw_store1 X.2.2.2 ho h'⟩)
  · cases hs
theorem pw_iconst {n : Int} (hd : fw_rok y (pc, .iconst n, nx, a, v)) (hs : some (nx, L, Value.int v :: st) = some (pc', L', st')) (k : PW G y Q d kc ks h pc' L' st') : PW G y Q d kc ks h pc L st := by
  cases hs
  have en : nx = pc + 1 := hd.2.1
  intro p e R s m args below meth c H locs cells slots ls C X
  exact lv_iconst C.1 C.2.1 hd.1 (of_decide_eq_true hd.2.2) (en ▸ k p e R s m args below meth c H locs cells slots ls C X)
theorem pw_bipush {n : Int} (hd : fw_rok y (pc, .bipush n, nx, a, v)) (hs : some (nx, L, Value.int v :: st) = some (pc', L', st')) (k : PW G y Q d kc ks h pc' L' st') : PW G y Q d kc ks h pc L st := by
  cases hs
  have en : nx = pc + 2 := hd.2.1
  intro p e R s m args below meth c H locs cells slots ls C X
  exact lv_bipush C.1 C.2.1 hd.1 (of_decide_eq_true hd.2.2) (en ▸ k p e R s m args below meth c H locs cells slots ls C X)
theorem pw_sipush {n : Int} (hd : fw_rok y (pc, .sipush n, nx, a, v)) (hs : some (nx, L, Value.int v :: st) = some (pc', L', st')) (k : PW G y Q d kc ks h pc' L' st') : PW G y Q d kc ks h pc L st := by
  cases hs
  have en : nx = pc + 3 := hd.2.1
  intro p e R s m args below meth c H locs cells slots ls C X
  exact lv_sipush C.1 C.2.1 hd.1 (of_decide_eq_true hd.2.2) (en ▸ k p e R s m args below meth c H locs cells slots ls C X)
theorem pw_lconst {n : Fin 2} (hd : fw_rok y (pc, .lconst n, nx, a, v)) (hs : some (nx, L, Value.long (Int64.ofNat (n : Nat)) :: st) = some (pc', L', st')) (k : PW G y Q d kc ks h pc' L' st') : PW G y Q d kc ks h pc L st := by
  cases hs
  have en : nx = pc + 1 := hd.2.1
  intro p e R s m args below meth c H locs cells slots ls C X
  exact lv_lconst C.1 C.2.1 hd.1 rfl (en ▸ k p e R s m args below meth c H locs cells slots ls C X)
theorem pw_iadd (hd : fw_rok y (pc, .iadd, nx, a, v)) (hs : fw_o_iadd L nx st = some (pc', L', st')) (k : PW G y Q d kc ks h pc' L' st') : PW G y Q d kc ks h pc L st := by
  unfold fw_o_iadd at hs
  have en : nx = pc + 1 := hd.2.1
  split at hs
  · cases hs
    intro p e R s m args below meth c H locs cells slots ls C X
    exact lv_iadd C.1 C.2.1 hd.1  (en ▸ k p e R s m args below meth c H locs cells slots ls C X)
  · cases hs
theorem pw_isub (hd : fw_rok y (pc, .isub, nx, a, v)) (hs : fw_o_isub L nx st = some (pc', L', st')) (k : PW G y Q d kc ks h pc' L' st') : PW G y Q d kc ks h pc L st := by
  unfold fw_o_isub at hs
  have en : nx = pc + 1 := hd.2.1
  split at hs
  · cases hs
    intro p e R s m args below meth c H locs cells slots ls C X
    exact lv_isub C.1 C.2.1 hd.1  (en ▸ k p e R s m args below meth c H locs cells slots ls C X)
  · cases hs
theorem pw_imul (hd : fw_rok y (pc, .imul, nx, a, v)) (hs : fw_o_imul L nx st = some (pc', L', st')) (k : PW G y Q d kc ks h pc' L' st') : PW G y Q d kc ks h pc L st := by
  unfold fw_o_imul at hs
  have en : nx = pc + 1 := hd.2.1
  split at hs
  · cases hs
    intro p e R s m args below meth c H locs cells slots ls C X
    exact lv_imul C.1 C.2.1 hd.1  (en ▸ k p e R s m args below meth c H locs cells slots ls C X)
  · cases hs
theorem pw_iand (hd : fw_rok y (pc, .iand, nx, a, v)) (hs : fw_o_iand L nx st = some (pc', L', st')) (k : PW G y Q d kc ks h pc' L' st') : PW G y Q d kc ks h pc L st := by
  unfold fw_o_iand at hs
  have en : nx = pc + 1 := hd.2.1
  split at hs
  · cases hs
    intro p e R s m args below meth c H locs cells slots ls C X
    exact lv_iand C.1 C.2.1 hd.1  (en ▸ k p e R s m args below meth c H locs cells slots ls C X)
  · cases hs
theorem pw_ior (hd : fw_rok y (pc, .ior, nx, a, v)) (hs : fw_o_ior L nx st = some (pc', L', st')) (k : PW G y Q d kc ks h pc' L' st') : PW G y Q d kc ks h pc L st := by
  unfold fw_o_ior at hs
  have en : nx = pc + 1 := hd.2.1
  split at hs
  · cases hs
    intro p e R s m args below meth c H locs cells slots ls C X
    exact lv_ior C.1 C.2.1 hd.1  (en ▸ k p e R s m args below meth c H locs cells slots ls C X)
  · cases hs
theorem pw_ishl (hd : fw_rok y (pc, .ishl, nx, a, v)) (hs : fw_o_ishl L nx st = some (pc', L', st')) (k : PW G y Q d kc ks h pc' L' st') : PW G y Q d kc ks h pc L st := by
  unfold fw_o_ishl at hs
  have en : nx = pc + 1 := hd.2.1
  split at hs
  · cases hs
    intro p e R s m args below meth c H locs cells slots ls C X
    exact lv_ishl C.1 C.2.1 hd.1  (en ▸ k p e R s m args below meth c H locs cells slots ls C X)
  · cases hs
theorem pw_ishr (hd : fw_rok y (pc, .ishr, nx, a, v)) (hs : fw_o_ishr L nx st = some (pc', L', st')) (k : PW G y Q d kc ks h pc' L' st') : PW G y Q d kc ks h pc L st := by
  unfold fw_o_ishr at hs
  have en : nx = pc + 1 := hd.2.1
  split at hs
  · cases hs
    intro p e R s m args below meth c H locs cells slots ls C X
    exact lv_ishr C.1 C.2.1 hd.1  (en ▸ k p e R s m args below meth c H locs cells slots ls C X)
  · cases hs
theorem pw_iushr (hd : fw_rok y (pc, .iushr, nx, a, v)) (hs : fw_o_iushr L nx st = some (pc', L', st')) (k : PW G y Q d kc ks h pc' L' st') : PW G y Q d kc ks h pc L st := by
  unfold fw_o_iushr at hs
  have en : nx = pc + 1 := hd.2.1
  split at hs
  · cases hs
    intro p e R s m args below meth c H locs cells slots ls C X
    exact lv_iushr C.1 C.2.1 hd.1 rfl (en ▸ k p e R s m args below meth c H locs cells slots ls C X)
  · cases hs
theorem pw_ineg (hd : fw_rok y (pc, .ineg, nx, a, v)) (hs : fw_o_ineg L nx st = some (pc', L', st')) (k : PW G y Q d kc ks h pc' L' st') : PW G y Q d kc ks h pc L st := by
  unfold fw_o_ineg at hs
  have en : nx = pc + 1 := hd.2.1
  split at hs
  · cases hs
    intro p e R s m args below meth c H locs cells slots ls C X
    exact lv_ineg C.1 C.2.1 hd.1  (en ▸ k p e R s m args below meth c H locs cells slots ls C X)
  · cases hs
theorem pw_ladd (hd : fw_rok y (pc, .ladd, nx, a, v)) (hs : fw_o_ladd L nx st = some (pc', L', st')) (k : PW G y Q d kc ks h pc' L' st') : PW G y Q d kc ks h pc L st := by
  unfold fw_o_ladd at hs
  have en : nx = pc + 1 := hd.2.1
  split at hs
  · cases hs
    intro p e R s m args below meth c H locs cells slots ls C X
    exact lv_ladd C.1 C.2.1 hd.1  (en ▸ k p e R s m args below meth c H locs cells slots ls C X)
  · cases hs
theorem pw_lsub (hd : fw_rok y (pc, .lsub, nx, a, v)) (hs : fw_o_lsub L nx st = some (pc', L', st')) (k : PW G y Q d kc ks h pc' L' st') : PW G y Q d kc ks h pc L st := by
  unfold fw_o_lsub at hs
  have en : nx = pc + 1 := hd.2.1
  split at hs
  · cases hs
    intro p e R s m args below meth c H locs cells slots ls C X
    exact lv_lsub C.1 C.2.1 hd.1  (en ▸ k p e R s m args below meth c H locs cells slots ls C X)
  · cases hs
theorem pw_land (hd : fw_rok y (pc, .land, nx, a, v)) (hs : fw_o_land L nx st = some (pc', L', st')) (k : PW G y Q d kc ks h pc' L' st') : PW G y Q d kc ks h pc L st := by
  unfold fw_o_land at hs
  have en : nx = pc + 1 := hd.2.1
  split at hs
  · cases hs
    intro p e R s m args below meth c H locs cells slots ls C X
    exact lv_land C.1 C.2.1 hd.1  (en ▸ k p e R s m args below meth c H locs cells slots ls C X)
  · cases hs
theorem pw_lor (hd : fw_rok y (pc, .lor, nx, a, v)) (hs : fw_o_lor L nx st = some (pc', L', st')) (k : PW G y Q d kc ks h pc' L' st') : PW G y Q d kc ks h pc L st := by
  unfold fw_o_lor at hs
  have en : nx = pc + 1 := hd.2.1
  split at hs
  · cases hs
    intro p e R s m args below meth c H locs cells slots ls C X
    exact lv_lor C.1 C.2.1 hd.1  (en ▸ k p e R s m args below meth c H locs cells slots ls C X)
  · cases hs
theorem pw_lxor (hd : fw_rok y (pc, .lxor, nx, a, v)) (hs : fw_o_lxor L nx st = some (pc', L', st')) (k : PW G y Q d kc ks h pc' L' st') : PW G y Q d kc ks h pc L st := by
  unfold fw_o_lxor at hs
  have en : nx = pc + 1 := hd.2.1
  split at hs
  · cases hs
    intro p e R s m args below meth c H locs cells slots ls C X
    exact lv_lxor C.1 C.2.1 hd.1  (en ▸ k p e R s m args below meth c H locs cells slots ls C X)
  · cases hs
theorem pw_lshl (hd : fw_rok y (pc, .lshl, nx, a, v)) (hs : fw_o_lshl L nx st = some (pc', L', st')) (k : PW G y Q d kc ks h pc' L' st') : PW G y Q d kc ks h pc L st := by
  unfold fw_o_lshl at hs
  have en : nx = pc + 1 := hd.2.1
  split at hs
  · cases hs
    intro p e R s m args below meth c H locs cells slots ls C X
    exact lv_lshl C.1 C.2.1 hd.1 rfl (en ▸ k p e R s m args below meth c H locs cells slots ls C X)
  · cases hs
theorem pw_lushr (hd : fw_rok y (pc, .lushr, nx, a, v)) (hs : fw_o_lushr L nx st = some (pc', L', st')) (k : PW G y Q d kc ks h pc' L' st') : PW G y Q d kc ks h pc L st := by
  unfold fw_o_lushr at hs
  have en : nx = pc + 1 := hd.2.1
  split at hs
  · cases hs
    intro p e R s m args below meth c H locs cells slots ls C X
    exact lv_lushr C.1 C.2.1 hd.1 rfl (en ▸ k p e R s m args below meth c H locs cells slots ls C X)
  · cases hs
theorem pw_i2l (hd : fw_rok y (pc, .i2l, nx, a, v)) (hs : fw_o_i2l L nx st = some (pc', L', st')) (k : PW G y Q d kc ks h pc' L' st') : PW G y Q d kc ks h pc L st := by
  unfold fw_o_i2l at hs
  have en : nx = pc + 1 := hd.2.1
  split at hs
  · cases hs
    intro p e R s m args below meth c H locs cells slots ls C X
    exact lv_i2l C.1 C.2.1 hd.1 rfl (en ▸ k p e R s m args below meth c H locs cells slots ls C X)
  · cases hs
theorem pw_l2i (hd : fw_rok y (pc, .l2i, nx, a, v)) (hs : fw_o_l2i L nx st = some (pc', L', st')) (k : PW G y Q d kc ks h pc' L' st') : PW G y Q d kc ks h pc L st := by
  unfold fw_o_l2i at hs
  have en : nx = pc + 1 := hd.2.1
  split at hs
  · cases hs
    intro p e R s m args below meth c H locs cells slots ls C X
    exact lv_l2i C.1 C.2.1 hd.1 rfl (en ▸ k p e R s m args below meth c H locs cells slots ls C X)
  · cases hs
theorem pw_i2c (hd : fw_rok y (pc, .i2c, nx, a, v)) (hs : fw_o_i2c L nx st = some (pc', L', st')) (k : PW G y Q d kc ks h pc' L' st') : PW G y Q d kc ks h pc L st := by
  unfold fw_o_i2c at hs
  have en : nx = pc + 1 := hd.2.1
  split at hs
  · cases hs
    intro p e R s m args below meth c H locs cells slots ls C X
    exact lv_i2c C.1 C.2.1 hd.1 rfl (en ▸ k p e R s m args below meth c H locs cells slots ls C X)
  · cases hs
theorem pw_i2b (hd : fw_rok y (pc, .i2b, nx, a, v)) (hs : fw_o_i2b L nx st = some (pc', L', st')) (k : PW G y Q d kc ks h pc' L' st') : PW G y Q d kc ks h pc L st := by
  unfold fw_o_i2b at hs
  have en : nx = pc + 1 := hd.2.1
  split at hs
  · cases hs
    intro p e R s m args below meth c H locs cells slots ls C X
    exact lv_i2b C.1 C.2.1 hd.1 rfl (en ▸ k p e R s m args below meth c H locs cells slots ls C X)
  · cases hs
theorem pw_i2f (hd : fw_rok y (pc, .i2f, nx, a, v)) (hs : fw_o_i2f L nx st = some (pc', L', st')) (k : PW G y Q d kc ks h pc' L' st') : PW G y Q d kc ks h pc L st := by
  unfold fw_o_i2f at hs
  have en : nx = pc + 1 := hd.2.1
  split at hs
  · cases hs
    intro p e R s m args below meth c H locs cells slots ls C X
    exact lv_i2f C.1 C.2.1 hd.1  (en ▸ k p e R s m args below meth c H locs cells slots ls C X)
  · cases hs
theorem pw_i2d (hd : fw_rok y (pc, .i2d, nx, a, v)) (hs : fw_o_i2d L nx st = some (pc', L', st')) (k : PW G y Q d kc ks h pc' L' st') : PW G y Q d kc ks h pc L st := by
  unfold fw_o_i2d at hs
  have en : nx = pc + 1 := hd.2.1
  split at hs
  · cases hs
    intro p e R s m args below meth c H locs cells slots ls C X
    exact lv_i2d C.1 C.2.1 hd.1  (en ▸ k p e R s m args below meth c H locs cells slots ls C X)
  · cases hs
theorem pw_l2d (hd : fw_rok y (pc, .l2d, nx, a, v)) (hs : fw_o_l2d L nx st = some (pc', L', st')) (k : PW G y Q d kc ks h pc' L' st') : PW G y Q d kc ks h pc L st := by
  unfold fw_o_l2d at hs
  have en : nx = pc + 1 := hd.2.1
  split at hs
  · cases hs
    intro p e R s m args below meth c H locs cells slots ls C X
    exact lv_l2d C.1 C.2.1 hd.1  (en ▸ k p e R s m args below meth c H locs cells slots ls C X)
  · cases hs
theorem pw_lcmp (hd : fw_rok y (pc, .lcmp, nx, a, v)) (hs : fw_o_lcmp L nx st = some (pc', L', st')) (k : PW G y Q d kc ks h pc' L' st') : PW G y Q d kc ks h pc L st := by
  unfold fw_o_lcmp at hs
  have en : nx = pc + 1 := hd.2.1
  split at hs
  · cases hs
    intro p e R s m args below meth c H locs cells slots ls C X
    exact W.lcmp C.1 C.2.1 hd.1  (en ▸ k p e R s m args below meth c H locs cells slots ls C X)
  · cases hs
theorem pw_dup (hd : fw_rok y (pc, .dup, nx, a, v)) (hs : fw_dup L nx st = some (pc', L', st')) (k : PW G y Q d kc ks h pc' L' st') : PW G y Q d kc ks h pc L st := by
  unfold fw_dup at hs
  have en : nx = pc + 1 := hd.2.1
  split at hs
  · rename_i v9 r9
    cases hc : Nat.beq v9.category 1 with
    | false => rw [hc] at hs; cases hs
    | true =>
      rw [hc] at hs
      cases hs
      intro p e R s m args below meth c H locs cells slots ls C X
      exact lv_dup C.1 C.2.1 hd.1 (Nat.eq_of_beq_eq_true hc) (en ▸ k p e R s m args below meth c H locs cells slots ls C X)
  · cases hs
theorem pw_pop (hd : fw_rok y (pc, .pop, nx, a, v)) (hs : fw_pop L nx st = some (pc', L', st')) (k : PW G y Q d kc ks h pc' L' st') : PW G y Q d kc ks h pc L st := by
  unfold fw_pop at hs
  have en : nx = pc + 1 := hd.2.1
  split at hs
  · rename_i v9 r9
    cases hc : Nat.beq v9.category 1 with
    | false => rw [hc] at hs; cases hs
    | true =>
      rw [hc] at hs
      cases hs
      intro p e R s m args below meth c H locs cells slots ls C X
      exact lv_pop C.1 C.2.1 hd.1 (Nat.eq_of_beq_eq_true hc) (en ▸ k p e R s m args below meth c H locs cells slots ls C X)
  · cases hs
theorem pw_dup_x1 (hd : fw_rok y (pc, .dup_x1, nx, a, v)) (hs : fw_dupx1 L nx st = some (pc', L', st')) (k : PW G y Q d kc ks h pc' L' st') : PW G y Q d kc ks h pc L st := by
  unfold fw_dupx1 at hs
  have en : nx = pc + 1 := hd.2.1
  split at hs
  · rename_i v9 u9 r9
    cases hc : (Nat.beq v9.category 1 && Nat.beq u9.category 1) with
    | false => rw [hc] at hs; cases hs
    | true =>
      rw [hc] at hs
      obtain ⟨h1, h2⟩ := Bool.and_eq_true_iff.mp hc
      cases hs
      intro p e R s m args below meth c H locs cells slots ls C X
      exact lv_dup_x1 C.1 C.2.1 hd.1 (Nat.eq_of_beq_eq_true h1) (Nat.eq_of_beq_eq_true h2) (en ▸ k p e R s m args below meth c H locs cells slots ls C X)
  · cases hs
theorem pw_dup2 (hd : fw_rok y (pc, .dup2, nx, a, v)) (hs : fw_dup2 L nx st = some (pc', L', st')) (k : PW G y Q d kc ks h pc' L' st') : PW G y Q d kc ks h pc L st := by
  unfold fw_dup2 at hs
  have en : nx = pc + 1 := hd.2.1
  split at hs
  · rename_i v9 u9 r9
    cases hc : (Nat.beq v9.category 1 && Nat.beq u9.category 1) with
    | false => rw [hc] at hs; cases hs
    | true =>
      rw [hc] at hs
      obtain ⟨h1, h2⟩ := Bool.and_eq_true_iff.mp hc
      cases hs
      intro p e R s m args below meth c H locs cells slots ls C X
      exact lv_dup2_11 C.1 C.2.1 hd.1 (Nat.eq_of_beq_eq_true h1) (Nat.eq_of_beq_eq_true h2) (en ▸ k p e R s m args below meth c H locs cells slots ls C X)
  · cases hs
theorem pw_aconst_null (hd : fw_rok y (pc, .aconst_null, nx, a, v)) (hs : some (nx, L, Value.null :: st) = some (pc', L', st')) (k : PW G y Q d kc ks h pc' L' st') : PW G y Q d kc ks h pc L st := by
  cases hs
  have en : nx = pc + 1 := hd.2.1
  intro p e R s m args below meth c H locs cells slots ls C X
  exact lv_null C.1 C.2.1 hd.1 (en ▸ k p e R s m args below meth c H locs cells slots ls C X)
theorem pw_goto {off : Int} (hd : fw_rok y (pc, .goto off, nx, a, v)) (hs : some (a, L, st) = some (pc', L', st')) (k : PW G y Q d kc ks h pc' L' st') : PW G y Q d kc ks h pc L st := by
  cases hs
  intro p e R s m args below meth c H locs cells slots ls C X
  exact lv_goto C.1 C.2.1 hd.1 (of_decide_eq_true hd.2.2) (k p e R s m args below meth c H locs cells slots ls C X)
theorem pw_ifnull {off : Int} (hd : fw_rok y (pc, .ifnull off, nx, a, v)) (hs : fw_ifn L nx a st = some (pc', L', st')) (k : PW G y Q d kc ks h pc' L' st') : PW G y Q d kc ks h pc L st := by
  unfold fw_ifn at hs
  have en : nx = pc + 3 := hd.2.1
  split at hs
  · cases hs
    intro p e R s m args below meth c H locs cells slots ls C X
    exact lv_ifnull C.1 C.2.1 hd.1 (en ▸ k p e R s m args below meth c H locs cells slots ls C X)
  · cases hs
    intro p e R s m args below meth c H locs cells slots ls C X
    exact lv_ifnullN C.1 C.2.1 hd.1 (of_decide_eq_true hd.2.2) (k p e R s m args below meth c H locs cells slots ls C X)
  · cases hs
theorem pw_ifnonnull {off : Int} (hd : fw_rok y (pc, .ifnonnull off, nx, a, v)) (hs : fw_ifnn L nx a st = some (pc', L', st')) (k : PW G y Q d kc ks h pc' L' st') : PW G y Q d kc ks h pc L st := by
  unfold fw_ifnn at hs
  have en : nx = pc + 3 := hd.2.1
  split at hs
  · cases hs
    intro p e R s m args below meth c H locs cells slots ls C X
    exact lv_ifnonnull C.1 C.2.1 hd.1 (of_decide_eq_true hd.2.2) (k p e R s m args below meth c H locs cells slots ls C X)
  · cases hs
    intro p e R s m args below meth c H locs cells slots ls C X
    exact lv_ifnonnullN C.1 C.2.1 hd.1 (en ▸ k p e R s m args below meth c H locs cells slots ls C X)
  · cases hs
/-- a step that needs no fact -/
theorem pw_go {tb : List fw_R} {i : Instr} (hT : fw_tok y tb) (hr : fw_at tb pc = some (i, nx, a, v)) (hs : fw_st i nx a v L st = some (pc', L', st')) (k : PW G y Q d kc ks h pc' L' st') : PW G y Q d kc ks h pc L st := by
  have hd := fw_row hT hr
  cases i with
  | iload j => exact pw_iload hd hs k
  | iload_n j => exact pw_iload_n hd hs k
  | lload j => exact pw_lload hd hs k
  | lload_n j => exact pw_lload_n hd hs k
  | fload j => exact pw_fload hd hs k
  | fload_n j => exact pw_fload_n hd hs k
  | dload j => exact pw_dload hd hs k
  | dload_n j => exact pw_dload_n hd hs k
  | aload j => exact pw_aload hd hs k
  | aload_n j => exact pw_aload_n hd hs k
  | istore j => exact pw_istore hd hs k
  | istore_n j => exact pw_istore_n hd hs k
  | astore j => exact pw_astore hd hs k
  | astore_n j => exact pw_astore_n hd hs k
  | fstore j => exact pw_fstore hd hs k
  | lstore j => exact pw_lstore hd hs k
  | lstore_n j => exact pw_lstore_n hd hs k
  | dstore j => exact pw_dstore hd hs k
  | iinc j n => exact pw_iinc hd hs k
  | iconst j => exact pw_iconst hd hs k
  | bipush j => exact pw_bipush hd hs k
  | sipush j => exact pw_sipush hd hs k
  | lconst n => exact pw_lconst hd hs k
  | iadd => exact pw_iadd hd hs k
  | isub => exact pw_isub hd hs k
  | imul => exact pw_imul hd hs k
  | iand => exact pw_iand hd hs k
  | ior => exact pw_ior hd hs k
  | ishl => exact pw_ishl hd hs k
  | ishr => exact pw_ishr hd hs k
  | iushr => exact pw_iushr hd hs k
  | ineg => exact pw_ineg hd hs k
  | ladd => exact pw_ladd hd hs k
  | lsub => exact pw_lsub hd hs k
  | land => exact pw_land hd hs k
  | lor => exact pw_lor hd hs k
  | lxor => exact pw_lxor hd hs k
  | lshl => exact pw_lshl hd hs k
  | lushr => exact pw_lushr hd hs k
  | i2l => exact pw_i2l hd hs k
  | l2i => exact pw_l2i hd hs k
  | i2c => exact pw_i2c hd hs k
  | i2b => exact pw_i2b hd hs k
  | i2f => exact pw_i2f hd hs k
  | i2d => exact pw_i2d hd hs k
  | l2d => exact pw_l2d hd hs k
  | lcmp => exact pw_lcmp hd hs k
  | dup => exact pw_dup hd hs k
  | pop => exact pw_pop hd hs k
  | dup_x1 => exact pw_dup_x1 hd hs k
  | dup2 => exact pw_dup2 hd hs k
  | aconst_null => exact pw_aconst_null hd hs k
  | goto j => exact pw_goto hd hs k
  | ifnull j => exact pw_ifnull hd hs k
  | ifnonnull j => exact pw_ifnonnull hd hs k
  | _ => cases hs
def fw_br (i : Instr) (st : List Value) : Option (Prop × List Value) := match i with
  | .if_icmp .eq _ => (match st with | .int y :: .int x :: r => some (x = y, r) | _ => none)
  | .if_icmp .ne _ => (match st with | .int y :: .int x :: r => some (¬ x = y, r) | _ => none)
  | .if_icmp .lt _ => (match st with | .int y :: .int x :: r => some (x < y, r) | _ => none)
  | .if_icmp .ge _ => (match st with | .int y :: .int x :: r => some (y ≤ x, r) | _ => none)
  | .if_icmp .gt _ => (match st with | .int y :: .int x :: r => some (y < x, r) | _ => none)
  | .if_icmp .le _ => (match st with | .int y :: .int x :: r => some (x ≤ y, r) | _ => none)
  | .ifCond .eq _ => (match st with | .int x :: r => some (x = 0, r) | _ => none)
  | .ifCond .ne _ => (match st with | .int x :: r => some (¬ x = 0, r) | _ => none)
  | .ifCond .lt _ => (match st with | .int x :: r => some (x < 0, r) | _ => none)
  | .ifCond .ge _ => (match st with | .int x :: r => some (0 ≤ x, r) | _ => none)
  | .ifCond .gt _ => (match st with | .int x :: r => some (0 < x, r) | _ => none)
  | .ifCond .le _ => (match st with | .int x :: r => some (x ≤ 0, r) | _ => none)
  | _ => none
/-- a branch -/
theorem pw_br {tb : List fw_R} {i : Instr} {c9 : Prop} (hT : fw_tok y tb) (hr : fw_at tb pc = some (i, nx, a, v)) (hs : fw_br i st = some (c9, st')) (kt : c9 → PW G y Q d kc ks h a L st') (kf : ¬ c9 → PW G y Q d kc ks h nx L st') : PW G y Q d kc ks h pc L st := by
  have hd := fw_row hT hr
  cases i with
  | if_icmp cc off =>
    have en : nx = pc + 3 := hd.2.1
    cases cc <;> (simp only [fw_br] at hs; split at hs)
    · cases hs
      intro p e R s m args below meth c H locs cells slots ls C X
      exact lv_icmp_eq C.1 C.2.1 hd.1 (of_decide_eq_true hd.2.2) (fun z => kt z p e R s m args below meth c H locs cells slots ls C X) (fun z => en ▸ kf z p e R s m args below meth c H locs cells slots ls C X)
    · cases hs
    · cases hs
      intro p e R s m args below meth c H locs cells slots ls C X
      exact lv_icmp_ne C.1 C.2.1 hd.1 (of_decide_eq_true hd.2.2) (fun z => kt z p e R s m args below meth c H locs cells slots ls C X) (fun z => en ▸ kf (fun q => q z) p e R s m args below meth c H locs cells slots ls C X)
    · cases hs
    · cases hs
      intro p e R s m args below meth c H locs cells slots ls C X
      exact lv_icmp_lt C.1 C.2.1 hd.1 (of_decide_eq_true hd.2.2) (fun z => kt z p e R s m args below meth c H locs cells slots ls C X) (fun z => en ▸ kf z p e R s m args below meth c H locs cells slots ls C X)
    · cases hs
    · cases hs
      intro p e R s m args below meth c H locs cells slots ls C X
      exact lv_icmp_ge C.1 C.2.1 hd.1 (of_decide_eq_true hd.2.2) (fun z => kt z p e R s m args below meth c H locs cells slots ls C X) (fun z => en ▸ kf z p e R s m args below meth c H locs cells slots ls C X)
    · cases hs
    · cases hs
      intro p e R s m args below meth c H locs cells slots ls C X
      exact lv_icmp_gt C.1 C.2.1 hd.1 (of_decide_eq_true hd.2.2) (fun z => kt z p e R s m args below meth c H locs cells slots ls C X) (fun z => en ▸ kf z p e R s m args below meth c H locs cells slots ls C X)
    · cases hs
    · cases hs
      intro p e R s m args below meth c H locs cells slots ls C X
      exact lv_icmp_le C.1 C.2.1 hd.1 (of_decide_eq_true hd.2.2) (fun z => kt z p e R s m args below meth c H locs cells slots ls C X) (fun z => en ▸ kf z p e R s m args below meth c H locs cells slots ls C X)
    · cases hs
  | ifCond cc off =>
    have en : nx = pc + 3 := hd.2.1
    cases cc <;> (simp only [fw_br] at hs; split at hs)
    · cases hs
      intro p e R s m args below meth c H locs cells slots ls C X
      exact lv_if_eq C.1 C.2.1 hd.1 (of_decide_eq_true hd.2.2) (fun z => kt z p e R s m args below meth c H locs cells slots ls C X) (fun z => en ▸ kf z p e R s m args below meth c H locs cells slots ls C X)
    · cases hs
    · cases hs
      intro p e R s m args below meth c H locs cells slots ls C X
      exact lv_if_ne C.1 C.2.1 hd.1 (of_decide_eq_true hd.2.2) (fun z => kt z p e R s m args below meth c H locs cells slots ls C X) (fun z => en ▸ kf (fun q => q z) p e R s m args below meth c H locs cells slots ls C X)
    · cases hs
    · cases hs
      intro p e R s m args below meth c H locs cells slots ls C X
      exact lv_if_lt C.1 C.2.1 hd.1 (of_decide_eq_true hd.2.2) (fun z => kt z p e R s m args below meth c H locs cells slots ls C X) (fun z => en ▸ kf z p e R s m args below meth c H locs cells slots ls C X)
    · cases hs
    · cases hs
      intro p e R s m args below meth c H locs cells slots ls C X
      exact lv_if_ge C.1 C.2.1 hd.1 (of_decide_eq_true hd.2.2) (fun z => kt z p e R s m args below meth c H locs cells slots ls C X) (fun z => en ▸ kf z p e R s m args below meth c H locs cells slots ls C X)
    · cases hs
    · cases hs
      intro p e R s m args below meth c H locs cells slots ls C X
      exact lv_if_gt C.1 C.2.1 hd.1 (of_decide_eq_true hd.2.2) (fun z => kt z p e R s m args below meth c H locs cells slots ls C X) (fun z => en ▸ kf z p e R s m args below meth c H locs cells slots ls C X)
    · cases hs
    · cases hs
      intro p e R s m args below meth c H locs cells slots ls C X
      exact lv_if_le C.1 C.2.1 hd.1 (of_decide_eq_true hd.2.2) (fun z => kt z p e R s m args below meth c H locs cells slots ls C X) (fun z => en ▸ kf z p e R s m args below meth c H locs cells slots ls C X)
    · cases hs
  | _ => cases hs
theorem pw_ifnullq {tb : List fw_R} {off : Int} {r : Option Nat} {rest : List Value} (hT : fw_tok y tb) (hr : fw_at tb pc = some (.ifnull off, nx, a, v)) (kt : r = none → PW G y Q d kc ks h a L rest) (kf : ∀ b, r = some b → PW G y Q d kc ks h nx L rest) : PW G y Q d kc ks h pc L (va_rf r :: rest) := by
  cases r with
  | none => exact pw_ifnull (fw_row hT hr) rfl (kt rfl)
  | some b => exact pw_ifnull (fw_row hT hr) rfl (kf b rfl)
theorem pw_ifnonnullq {tb : List fw_R} {off : Int} {r : Option Nat} {rest : List Value} (hT : fw_tok y tb) (hr : fw_at tb pc = some (.ifnonnull off, nx, a, v)) (kt : ∀ b, r = some b → PW G y Q d kc ks h a L rest) (kf : r = none → PW G y Q d kc ks h nx L rest) : PW G y Q d kc ks h pc L (va_rf r :: rest) := by
  cases r with
  | none => exact pw_ifnonnull (fw_row hT hr) rfl (kf rfl)
  | some b => exact pw_ifnonnull (fw_row hT hr) rfl (kt b rfl)
theorem pw_acmpeq {tb : List fw_R} {off : Int} {rx ry : Option Nat} {rest : List Value} (hT : fw_tok y tb) (hr : fw_at tb pc = some (.if_acmp .eq off, nx, a, v)) (kt : rx = ry → PW G y Q d kc ks h a L rest) (kf : ¬ rx = ry → PW G y Q d kc ks h nx L rest) : PW G y Q d kc ks h pc L (va_rf ry :: va_rf rx :: rest) := by
  have hd := fw_row hT hr
  have en : nx = pc + 3 := hd.2.1
  intro p e R s m args below meth c H locs cells slots ls C X
  exact lv_acmp_eq C.1 C.2.1 hd.1 (of_decide_eq_true hd.2.2) (fun z => kt z p e R s m args below meth c H locs cells slots ls C X) (fun z => en ▸ kf z p e R s m args below meth c H locs cells slots ls C X)
theorem pw_acmpne {tb : List fw_R} {off : Int} {rx ry : Option Nat} {rest : List Value} (hT : fw_tok y tb) (hr : fw_at tb pc = some (.if_acmp .ne off, nx, a, v)) (kt : ¬ rx = ry → PW G y Q d kc ks h a L rest) (kf : rx = ry → PW G y Q d kc ks h nx L rest) : PW G y Q d kc ks h pc L (va_rf ry :: va_rf rx :: rest) := by
  have hd := fw_row hT hr
  have en : nx = pc + 3 := hd.2.1
  intro p e R s m args below meth c H locs cells slots ls C X
  exact lv_acmp_ne C.1 C.2.1 hd.1 (of_decide_eq_true hd.2.2) (fun z => kt z p e R s m args below meth c H locs cells slots ls C X) (fun z => en ▸ kf z p e R s m args below meth c H locs cells slots ls C X)
theorem pw_div {tb : List fw_R} {x1 x2 : Int32} {rest : List Value} (hT : fw_tok y tb) (hr : fw_at tb pc = some (.idiv, nx, a, v)) (hz : ¬ x2 = 0) (k : PW G y Q d kc ks h nx L (.int (x1 / x2) :: rest)) : PW G y Q d kc ks h pc L (.int x2 :: .int x1 :: rest) := by
  have hd := fw_row hT hr
  have en : nx = pc + 1 := hd.2.1
  intro p e R s m args below meth c H locs cells slots ls C X
  exact lv_idiv C.1 C.2.1 hd.1 hz (en ▸ k p e R s m args below meth c H locs cells slots ls C X)
theorem pw_rem {tb : List fw_R} {x1 x2 : Int32} {rest : List Value} (hT : fw_tok y tb) (hr : fw_at tb pc = some (.irem, nx, a, v)) (hz : ¬ x2 = 0) (k : PW G y Q d kc ks h nx L (.int (x1 - x1 / x2 * x2) :: rest)) : PW G y Q d kc ks h pc L (.int x2 :: .int x1 :: rest) := by
  have hd := fw_row hT hr
  have en : nx = pc + 1 := hd.2.1
  intro p e R s m args below meth c H locs cells slots ls C X
  exact lv_irem C.1 C.2.1 hd.1 hz (en ▸ k p e R s m args below meth c H locs cells slots ls C X)
/-- other locals: fewer, in another order -/
theorem pw_L (hs : ∀ q ∈ L', fw_lk L q.1 = some q.2) (k : PW G y Q d kc ks h pc L' st) : PW G y Q d kc ks h pc L st := by
  intro p e R s m args below meth c H locs cells slots ls C X
  exact k p e R s m args below meth c H locs cells slots ls C ⟨X.1, X.2.1, X.2.2.1, X.2.2.2.sub hs⟩
theorem pw_e {st2 : List Value} (hs : st = st2) (k : PW G y Q d kc ks h pc L st2) : PW G y Q d kc ks h pc L st := hs ▸ k
theorem pw_mono {d' kc' ks' : Nat} {Q' : fw_Q} (h1 : d' ≤ d) (h2 : kc' ≤ kc) (h3 : ks' ≤ ks) (k : PW G y Q d' kc' ks' h pc L st) : PW G y Q d kc ks h pc L st := by
  intro p e R s m args below meth c H locs cells slots ls C X
  obtain ⟨x1, x2, ⟨x3, x4, x5, x6⟩, x7⟩ := X
  exact k p e R s m args below meth c H locs cells slots ls C ⟨x1, x2, ⟨by omega, by omega, by omega, by omega⟩, x7⟩
theorem fw_end {p : Program} {l : Launch} {e : Env} {R : Room} {s : State} {m : MethodId} {args : Array Value} {below : List Frame} {meth : Method} {c : Code} {H : Heap} {locs : List Loc} {cells slots : Nat} {g : JFrame} {Qc : Array Value → State → Outcome → State → Prop} {XC : String → State → State → Prop} {free : Addr → Prop} (h1 : cells ≤ R.cells) (h2 : slots ≤ R.slots) (k : W p l e R s m args below meth c H locs R.cells R.slots (MQ below Qc args s R.cells R.slots free) g) : W p l e R s m args below meth c H locs cells slots (vx_MQ below Qc XC args s R.cells R.slots free) g := W.widen (k := R.cells) (n := R.slots) h1 h2 (vx_ret k)
theorem pw_iret {tb : List fw_R} {r : Int32} {ty : FieldType} (hT : fw_tok y tb) (hr : fw_at tb pc = some (.ireturn, nx, a, v)) (hy : y.2.2.2.1 = some ty) (hn : narrow ty (.int r) = .int r) (hq : Q.1 (some (.int r)) h) : PW G y Q d kc ks h pc L [.int r] := by
  have hd := fw_row hT hr
  intro p e R s m args below meth c H locs cells slots ls C X
  obtain ⟨x1, x2, ⟨x3, x4, x5, x6⟩, x7⟩ := X
  refine fw_end (by omega) (by omega) (W.zret C.1 C.2.1 (C.2.2.1.trans hy) hn (fun t ht hW => ⟨_, h, rfl, hq, by rw [ht]; exact x1⟩) (fun q hq => x2.2.2 q hq) hd.1 C.2.2.2.1)
theorem pw_lret {tb : List fw_R} {r : Int64} (hT : fw_tok y tb) (hr : fw_at tb pc = some (.lreturn, nx, a, v)) (hy : y.2.2.2.1 = some .long) (hq : Q.1 (some (.long r)) h) : PW G y Q d kc ks h pc L [.long r] := by
  have hd := fw_row hT hr
  intro p e R s m args below meth c H locs cells slots ls C X
  obtain ⟨x1, x2, ⟨x3, x4, x5, x6⟩, x7⟩ := X
  refine fw_end (by omega) (by omega) (W.lret C.1 C.2.1 (C.2.2.1.trans hy) (fun t ht hW => ⟨_, h, rfl, hq, by rw [ht]; exact x1⟩) (fun q hq => x2.2.2 q hq) hd.1 C.2.2.2.1)
theorem pw_fret {tb : List fw_R} {r : UInt32} (hT : fw_tok y tb) (hr : fw_at tb pc = some (.freturn, nx, a, v)) (hy : y.2.2.2.1 = some .float) (hq : Q.1 (some (.float r)) h) : PW G y Q d kc ks h pc L [.float r] := by
  have hd := fw_row hT hr
  intro p e R s m args below meth c H locs cells slots ls C X
  obtain ⟨x1, x2, ⟨x3, x4, x5, x6⟩, x7⟩ := X
  refine fw_end (by omega) (by omega) (W.fret C.1 C.2.1 (C.2.2.1.trans hy) (fun t ht hW => ⟨_, h, rfl, hq, by rw [ht]; exact x1⟩) (fun q hq => x2.2.2 q hq) hd.1 C.2.2.2.1)
theorem pw_dret {tb : List fw_R} {r : UInt64} (hT : fw_tok y tb) (hr : fw_at tb pc = some (.dreturn, nx, a, v)) (hy : y.2.2.2.1 = some .double) (hq : Q.1 (some (.double r)) h) : PW G y Q d kc ks h pc L [.double r] := by
  have hd := fw_row hT hr
  intro p e R s m args below meth c H locs cells slots ls C X
  obtain ⟨x1, x2, ⟨x3, x4, x5, x6⟩, x7⟩ := X
  refine fw_end (by omega) (by omega) (W.dret C.1 C.2.1 (C.2.2.1.trans hy) (fun t ht hW => ⟨_, h, rfl, hq, by rw [ht]; exact x1⟩) (fun q hq => x2.2.2 q hq) hd.1 C.2.2.2.1)
theorem pw_aret {tb : List fw_R} {r : Option Nat} {rt : FieldType} (hT : fw_tok y tb) (hr : fw_at tb pc = some (.areturn, nx, a, v)) (hy : y.2.2.2.1 = some rt) (hrt : (∃ n, rt = .object n) ∨ ∃ t, rt = .array t) (hq : Q.1 (some (va_rf r)) h) : PW G y Q d kc ks h pc L [va_rf r] := by
  have hd := fw_row hT hr
  intro p e R s m args below meth c H locs cells slots ls C X
  obtain ⟨x1, x2, ⟨x3, x4, x5, x6⟩, x7⟩ := X
  refine fw_end (by omega) (by omega) (W.aret C.1 C.2.1 (C.2.2.1.trans hy) hrt (by cases r with | none => exact Or.inl rfl | some b => exact Or.inr ⟨b, rfl⟩) (fun t ht hW => ⟨_, h, rfl, hq, by rw [ht]; exact x1⟩) (fun q hq => x2.2.2 q hq) hd.1 C.2.2.2.1)
theorem pw_vret {tb : List fw_R} (hT : fw_tok y tb) (hr : fw_at tb pc = some (.return_, nx, a, v)) (hy : y.2.2.2.1 = none) (hq : Q.1 none h) : PW G y Q d kc ks h pc L [] := by
  have hd := fw_row hT hr
  intro p e R s m args below meth c H locs cells slots ls C X
  obtain ⟨x1, x2, ⟨x3, x4, x5, x6⟩, x7⟩ := X
  exact fw_end (by omega) (by omega) (W.vret C.1 C.2.1 (C.2.2.1.trans hy) (fun t ht hW => ⟨_, h, rfl, hq, by rw [ht]; exact x1⟩) (fun q hq => x2.2.2 q hq) hd.1 C.2.2.2.1)
end PWR
end
section
/-! HEAP: what touches the heap, calls, contracts -/
section PWH
variable {G : fw_G} {y : fw_M} {Q : fw_Q} {d kc ks : Nat} {h : fw_H} {pc nx a : Nat} {v : Int32} {L : List (Nat × Value)} {st : List Value} {tb : List fw_R}
theorem pw_get {b idx ci k : Nat} {fs : List Value} {w : Value} (hT : fw_tok y tb) (hr : fw_at tb pc = some (.getfield idx, nx, a, v)) (hf : fw_fld y.1.cls idx ci k) (ho : h b = some (.inr (ci, fs))) (hv : fs[k]? = some w) (kk : PW G y Q d kc ks h nx L (w :: st)) : PW G y Q d kc ks h pc L (.ref b :: st) := by
  have hd := fw_row hT hr
  have en : nx = pc + 3 := hd.2.1
  obtain ⟨Cn, T, N, ty, ⟨c1, c2, c3, c4⟩, hk, hl⟩ := hf
  intro p e R s m args below meth c H locs cells slots ls C X
  have C0 := C
  obtain ⟨hx, hb, hre, hlk, hml, hown, hnm, hts, htab, hK, hN⟩ := C
  obtain ⟨ws, q0, hP, hD, h3, hq⟩ := X.1.get ho
  have kk' := kk p e R s m args below meth c H locs cells slots ls C0 X
  rw [en] at kk'
  rcases hl with hl | ⟨host, hl⟩ | ⟨ref, hl, hs⟩
  · exact va_get hx hb hts c2 hown hK.1 hP q0 hq c1 k hk (hts _ hl) (fun _ z => z) hv hd.1 kk'
  · exact va_getN hx hb hts c2 hown hK.1 hP q0 hq c1 k hk (va_Nw.use (fw_ww_on (List.mem_filter.mp hl).2) (hK.2.2.2.2.2.2.2.2.1 _ hl)) (fun _ z => z) hv hd.1 kk'
  · exact va_get hx hb hts c2 hown hK.1 hP q0 hq c1 k hk (hts _ hl) (u_same (hts _ hs)) hv hd.1 kk'
theorem pw_put {b idx ci k : Nat} {fs : List Value} {w : Value} {tt : FieldType} (hT : fw_tok y tb) (hr : fw_at tb pc = some (.putfield idx, nx, a, v)) (hf : fw_fldW y.1.cls idx ci k tt) (ho : h b = some (.inr (ci, fs))) (hn : narrow tt w = w) (hfit : fits tt w = true) (hlen : k < fs.length) (kk : PW G y Q d kc ks (fw_up h b (.inr (ci, fs.set k w))) nx L st) : PW G y Q d kc ks h pc L (w :: .ref b :: st) := by
  have hd := fw_row hT hr
  have en : nx = pc + 3 := hd.2.1
  obtain ⟨Cn, T, N, ty, ⟨c1, c2, c3, c4⟩, hk, hl, hfin, hdt⟩ := hf
  intro p e R s m args below meth c H locs cells slots ls C X
  have C0 := C
  obtain ⟨hx, hb, hre, hlk, hml, hown, hnm, hts, htab, hK, hN⟩ := C
  obtain ⟨ws, q0, hP, hD, h3, hq⟩ := X.1.get ho
  have kk' : ∀ (H1 : Heap) (locs1 : List Loc), va_P G.2.2.1 vwCl (ws.set q0 (b, .inr (ci, fs.set k w))) H1 → va_D (fun q => G.2.1 ≤ q) (ws.set q0 (b, .inr (ci, fs.set k w))) → va_S (fw_A G.2.1) s.heap H1 locs1 → W p G.1 e R s m args below meth c H1 locs1 cells slots (vx_MQ below (fw_Qc G Q) (fw_XC G Q) args s R.cells R.slots (fw_A G.2.1)) (F0 m (pc + 3) ls st) := fun H1 locs1 g1 g2 g3 => en ▸ kk p e R s m args below meth c H1 locs1 cells slots ls C0 ⟨fw_P.set (o' := .inr (ci, fs.set k w)) h3 hq g1 g2, g3, X.2.2⟩
  rcases hl with hl | ⟨host, hl⟩ | ⟨ref, hl, hs⟩
  · exact va_put hx hb hts c2 ty c3 c4 hown hK.1 hP hD X.2.1 q0 hq c1 k hk (hts _ hl) (fun _ z => z) hfin hdt hn hfit hlen hd.1 kk'
  · exact va_putN hx hb hts c2 ty c3 c4 hown hK.1 hP hD X.2.1 q0 hq c1 k hk (va_Nw.use (fw_ww_on (List.mem_filter.mp hl).2) (hK.2.2.2.2.2.2.2.2.1 _ hl)) (fun _ z => z) hfin hdt hn hfit hlen hd.1 kk'
  · exact va_put hx hb hts c2 ty c3 c4 hown hK.1 hP hD X.2.1 q0 hq c1 k hk (hts _ hl) (u_same (hts _ hs)) hfin hdt hn hfit hlen hd.1 kk'
theorem pw_putF {b idx ci k : Nat} {fs : List Value} {w : Value} {tt : FieldType} (hT : fw_tok y tb) (hr : fw_at tb pc = some (.putfield idx, nx, a, v)) (hf : fw_fldF y.1.cls idx ci k tt) (hi : y.1.name = "<init>") (ho : h b = some (.inr (ci, fs))) (hn : narrow tt w = w) (hfit : fits tt w = true) (hlen : k < fs.length) (kk : PW G y Q d kc ks (fw_up h b (.inr (ci, fs.set k w))) nx L st) : PW G y Q d kc ks h pc L (w :: .ref b :: st) := by
  have hd := fw_row hT hr
  have en : nx = pc + 3 := hd.2.1
  obtain ⟨Cn, T, N, ty, ⟨c1, c2, c3, c4⟩, hk, hl, hfin, hdecl, hdt⟩ := hf
  intro p e R s m args below meth c H locs cells slots ls C X
  have C0 := C
  obtain ⟨hx, hb, hre, hlk, hml, hown, hnm, hts, htab, hK, hN⟩ := C
  obtain ⟨ws, q0, hP, hD, h3, hq⟩ := X.1.get ho
  exact va_putF hx hb hts c2 ty c3 c4 hown hK.1 hP hD X.2.1 q0 hq c1 k hk (hts _ hl) (fun _ z => z) hfin (hnm.trans hi) hdecl hdt hn hfit hlen hd.1 (fun H1 locs1 g1 g2 g3 => en ▸ kk p e R s m args below meth c H1 locs1 cells slots ls C0 ⟨fw_P.set (o' := .inr (ci, fs.set k w)) h3 hq g1 g2, g3, X.2.2⟩)
theorem pw_iald {b n : Nat} {f : Nat → Int32} {i : Int32} (hT : fw_tok y tb) (hr : fw_at tb pc = some (.iaload, nx, a, v)) (ho : h b = some (.inl (0, n, .inl f))) (hin : vp_in i n) (kk : PW G y Q d kc ks h nx L (.int (f i.toNatClampNeg) :: st)) : PW G y Q d kc ks h pc L (.int i :: .ref b :: st) := by
  have hd := fw_row hT hr
  have en : nx = pc + 1 := hd.2.1
  intro p e R s m args below meth c H locs cells slots ls C X
  obtain ⟨ws, q0, hP, hD, h3, hq⟩ := X.1.get ho
  exact va_iald C.1 C.2.1 C.2.2.2.2.2.2.2.2.2.1.1 hP q0 0 hq (fw_tys_at _ (by decide)) hin hd.1 (en ▸ kk p e R s m args below meth c H locs cells slots ls C X)
theorem pw_zald {b n : Nat} {f : Nat → Int32} {i : Int32} (hT : fw_tok y tb) (hr : fw_at tb pc = some (.baload, nx, a, v)) (ho : h b = some (.inl (2, n, .inl f))) (hin : vp_in i n) (kk : PW G y Q d kc ks h nx L (.int (f i.toNatClampNeg) :: st)) : PW G y Q d kc ks h pc L (.int i :: .ref b :: st) := by
  have hd := fw_row hT hr
  have en : nx = pc + 1 := hd.2.1
  intro p e R s m args below meth c H locs cells slots ls C X
  obtain ⟨ws, q0, hP, hD, h3, hq⟩ := X.1.get ho
  exact va_zald C.1 C.2.1 C.2.2.2.2.2.2.2.2.2.1.1 hP q0 2 hq (fw_tys_at _ (by decide)) hin hd.1 (en ▸ kk p e R s m args below meth c H locs cells slots ls C X)
theorem pw_lald {b n : Nat} {f : Nat → Int64} {i : Int32} (hT : fw_tok y tb) (hr : fw_at tb pc = some (.laload, nx, a, v)) (ho : h b = some (.inl (1, n, .inr (.inl f)))) (hin : vp_in i n) (kk : PW G y Q d kc ks h nx L (.long (f i.toNatClampNeg) :: st)) : PW G y Q d kc ks h pc L (.int i :: .ref b :: st) := by
  have hd := fw_row hT hr
  have en : nx = pc + 1 := hd.2.1
  intro p e R s m args below meth c H locs cells slots ls C X
  obtain ⟨ws, q0, hP, hD, h3, hq⟩ := X.1.get ho
  exact va_lald C.1 C.2.1 C.2.2.2.2.2.2.2.2.2.1.1 hP q0 1 hq (fw_tys_at _ (by decide)) hin hd.1 (en ▸ kk p e R s m args below meth c H locs cells slots ls C X)
theorem pw_dald {b n : Nat} {f : Nat → UInt64} {i : Int32} (hT : fw_tok y tb) (hr : fw_at tb pc = some (.daload, nx, a, v)) (ho : h b = some (.inl (3, n, .inr (.inr (.inr (.inl f)))))) (hin : vp_in i n) (kk : PW G y Q d kc ks h nx L (.double (f i.toNatClampNeg) :: st)) : PW G y Q d kc ks h pc L (.int i :: .ref b :: st) := by
  have hd := fw_row hT hr
  have en : nx = pc + 1 := hd.2.1
  intro p e R s m args below meth c H locs cells slots ls C X
  obtain ⟨ws, q0, hP, hD, h3, hq⟩ := X.1.get ho
  exact va_dald C.1 C.2.1 C.2.2.2.2.2.2.2.2.2.1.1 hP q0 3 hq (fw_tys_at _ (by decide)) hin hd.1 (en ▸ kk p e R s m args below meth c H locs cells slots ls C X)
theorem pw_aald {b n t : Nat} {f : Nat → Option Nat} {Cn : String} {i : Int32} (hT : fw_tok y tb) (hr : fw_at tb pc = some (.aaload, nx, a, v)) (ho : h b = some (.inl (t, n, .inr (.inr (.inr (.inr f)))))) (ht : t < 11) (hc : fw_ty t = .object Cn) (hin : vp_in i n) (kk : PW G y Q d kc ks h nx L (va_rf (f i.toNatClampNeg) :: st)) : PW G y Q d kc ks h pc L (.int i :: .ref b :: st) := by
  have hd := fw_row hT hr
  have en : nx = pc + 1 := hd.2.1
  intro p e R s m args below meth c H locs cells slots ls C X
  obtain ⟨ws, q0, hP, hD, h3, hq⟩ := X.1.get ho
  exact va_aldq C.1 C.2.1 C.2.2.2.2.2.2.2.2.2.1.1 hP q0 t hq (hc ▸ fw_tys_at _ ht) hin hd.1 (en ▸ kk p e R s m args below meth c H locs cells slots ls C X)
theorem pw_alen {b t : Nat} {x : vp_A} (hT : fw_tok y tb) (hr : fw_at tb pc = some (.arraylength, nx, a, v)) (ho : h b = some (.inl (t, x))) (ht : t < 11) (kk : PW G y Q d kc ks h nx L (.int (nI x.1) :: st)) : PW G y Q d kc ks h pc L (.ref b :: st) := by
  have hd := fw_row hT hr
  have en : nx = pc + 1 := hd.2.1
  intro p e R s m args below meth c H locs cells slots ls C X
  obtain ⟨ws, q0, hP, hD, h3, hq⟩ := X.1.get ho
  exact va_alen C.1 C.2.1 C.2.2.2.2.2.2.2.2.2.1.1 hP q0 t hq (fw_tys_at _ ht) rfl hd.1 (en ▸ kk p e R s m args below meth c H locs cells slots ls C X)
theorem pw_iast {b n : Nat} {f : Nat → Int32} {i x : Int32} (hT : fw_tok y tb) (hr : fw_at tb pc = some (.iastore, nx, a, v)) (ho : h b = some (.inl (0, n, .inl f))) (hin : vp_in i n) (kk : PW G y Q d kc ks (fw_up h b (.inl (0, n, .inl (upd f i.toNatClampNeg x)))) nx L st) : PW G y Q d kc ks h pc L (.int x :: .int i :: .ref b :: st) := by
  have hd := fw_row hT hr
  have en : nx = pc + 1 := hd.2.1
  intro p e R s m args below meth c H locs cells slots ls C X
  obtain ⟨ws, q0, hP, hD, h3, hq⟩ := X.1.get ho
  exact va_iast C.1 C.2.1 C.2.2.2.2.2.2.2.2.2.1.1 hP hD X.2.1 q0 0 hq (fw_tys_at _ (by decide)) hin hd.1 (fun H1 locs1 g1 g2 g3 => en ▸ kk p e R s m args below meth c H1 locs1 cells slots ls C ⟨fw_P.set (o' := .inl (0, n, .inl (upd f i.toNatClampNeg x))) h3 hq g1 g2, g3, X.2.2⟩)
theorem pw_zast {b n : Nat} {f : Nat → Int32} {i x : Int32} (hT : fw_tok y tb) (hr : fw_at tb pc = some (.bastore, nx, a, v)) (ho : h b = some (.inl (2, n, .inl f))) (hin : vp_in i n) (kk : PW G y Q d kc ks (fw_up h b (.inl (2, n, .inl (upd f i.toNatClampNeg (vp_nar .boolean x))))) nx L st) : PW G y Q d kc ks h pc L (.int x :: .int i :: .ref b :: st) := by
  have hd := fw_row hT hr
  have en : nx = pc + 1 := hd.2.1
  intro p e R s m args below meth c H locs cells slots ls C X
  obtain ⟨ws, q0, hP, hD, h3, hq⟩ := X.1.get ho
  exact va_zast C.1 C.2.1 C.2.2.2.2.2.2.2.2.2.1.1 hP hD X.2.1 q0 2 hq (fw_tys_at _ (by decide)) hin hd.1 (fun H1 locs1 g1 g2 g3 => en ▸ kk p e R s m args below meth c H1 locs1 cells slots ls C ⟨fw_P.set (o' := .inl (2, n, .inl (upd f i.toNatClampNeg (vp_nar .boolean x)))) h3 hq g1 g2, g3, X.2.2⟩)
theorem pw_last {b n : Nat} {f : Nat → Int64} {i : Int32} {x : Int64} (hT : fw_tok y tb) (hr : fw_at tb pc = some (.lastore, nx, a, v)) (ho : h b = some (.inl (1, n, .inr (.inl f)))) (hin : vp_in i n) (kk : PW G y Q d kc ks (fw_up h b (.inl (1, n, .inr (.inl (vp_updL f i.toNatClampNeg x))))) nx L st) : PW G y Q d kc ks h pc L (.long x :: .int i :: .ref b :: st) := by
  have hd := fw_row hT hr
  have en : nx = pc + 1 := hd.2.1
  intro p e R s m args below meth c H locs cells slots ls C X
  obtain ⟨ws, q0, hP, hD, h3, hq⟩ := X.1.get ho
  exact va_last C.1 C.2.1 C.2.2.2.2.2.2.2.2.2.1.1 hP hD X.2.1 q0 1 hq (fw_tys_at _ (by decide)) hin hd.1 (fun H1 locs1 g1 g2 g3 => en ▸ kk p e R s m args below meth c H1 locs1 cells slots ls C ⟨fw_P.set (o' := .inl (1, n, .inr (.inl (vp_updL f i.toNatClampNeg x)))) h3 hq g1 g2, g3, X.2.2⟩)
end PWH
end
section
/-! CALLS: new cells, calls, throws, contracts -/
section PWN
variable {G : fw_G} {y : fw_M} {Q : fw_Q} {d kc ks : Nat} {h : fw_H} {pc nx a : Nat} {v : Int32} {L : List (Nat × Value)} {st : List Value} {tb : List fw_R}
theorem pw_dast {b n : Nat} {f : Nat → UInt64} {i : Int32} {x : UInt64} (hT : fw_tok y tb) (hr : fw_at tb pc = some (.dastore, nx, a, v)) (ho : h b = some (.inl (3, n, .inr (.inr (.inr (.inl f)))))) (hin : vp_in i n) (kk : ∀ f', f' = vf_upd f i.toNatClampNeg x → PW G y Q d kc ks (fw_up h b (.inl (3, n, .inr (.inr (.inr (.inl f')))))) nx L st) : PW G y Q d kc ks h pc L (.double x :: .int i :: .ref b :: st) := by
  have hd := fw_row hT hr
  have en : nx = pc + 1 := hd.2.1
  intro p e R s m args below meth c H locs cells slots ls C X
  obtain ⟨ws, q0, hP, hD, h3, hq⟩ := X.1.get ho
  exact va_dast C.1 C.2.1 C.2.2.2.2.2.2.2.2.2.1.1 hP hD X.2.1 q0 3 hq (fw_tys_at _ (by decide)) hin hd.1 (fun H1 locs1 g1 g2 g3 => en ▸ kk _ rfl p e R s m args below meth c H1 locs1 cells slots ls C ⟨fw_P.set (o' := .inl (3, n, .inr (.inr (.inr (.inl _))))) h3 hq g1 g2, g3, X.2.2⟩)
/-- an object of a class of ours into an array of that class -/
theorem pw_aast {b n t ci w : Nat} {f : Nat → Option Nat} {i : Int32} {r : vw_C} {fs : List Value} (hT : fw_tok y tb) (hr : fw_at tb pc = some (.aastore, nx, a, v)) (ho : h b = some (.inl (t, n, .inr (.inr (.inr (.inr f)))))) (ht : t < 11) (hw : h w = some (.inr (ci, fs))) (hc : vwCl[ci]? = some r) (hty : fw_ty t = .object r.1) (hin : vp_in i n) (kk : PW G y Q d kc ks (fw_up h b (.inl (t, n, .inr (.inr (.inr (.inr (va_up f i.toNatClampNeg (some w)))))))) nx L st) : PW G y Q d kc ks h pc L (.ref w :: .int i :: .ref b :: st) := by
  have hd := fw_row hT hr
  have en : nx = pc + 1 := hd.2.1
  intro p e R s m args below meth c H locs cells slots ls C X
  obtain ⟨ws, q0, hP, hD, h3, hq⟩ := X.1.get ho
  obtain ⟨qk, hqk⟩ := List.getElem?_of_mem (h3 w _ hw)
  exact va_astq C.1 C.2.1 C.2.2.2.2.2.2.2.2.2.1.1 hP hD X.2.1 q0 t qk ci hq (hty ▸ fw_tys_at _ ht) hqk hc hin hd.1 (fun H1 locs1 g1 g2 g3 => en ▸ kk p e R s m args below meth c H1 locs1 cells slots ls C ⟨fw_P.set (o' := .inl (t, n, .inr (.inr (.inr (.inr (va_up f i.toNatClampNeg (some w))))))) h3 hq g1 g2, g3, X.2.2⟩)
theorem pw_new {idx ci N : Nat} {fs : List Value} (hT : fw_tok y tb) (hr : fw_at tb pc = some (.new idx, nx, a, v)) (hn : fw_new y.1.cls idx ci N fs) (kk : ∀ q, h q = none → G.2.1 ≤ q → PW G y Q d kc ks (fw_up h q (.inr (ci, fs))) nx L (.ref q :: st)) : PW G y Q d (kc + 1) (ks + N) h pc L st := by
  have hd := fw_row hT hr
  have en : nx = pc + 3 := hd.2.1
  obtain ⟨Cn, T, ty, ⟨c1, c2, c3, c4⟩, w1, w2, w3, hfs⟩ := hn
  intro p e R s m args below meth c H locs cells slots ls C X
  have C0 := C
  obtain ⟨hx, hb, hre, hlk, hml, hown, hnm, hts, htab, hK, hN⟩ := C
  obtain ⟨⟨ws, hP, hD, h3⟩, x2, ⟨x3, x4, x5, x6⟩, x7⟩ := X
  refine va_new hx hb hts c2 ty c3 hown (hts _ w1) (hts _ w2) (hts _ w3) hK.1 hP hD x2 (fun q hq => Nat.le_trans hN hq) c1 hfs (by omega) (by omega) hd.1 (fun q H1 g1 g2 g3 => ?_)
  obtain ⟨e1, e2, e3⟩ := fw_P.push (o := .inr (ci, fs)) h3 g1 g2
  exact en ▸ kk q e1 e2 p e R s m args below meth c H1 locs (cells + 1) (slots + N) ls C0 ⟨e3, g3, ⟨x3, x4, by omega, by omega⟩, x7⟩
/-- a new array of a primitive type -/
theorem pw_newa {t N' : Nat} {n : Int32} {a0 : vp_A} {atype : ArrayType} {ty : FieldType} (hT : fw_tok y tb) (hr : fw_at tb pc = some (.newarray atype, nx, a, v)) (ht : t < 11) (hty : newarray.typeOf atype = ty) (hty2 : fw_ty t = ty) (hw : Cond.arrayClass ty ∈ fw_GW) (ha : ∀ cA : ClassId, vp_cell cA a0 = arrV cA N' (fun _ => defaultValue ty)) (hn : ¬ n < 0) (hN9 : n.toNatClampNeg = N') (hbytes : N' * componentBytes ty ≤ 536870912) (kk : ∀ q, h q = none → G.2.1 ≤ q → PW G y Q d kc ks (fw_up h q (.inl (t, a0))) nx L (.ref q :: st)) : PW G y Q d (kc + 1) (ks + N') h pc L (.int n :: st) := by
  have hd := fw_row hT hr
  have en : nx = pc + 2 := hd.2.1
  intro p e R s m args below meth c H locs cells slots ls C X
  have C0 := C
  obtain ⟨hx, hb, hre, hlk, hml, hown, hnm, hts, htab, hK, hN⟩ := C
  obtain ⟨⟨ws, hP, hD, h3⟩, x2, ⟨x3, x4, x5, x6⟩, x7⟩ := X
  refine va_newa hx hb (by rw [hty]; exact hts _ hw) hty hK.1 hP hD x2 (fun q hq => Nat.le_trans hN hq) ha hn hN9 hbytes (by omega) (by omega) hd.1 (fun q cA H1 g0 g1 g2 g3 => ?_)
  have e9 : cA = G.2.2.2.1 t := by
    have r1 := (g0.2 (fw_tys G.2.2.2.1).length (cA, ty) (by rw [List.getElem?_append_right (Nat.le_refl _), Nat.sub_self]; rfl)).2
    have r2 := (hK.1.2 t _ (fw_tys_at G.2.2.2.1 ht)).2
    rw [hty2] at r2
    exact fw_RA1 r1 r2
  subst e9
  obtain ⟨e1, e2, e3⟩ := fw_P.push (o := .inl (t, a0)) h3 g1 g2
  exact en ▸ kk q e1 e2 p e R s m args below meth c H1 locs (cells + 1) (slots + N') ls C0 ⟨e3, g3, ⟨x3, x4, by omega, by omega⟩, x7⟩
/-- a new array of references -/
theorem pw_newq {t N' idx : Nat} {n : Int32} {Cn : String} (hT : fw_tok y tb) (hr : fw_at tb pc = some (.anewarray idx, nx, a, v)) (ht : t < 11) (hty : fw_ty t = .object Cn) (hao : Cn ∈ fw_aos) (hw : Cond.classLink y.1.cls idx Cn ∈ fw_GW) (hn : ¬ n < 0) (hN9 : n.toNatClampNeg = N') (hbytes : N' * 4 ≤ 536870912) (kk : ∀ q, h q = none → G.2.1 ≤ q → PW G y Q d kc ks (fw_up h q (.inl (t, N', .inr (.inr (.inr (.inr (fun _ => none))))))) nx L (.ref q :: st)) : PW G y Q d (kc + 1) (ks + N') h pc L (.int n :: st) := by
  have hd := fw_row hT hr
  have en : nx = pc + 3 := hd.2.1
  intro p e R s m args below meth c H locs cells slots ls C X
  have C0 := C
  obtain ⟨hx, hb, hre, hlk, hml, hown, hnm, hts, htab, hK, hN⟩ := C
  obtain ⟨⟨ws, hP, hD, h3⟩, x2, ⟨x3, x4, x5, x6⟩, x7⟩ := X
  refine va_newq hx hb hown (hts _ hw) (hK.2.2.2.2.2.2.2.2.2.2.1 _ hao) hK.1 hP hD x2 (fun q hq => Nat.le_trans hN hq) hn hN9 hbytes (by omega) (by omega) hd.1 (fun q cA H1 g0 g1 g2 g3 => ?_)
  have e9 : cA = G.2.2.2.1 t := by
    have r1 := (g0.2 (fw_tys G.2.2.2.1).length (cA, .object Cn) (by rw [List.getElem?_append_right (Nat.le_refl _), Nat.sub_self]; rfl)).2
    have r2 := (hK.1.2 t _ (fw_tys_at G.2.2.2.1 ht)).2
    rw [hty] at r2
    exact fw_RA1 r1 r2
  subst e9
  obtain ⟨e1, e2, e3⟩ := fw_P.push (o := .inl (t, N', .inr (.inr (.inr (.inr (fun _ => none)))))) h3 g1 g2
  exact en ▸ kk q e1 e2 p e R s m args below meth c H1 locs (cells + 1) (slots + N') ls C0 ⟨e3, g3, ⟨x3, x4, by omega, by omega⟩, x7⟩
theorem pw_ldc {idx : Nat} {n : Int32} (hT : fw_tok y tb) (hr : fw_at tb pc = some (.ldc idx, nx, a, v)) (hw : Cond.constant y.1.cls idx n ∈ fw_GW) (kk : PW G y Q d kc ks h nx L (.int n :: st)) : PW G y Q d kc ks h pc L st := by
  have hd := fw_row hT hr
  have en : nx = pc + 2 := hd.2.1
  intro p e R s m args below meth c H locs cells slots ls C X
  exact lv_ldc C.1 C.2.1 C.2.2.2.2.2.1 (C.2.2.2.2.2.2.2.1 _ hw) hd.1 (en ▸ kk p e R s m args below meth c H locs cells slots ls C X)
theorem pw_ldc2 {idx : Nat} {n : Int64} (hT : fw_tok y tb) (hr : fw_at tb pc = some (.ldc2_w idx, nx, a, v)) (hw : Cond.constantLong y.1.cls idx n ∈ fw_GW) (kk : PW G y Q d kc ks h nx L (.long n :: st)) : PW G y Q d kc ks h pc L st := by
  have hd := fw_row hT hr
  have en : nx = pc + 3 := hd.2.1
  intro p e R s m args below meth c H locs cells slots ls C X
  exact lv_ldc2 C.1 C.2.1 C.2.2.2.2.2.1 (C.2.2.2.2.2.2.2.1 _ hw) hd.1 (en ▸ kk p e R s m args below meth c H locs cells slots ls C X)
/-- Object.<init> -/
theorem pw_oinit {idx b : Nat} (hT : fw_tok y tb) (hr : fw_at tb pc = some (.invokespecial idx, nx, a, v)) (hw : Cond.methodLink y.1.cls idx Lib.objectInit ∈ fw_GW) (hw2 : Cond.instanceMethod Lib.objectInit ∈ fw_GW) (hw3 : Cond.code Lib.objectInit ⟨#[0xb1]⟩ 1 none ∈ fw_GW) (hst : Nat.ble ((st.map fun v => v.category).sum) 8 = true) (kk : PW G y Q d kc ks h nx L st) : PW G y Q d kc ks h pc L (.ref b :: st) := by
  have hd := fw_row hT hr
  have en : nx = pc + 3 := hd.2.1
  intro p e R s m args below meth c H locs cells slots ls C X
  have h8 : (st.map fun v => v.category).sum ≤ 8 := Nat.le_of_ble_eq_true hst
  obtain ⟨x3, x4, x5, x6⟩ := X.2.2.1
  refine W.objInit C.1 C.2.1 C.2.2.2.2.2.1 (C.2.2.2.2.2.2.2.1 _ hw) (C.2.2.2.2.2.2.2.1 _ hw2) (C.2.2.2.2.2.2.2.1 _ hw3) rfl (by rw [C.2.2.2.2.1]; exact X.2.2.2.1) rfl hd.1 (by omega) (by have := lv_room (m := m) (pc := pc) (ls := ls) (rest := .ref b :: st) h8; omega) ?_
  exact W.eq (g2 := F0 m (pc + 3) ls st) rfl (en ▸ kk p e R s m args below meth c H locs cells slots ls C X)
end PWN
/-! contracts -/
theorem fw_has_of {ls : Array Slot} {n : Nat} {L : List (Nat × Value)} (h : lv_has ls n L) : fw_has ls n L := by
  refine ⟨h.1, h.2.1, fun i v hi => h.2.2 (i, v) ?_⟩
  clear h
  induction L with
  | nil => cases hi
  | cons q L ih =>
    obtain ⟨j, w⟩ := q
    rw [fw_lk_c] at hi
    by_cases e : j = i
    · rw [if_pos e] at hi
      cases hi
      subst e
      exact List.mem_cons_self
    · rw [if_neg e] at hi
      exact List.mem_cons_of_mem _ (ih hi)
theorem fw_blind (G : fw_G) (av : List Value) (h : fw_H) : FrameBlind (va_Pc av (fw_pre G h)) := fun a U g mk q => ⟨q.1, q.2.1, q.2.2.1, va_K.moved (u := U) (U := U.calling g mk a) (Vm.Alike.refl U.vm) q.2.2.2.1, fw_F.same (u := U) (U := U.calling g mk a) rfl q.2.2.2.2⟩
theorem pm_of {G : fw_G} {y : fw_M} {Q : fw_Q} {d mc ms : Nat} {av : List Value} {h : fw_H} {L : List (Nat × Value)} (hn : plainName y.1.cls = true) (hh : y.2.2.2.2 = []) (hL : lv_args 0 av = L) (hlen : Nat.ble (lg_sl av).length y.2.2.1 = true) (k : PW G y Q d mc ms h 0 L []) : PM G d mc ms y av h Q := by
  obtain ⟨y1, y2, y3, y4, y5⟩ := y
  cases hh
  refine vx_ofW (cc := y2) (maxL := y3) (ret := y4) hn rfl ?_
  intro p e s m args below meth c s₁ B hml htab hv
  obtain ⟨rfl, hN, hP, hK⟩ := hv
  have hts := atoms_spec (ws := Cond.code y1 y2 y3 y4 :: fw_GW) B.pre
  have hown : s.vm.findClass y1.cls = some m.cls := findClass_of_methodNamed B.named
  have hin : meth.name = y1.name := (name_of_methodNamed B.named B.method).1
  have hl := lv_entry av (n := y3) (Nat.le_of_ble_eq_true hlen)
  rw [lg_entry_eq]
  rw [hL] at hl
  refine k p e (fw_rm d mc ms) s m _ below meth c s.heap [] 0 0 _ ⟨B.exec, B.bytes, B.returns, B.notSynchronized, hml, hown, hin, fun w hw => hts w (List.mem_cons_of_mem _ hw), ?_, hK, hN⟩ ⟨hP, va_S.rf, ⟨Nat.le_refl _, Nat.le_refl _, by show 0 + mc ≤ mc; omega, by show 0 + ms ≤ ms; omega⟩, fw_has_of hl⟩
  show c.exceptionTable.toList = []
  exact List.eq_nil_iff_forall_not_mem.mpr (fun x hx => htab x hx)
/-- a throw stands over the frame -/
def PX (G : fw_G) (y : fw_M) (Q : fw_Q) (d kc ks : Nat) (h : fw_H) (pc : Nat) (L : List (Nat × Value)) (E : String) : Prop :=
  ∀ (p : Program) (e : Env) (R : Room) (s : State) (m : MethodId) (args : Array Value) (below : List Frame) (meth : Method) (c : Code) (H : Heap) (locs : List Loc) (cells slots : Nat) (ls : Array Slot) (rest : List Value) (q : Addr) (ce : Cell),
    fw_C G y p R s m args meth c → fw_D G y d kc ks h L R s H locs cells slots ls → H[q]? = some ce → ce.vm = .none → s.vm.findClass E = some ce.cls →
    vx_W p G.1 e R s m args below meth c H locs cells slots (vx_MQ below (fw_Qc G Q) (fw_XC G Q) args s R.cells R.slots (fw_A G.2.1)) (F0 m pc ls rest) q
theorem px_out {G : fw_G} {y : fw_M} {Q : fw_Q} {d kc ks : Nat} {h : fw_H} {pc : Nat} {L : List (Nat × Value)} {E : String} (hh : y.2.2.2.2 = []) (hq : Q.2 E h) : PX G y Q d kc ks h pc L E := by
  intro p e R s m args below meth c H locs cells slots ls rest q ce C X h1 h2 h3
  obtain ⟨hx, hb, hre, hlk, hml, hown, hnm, hts, htab, hK, hN⟩ := C
  obtain ⟨x1, x2, ⟨x3, x4, x5, x6⟩, x7⟩ := X
  rw [hh] at htab
  refine vx_out (fun x hx => ?_) hlk h1 h2 h3 (fun t ht _ => ⟨h, hq, by rw [ht]; exact x1⟩) (fun z hz => x2.2.2 z hz) (by omega) (by omega)
  rw [htab] at hx
  cases hx
section PWC
variable {p : Program} {l : Launch} {e : Env} {R : Room} {s : State} {m : MethodId} {args : Array Value} {below : List Frame} {meth : Method} {c : Code} {H : Heap} {locs : List Loc} {cells slots : Nat}
theorem fw_S9 {N0 : Nat} {T' : State} {L : List Loc} {k n : Nat} (X : Stand p l e R s m args below meth c T' (locs ++ L) k n) (h1 : ∀ q ∈ locs, fw_A N0 q.base) (h2 : ∀ q ∈ L, fw_A N0 q.base) : va_S (fw_A N0) s.heap T'.heap (locs ++ L) := by
  have hall : ∀ q ∈ locs ++ L, fw_A N0 q.base := fun q hq => (List.mem_append.mp hq).elim (h1 q) (h2 q)
  obtain ⟨f1, f2⟩ := vx_frame (U := T') X.same
  exact ⟨f1, fun q hq hn => f2 q hq (fun z hz e => hn (e ▸ hall z hz)), hall⟩
/-- behind a call -/
theorem fw_after {G : fw_G} {y : fw_M} {Q Q' : fw_Q} {d kc ks kc' ks' mc ms pc : Nat} {h : fw_H} {L : List (Nat × Value)} {ls : Array Slot} {st rest : List Value} {a : Array Value}
    (hr : vx_Run p G.1 e R s m args below meth c H locs cells slots mc ms (F0 m pc ls st) rest (fw_Qc G Q' a) (fw_XC G Q') (fw_A G.2.1)) (C : fw_C G y p R s m args meth c) (X : fw_D G y d kc ks h L R s H locs cells slots ls) (hc : mc + kc' ≤ kc) (hs : ms + ks' ≤ ks)
    (kr : ∀ r h', Q'.1 r h' → PW G y Q d kc' ks' h' (pc + 3) L (r.toList ++ rest)) (kx : ∀ E h', Q'.2 E h' → PX G y Q d kc' ks' h' pc L E) : W p G.1 e R s m args below meth c H locs cells slots (vx_MQ below (fw_Qc G Q) (fw_XC G Q) args s R.cells R.slots (fw_A G.2.1)) (F0 m pc ls st) := by
  intro T hT XS
  obtain ⟨x1, x2, ⟨x3, x4, x5, x6⟩, x7⟩ := X
  rcases hr T hT XS with ⟨r0, st₀, t, T', L9, e0, X', hL, e1, e2, ⟨r, h', e3, hq, hP⟩, st9⟩ | ⟨q, st₀, t, T', L9, E, ce, e0, X', hL, e1, e2, ⟨h', hq, hP⟩, hce, hcv, hcl, st9⟩
  · cases e3
    have hS := fw_S9 X' x2.2.2 hL
    obtain ⟨t2, a1, b1⟩ := kr _ h' hq p e R s m args below meth c T'.heap (locs ++ L9) (cells + mc) (slots + ms) ls C ⟨by rw [e1]; exact hP, hS, ⟨x3, x4, by omega, by omega⟩, x7⟩ T' rfl X'
    exact ⟨t2, st9 t2 a1, b1⟩
  · have hS := fw_S9 X' x2.2.2 hL
    obtain ⟨t2, a1, b1⟩ := kx E h' hq p e R s m args below meth c T'.heap (locs ++ L9) (cells + mc) (slots + ms) ls rest q ce C ⟨by rw [e1]; exact hP, hS, ⟨x3, x4, by omega, by omega⟩, x7⟩ (by rw [e1]; exact hce) hcv hcl T' rfl X'
    exact ⟨t2, st9.trans a1, b1⟩
theorem fw_pre_at {G : fw_G} {y : fw_M} {d kc ks : Nat} {h : fw_H} {L : List (Nat × Value)} {ls : Array Slot} {av : List Value} (C : fw_C G y p R s m args meth c) (X : fw_D G y d kc ks h L R s H locs cells slots ls) : ∀ U : State, U.heap = H → s.WarmedH U.vm → va_Pc av (fw_pre G h) av.toArray U := by
  intro U hU hW
  obtain ⟨hx, hb, hre, hlk, hml, hown, hnm, hts, htab, hK, hN⟩ := C
  refine ⟨rfl, by rw [hU]; exact Nat.le_trans hN X.2.1.1, by rw [hU]; exact X.1, va_K.moved hW.alike hK.1, ?_⟩
  rw [hU]
  exact fw_F.warm hW (fw_F.kept hK.2 (fun a ha hn => X.2.1.2.1 a ha hn))
end PWC
theorem fw_met {l : Launch} {y : MethodName} {ws : List Cond} {rm : Room} {Pc : Array Value → State → Prop} {Qc : Array Value → State → Outcome → State → Prop} {XC : String → State → State → Prop} {mc ms : Nat} {free : Addr → Prop} (h : vx_Met l y ws rm Pc Qc XC mc ms free) (hX : ∀ E s t, ¬ XC E s t) : Met l y ws rm Pc Qc mc ms free := by
  intro p e h1 h2 h3 s m args below h4 h5 h6 h7
  obtain ⟨n, o, a, b, c, d⟩ := h p e h1 h2 h3 s m args below h4 h5 h6 h7
  refine ⟨n, o, a, b, c, ?_⟩
  rcases d with d | ⟨q, -, E, ce, L, hx, -⟩
  · exact d
  · exact absurd hx (hX E _ _)
theorem fw_run_x {p : Program} {l : Launch} {e : Env} {R : Room} {s : State} {m : MethodId} {args : Array Value} {below : List Frame} {meth : Method} {c : Code} {H : Heap} {locs : List Loc} {cells slots mc ms : Nat} {g : JFrame} {rest : List Value} {Qa : State → Outcome → State → Prop} {XC : String → State → State → Prop} {free : Addr → Prop} (h : va_Run p l e R s m args below meth c H locs cells slots mc ms g rest Qa free) : vx_Run p l e R s m args below meth c H locs cells slots mc ms g rest Qa XC free := fun T hT X => by
  obtain ⟨v, st₀, t, T', L, h1, h2, h3, h4, h5, h6, h7⟩ := h T hT X
  exact Or.inl ⟨v, st₀, t, T', L, h1, h2, h3, h4, h5, h6, h7⟩
set_option maxRecDepth 20000 in
theorem fw_fr {R : Room} {d d' mc ms maxL : Nat} (h1 : d + 20 ≤ R.frames) (h2 : 60 * d + 400 ≤ R.locals) (h3 : d' < d) (h4 : maxL ≤ 30) : (fw_rm d' mc ms).frames + 1 ≤ R.frames ∧ 8 + (maxL + 11) + (fw_rm d' mc ms).locals ≤ R.locals := by
  refine ⟨?_, ?_⟩
  · simp only [fw_rm]; omega
  · simp only [fw_rm]; omega
section PWC2
variable {G : fw_G} {y : fw_M} {Q Q' : fw_Q} {d d' kc ks kc' ks' mc ms : Nat} {h : fw_H} {pc nx a idx n : Nat} {v : Int32} {L : List (Nat × Value)} {st rest As : List Value} {tb : List fw_R} {y' : fw_M}
/-- invokestatic -/
theorem pw_cs (hT : fw_tok y tb) (hr : fw_at tb pc = some (.invokestatic idx, nx, a, v)) (hc : fw_cal y' n) (hw : Cond.methodLink y.1.cls idx y'.1 ∈ fw_GW) (hw2 : Cond.static y'.1 ∈ fw_GW) (hM : PM G d' mc ms y' As h Q') (hst : st = As.reverse ++ rest) (hn : As.length = n) (h8 : Nat.ble ((rest.map fun v => v.category).sum) 8 = true) (hd : d' < d) (hmc : mc + kc' ≤ kc) (hms : ms + ks' ≤ ks)
    (kr : ∀ r h', Q'.1 r h' → PW G y Q d kc' ks' h' nx L (r.toList ++ rest)) (kx : ∀ E h', Q'.2 E h' → PX G y Q d kc' ks' h' pc L E) : PW G y Q d kc ks h pc L st := by
  have hd9 := fw_row hT hr
  have en : nx = pc + 3 := hd9.2.1
  subst en
  obtain ⟨c1, c2, c3, c4, c5⟩ := hc
  have c5 := Nat.le_of_ble_eq_true c5
  intro p e R s m args below meth c H locs cells slots ls C X
  obtain ⟨x3, x4, x5, x6⟩ := X.2.2.1
  have hts := C.2.2.2.2.2.2.2.1
  have hfr : (fw_rm d' mc ms).frames + 1 ≤ R.frames ∧ 8 + (y'.2.2.1 + 11) + (fw_rm d' mc ms).locals ≤ R.locals := fw_fr x3 x4 hd c5
  refine fw_after (st := st) (vx_runS (As := As) (rest := rest) ⟨C.1, C.2.1, C.2.2.2.2.1, C.2.2.2.2.2.1, hts⟩ hM ⟨callB_of n hts (fw_goodc c1) (by rw [fw_code c4]) rfl rfl (hts _ c2) (hts _ hw) c3 hfr, hts _ hw2⟩ ⟨fw_blind G As h, fw_pre_at C X⟩ rfl hn X.2.2.2.1 hst (lv_room (Nat.le_of_ble_eq_true h8)) hd9.1 ⟨by omega, by omega⟩) C X hmc hms kr kx
/-- invokevirtual, the receiver of the method's own class -/
theorem pw_cv {b ci : Nat} {fs : List Value} {r9 : vw_C} (hT : fw_tok y tb) (hr : fw_at tb pc = some (.invokevirtual idx, nx, a, v)) (hc : fw_cal y' n) (hw : Cond.methodLink y.1.cls idx y'.1 ∈ fw_GW) (hw2 : Cond.instanceMethod y'.1 ∈ fw_GW) (hw3 : Cond.selects y'.1.cls y'.1 y'.1 ∈ fw_GW) (ho : h b = some (.inr (ci, fs))) (hci : vwCl[ci]? = some r9) (hr9 : r9.1 = y'.1.cls) (hM : PM G d' mc ms y' (.ref b :: As) h Q') (hst : st = As.reverse ++ .ref b :: rest) (hn : As.length = n) (h8 : Nat.ble ((rest.map fun v => v.category).sum) 8 = true) (hd : d' < d) (hmc : mc + kc' ≤ kc) (hms : ms + ks' ≤ ks)
    (kr : ∀ r h', Q'.1 r h' → PW G y Q d kc' ks' h' nx L (r.toList ++ rest)) (kx : ∀ E h', Q'.2 E h' → PX G y Q d kc' ks' h' pc L E) : PW G y Q d kc ks h pc L st := by
  have hd9 := fw_row hT hr
  have en : nx = pc + 3 := hd9.2.1
  subst en
  obtain ⟨c1, c2, c3, c4, c5⟩ := hc
  have c5 := Nat.le_of_ble_eq_true c5
  intro p e R s m args below meth c H locs cells slots ls C X
  obtain ⟨x3, x4, x5, x6⟩ := X.2.2.1
  have hts := C.2.2.2.2.2.2.2.1
  have hK := C.2.2.2.2.2.2.2.2.2.1
  have hfr : (fw_rm d' mc ms).frames + 1 ≤ R.frames ∧ 8 + (y'.2.2.1 + 11) + (fw_rm d' mc ms).locals ≤ R.locals := fw_fr x3 x4 hd c5
  obtain ⟨ws, q0, hP, hD, h3, hq⟩ := X.1.get ho
  refine fw_after (st := st) (vx_runV (C := y'.1.cls) (b := b) (As := As) (rest := rest) ⟨C.1, C.2.1, C.2.2.2.2.1, C.2.2.2.2.2.1, hts⟩ hM ⟨callB_of n hts (fw_goodc c1) (by rw [fw_code c4]) rfl rfl (hts _ c2) (hts _ hw) c3 hfr, hts _ hw2, hts _ hw3⟩ ⟨fw_blind G (.ref b :: As) h, hr9 ▸ va_recv hK.1 hP hci hq, fw_pre_at C X⟩ rfl hn X.2.2.2.1 hst (lv_room (Nat.le_of_ble_eq_true h8)) hd9.1 ⟨by omega, by omega⟩) C X hmc hms kr kx
/-- a constructor (it throws nothing), of a class or of a nest mate -/
theorem pw_ci {b : Nat} (hT : fw_tok y tb) (hr : fw_at tb pc = some (.invokespecial idx, nx, a, v)) (hc : fw_cal y' n) (hw : Cond.methodLink y.1.cls idx y'.1 ∈ fw_GW ∨ ∃ host, Cond.methodLinkNest y.1.cls idx y'.1 host ∈ fw_NW) (hw2 : Cond.instanceMethod y'.1 ∈ fw_GW) (hi : y'.1.name = "<init>") (hret : y'.2.2.2.1 = none) (hM : PM G d' mc ms y' (.ref b :: As) h Q') (hX : ∀ E h', ¬ Q'.2 E h') (hst : st = As.reverse ++ .ref b :: rest) (hn : As.length = n) (h8 : Nat.ble ((rest.map fun v => v.category).sum) 8 = true) (hd : d' < d) (hmc : mc + kc' ≤ kc) (hms : ms + ks' ≤ ks)
    (kr : ∀ r h', Q'.1 r h' → PW G y Q d kc' ks' h' nx L (r.toList ++ rest)) : PW G y Q d kc ks h pc L st := by
  have hd9 := fw_row hT hr
  have en : nx = pc + 3 := hd9.2.1
  subst en
  obtain ⟨c1, c2, c3, c4, c5⟩ := hc
  have c5 := Nat.le_of_ble_eq_true c5
  obtain ⟨y1, y2, y3, y4, y5⟩ := y'
  cases hret
  cases c4
  intro p e R s m args below meth c H locs cells slots ls C X
  obtain ⟨x3, x4, x5, x6⟩ := X.2.2.1
  have hts := C.2.2.2.2.2.2.2.1
  have hK := C.2.2.2.2.2.2.2.2.2.1
  have c5 : y3 ≤ 30 := c5
  have hfr : (fw_rm d' mc ms).frames + 1 ≤ R.frames ∧ 8 + (y3 + 11) + (fw_rm d' mc ms).locals ≤ R.locals := fw_fr x3 x4 hd c5
  have hMet := fw_met hM (fun E s t hx => hX E _ hx.choose_spec.1)
  rcases hw with hw | ⟨host, hw⟩
  · exact fw_after (st := st) (fw_run_x (va_runI (b := b) (As := As) (rest := rest) ⟨C.1, C.2.1, C.2.2.2.2.1, C.2.2.2.2.2.1, hts⟩ hMet (cwI n hts (fw_goodc c1) rfl rfl rfl (hts _ c2) (hts _ hw) (hts _ hw2) hi c3 hfr) ⟨fw_blind G (.ref b :: As) h, fw_pre_at C X⟩ rfl hn X.2.2.2.1 hst (lv_room (Nat.le_of_ble_eq_true h8)) hd9.1 ⟨by omega, by omega⟩)) C X hmc hms kr (fun E h' hx => absurd hx (hX E h'))
  · exact fw_after (st := st) (fw_run_x (va_runIN (b := b) (As := As) (rest := rest) ⟨C.1, C.2.1, C.2.2.2.2.1, C.2.2.2.2.2.1, hts⟩ hMet ⟨va_cnB n hts (fw_goodc c1) rfl rfl rfl (hK.2.2.2.2.2.2.2.2.1 _ hw) (hts _ c2) c3 hfr, hi, hts _ hw2⟩ ⟨fw_blind G (.ref b :: As) h, fw_pre_at C X⟩ rfl hn X.2.2.2.1 hst (lv_room (Nat.le_of_ble_eq_true h8)) hd9.1 ⟨by omega, by omega⟩)) C X hmc hms kr (fun E h' hx => absurd hx (hX E h'))
/-- invokestatic of a nest mate's private method (it throws nothing) -/
theorem pw_csN {host : String} (hT : fw_tok y tb) (hr : fw_at tb pc = some (.invokestatic idx, nx, a, v)) (hc : fw_cal y' n) (hw : Cond.methodLinkNest y.1.cls idx y'.1 host ∈ fw_NW) (hw2 : Cond.static y'.1 ∈ fw_GW) (hM : PM G d' mc ms y' As h Q') (hX : ∀ E h', ¬ Q'.2 E h') (hst : st = As.reverse ++ rest) (hn : As.length = n) (h8 : Nat.ble ((rest.map fun v => v.category).sum) 8 = true) (hd : d' < d) (hmc : mc + kc' ≤ kc) (hms : ms + ks' ≤ ks)
    (kr : ∀ r h', Q'.1 r h' → PW G y Q d kc' ks' h' nx L (r.toList ++ rest)) : PW G y Q d kc ks h pc L st := by
  have hd9 := fw_row hT hr
  have en : nx = pc + 3 := hd9.2.1
  subst en
  obtain ⟨c1, c2, c3, c4, c5⟩ := hc
  have c5 := Nat.le_of_ble_eq_true c5
  intro p e R s m args below meth c H locs cells slots ls C X
  obtain ⟨x3, x4, x5, x6⟩ := X.2.2.1
  have hts := C.2.2.2.2.2.2.2.1
  have hK := C.2.2.2.2.2.2.2.2.2.1
  have hfr : (fw_rm d' mc ms).frames + 1 ≤ R.frames ∧ 8 + (y'.2.2.1 + 11) + (fw_rm d' mc ms).locals ≤ R.locals := fw_fr x3 x4 hd c5
  have hMet := fw_met hM (fun E s t hx => hX E _ hx.choose_spec.1)
  exact fw_after (st := st) (fw_run_x (va_runSN (As := As) (rest := rest) ⟨C.1, C.2.1, C.2.2.2.2.1, C.2.2.2.2.2.1, hts⟩ hMet ⟨va_cnB n hts (fw_goodc c1) (by rw [fw_code c4]) rfl rfl (hK.2.2.2.2.2.2.2.2.1 _ hw) (hts _ c2) c3 hfr, hts _ hw2, trivial⟩ ⟨fw_blind G As h, fw_pre_at C X⟩ rfl hn X.2.2.2.1 hst (lv_room (Nat.le_of_ble_eq_true h8)) hd9.1 ⟨by omega, by omega⟩)) C X hmc hms kr (fun E h' hx => absurd hx (hX E h'))
end PWC2
end
section
/-! THROWS: new X(text) thrown; handlers; methods with handlers -/
theorem fw_P.kept {G : fw_G} {h : fw_H} {H H1 : Heap} (hP : fw_P G h H) (hq : ∀ q : Nat, q < H.size → H1[q]? = H[q]?) : fw_P G h H1 := by
  obtain ⟨ws, h1, h2, h3⟩ := hP
  exact ⟨ws, h1.kept (fun k q hk => hq q.1 (h1 k q hk).lt), h2, h3⟩
theorem fw_sub2 {ws : List Cond} (ps : List Nat) (hp : ws = ps.filterMap (fun i => lw_tbl[i]?)) (hg : ws.all (fun w => goodWord w || fw_ww w) = true) : ∀ w ∈ ws, w ∈ fw_GW ∨ w ∈ fw_NW := by
  intro w hw
  have h1 := List.all_eq_true.mp hg w hw
  rw [hp] at hw
  obtain ⟨i, -, hi⟩ := List.mem_filterMap.mp hw
  rcases Bool.or_eq_true_iff.mp h1 with g | g
  · exact Or.inl (fw_gw i hi g)
  · exact Or.inr (fw_nw i hi g)
/-- a throw of a new cls with a text -/
def fw_thr (own : String) (ik ic is : Nat) (text cls : String) (names : List String) : Prop :=
  own = "Termreckonry" ∧ Bundle.fit cls = true ∧ (∀ n ∈ names, Bundle.fit n = true) ∧ Cond.classLink own ik cls ∈ fw_GW ∧ Cond.initialized cls ∈ fw_GW ∧ (is, text) ∈ fw_strs ∧ (∀ w ∈ vx_atS own ic cls names, w ∈ fw_GW ∨ w ∈ fw_NW) ∧ names.length = 2
theorem fw_ot1 {w : Cond} (h : w ∈ fw_GW) : vx_ot w = true := by
  unfold vx_ot
  rw [(List.mem_filter.mp h).2, Bool.or_true]
theorem fw_ot2 {w : Cond} (h : w ∈ fw_NW) : vx_ot w = true := by
  unfold vx_ot
  rw [fw_ww_on (List.mem_filter.mp h).2, Bool.true_or]
section PWT
variable {G : fw_G} {y : fw_M} {Q : fw_Q} {d kc ks : Nat} {h : fw_H} {pc : Nat} {L : List (Nat × Value)} {st : List Value} {tb : List fw_R} {ik ic is : Nat} {text cls : String} {names : List String} {p3 p4 p5 p6 p7 : Nat × Nat × Int32}
theorem pw_throw (hl : G.1.stackTraces = false) (hh : y.2.2.2.2 = []) (ht : fw_thr y.1.cls ik ic is text cls names) (hT : fw_tok y tb) (r0 : fw_at tb pc = some (.new ik, p3)) (r3 : fw_at tb (pc + 3) = some (.dup, p4)) (r4 : fw_at tb (pc + 4) = some (.ldc is, p5)) (r6 : fw_at tb (pc + 6) = some (.invokespecial ic, p6)) (r9 : fw_at tb (pc + 9) = some (.athrow, p7)) (h8 : Nat.ble ((st.map fun v => v.category).sum) 8 = true) (hQ : Q.2 cls h) : PW G y Q d (kc + 1) (ks + 6) h pc L st := by
  obtain ⟨t0, t1, t2, t3, t4, t5, t6, t7⟩ := ht
  have h8 := Nat.le_of_ble_eq_true h8
  intro p e R s m args below meth c H locs cells slots ls C X
  obtain ⟨hx, hb, hre, hlk, hml, hown, hnm, hts, htab, hK, hN⟩ := C
  obtain ⟨x1, x2, ⟨x3, x4, x5, x6⟩, x7⟩ := X
  obtain ⟨sa, hsa⟩ := hK.2.2.2.1 _ t5
  rw [hh] at htab
  refine vx_throwS hx hb hl hown t1 t2 (hts _ t3) (hts _ t4) (text := text) (is := is) (sa := sa) (t0 ▸ hsa) (ic := ic) (fun w hw => (t6 w hw).elim (hts w) (fun z => va_Nw.use (fw_ww_on (List.mem_filter.mp z).2) (hK.2.2.2.2.2.2.2.2.1 _ z))) (fun w hw => ?_) hK.2.2.1.1 hK.2.2.1.2 x2 (x7.1.trans hml.symm) (fw_row hT r0).1 (fw_row hT r3).1 (fw_row hT r4).1 (fw_row hT r6).1 (fw_row hT r9).1 (fun x hx => ?_) (by omega) (by rw [t7]; omega) (by omega) (by omega) hlk (fun t _ z1 z2 => ⟨h, hQ, x1.kept z2⟩) (fun z hz => x2.2.2 z hz) (by omega) (by omega)
  · rcases List.mem_cons.mp hw with e1 | hw
    · rw [e1]; exact fw_ot1 t3
    · rcases List.mem_cons.mp hw with e1 | hw
      · rw [e1]; exact fw_ot1 t4
      · exact (t6 w hw).elim fw_ot1 fw_ot2
  · rw [htab] at hx
    cases hx
theorem pw_throwW (hl : G.1.stackTraces = false) (hh : y.2.2.2.2 = []) (ht : fw_thr y.1.cls ik ic is text cls names) (hT : fw_tok y tb) (r0 : fw_at tb pc = some (.new ik, p3)) (r3 : fw_at tb (pc + 3) = some (.dup, p4)) (r4 : fw_at tb (pc + 4) = some (.ldc_w is, p5)) (r7 : fw_at tb (pc + 7) = some (.invokespecial ic, p6)) (r10 : fw_at tb (pc + 10) = some (.athrow, p7)) (h8 : Nat.ble ((st.map fun v => v.category).sum) 8 = true) (hQ : Q.2 cls h) : PW G y Q d (kc + 1) (ks + 6) h pc L st := by
  obtain ⟨t0, t1, t2, t3, t4, t5, t6, t7⟩ := ht
  have h8 := Nat.le_of_ble_eq_true h8
  intro p e R s m args below meth c H locs cells slots ls C X
  obtain ⟨hx, hb, hre, hlk, hml, hown, hnm, hts, htab, hK, hN⟩ := C
  obtain ⟨x1, x2, ⟨x3, x4, x5, x6⟩, x7⟩ := X
  obtain ⟨sa, hsa⟩ := hK.2.2.2.1 _ t5
  rw [hh] at htab
  refine vx_throwSW hx hb hl hown t1 t2 (hts _ t3) (hts _ t4) (text := text) (is := is) (sa := sa) (t0 ▸ hsa) (ic := ic) (fun w hw => (t6 w hw).elim (hts w) (fun z => va_Nw.use (fw_ww_on (List.mem_filter.mp z).2) (hK.2.2.2.2.2.2.2.2.1 _ z))) (fun w hw => ?_) hK.2.2.1.1 hK.2.2.1.2 x2 (x7.1.trans hml.symm) (fw_row hT r0).1 (fw_row hT r3).1 (fw_row hT r4).1 (fw_row hT r7).1 (fw_row hT r10).1 (fun x hx => ?_) (by omega) (by rw [t7]; omega) (by omega) (by omega) hlk (fun t _ z1 z2 => ⟨h, hQ, x1.kept z2⟩) (fun z hz => x2.2.2 z hz) (by omega) (by omega)
  · rcases List.mem_cons.mp hw with e1 | hw
    · rw [e1]; exact fw_ot1 t3
    · rcases List.mem_cons.mp hw with e1 | hw
      · rw [e1]; exact fw_ot1 t4
      · exact (t6 w hw).elim fw_ot1 fw_ot2
  · rw [htab] at hx
    cases hx
theorem pw_ldcw {idx nx a : Nat} {v n : Int32} (hT : fw_tok y tb) (hr : fw_at tb pc = some (.ldc_w idx, nx, a, v)) (hw : Cond.constant y.1.cls idx n ∈ fw_GW) (kk : PW G y Q d kc ks h nx L (.int n :: st)) : PW G y Q d kc ks h pc L st := by
  have hd := fw_row hT hr
  have en : nx = pc + 3 := hd.2.1
  intro p e R s m args below meth c H locs cells slots ls C X
  exact lv_ldcw C.1 C.2.1 C.2.2.2.2.2.1 (C.2.2.2.2.2.2.2.1 _ hw) hd.1 (en ▸ kk p e R s m args below meth c H locs cells slots ls C X)
/-- caught here: past rows that name other classes -/
theorem px_catch {E : String} (pre : List ExceptionTableEntry) (x : ExceptionTableEntry) (suf : List ExceptionTableEntry) (hsplit : tableOf y.2.2.2.2 = pre ++ x :: suf) (hE : E ∈ fw_exs) (hpass : ∀ z ∈ pre, covers z pc = false ∨ (z.catchType ≠ 0 ∧ ∃ nm ∈ fw_exs, E ≠ nm ∧ Cond.classLink y.1.cls z.catchType nm ∈ fw_GW)) (hx : covers x pc = true) (h0 : x.catchType ≠ 0) (hw : Cond.classLink y.1.cls x.catchType E ∈ fw_GW) (hc : Cond.castable E E ∈ fw_NW) (kk : ∀ q, PW G y Q d kc ks h x.handlerPc L [.ref q]) : PX G y Q d kc ks h pc L E := by
  intro p e R s m args below meth c H locs cells slots ls rest q ce C X h1 h2 h3
  have C0 := C
  obtain ⟨hx0, hb, hre, hlk, hml, hown, hnm, hts, htab, hK, hN⟩ := C
  refine vx_catch hown pre x suf (htab.trans hsplit) (fun z hz => (hpass z hz).imp id (fun ⟨z0, nm, n1, n2, n3⟩ => ⟨z0, nm, hts _ n3, hK.2.2.2.2.2.2.2.2.2.1 _ hE _ n1 n2⟩)) hx h0 (hts _ hw) (va_Nw.use (fw_ww_on (List.mem_filter.mp hc).2) (hK.2.2.2.2.2.2.2.2.1 _ hc)) h1 h2 h3 (kk q p e R s m args below meth c H locs cells slots ls C0 X)
end PWT
theorem fw_codeH {y' : fw_M} {q : Nat × Nat × Nat × Nat} {r : List (Nat × Nat × Nat × Nat)} (h : y'.2.2.2.2 = q :: r) : fw_cw y' = Cond.codeWith y'.1 y'.2.1 y'.2.2.1 y'.2.2.2.1 y'.2.2.2.2 := by
  unfold fw_cw
  rw [h]
theorem pm_ofH {G : fw_G} {y : fw_M} {Q : fw_Q} {d mc ms : Nat} {av : List Value} {h : fw_H} {L : List (Nat × Value)} {q : Nat × Nat × Nat × Nat} {r : List (Nat × Nat × Nat × Nat)} (hn : plainName y.1.cls = true) (hh : y.2.2.2.2 = q :: r) (hL : lv_args 0 av = L) (hlen : Nat.ble (lg_sl av).length y.2.2.1 = true) (k : PW G y Q d mc ms h 0 L []) : PM G d mc ms y av h Q := by
  obtain ⟨y1, y2, y3, y4, y5⟩ := y
  cases hh
  refine vx_ofWH (cc := y2) (maxL := y3) (ret := y4) (hh := q :: r) hn rfl ?_
  intro p e s m args below meth c s₁ B hml hv
  obtain ⟨rfl, hN, hP, hK⟩ := hv
  have hts := atoms_spec (ws := Cond.codeWith y1 y2 y3 y4 (q :: r) :: fw_GW) B.pre
  have hown : s.vm.findClass y1.cls = some m.cls := findClass_of_methodNamed B.named
  have hin : meth.name = y1.name := (name_of_methodNamed B.named B.method).1
  have hl := lv_entry av (n := y3) (Nat.le_of_ble_eq_true hlen)
  rw [lg_entry_eq]
  rw [hL] at hl
  exact k p e (fw_rm d mc ms) s m _ below meth c s.heap [] 0 0 _ ⟨B.exec, B.bytes, B.returns, B.notSynchronized, hml, hown, hin, fun w hw => hts w (List.mem_cons_of_mem _ hw), vx_table (x := y1) B (hts _ List.mem_cons_self), hK, hN⟩ ⟨hP, va_S.rf, ⟨Nat.le_refl _, Nat.le_refl _, by show 0 + mc ≤ mc; omega, by show 0 + ms ≤ ms; omega⟩, fw_has_of hl⟩
/-- invokestatic of a method with handlers (it throws nothing) -/
def fw_calH (y' : fw_M) (n : Nat) : Prop := fw_cw y' ∈ fw_GW ∧ Cond.initialized y'.1.cls ∈ fw_GW ∧ (y'.1.cls ≠ "java/lang/invoke/MethodHandle" ∧ y'.1.cls ≠ "java/lang/invoke/VarHandle" ∧ (parseMethodDescriptor y'.1.desc).map (fun d => d.parameters.length) = some n) ∧ (∃ q r, y'.2.2.2.2 = q :: r) ∧ Nat.ble y'.2.2.1 30 = true
theorem pw_csH {G : fw_G} {y : fw_M} {Q Q' : fw_Q} {d d' kc ks kc' ks' mc ms : Nat} {h : fw_H} {pc nx a idx n : Nat} {v : Int32} {L : List (Nat × Value)} {st rest As : List Value} {tb : List fw_R} {y' : fw_M} (hT : fw_tok y tb) (hr : fw_at tb pc = some (.invokestatic idx, nx, a, v)) (hc : fw_calH y' n) (hw : Cond.methodLink y.1.cls idx y'.1 ∈ fw_GW) (hw2 : Cond.static y'.1 ∈ fw_GW) (hM : PM G d' mc ms y' As h Q') (hX : ∀ E h', ¬ Q'.2 E h') (hst : st = As.reverse ++ rest) (hn : As.length = n) (h8 : Nat.ble ((rest.map fun v => v.category).sum) 8 = true) (hd : d' < d) (hmc : mc + kc' ≤ kc) (hms : ms + ks' ≤ ks)
    (kr : ∀ r h', Q'.1 r h' → PW G y Q d kc' ks' h' nx L (r.toList ++ rest)) : PW G y Q d kc ks h pc L st := by
  have hd9 := fw_row hT hr
  have en : nx = pc + 3 := hd9.2.1
  subst en
  obtain ⟨c1, c2, c3, ⟨q9, r9, c4⟩, c5⟩ := hc
  have c5 := Nat.le_of_ble_eq_true c5
  intro p e R s m args below meth c H locs cells slots ls C X
  obtain ⟨x3, x4, x5, x6⟩ := X.2.2.1
  have hts := C.2.2.2.2.2.2.2.1
  have hfr : (fw_rm d' mc ms).frames + 1 ≤ R.frames ∧ 8 + (y'.2.2.1 + 11) + (fw_rm d' mc ms).locals ≤ R.locals := fw_fr x3 x4 hd c5
  have hMet := fw_met hM (fun E s t hx => hX E _ hx.choose_spec.1)
  refine fw_after (st := st) (fw_run_x (vx_runSW (As := As) (rest := rest) ⟨C.1, C.2.1, C.2.2.2.2.1, C.2.2.2.2.2.1, hts⟩ hMet ⟨⟨rfl, rfl, hfr.1, hfr.2, pay_in hts (fw_goodc c1), by rw [fw_codeH c4]; exact List.mem_cons_self⟩, fw_codeH c4 ▸ hts _ c1, hts _ c2, ⟨c3.1, c3.2.1⟩, fun sig h9 => ?_, hts _ hw, hts _ hw2⟩ ⟨fw_blind G As h, fw_pre_at C X⟩ rfl hn X.2.2.2.1 hst (lv_room (Nat.le_of_ble_eq_true h8)) hd9.1 ⟨by omega, by omega⟩)) C X hmc hms kr (fun E h' hx => absurd hx (hX E h'))
  have h2 := c3.2.2
  rw [h9] at h2
  exact (Option.some.inj h2).symm
end
section
/-! NUMBERS: rules over small numbers, answers' forms, short calls -/
def fw_noX : String → fw_H → Prop := fun _ _ => False
def fw_qI (post : Int32 → fw_H → Prop) (px : String → fw_H → Prop) : fw_Q := (fun r h => ∃ x : Int32, r = some (.int x) ∧ post x h, px)
def fw_qL (post : Int64 → fw_H → Prop) (px : String → fw_H → Prop) : fw_Q := (fun r h => ∃ x : Int64, r = some (.long x) ∧ post x h, px)
def fw_qV (post : fw_H → Prop) (px : String → fw_H → Prop) : fw_Q := (fun r h => r = none ∧ post h, px)
def fw_qQ (post : Option Nat → fw_H → Prop) (px : String → fw_H → Prop) : fw_Q := (fun r h => ∃ x : Option Nat, r = some (va_rf x) ∧ post x h, px)
def fw_qF (post : UInt32 → fw_H → Prop) (px : String → fw_H → Prop) : fw_Q := (fun r h => ∃ x : UInt32, r = some (.float x) ∧ post x h, px)
def fw_qD (post : UInt64 → fw_H → Prop) (px : String → fw_H → Prop) : fw_Q := (fun r h => ∃ x : UInt64, r = some (.double x) ∧ post x h, px)
/-- an answer, nothing else -/
def fw_qp (v : Int32) (h : fw_H) : fw_Q := fw_qI (fun x h' => x = v ∧ h' = h) fw_noX
def fw_qpL (v : Int64) (h : fw_H) : fw_Q := fw_qL (fun x h' => x = v ∧ h' = h) fw_noX
def fw_qpQ (v : Option Nat) (h : fw_H) : fw_Q := fw_qQ (fun x h' => x = v ∧ h' = h) fw_noX
/-- fewer locals, in another order: by their places -/
def fw_sL (L : List (Nat × Value)) : List (Nat × Value) → Prop
  | [] => True
  | q :: L' => fw_lk L q.1 = some q.2 ∧ fw_sL L L'
theorem fw_sL_mem {L : List (Nat × Value)} : ∀ {L' : List (Nat × Value)}, fw_sL L L' → ∀ q ∈ L', fw_lk L q.1 = some q.2
  | [], _, q, hq => nomatch hq
  | r :: L', h, q, hq => (List.mem_cons.mp hq).elim (fun e => by rw [e]; exact h.1) (fun z => fw_sL_mem h.2 q z)
theorem pw_M {G : fw_G} {y : fw_M} {Q : fw_Q} {d kc ks : Nat} {h : fw_H} {pc : Nat} {L : List (Nat × Value)} {st : List Value} (L' : List (Nat × Value)) (hs : fw_sL L L') (k : PW G y Q d kc ks h pc L' st) : PW G y Q d kc ks h pc L st := pw_L (fw_sL_mem hs) k
def bI (b : Bool) : Int32 := if b then 1 else 0
theorem bI_z (b : Bool) : narrow .boolean (.int (bI b)) = .int (bI b) := by cases b <;> rfl
theorem bI_0 {b : Bool} : bI b = 0 ↔ b = false := by cases b <;> decide
def fw_cN (c : ClassFile.Cond) (a b : Nat) : Prop := match c with
  | .eq => a = b
  | .ne => a ≠ b
  | .lt => a < b
  | .ge => b ≤ a
  | .gt => b < a
  | .le => a ≤ b
section PWX
variable {G : fw_G} {y : fw_M} {Q : fw_Q} {d kc ks : Nat} {h : fw_H} {pc nx tg : Nat} {v : Int32} {L : List (Nat × Value)} {rest : List Value} {tb : List fw_R}
theorem pw_add {x1 x2 x3 : Int32} (hT : fw_tok y tb) (hr : fw_at tb pc = some (.iadd, nx, tg, v)) (e : x1 + x2 = x3) (k : PW G y Q d kc ks h nx L (.int x3 :: rest)) : PW G y Q d kc ks h pc L (.int x2 :: .int x1 :: rest) := by
  subst e
  exact pw_go hT hr rfl k
theorem pw_addN {x1 x2 : Int32} (a b : Nat) (hT : fw_tok y tb) (hr : fw_at tb pc = some (.iadd, nx, tg, v)) (h1 : x1 = nI a) (h2 : x2 = nI b) (k : PW G y Q d kc ks h nx L (.int (nI (a + b)) :: rest)) : PW G y Q d kc ks h pc L (.int x2 :: .int x1 :: rest) := by
  subst h1; subst h2
  exact pw_add hT hr (nI_add a b) k
theorem pw_subN {x1 x2 : Int32} (a b : Nat) (hT : fw_tok y tb) (hr : fw_at tb pc = some (.isub, nx, tg, v)) (h1 : x1 = nI a) (h2 : x2 = nI b) (hab : b ≤ a) (k : PW G y Q d kc ks h nx L (.int (nI (a - b)) :: rest)) : PW G y Q d kc ks h pc L (.int x2 :: .int x1 :: rest) := by
  subst h1; subst h2
  refine pw_go hT hr rfl ?_
  rw [pk_sub hab]
  exact k
theorem pw_mulN {x1 x2 : Int32} (a b : Nat) (hT : fw_tok y tb) (hr : fw_at tb pc = some (.imul, nx, tg, v)) (h1 : x1 = nI a) (h2 : x2 = nI b) (k : PW G y Q d kc ks h nx L (.int (nI (a * b)) :: rest)) : PW G y Q d kc ks h pc L (.int x2 :: .int x1 :: rest) := by
  subst h1; subst h2
  refine pw_go hT hr rfl ?_
  rw [pk_mul]
  exact k
theorem pw_divN {x1 x2 : Int32} (a b : Nat) (hT : fw_tok y tb) (hr : fw_at tb pc = some (.idiv, nx, tg, v)) (h1 : x1 = nI a) (h2 : x2 = nI b) (ha : a < 2147483648) (h0 : 0 < b) (hb : b < 2147483648) (k : PW G y Q d kc ks h nx L (.int (nI (a / b)) :: rest)) : PW G y Q d kc ks h pc L (.int x2 :: .int x1 :: rest) := by
  subst h1; subst h2
  refine pw_div hT hr (nI_ne0 h0 hb) ?_
  rw [pk_div ha h0 hb]
  exact k
theorem pw_remN {x1 x2 : Int32} (a b : Nat) (hT : fw_tok y tb) (hr : fw_at tb pc = some (.irem, nx, tg, v)) (h1 : x1 = nI a) (h2 : x2 = nI b) (ha : a < 2147483648) (h0 : 0 < b) (hb : b < 2147483648) (k : PW G y Q d kc ks h nx L (.int (nI (a % b)) :: rest)) : PW G y Q d kc ks h pc L (.int x2 :: .int x1 :: rest) := by
  subst h1; subst h2
  refine pw_rem hT hr (nI_ne0 h0 hb) ?_
  rw [pk_rem ha h0 hb]
  exact k
theorem pw_icN {x1 x2 : Int32} {cc : ClassFile.Cond} {off : Int} (a b : Nat) (hT : fw_tok y tb) (hr : fw_at tb pc = some (.if_icmp cc off, nx, tg, v)) (h1 : x1 = nI a) (h2 : x2 = nI b) (ha : a < 2147483648) (hb : b < 2147483648) (kt : fw_cN cc a b → PW G y Q d kc ks h tg L rest) (kf : ¬ fw_cN cc a b → PW G y Q d kc ks h nx L rest) : PW G y Q d kc ks h pc L (.int x2 :: .int x1 :: rest) := by
  subst h1; subst h2
  cases cc
  · exact pw_br hT hr rfl (fun c => kt ((nI_eq ha hb).mp c)) (fun c => kf (fun z => c ((nI_eq ha hb).mpr z)))
  · exact pw_br hT hr rfl (fun c => kt (fun z => c ((nI_eq ha hb).mpr z))) (fun c => kf (fun z => c (fun w => z ((nI_eq ha hb).mp w))))
  · exact pw_br hT hr rfl (fun c => kt ((nI_ltI ha hb).mp c)) (fun c => kf (fun z => c ((nI_ltI ha hb).mpr z)))
  · exact pw_br hT hr rfl (fun c => kt ((nI_leI hb ha).mp c)) (fun c => kf (fun z => c ((nI_leI hb ha).mpr z)))
  · exact pw_br hT hr rfl (fun c => kt ((nI_ltI hb ha).mp c)) (fun c => kf (fun z => c ((nI_ltI hb ha).mpr z)))
  · exact pw_br hT hr rfl (fun c => kt ((nI_leI ha hb).mp c)) (fun c => kf (fun z => c ((nI_leI ha hb).mpr z)))
theorem pw_ifN {x1 : Int32} {cc : ClassFile.Cond} {off : Int} (a : Nat) (hT : fw_tok y tb) (hr : fw_at tb pc = some (.ifCond cc off, nx, tg, v)) (h1 : x1 = nI a) (ha : a < 2147483648) (kt : fw_cN cc a 0 → PW G y Q d kc ks h tg L rest) (kf : ¬ fw_cN cc a 0 → PW G y Q d kc ks h nx L rest) : PW G y Q d kc ks h pc L (.int x1 :: rest) := by
  subst h1
  have hb : 0 < 2147483648 := by decide
  have e0 : (0 : Int32) = nI 0 := nI_0.symm
  cases cc
  · exact pw_br hT hr rfl (fun c => kt ((nI_eq ha hb).mp (e0 ▸ c))) (fun c => kf (fun z => c (e0 ▸ (nI_eq ha hb).mpr z)))
  · exact pw_br hT hr rfl (fun c => kt (fun z => c (e0 ▸ (nI_eq ha hb).mpr z))) (fun c => kf (fun z => c (fun w => z ((nI_eq ha hb).mp (e0 ▸ w)))))
  · exact pw_br hT hr rfl (fun c => kt ((nI_ltI ha hb).mp (e0 ▸ c))) (fun c => kf (fun z => c (e0 ▸ (nI_ltI ha hb).mpr z)))
  · exact pw_br hT hr rfl (fun c => kt ((nI_leI hb ha).mp (e0 ▸ c))) (fun c => kf (fun z => c (e0 ▸ (nI_leI hb ha).mpr z)))
  · exact pw_br hT hr rfl (fun c => kt ((nI_ltI hb ha).mp (e0 ▸ c))) (fun c => kf (fun z => c (e0 ▸ (nI_ltI hb ha).mpr z)))
  · exact pw_br hT hr rfl (fun c => kt ((nI_leI ha hb).mp (e0 ▸ c))) (fun c => kf (fun z => c (e0 ▸ (nI_leI ha hb).mpr z)))
theorem pw_ifeqB {off : Int} {b : Bool} (hT : fw_tok y tb) (hr : fw_at tb pc = some (.ifCond .eq off, nx, tg, v)) (kt : b = false → PW G y Q d kc ks h tg L rest) (kf : b = true → PW G y Q d kc ks h nx L rest) : PW G y Q d kc ks h pc L (.int (bI b) :: rest) :=
  pw_br hT hr rfl (fun c => kt (bI_0.mp c)) (fun c => kf (by cases b with | false => exact absurd rfl c | true => rfl))
theorem pw_ifneB {off : Int} {b : Bool} (hT : fw_tok y tb) (hr : fw_at tb pc = some (.ifCond .ne off, nx, tg, v)) (kt : b = true → PW G y Q d kc ks h tg L rest) (kf : b = false → PW G y Q d kc ks h nx L rest) : PW G y Q d kc ks h pc L (.int (bI b) :: rest) :=
  pw_br hT hr rfl (fun c => kt (by cases b with | false => exact absurd rfl c | true => rfl)) (fun c => kf (by cases b with | false => rfl | true => exact absurd (by decide) c))
theorem pw_i {x x' : Int32} (e : x = x') (k : PW G y Q d kc ks h pc L (.int x' :: rest)) : PW G y Q d kc ks h pc L (.int x :: rest) := e ▸ k
section
variable {y' : fw_M} {n idx d' : Nat} {As st : List Value} {w : Int32} {w8 : Int64} {wq : Option Nat}
/-- a call that answers and changes nothing -/
theorem pw_csp (hT : fw_tok y tb) (hr : fw_at tb pc = some (.invokestatic idx, nx, tg, v)) (hc : fw_cal y' n) (hw : Cond.methodLink y.1.cls idx y'.1 ∈ fw_GW) (hw2 : Cond.static y'.1 ∈ fw_GW) (hM : PM G d' 0 0 y' As h (fw_qp w h)) (hst : st = As.reverse ++ rest) (hn : As.length = n) (h8 : Nat.ble ((rest.map fun v => v.category).sum) 8 = true) (hd : Nat.blt d' d = true) (k : PW G y Q d kc ks h nx L (.int w :: rest)) : PW G y Q d kc ks h pc L st :=
  pw_cs (kc' := kc) (ks' := ks) hT hr hc hw hw2 hM hst hn h8 (Nat.le_of_ble_eq_true hd) (by omega) (by omega) (fun r h' ⟨x, e1, e2, e3⟩ => by subst e1; subst e2; subst e3; exact k) (fun E h' z => z.elim)
theorem pw_cspL (hT : fw_tok y tb) (hr : fw_at tb pc = some (.invokestatic idx, nx, tg, v)) (hc : fw_cal y' n) (hw : Cond.methodLink y.1.cls idx y'.1 ∈ fw_GW) (hw2 : Cond.static y'.1 ∈ fw_GW) (hM : PM G d' 0 0 y' As h (fw_qpL w8 h)) (hst : st = As.reverse ++ rest) (hn : As.length = n) (h8 : Nat.ble ((rest.map fun v => v.category).sum) 8 = true) (hd : Nat.blt d' d = true) (k : PW G y Q d kc ks h nx L (.long w8 :: rest)) : PW G y Q d kc ks h pc L st :=
  pw_cs (kc' := kc) (ks' := ks) hT hr hc hw hw2 hM hst hn h8 (Nat.le_of_ble_eq_true hd) (by omega) (by omega) (fun r h' ⟨x, e1, e2, e3⟩ => by subst e1; subst e2; subst e3; exact k) (fun E h' z => z.elim)
theorem pw_cvp {b ci : Nat} {fs : List Value} {r9 : vw_C} (hT : fw_tok y tb) (hr : fw_at tb pc = some (.invokevirtual idx, nx, tg, v)) (hc : fw_cal y' n) (hw : Cond.methodLink y.1.cls idx y'.1 ∈ fw_GW) (hw2 : Cond.instanceMethod y'.1 ∈ fw_GW) (hw3 : Cond.selects y'.1.cls y'.1 y'.1 ∈ fw_GW) (ho : h b = some (.inr (ci, fs))) (hci : vwCl[ci]? = some r9) (hr9 : r9.1 = y'.1.cls) (hM : PM G d' 0 0 y' (.ref b :: As) h (fw_qp w h)) (hst : st = As.reverse ++ .ref b :: rest) (hn : As.length = n) (h8 : Nat.ble ((rest.map fun v => v.category).sum) 8 = true) (hd : Nat.blt d' d = true) (k : PW G y Q d kc ks h nx L (.int w :: rest)) : PW G y Q d kc ks h pc L st :=
  pw_cv (kc' := kc) (ks' := ks) hT hr hc hw hw2 hw3 ho hci hr9 hM hst hn h8 (Nat.le_of_ble_eq_true hd) (by omega) (by omega) (fun r h' ⟨x, e1, e2, e3⟩ => by subst e1; subst e2; subst e3; exact k) (fun E h' z => z.elim)
theorem pw_cvpQ {b ci : Nat} {fs : List Value} {r9 : vw_C} (hT : fw_tok y tb) (hr : fw_at tb pc = some (.invokevirtual idx, nx, tg, v)) (hc : fw_cal y' n) (hw : Cond.methodLink y.1.cls idx y'.1 ∈ fw_GW) (hw2 : Cond.instanceMethod y'.1 ∈ fw_GW) (hw3 : Cond.selects y'.1.cls y'.1 y'.1 ∈ fw_GW) (ho : h b = some (.inr (ci, fs))) (hci : vwCl[ci]? = some r9) (hr9 : r9.1 = y'.1.cls) (hM : PM G d' 0 0 y' (.ref b :: As) h (fw_qpQ wq h)) (hst : st = As.reverse ++ .ref b :: rest) (hn : As.length = n) (h8 : Nat.ble ((rest.map fun v => v.category).sum) 8 = true) (hd : Nat.blt d' d = true) (k : PW G y Q d kc ks h nx L (va_rf wq :: rest)) : PW G y Q d kc ks h pc L st :=
  pw_cv (kc' := kc) (ks' := ks) hT hr hc hw hw2 hw3 ho hci hr9 hM hst hn h8 (Nat.le_of_ble_eq_true hd) (by omega) (by omega) (fun r h' ⟨x, e1, e2, e3⟩ => by subst e1; subst e2; subst e3; exact k) (fun E h' z => z.elim)
end
theorem pw_iretp {r : Int32} (hT : fw_tok y tb) (hr : fw_at tb pc = some (.ireturn, nx, tg, v)) (hy : y.2.2.2.1 = some .int) : PW G y (fw_qp r h) d kc ks h pc L [.int r] :=
  pw_iret hT hr hy rfl ⟨r, rfl, rfl, rfl⟩
theorem pw_zretp {b : Bool} (hT : fw_tok y tb) (hr : fw_at tb pc = some (.ireturn, nx, tg, v)) (hy : y.2.2.2.1 = some .boolean) : PW G y (fw_qp (bI b) h) d kc ks h pc L [.int (bI b)] :=
  pw_iret hT hr hy (bI_z b) ⟨_, rfl, rfl, rfl⟩
end PWX
end
section
/-! Math.max, Math.min -/
section PWMM
variable {G : fw_G} {y : fw_M} {Q : fw_Q} {d kc ks : Nat} {h : fw_H} {pc nx tg idx : Nat} {v : Int32} {L : List (Nat × Value)} {rest : List Value} {tb : List fw_R}
theorem pw_max {x1 x2 : Int32} (hT : fw_tok y tb) (hr : fw_at tb pc = some (.invokestatic idx, nx, tg, v)) (hw : Cond.methodLink y.1.cls idx yJ9_max_7cf53 ∈ fw_GW) (h8 : Nat.ble ((rest.map fun v => v.category).sum) 8 = true) (k : PW G y Q d kc ks h nx L (.int (if x1 < x2 then x2 else x1) :: rest)) : PW G y Q d kc ks h pc L (.int x2 :: .int x1 :: rest) := by
  have hd9 := fw_row hT hr
  have en : nx = pc + 3 := hd9.2.1
  subst en
  have h8 := Nat.le_of_ble_eq_true h8
  intro p e R s m args below meth c H locs cells slots ls C X
  obtain ⟨x3, x4, x5, x6⟩ := X.2.2.1
  have hts := C.2.2.2.2.2.2.2.1
  exact va_mmax C.1 C.2.1 (C.2.2.2.2.1.trans X.2.2.2.1.symm) C.2.2.2.2.2.1 (hts _ hw) (hts _ (fw_gw 182 (by decide +kernel) (by decide +kernel))) (hts _ (fw_gw 50 (by decide +kernel) (by decide +kernel))) (hts _ (fw_gw 183 (by decide +kernel) (by decide +kernel))) (by omega) (by omega) (by omega) (by omega) hd9.1 (k p e R s m args below meth c H locs cells slots ls C X)
theorem pw_min {x1 x2 : Int32} (hT : fw_tok y tb) (hr : fw_at tb pc = some (.invokestatic idx, nx, tg, v)) (hw : Cond.methodLink y.1.cls idx yJ9_min_7cf53 ∈ fw_GW) (h8 : Nat.ble ((rest.map fun v => v.category).sum) 8 = true) (k : PW G y Q d kc ks h nx L (.int (if x2 < x1 then x2 else x1) :: rest)) : PW G y Q d kc ks h pc L (.int x2 :: .int x1 :: rest) := by
  have hd9 := fw_row hT hr
  have en : nx = pc + 3 := hd9.2.1
  subst en
  have h8 := Nat.le_of_ble_eq_true h8
  intro p e R s m args below meth c H locs cells slots ls C X
  obtain ⟨x3, x4, x5, x6⟩ := X.2.2.1
  have hts := C.2.2.2.2.2.2.2.1
  exact va_mmin C.1 C.2.1 (C.2.2.2.2.1.trans X.2.2.2.1.symm) C.2.2.2.2.2.1 (hts _ hw) (hts _ (fw_gw 202 (by decide +kernel) (by decide +kernel))) (hts _ (fw_gw 50 (by decide +kernel) (by decide +kernel))) (hts _ (fw_gw 203 (by decide +kernel) (by decide +kernel))) (by omega) (by omega) (by omega) (by omega) hd9.1 (k p e R s m args below meth c H locs cells slots ls C X)
theorem pw_maxN {x1 x2 : Int32} (a b : Nat) (hT : fw_tok y tb) (hr : fw_at tb pc = some (.invokestatic idx, nx, tg, v)) (hw : Cond.methodLink y.1.cls idx yJ9_max_7cf53 ∈ fw_GW) (h1 : x1 = nI a) (h2 : x2 = nI b) (ha : a < 2147483648) (hb : b < 2147483648) (h8 : Nat.ble ((rest.map fun v => v.category).sum) 8 = true) (k : PW G y Q d kc ks h nx L (.int (nI (max a b)) :: rest)) : PW G y Q d kc ks h pc L (.int x2 :: .int x1 :: rest) := by
  subst h1; subst h2
  refine pw_max hT hr hw h8 ?_
  have e : (if nI a < nI b then nI b else nI a) = nI (max a b) := by
    by_cases q : a < b
    · rw [if_pos ((nI_ltI ha hb).mpr q), Nat.max_eq_right (by omega)]
    · rw [if_neg (fun z => q ((nI_ltI ha hb).mp z)), Nat.max_eq_left (by omega)]
  rw [e]
  exact k
theorem pw_minN {x1 x2 : Int32} (a b : Nat) (hT : fw_tok y tb) (hr : fw_at tb pc = some (.invokestatic idx, nx, tg, v)) (hw : Cond.methodLink y.1.cls idx yJ9_min_7cf53 ∈ fw_GW) (h1 : x1 = nI a) (h2 : x2 = nI b) (ha : a < 2147483648) (hb : b < 2147483648) (h8 : Nat.ble ((rest.map fun v => v.category).sum) 8 = true) (k : PW G y Q d kc ks h nx L (.int (nI (min a b)) :: rest)) : PW G y Q d kc ks h pc L (.int x2 :: .int x1 :: rest) := by
  subst h1; subst h2
  refine pw_min hT hr hw h8 ?_
  have e : (if nI b < nI a then nI b else nI a) = nI (min a b) := by
    by_cases q : b < a
    · rw [if_pos ((nI_ltI hb ha).mpr q), Nat.min_eq_right (by omega)]
    · rw [if_neg (fun z => q ((nI_ltI hb ha).mp z)), Nat.min_eq_left (by omega)]
  rw [e]
  exact k
end PWMM
end
section
/-! references that may be null: loads, stores, copies -/
section PWRQ
variable {G : fw_G} {y : fw_M} {Q : fw_Q} {d kc ks : Nat} {h : fw_H} {pc nx a : Nat} {v : Int32} {L : List (Nat × Value)} {st : List Value} {tb : List fw_R}
theorem pw_aloadq {i : Instr} {r : Option Nat} (hT : fw_tok y tb) (hr : fw_at tb pc = some (i, nx, a, v)) (hi : (match i with | .aload _ => true | .aload_n _ => true | _ => false) = true) (hl : fw_lk L a = some (va_rf r)) (k : PW G y Q d kc ks h nx L (va_rf r :: st)) : PW G y Q d kc ks h pc L st := by
  have hd := fw_row hT hr
  cases i with
  | aload j => cases r with
    | none => exact pw_aload hd (by unfold fw_lda; rw [hl]; rfl) k
    | some b => exact pw_aload hd (by unfold fw_lda; rw [hl]; rfl) k
  | aload_n j => cases r with
    | none => exact pw_aload_n hd (by unfold fw_lda; rw [hl]; rfl) k
    | some b => exact pw_aload_n hd (by unfold fw_lda; rw [hl]; rfl) k
  | _ => cases hi
theorem pw_astoreq {i : Instr} {r : Option Nat} (hT : fw_tok y tb) (hr : fw_at tb pc = some (i, nx, a, v)) (hi : (match i with | .astore _ => true | .astore_n _ => true | _ => false) = true) (ho : fw_ok1 L a = true) (k : PW G y Q d kc ks h nx ((a, va_rf r) :: L) st) : PW G y Q d kc ks h pc L (va_rf r :: st) := by
  have hd := fw_row hT hr
  cases i with
  | astore j => cases r with
    | none => exact pw_astore hd (by show (bif fw_ok1 L a then _ else _) = _; rw [ho]; rfl) k
    | some b => exact pw_astore hd (by show (bif fw_ok1 L a then _ else _) = _; rw [ho]; rfl) k
  | astore_n j => cases r with
    | none => exact pw_astore_n hd (by show (bif fw_ok1 L a then _ else _) = _; rw [ho]; rfl) k
    | some b => exact pw_astore_n hd (by show (bif fw_ok1 L a then _ else _) = _; rw [ho]; rfl) k
  | _ => cases hi
theorem pw_dupq {r : Option Nat} (hT : fw_tok y tb) (hr : fw_at tb pc = some (.dup, nx, a, v)) (k : PW G y Q d kc ks h nx L (va_rf r :: va_rf r :: st)) : PW G y Q d kc ks h pc L (va_rf r :: st) := by
  cases r with
  | none => exact pw_go hT hr rfl k
  | some b => exact pw_go hT hr rfl k
theorem pw_aretp {r : Option Nat} {rt : FieldType} (hT : fw_tok y tb) (hr : fw_at tb pc = some (.areturn, nx, a, v)) (hy : y.2.2.2.1 = some rt) (hrt : (∃ n, rt = .object n) ∨ ∃ t, rt = .array t) : PW G y (fw_qpQ r h) d kc ks h pc L [va_rf r] :=
  pw_aret hT hr hy hrt ⟨r, rfl, rfl, rfl⟩
end PWRQ
end
section
/-! MORE: array rules by small numbers, long tops, a heap with less in it -/
section PWMO
variable {G : fw_G} {y : fw_M} {Q : fw_Q} {d kc ks : Nat} {h : fw_H} {pc nx a : Nat} {v : Int32} {L : List (Nat × Value)} {st : List Value} {tb : List fw_R}
theorem pw_forget {h' : fw_H} (hs : ∀ (b : Nat) (o : fw_O), h' b = some o → h b = some o) (k : PW G y Q d kc ks h' pc L st) : PW G y Q d kc ks h pc L st := by
  intro p e R s m args below meth c H locs cells slots ls C X
  obtain ⟨⟨ws, x1, x2, x3⟩, x4⟩ := X
  exact k p e R s m args below meth c H locs cells slots ls C ⟨⟨ws, x1, x2, fun b o hb => x3 b o (hs b o hb)⟩, x4⟩
theorem pw_h {h' : fw_H} (e : h = h') (k : PW G y Q d kc ks h' pc L st) : PW G y Q d kc ks h pc L st := e ▸ k
theorem pw_l {x x' : Int64} (e : x = x') (k : PW G y Q d kc ks h pc L (.long x' :: st)) : PW G y Q d kc ks h pc L (.long x :: st) := e ▸ k
theorem pw_q {x x' : Option Nat} (e : x = x') (k : PW G y Q d kc ks h pc L (va_rf x' :: st)) : PW G y Q d kc ks h pc L (va_rf x :: st) := e ▸ k
theorem pw_ialdN {b n k : Nat} {f : Nat → Int32} {i : Int32} (hT : fw_tok y tb) (hr : fw_at tb pc = some (.iaload, nx, a, v)) (ho : h b = some (.inl (0, n, .inl f))) (hi : i = nI k) (hk : k < n) (hn : n < 2147483648) (kk : PW G y Q d kc ks h nx L (.int (f k) :: st)) : PW G y Q d kc ks h pc L (.int i :: .ref b :: st) := by
  subst hi
  refine pw_iald hT hr ho (vp_in_nI hk hn) ?_
  rw [nI_clamp (show k < 2 ^ 31 by omega)]
  exact kk
theorem pw_zaldN {b n k : Nat} {f : Nat → Int32} {i : Int32} (hT : fw_tok y tb) (hr : fw_at tb pc = some (.baload, nx, a, v)) (ho : h b = some (.inl (2, n, .inl f))) (hi : i = nI k) (hk : k < n) (hn : n < 2147483648) (kk : PW G y Q d kc ks h nx L (.int (f k) :: st)) : PW G y Q d kc ks h pc L (.int i :: .ref b :: st) := by
  subst hi
  refine pw_zald hT hr ho (vp_in_nI hk hn) ?_
  rw [nI_clamp (show k < 2 ^ 31 by omega)]
  exact kk
theorem pw_laldN {b n k : Nat} {f : Nat → Int64} {i : Int32} (hT : fw_tok y tb) (hr : fw_at tb pc = some (.laload, nx, a, v)) (ho : h b = some (.inl (1, n, .inr (.inl f)))) (hi : i = nI k) (hk : k < n) (hn : n < 2147483648) (kk : PW G y Q d kc ks h nx L (.long (f k) :: st)) : PW G y Q d kc ks h pc L (.int i :: .ref b :: st) := by
  subst hi
  refine pw_lald hT hr ho (vp_in_nI hk hn) ?_
  rw [nI_clamp (show k < 2 ^ 31 by omega)]
  exact kk
theorem pw_aaldN {b n k t : Nat} {f : Nat → Option Nat} {Cn : String} {i : Int32} (hT : fw_tok y tb) (hr : fw_at tb pc = some (.aaload, nx, a, v)) (ho : h b = some (.inl (t, n, .inr (.inr (.inr (.inr f)))))) (ht : t < 11) (hc : fw_ty t = .object Cn) (hi : i = nI k) (hk : k < n) (hn : n < 2147483648) (kk : PW G y Q d kc ks h nx L (va_rf (f k) :: st)) : PW G y Q d kc ks h pc L (.int i :: .ref b :: st) := by
  subst hi
  refine pw_aald hT hr ho ht hc (vp_in_nI hk hn) ?_
  rw [nI_clamp (show k < 2 ^ 31 by omega)]
  exact kk
theorem pw_iastN {b n k : Nat} {f : Nat → Int32} {i x : Int32} (hT : fw_tok y tb) (hr : fw_at tb pc = some (.iastore, nx, a, v)) (ho : h b = some (.inl (0, n, .inl f))) (hi : i = nI k) (hk : k < n) (hn : n < 2147483648) (kk : PW G y Q d kc ks (fw_up h b (.inl (0, n, .inl (upd f k x)))) nx L st) : PW G y Q d kc ks h pc L (.int x :: .int i :: .ref b :: st) := by
  subst hi
  refine pw_iast hT hr ho (vp_in_nI hk hn) ?_
  rw [nI_clamp (show k < 2 ^ 31 by omega)]
  exact kk
theorem pw_zastN {b n k : Nat} {f : Nat → Int32} {i : Int32} {z : Bool} (hT : fw_tok y tb) (hr : fw_at tb pc = some (.bastore, nx, a, v)) (ho : h b = some (.inl (2, n, .inl f))) (hi : i = nI k) (hk : k < n) (hn : n < 2147483648) (kk : PW G y Q d kc ks (fw_up h b (.inl (2, n, .inl (upd f k (bI z))))) nx L st) : PW G y Q d kc ks h pc L (.int (bI z) :: .int i :: .ref b :: st) := by
  subst hi
  refine pw_zast hT hr ho (vp_in_nI hk hn) ?_
  rw [nI_clamp (show k < 2 ^ 31 by omega), show vp_nar .boolean (bI z) = bI z by unfold vp_nar; rw [bI_z]]
  exact kk
theorem pw_lastN {b n k : Nat} {f : Nat → Int64} {i : Int32} {x : Int64} (hT : fw_tok y tb) (hr : fw_at tb pc = some (.lastore, nx, a, v)) (ho : h b = some (.inl (1, n, .inr (.inl f)))) (hi : i = nI k) (hk : k < n) (hn : n < 2147483648) (kk : PW G y Q d kc ks (fw_up h b (.inl (1, n, .inr (.inl (vp_updL f k x))))) nx L st) : PW G y Q d kc ks h pc L (.long x :: .int i :: .ref b :: st) := by
  subst hi
  refine pw_last hT hr ho (vp_in_nI hk hn) ?_
  rw [nI_clamp (show k < 2 ^ 31 by omega)]
  exact kk
theorem pw_aastN {b n k t ci w : Nat} {f : Nat → Option Nat} {i : Int32} {r : vw_C} {fs : List Value} (hT : fw_tok y tb) (hr : fw_at tb pc = some (.aastore, nx, a, v)) (ho : h b = some (.inl (t, n, .inr (.inr (.inr (.inr f)))))) (ht : t < 11) (hw : h w = some (.inr (ci, fs))) (hc : vwCl[ci]? = some r) (hty : fw_ty t = .object r.1) (hi : i = nI k) (hk : k < n) (hn : n < 2147483648) (kk : PW G y Q d kc ks (fw_up h b (.inl (t, n, .inr (.inr (.inr (.inr (va_up f k (some w)))))))) nx L st) : PW G y Q d kc ks h pc L (.ref w :: .int i :: .ref b :: st) := by
  subst hi
  refine pw_aast hT hr ho ht hw hc hty (vp_in_nI hk hn) ?_
  rw [nI_clamp (show k < 2 ^ 31 by omega)]
  exact kk
end PWMO
theorem fw_up_i {h : fw_H} {a : Nat} {o : fw_O} (e : h a = some o) : fw_up h a o = h := funext fun b => by
  by_cases c : b = a
  · subst c
    rw [fw_up_s, e]
  · rw [fw_up_n c]
theorem fw_up_2 {h : fw_H} {a : Nat} {o o' : fw_O} : fw_up (fw_up h a o) a o' = fw_up h a o' := funext fun b => by
  by_cases c : b = a
  · subst c
    rw [fw_up_s, fw_up_s]
  · rw [fw_up_n c, fw_up_n c, fw_up_n c]
theorem fw_ne {h : fw_H} {a b : Nat} {o o' : fw_O} (h1 : h a = some o) (h2 : h b = some o') (n : o ≠ o') : a ≠ b := fun e => by
  subst e
  rw [h1] at h2
  exact n (Option.some.inj h2)
end
section
/-! CALENDAR: the numbers alone -/
def cal_lp (y : Nat) : Bool := (y % 4 == 0 && y % 100 != 0) || y % 400 == 0
def cal_dm (lp : Bool) (m : Nat) : Nat := if m = 2 then (if lp then 29 else 28) else if m = 4 ∨ m = 6 ∨ m = 9 ∨ m = 11 then 30 else 31
def cal_d (t : Nat) : Nat := cal_dm (cal_lp (2000 + t / 12)) (t % 12 + 1)
def cal_y (p : Nat) : Nat := 365 * p + (p + 3) / 4 - (p + 99) / 100 + (p + 399) / 400
def cal_s (lp : Bool) : Nat → Nat
  | 0 => 0
  | k + 1 => cal_s lp k + cal_dm lp (k + 1)
/-- the first day of the month t, months from January 2000 on -/
def cal_f (t : Nat) : Nat := cal_y (t / 12) + cal_s (cal_lp (2000 + t / 12)) (t % 12)
theorem cal_f_succ : ∀ t, t < 1320 → cal_f (t + 1) = cal_f t + cal_d t := by decide +kernel
theorem cal_y_succ : ∀ p, p < 110 → cal_y (p + 1) = cal_y p + (if cal_lp (2000 + p) then 366 else 365) := by decide +kernel
theorem cal_dm_lo (lp : Bool) (m : Nat) : 28 ≤ cal_dm lp m ∧ cal_dm lp m ≤ 31 := by
  unfold cal_dm
  cases lp <;> (simp only [Bool.false_eq_true, if_false, if_true]; split; omega; split <;> omega)
theorem cal_d_lo (t : Nat) : 28 ≤ cal_d t ∧ cal_d t ≤ 31 := cal_dm_lo _ _
theorem cal_f_0 : cal_f 0 = 0 := by decide +kernel
theorem cal_f_step (a : Nat) : ∀ n, a + n ≤ 1320 → cal_f a + 28 * n ≤ cal_f (a + n)
  | 0, _ => Nat.le_refl _
  | n + 1, h => by
    have h1 := cal_f_step a n (by omega)
    have h2 := cal_f_succ (a + n) (by omega)
    have h3 := (cal_d_lo (a + n)).1
    have e : a + (n + 1) = a + n + 1 := by omega
    rw [e, h2]
    omega
theorem cal_f_up (n : Nat) : n ≤ 1320 → cal_f n ≤ 31 * n := by
  induction n with
  | zero => intro _; rw [cal_f_0]; omega
  | succ n ih =>
    intro h
    have h1 := ih (by omega)
    have h2 := cal_f_succ n (by omega)
    have h3 := (cal_d_lo n).2
    omega
theorem cal_f_lt {a b : Nat} (h : a < b) (hb : b ≤ 1320) : cal_f a < cal_f b := by
  have h1 := cal_f_step a (b - a) (by omega)
  rw [show a + (b - a) = b by omega] at h1
  omega
theorem cal_f_le {a b : Nat} (h : a ≤ b) (hb : b ≤ 1320) : cal_f a ≤ cal_f b := by
  rcases Nat.lt_or_ge a b with q | q
  · exact Nat.le_of_lt (cal_f_lt q hb)
  · rw [show a = b by omega]; exact Nat.le_refl _
theorem cal_uniq {a b d : Nat} (ha : a < 1320) (hb : b < 1320) (h1 : cal_f a ≤ d) (h2 : d < cal_f (a + 1)) (h3 : cal_f b ≤ d) (h4 : d < cal_f (b + 1)) : a = b := by
  rcases Nat.lt_trichotomy a b with q | q | q
  · have := cal_f_le (a := a + 1) (b := b) q (by omega); omega
  · exact q
  · have := cal_f_le (a := b + 1) (b := a) q (by omega); omega
def cal_go : Nat → Nat → Nat → Nat
  | 0, m, _ => m
  | n + 1, m, d => if cal_f (m + 1) ≤ d then cal_go n (m + 1) d else m
/-- the month of a day -/
def cal_m (d : Nat) : Nat := cal_go 1300 0 d
theorem cal_go_spec (d : Nat) : ∀ n m, m + n = 1300 → cal_f m ≤ d → d < cal_f 1300 → cal_f (cal_go n m d) ≤ d ∧ d < cal_f (cal_go n m d + 1) ∧ cal_go n m d < 1300
  | 0, m, hm, h1, h2 => by
    have e : m = 1300 := by omega
    subst e
    omega
  | n + 1, m, hm, h1, h2 => by
    unfold cal_go
    by_cases h : cal_f (m + 1) ≤ d
    · rw [if_pos h]
      exact cal_go_spec d n (m + 1) (by omega) h h2
    · rw [if_neg h]
      exact ⟨h1, by omega, by omega⟩
theorem cal_f_1300 : cal_f 1300 = 39567 := by decide +kernel
theorem cal_f_660 : cal_f 660 = 20089 := by decide +kernel
theorem cal_m_spec {d : Nat} (h : d < 39567) : cal_f (cal_m d) ≤ d ∧ d < cal_f (cal_m d + 1) ∧ cal_m d < 1300 := cal_go_spec d 1300 0 rfl (by rw [cal_f_0]; omega) (by rw [cal_f_1300]; exact h)
theorem cal_m_is {d t : Nat} (ht : t < 1300) (h1 : cal_f t ≤ d) (h2 : d < cal_f (t + 1)) : cal_m d = t := by
  have hd : d < 39567 := by
    have := cal_f_le (a := t + 1) (b := 1300) (by omega) (by omega)
    rw [cal_f_1300] at this
    omega
  obtain ⟨a1, a2, a3⟩ := cal_m_spec hd
  exact cal_uniq (by omega) (by omega) a1 a2 h1 h2
theorem cal_m_lt {d : Nat} (h : d < 20089) : cal_m d < 660 := by
  obtain ⟨a1, a2, a3⟩ := cal_m_spec (d := d) (by omega)
  rcases Nat.lt_or_ge (cal_m d) 660 with q | q
  · exact q
  · have := cal_f_le (a := 660) (b := cal_m d) q (by omega)
    rw [cal_f_660] at this
    omega
/-- the day of the month, from 0 -/
def cal_o (d : Nat) : Nat := d - cal_f (cal_m d)
theorem cal_o_lt {d : Nat} (h : d < 39567) : cal_o d < cal_d (cal_m d) := by
  obtain ⟨a1, a2, a3⟩ := cal_m_spec h
  have := cal_f_succ (cal_m d) (by omega)
  unfold cal_o
  omega
def sp_date (d : Nat) : Nat := 10000 * (2000 + cal_m d / 12) + 100 * (cal_m d % 12 + 1) + cal_o d + 1
/-- where a term of years, months and days leads -/
def sp_to (d y m n : Nat) : Nat := cal_f (cal_m d + 12 * y + m) + min (cal_o d) (cal_d (cal_m d + 12 * y + m) - 1) + n
def sp_len (d y m n : Nat) : Nat := sp_to d y m n - d
theorem sp_to_ge {d y m n : Nat} (h : d < 20089) (hy : y ≤ 40) (hm : m ≤ 11) : d ≤ sp_to d y m n := by
  obtain ⟨a1, a2, a3⟩ := cal_m_spec (d := d) (by omega)
  have b1 := cal_m_lt h
  have b2 := cal_o_lt (d := d) (by omega)
  unfold sp_to
  rcases Nat.eq_zero_or_pos (12 * y + m) with q | q
  · rw [show cal_m d + 12 * y + m = cal_m d by omega]
    unfold cal_o at b2 ⊢
    omega
  · have := cal_f_le (a := cal_m d + 1) (b := cal_m d + 12 * y + m) (by omega) (by omega)
    omega
theorem sp_to_up {d y m n : Nat} (h : d < 20089) (hy : y ≤ 40) (hm : m ≤ 11) : sp_to d y m n ≤ 35060 + n := by
  have b1 := cal_m_lt h
  have b2 := cal_o_lt (d := d) (by omega)
  have b3 := (cal_d_lo (cal_m d)).2
  have b4 := cal_f_le (a := cal_m d + 12 * y + m) (b := 1150) (by omega) (by omega)
  have b5 : cal_f 1150 = 35003 := by decide +kernel
  unfold sp_to
  omega
theorem cal_y_f (p : Nat) : cal_y p = cal_f (12 * p) := by
  unfold cal_f
  rw [show 12 * p / 12 = p by omega, show 12 * p % 12 = 0 by omega]
  rfl
theorem cal_fs {p k : Nat} (hk : k < 12) : cal_f (12 * p + k) = cal_y p + cal_s (cal_lp (2000 + p)) k := by
  unfold cal_f
  rw [show (12 * p + k) / 12 = p by omega, show (12 * p + k) % 12 = k by omega]
end
section
/-! the class's calendar -/
def md (lp : Bool) (x : Int32) : Int32 := if 1 ≤ x ∧ x ≤ 12 then nI (cal_dm lp x.toNatClampNeg) else 0
theorem md_n (lp : Bool) {m : Nat} (h1 : 1 ≤ m) (h2 : m ≤ 12) : md lp (nI m) = nI (cal_dm lp m) := by
  unfold md
  rw [if_pos ⟨(nI_leI (a := 1) (by decide) (by omega)).mpr h1, (nI_leI (b := 12) (by omega) (by decide)).mpr h2⟩, nI_clamp (by omega)]
section CCAL
variable {G : fw_G} {h : fw_H}
set_option maxRecDepth 20000 in
theorem c_isLeap {n : Nat} (hn : n < 1000000) : PM G 0 0 0 mm_X1_isLeap [.int (nI n)] h (fw_qp (bI (cal_lp n)) h) := by
  refine pm_of (by decide +kernel) rfl rfl rfl ?_
  have k21 : cal_lp n = true → PW G mm_X1_isLeap (fw_qp (bI (cal_lp n)) h) 0 0 0 h 21 [(0, .int (nI n))] [] := by
    intro e
    rw [e]
    iterate 2 refine pw_go tk_X1_isLeap rfl rfl ?_
    exact pw_zretp (b := true) tk_X1_isLeap rfl rfl
  have k13 : ¬ (n % 4 = 0 ∧ n % 100 ≠ 0) → PW G mm_X1_isLeap (fw_qp (bI (cal_lp n)) h) 0 0 0 h 13 [(0, .int (nI n))] [] := by
    intro e
    iterate 2 refine pw_go tk_X1_isLeap rfl rfl ?_
    refine pw_remN n 400 tk_X1_isLeap rfl rfl rfl (by omega) (by omega) (by omega) ?_
    refine pw_ifN (n % 400) tk_X1_isLeap rfl rfl (by omega) (fun c => ?_) (fun c => ?_)
    · have c : n % 400 ≠ 0 := c
      have e2 : cal_lp n = false := by
        unfold cal_lp
        have : (n % 4 == 0 && n % 100 != 0) = false := by
          rw [Bool.eq_false_iff]
          intro z
          simp at z
          exact e z
        rw [this]
        simpa using c
      rw [e2]
      refine pw_go tk_X1_isLeap rfl rfl ?_
      exact pw_zretp (b := false) tk_X1_isLeap rfl rfl
    · refine k21 ?_
      have c : n % 400 = 0 := Classical.not_not.mp c
      unfold cal_lp
      simp [c]
  iterate 2 refine pw_go tk_X1_isLeap rfl rfl ?_
  refine pw_remN n 4 tk_X1_isLeap rfl rfl rfl (by omega) (by omega) (by omega) ?_
  refine pw_ifN (n % 4) tk_X1_isLeap rfl rfl (by omega) (fun c => k13 (fun z => c z.1)) (fun c => ?_)
  have c : n % 4 = 0 := Classical.not_not.mp c
  iterate 2 refine pw_go tk_X1_isLeap rfl rfl ?_
  refine pw_remN n 100 tk_X1_isLeap rfl rfl rfl (by omega) (by omega) (by omega) ?_
  refine pw_ifN (n % 100) tk_X1_isLeap rfl rfl (by omega) (fun c2 => k21 ?_) (fun c2 => k13 (fun z => z.2 (Classical.not_not.mp c2)))
  have c2 : n % 100 ≠ 0 := c2
  unfold cal_lp
  simp [c, c2]
theorem pw_mdlen {y : fw_M} {Q : fw_Q} {d kc ks pc n1 n2 a1 a2 : Nat} {v1 v2 : Int32} {L : List (Nat × Value)} {st : List Value} {tb : List fw_R} (hT : fw_tok y tb) (hown : y.1.cls = RX1) (r0 : fw_at tb pc = some (.getstatic 7, n1, a1, v1)) (r1 : fw_at tb n1 = some (.arraylength, n2, a2, v2)) (k : PW G y Q d kc ks h n2 L (.int 12 :: st)) : PW G y Q d kc ks h pc L st := by
  have e1 : n1 = pc + 3 := (fw_row hT r0).2.1
  subst e1
  have e2 : n2 = pc + 3 + 1 := (fw_row hT r1).2.1
  subst e2
  intro p e R s m args below meth c H locs cells slots ls C X
  have hK := C.2.2.2.2.2.2.2.2.2.1
  obtain ⟨t, hz, ht⟩ := hK.2.1
  refine va_gets C.1 C.2.1 hz X.2.1 (hown ▸ C.2.2.2.2.2.1) (C.2.2.2.2.2.2.2.1 _ (fw_gw 197 (by decide +kernel) (by decide +kernel))) (fun _ z => z) (fw_row hT r0).1 ?_
  exact va_tlen C.1 C.2.1 ht X.2.1 rfl (fw_row hT r1).1 (k p e R s m args below meth c H locs cells slots ls C X)
theorem pw_mdget {y : fw_M} {Q : fw_Q} {d kc ks pc n1 n2 n3 n4 n5 : Nat} {p0 p1 p2 p3 p4 : Nat × Int32} {x w : Int32} {L : List (Nat × Value)} {st : List Value} {tb : List fw_R} (hT : fw_tok y tb) (hown : y.1.cls = RX1) (r0 : fw_at tb pc = some (.getstatic 7, n1, p0)) (r1 : fw_at tb n1 = some (.iload_n 1, n2, p1)) (r2 : fw_at tb n2 = some (.iconst 1, n3, p2)) (r3 : fw_at tb n3 = some (.isub, n4, p3)) (r4 : fw_at tb n4 = some (.iaload, n5, p4)) (hx : fw_lk L 1 = some (.int x)) (hin : vp_in (x - 1) 12) (hw : fw_md (x - 1).toNatClampNeg = .int w) (k : PW G y Q d kc ks h n5 L (.int w :: st)) : PW G y Q d kc ks h pc L st := by
  have e1 : n1 = pc + 3 := (fw_row hT r0).2.1
  subst e1
  have e2 : n2 = pc + 3 + 1 := (fw_row hT r1).2.1
  subst e2
  have e3 : n3 = pc + 3 + 1 + 1 := (fw_row hT r2).2.1
  subst e3
  have e4 : n4 = pc + 3 + 1 + 1 + 1 := (fw_row hT r3).2.1
  subst e4
  have e5 : n5 = pc + 3 + 1 + 1 + 1 + 1 := (fw_row hT r4).2.1
  subst e5
  intro p e R s m args below meth c H locs cells slots ls C X
  have hK := C.2.2.2.2.2.2.2.2.2.1
  obtain ⟨t, hz, ht⟩ := hK.2.1
  refine va_gets C.1 C.2.1 hz X.2.1 (hown ▸ C.2.2.2.2.2.1) (C.2.2.2.2.2.2.2.1 _ (fw_gw 197 (by decide +kernel) (by decide +kernel))) (fun _ z => z) (fw_row hT r0).1 ?_
  refine lv_iload_n C.1 C.2.1 (fw_row hT r1).1 rfl (X.2.2.2.2.2 1 _ hx) ?_
  refine lv_iconst C.1 C.2.1 (fw_row hT r2).1 (v := 1) (by decide) ?_
  refine lv_isub C.1 C.2.1 (fw_row hT r3).1 ?_
  exact va_ti C.1 C.2.1 ht X.2.1 hin hw (fw_row hT r4).1 (k p e R s m args below meth c H locs cells slots ls C X)
theorem md_tab : ∀ m, m < 12 → fw_md m = .int (nI (cal_dm false (m + 1))) := by decide +kernel
set_option maxRecDepth 20000 in
theorem c_daysOfMonth {lp : Bool} {x : Int32} : PM G 0 0 0 mm_X1_daysOfMonth [.int (bI lp), .int x] h (fw_qp (md lp x) h) := by
  refine pm_of (by decide +kernel) rfl rfl rfl ?_
  have k13 : ¬ (1 ≤ x ∧ x ≤ 12) → PW G mm_X1_daysOfMonth (fw_qp (md lp x) h) 0 0 0 h 13 [(0, .int (bI lp)), (1, .int x)] [] := by
    intro e
    have e1 : md lp x = 0 := if_neg e
    rw [e1]
    refine pw_go tk_X1_daysOfMonth rfl rfl ?_
    exact pw_iretp tk_X1_daysOfMonth rfl rfl
  iterate 2 refine pw_go tk_X1_daysOfMonth rfl rfl ?_
  refine pw_br tk_X1_daysOfMonth rfl rfl (fun c => k13 (fun z => ?_)) (fun c => ?_)
  · rw [Int32.lt_iff_toInt_lt] at c
    have z1 := z.1
    rw [Int32.le_iff_toInt_le] at z1
    omega
  refine pw_go tk_X1_daysOfMonth rfl rfl ?_
  refine pw_mdlen tk_X1_daysOfMonth rfl rfl rfl ?_
  refine pw_br tk_X1_daysOfMonth rfl rfl (fun c2 => ?_) (fun c2 => k13 (fun z => c2 z.2))
  have c2 : x ≤ 12 := c2
  have hx0 : ¬ x < 0 := fun z => c (by
    rw [Int32.lt_iff_toInt_lt] at z ⊢
    have e0 : (0 : Int32).toInt = 0 := by decide
    have e1 : (1 : Int32).toInt = 1 := by decide
    omega)
  obtain ⟨m, hm, rfl⟩ := nI_of2 (x := x) (M := 12) (n := 12) (by decide) hx0 c2
  have hm1 : 1 ≤ m := by
    rcases Nat.eq_zero_or_pos m with q | q
    · subst q
      exact absurd (by decide) c
    · exact q
  rw [md_n lp hm1 hm]
  have k29 : (m = 2 → lp = false) → PW G mm_X1_daysOfMonth (fw_qp (nI (cal_dm lp m)) h) 0 0 0 h 29 [(0, .int (bI lp)), (1, .int (nI m))] [] := by
    intro e
    have e1 : nI m - 1 = nI (m - 1) := by rw [show (1 : Int32) = nI 1 from rfl, pk_sub hm1]
    have e2 : cal_dm lp m = cal_dm false m := by
      unfold cal_dm
      by_cases q : m = 2
      · rw [e q]
      · simp only [q, if_false]
    refine pw_mdget tk_X1_daysOfMonth rfl rfl rfl rfl rfl rfl rfl (by rw [e1]; exact vp_in_nI (by omega) (by decide)) (w := nI (cal_dm lp m)) (by rw [e1, nI_clamp (by omega), md_tab _ (by omega), e2, show m - 1 + 1 = m by omega]) ?_
    exact pw_iretp tk_X1_daysOfMonth rfl rfl
  iterate 2 refine pw_go tk_X1_daysOfMonth rfl rfl ?_
  refine pw_icN m 2 tk_X1_daysOfMonth rfl rfl rfl (by omega) (by omega) (fun c3 => k29 (fun z => absurd z c3)) (fun c3 => ?_)
  have c3 : m = 2 := Classical.not_not.mp c3
  refine pw_go tk_X1_daysOfMonth rfl rfl ?_
  refine pw_ifeqB tk_X1_daysOfMonth rfl (fun c4 => k29 (fun _ => c4)) (fun c4 => ?_)
  iterate 2 refine pw_go tk_X1_daysOfMonth rfl rfl ?_
  subst c3; subst c4
  exact pw_iretp tk_X1_daysOfMonth rfl rfl
set_option maxRecDepth 20000 in
theorem c_numberOf {p m t : Nat} (hp : p < 100) (hm : 1 ≤ m) (hm2 : m ≤ 12) (ht : 1 ≤ t) (ht2 : t ≤ 100) : PM G 1 0 0 mm_X1_numberOf [.int (nI (2000 + p)), .int (nI m), .int (nI t)] h (fw_qp (nI (cal_f (12 * p + (m - 1)) + (t - 1))) h) := by
  refine pm_of (by decide +kernel) rfl rfl rfl ?_
  iterate 2 refine pw_go tk_X1_numberOf rfl rfl ?_
  refine pw_subN (2000 + p) 2000 tk_X1_numberOf rfl rfl rfl (by omega) ?_
  refine pw_i (x' := nI p) (by congr 1; omega) ?_
  iterate 3 refine pw_go tk_X1_numberOf rfl rfl ?_
  refine pw_addN p 3 tk_X1_numberOf rfl rfl rfl ?_
  refine pw_go tk_X1_numberOf rfl rfl ?_
  refine pw_divN (p + 3) 4 tk_X1_numberOf rfl rfl rfl (by omega) (by omega) (by omega) ?_
  iterate 2 refine pw_go tk_X1_numberOf rfl rfl ?_
  refine pw_addN p 99 tk_X1_numberOf rfl rfl rfl ?_
  refine pw_go tk_X1_numberOf rfl rfl ?_
  refine pw_divN (p + 99) 100 tk_X1_numberOf rfl rfl rfl (by omega) (by omega) (by omega) ?_
  refine pw_subN ((p + 3) / 4) ((p + 99) / 100) tk_X1_numberOf rfl rfl rfl (by omega) ?_
  iterate 2 refine pw_go tk_X1_numberOf rfl rfl ?_
  refine pw_addN p 399 tk_X1_numberOf rfl rfl rfl ?_
  refine pw_go tk_X1_numberOf rfl rfl ?_
  refine pw_divN (p + 399) 400 tk_X1_numberOf rfl rfl rfl (by omega) (by omega) (by omega) ?_
  refine pw_addN ((p + 3) / 4 - (p + 99) / 100) ((p + 399) / 400) tk_X1_numberOf rfl rfl rfl ?_
  iterate 3 refine pw_go tk_X1_numberOf rfl rfl ?_
  refine pw_mulN 365 p tk_X1_numberOf rfl rfl rfl ?_
  refine pw_go tk_X1_numberOf rfl rfl ?_
  refine pw_addN (365 * p) ((p + 3) / 4 - (p + 99) / 100 + (p + 399) / 400) tk_X1_numberOf rfl rfl rfl ?_
  refine pw_go tk_X1_numberOf rfl rfl ?_
  refine pw_addN _ t tk_X1_numberOf rfl rfl rfl ?_
  refine pw_go tk_X1_numberOf rfl rfl ?_
  refine pw_subN (365 * p + ((p + 3) / 4 - (p + 99) / 100 + (p + 399) / 400) + t) 1 tk_X1_numberOf rfl rfl rfl (by omega) ?_
  refine pw_i (x' := nI (cal_y p + (t - 1))) (by congr 1; unfold cal_y; omega) ?_
  iterate 2 refine pw_go tk_X1_numberOf rfl rfl ?_
  refine pw_csp tk_X1_numberOf rfl ca_X1_isLeap lk_X1_13 sx_X1_isLeap (As := [.int (nI (2000 + p))]) (c_isLeap (by omega)) rfl rfl rfl rfl ?_
  iterate 3 refine pw_go tk_X1_numberOf rfl rfl ?_
  have loop : ∀ (n k : Nat), k + n = m - 1 → PW G mm_X1_numberOf (fw_qp (nI (cal_f (12 * p + (m - 1)) + (t - 1))) h) 1 0 0 h 54 [(1, .int (nI m)), (5, .int (nI (cal_y p + cal_s (cal_lp (2000 + p)) k + (t - 1)))), (6, .int (bI (cal_lp (2000 + p)))), (7, .int (nI (k + 1)))] [] := by
    intro n
    induction n with
    | zero =>
      intro k hk
      iterate 2 refine pw_go tk_X1_numberOf rfl rfl ?_
      refine pw_icN (k + 1) m tk_X1_numberOf rfl rfl rfl (by omega) (by omega) (fun c => ?_) (fun c => absurd (show m ≤ k + 1 by omega) c)
      refine pw_go tk_X1_numberOf rfl rfl ?_
      refine pw_i (x' := nI (cal_f (12 * p + (m - 1)) + (t - 1))) (by rw [cal_fs (by omega), show m - 1 = k by omega]) ?_
      exact pw_iretp tk_X1_numberOf rfl rfl
    | succ n ih =>
      intro k hk
      iterate 2 refine pw_go tk_X1_numberOf rfl rfl ?_
      refine pw_icN (k + 1) m tk_X1_numberOf rfl rfl rfl (by omega) (by omega) (fun c => absurd (show m ≤ k + 1 from c) (by omega)) (fun c => ?_)
      iterate 2 refine pw_go tk_X1_numberOf rfl rfl ?_
      refine pw_icN (k + 1) 12 tk_X1_numberOf rfl rfl rfl (by omega) (by omega) (fun c => absurd (show 12 < k + 1 from c) (by omega)) (fun c => ?_)
      iterate 3 refine pw_go tk_X1_numberOf rfl rfl ?_
      refine pw_csp tk_X1_numberOf rfl ca_X1_daysOfMonth lk_X1_17 sx_X1_daysOfMonth (As := [.int (bI (cal_lp (2000 + p))), .int (nI (k + 1))]) c_daysOfMonth rfl rfl rfl rfl ?_
      refine pw_addN (cal_y p + cal_s (cal_lp (2000 + p)) k + (t - 1)) (cal_dm (cal_lp (2000 + p)) (k + 1)) tk_X1_numberOf rfl rfl (md_n _ (by omega) (by omega)) ?_
      refine pw_i (x' := nI (cal_y p + cal_s (cal_lp (2000 + p)) (k + 1) + (t - 1))) (by congr 1; show _ = cal_y p + (cal_s (cal_lp (2000 + p)) k + cal_dm (cal_lp (2000 + p)) (k + 1)) + (t - 1); omega) ?_
      iterate 3 refine pw_go tk_X1_numberOf rfl rfl ?_
      refine pw_M [(1, .int (nI m)), (5, .int (nI (cal_y p + cal_s (cal_lp (2000 + p)) (k + 1) + (t - 1)))), (6, .int (bI (cal_lp (2000 + p)))), (7, .int (nI (k + 1 + 1)))] ⟨rfl, rfl, rfl, congrArg (fun z => some (Value.int z)) (nI_1 (k + 1)), trivial⟩ ?_
      exact ih (k + 1) (by omega)
  refine pw_M [(1, .int (nI m)), (5, .int (nI (cal_y p + cal_s (cal_lp (2000 + p)) 0 + (t - 1)))), (6, .int (bI (cal_lp (2000 + p)))), (7, .int (nI (0 + 1)))] ⟨rfl, rfl, rfl, rfl, trivial⟩ ?_
  exact loop (m - 1) 0 (by omega)
end CCAL
end
section
/-! the class's calendar: dateAt, spanFrom -/
section CCAL2
variable {G : fw_G} {h : fw_H}
theorem sp_date_of {d p k : Nat} (hp : p ≤ 54) (hk : k < 12) (h1 : cal_f (12 * p + k) ≤ d) (h2 : d < cal_f (12 * p + k + 1)) : sp_date d = 10000 * (2000 + p) + 100 * (k + 1) + (d - cal_f (12 * p + k)) + 1 := by
  have e : cal_m d = 12 * p + k := cal_m_is (by omega) h1 h2
  unfold sp_date cal_o
  rw [e, show (12 * p + k) / 12 = p by omega, show (12 * p + k) % 12 = k by omega]
set_option maxRecDepth 20000 in
theorem c_dateAt {d : Nat} (hd : d < 20000) : PM G 1 0 0 mm_X1_dateAt [.int (nI d)] h (fw_qp (nI (sp_date d)) h) := by
  refine pm_of (by decide +kernel) rfl rfl rfl ?_
  have k97 : ∀ p k : Nat, p ≤ 54 → k < 12 → cal_f (12 * p + k) ≤ d → d < cal_f (12 * p + k + 1) → PW G mm_X1_dateAt (fw_qp (nI (sp_date d)) h) 1 0 0 h 97 [(1, .int (nI (d - cal_f (12 * p + k)))), (2, .int (nI (2000 + p))), (3, .int (bI (cal_lp (2000 + p)))), (4, .int (nI (k + 1)))] [] := by
    intro p k hp hk h1 h2
    rw [sp_date_of hp hk h1 h2]
    iterate 2 refine pw_go tk_X1_dateAt rfl rfl ?_
    refine pw_mulN 10000 (2000 + p) tk_X1_dateAt rfl rfl rfl ?_
    iterate 2 refine pw_go tk_X1_dateAt rfl rfl ?_
    refine pw_mulN 100 (k + 1) tk_X1_dateAt rfl rfl rfl ?_
    refine pw_addN _ _ tk_X1_dateAt rfl rfl rfl ?_
    refine pw_go tk_X1_dateAt rfl rfl ?_
    refine pw_addN _ _ tk_X1_dateAt rfl rfl rfl ?_
    refine pw_go tk_X1_dateAt rfl rfl ?_
    refine pw_addN _ 1 tk_X1_dateAt rfl rfl rfl ?_
    exact pw_iretp tk_X1_dateAt rfl rfl
  have loop2 : ∀ (p : Nat), p ≤ 54 → d < cal_y (p + 1) → ∀ (n k : Nat), k + n = 11 → cal_f (12 * p + k) ≤ d → PW G mm_X1_dateAt (fw_qp (nI (sp_date d)) h) 1 0 0 h 65 [(1, .int (nI (d - cal_f (12 * p + k)))), (2, .int (nI (2000 + p))), (3, .int (bI (cal_lp (2000 + p)))), (4, .int (nI (k + 1)))] [] := by
    intro p hp hd2 n
    induction n with
    | zero =>
      intro k hk h1
      iterate 2 refine pw_go tk_X1_dateAt rfl rfl ?_
      refine pw_icN (k + 1) 12 tk_X1_dateAt rfl rfl rfl (by omega) (by omega) (fun c => ?_) (fun c => absurd (show 12 ≤ k + 1 by omega) c)
      refine k97 p k hp (by omega) h1 ?_
      rw [cal_y_f, show 12 * (p + 1) = 12 * p + k + 1 by omega] at hd2
      exact hd2
    | succ n ih =>
      intro k hk h1
      have hs := cal_f_succ (12 * p + k) (by omega)
      have hdm : cal_d (12 * p + k) = cal_dm (cal_lp (2000 + p)) (k + 1) := by
        unfold cal_d
        rw [show (12 * p + k) / 12 = p by omega, show (12 * p + k) % 12 = k by omega]
      iterate 2 refine pw_go tk_X1_dateAt rfl rfl ?_
      refine pw_icN (k + 1) 12 tk_X1_dateAt rfl rfl rfl (by omega) (by omega) (fun c => absurd (show 12 ≤ k + 1 from c) (by omega)) (fun c => ?_)
      iterate 3 refine pw_go tk_X1_dateAt rfl rfl ?_
      refine pw_csp tk_X1_dateAt rfl ca_X1_daysOfMonth lk_X1_17 sx_X1_daysOfMonth (As := [.int (bI (cal_lp (2000 + p))), .int (nI (k + 1))]) (rest := [.int (nI (d - cal_f (12 * p + k)))]) c_daysOfMonth rfl rfl rfl rfl ?_
      have hlo := cal_dm_lo (cal_lp (2000 + p)) (k + 1)
      refine pw_icN (d - cal_f (12 * p + k)) (cal_dm (cal_lp (2000 + p)) (k + 1)) tk_X1_dateAt rfl rfl (md_n _ (by omega) (by omega)) (by omega) (by omega) (fun c => ?_) (fun c => ?_)
      · have c : d - cal_f (12 * p + k) < cal_dm (cal_lp (2000 + p)) (k + 1) := c
        exact k97 p k hp (by omega) h1 (by omega)
      · have c : cal_dm (cal_lp (2000 + p)) (k + 1) ≤ d - cal_f (12 * p + k) := Nat.le_of_not_lt c
        iterate 3 refine pw_go tk_X1_dateAt rfl rfl ?_
        refine pw_csp tk_X1_dateAt rfl ca_X1_daysOfMonth lk_X1_17 sx_X1_daysOfMonth (As := [.int (bI (cal_lp (2000 + p))), .int (nI (k + 1))]) (rest := [.int (nI (d - cal_f (12 * p + k)))]) c_daysOfMonth rfl rfl rfl rfl ?_
        refine pw_subN (d - cal_f (12 * p + k)) (cal_dm (cal_lp (2000 + p)) (k + 1)) tk_X1_dateAt rfl rfl (md_n _ (by omega) (by omega)) c ?_
        refine pw_i (x' := nI (d - cal_f (12 * p + (k + 1)))) (by congr 1; rw [show 12 * p + (k + 1) = 12 * p + k + 1 by omega]; omega) ?_
        iterate 3 refine pw_go tk_X1_dateAt rfl rfl ?_
        refine pw_M [(1, .int (nI (d - cal_f (12 * p + (k + 1))))), (2, .int (nI (2000 + p))), (3, .int (bI (cal_lp (2000 + p)))), (4, .int (nI (k + 1 + 1)))] ⟨rfl, rfl, rfl, congrArg (fun z => some (Value.int z)) (nI_1 (k + 1)), trivial⟩ ?_
        exact ih (k + 1) (by omega) (by rw [show 12 * p + (k + 1) = 12 * p + k + 1 by omega]; omega)
  have k62 : ∀ p : Nat, p ≤ 54 → cal_y p ≤ d → d < cal_y (p + 1) → PW G mm_X1_dateAt (fw_qp (nI (sp_date d)) h) 1 0 0 h 62 [(1, .int (nI (d - cal_y p))), (2, .int (nI (2000 + p))), (3, .int (bI (cal_lp (2000 + p))))] [] := by
    intro p hp h1 h2
    iterate 2 refine pw_go tk_X1_dateAt rfl rfl ?_
    have e : cal_y p = cal_f (12 * p + 0) := cal_y_f p
    refine pw_M [(1, .int (nI (d - cal_f (12 * p + 0)))), (2, .int (nI (2000 + p))), (3, .int (bI (cal_lp (2000 + p)))), (4, .int (nI (0 + 1)))] ⟨e ▸ rfl, rfl, rfl, rfl, trivial⟩ ?_
    exact loop2 p hp h2 11 0 rfl (e ▸ h1)
  have loop1 : ∀ (n p : Nat), p + n = 54 → cal_y p ≤ d → PW G mm_X1_dateAt (fw_qp (nI (sp_date d)) h) 1 0 0 h 11 [(1, .int (nI (d - cal_y p))), (2, .int (nI (2000 + p))), (3, .int (bI (cal_lp (2000 + p))))] [] := by
    intro n
    induction n with
    | zero =>
      intro p hp h1
      iterate 2 refine pw_go tk_X1_dateAt rfl rfl ?_
      refine pw_icN (2000 + p) 2054 tk_X1_dateAt rfl rfl rfl (by omega) (by omega) (fun c => ?_) (fun c => absurd (show 2054 ≤ 2000 + p by omega) c)
      refine k62 p (by omega) h1 ?_
      have e : p = 54 := by omega
      subst e
      have : cal_y (54 + 1) = 20089 := by decide +kernel
      omega
    | succ n ih =>
      intro p hp h1
      have hy := cal_y_succ p (by omega)
      iterate 2 refine pw_go tk_X1_dateAt rfl rfl ?_
      refine pw_icN (2000 + p) 2054 tk_X1_dateAt rfl rfl rfl (by omega) (by omega) (fun c => absurd (show 2054 ≤ 2000 + p from c) (by omega)) (fun c => ?_)
      iterate 2 refine pw_go tk_X1_dateAt rfl rfl ?_
      have k54 : cal_y (p + 1) ≤ d → PW G mm_X1_dateAt (fw_qp (nI (sp_date d)) h) 1 0 0 h 50 [(1, .int (nI (d - cal_y p))), (2, .int (nI (2000 + p))), (3, .int (bI (cal_lp (2000 + p))))] [.int (nI (d - cal_y (p + 1)))] := by
        intro h2
        iterate 3 refine pw_go tk_X1_dateAt rfl rfl ?_
        refine pw_M [(1, .int (nI (d - cal_y (p + 1)))), (2, .int (nI (2000 + (p + 1))))] ⟨rfl, congrArg (fun z => some (Value.int z)) (nI_1 (2000 + p)), trivial⟩ ?_
        refine pw_csp tk_X1_dateAt rfl ca_X1_isLeap lk_X1_13 sx_X1_isLeap (As := [.int (nI (2000 + (p + 1)))]) (rest := []) (c_isLeap (by omega)) (congrArg (fun z => [Value.int z]) (nI_1 (2000 + p))) rfl rfl rfl ?_
        iterate 2 refine pw_go tk_X1_dateAt rfl rfl ?_
        refine pw_M [(1, .int (nI (d - cal_y (p + 1)))), (2, .int (nI (2000 + (p + 1)))), (3, .int (bI (cal_lp (2000 + (p + 1)))))] ⟨rfl, rfl, rfl, trivial⟩ ?_
        exact ih (p + 1) (by omega) h2
      refine pw_ifeqB tk_X1_dateAt rfl (fun c4 => ?_) (fun c4 => ?_)
      · rw [c4] at hy
        have hy : cal_y (p + 1) = cal_y p + 365 := hy
        refine pw_go tk_X1_dateAt rfl rfl ?_
        refine pw_icN (d - cal_y p) 365 tk_X1_dateAt rfl rfl rfl (by omega) (by omega) (fun c5 => ?_) (fun c5 => ?_)
        · have c5 : d - cal_y p < 365 := c5
          exact k62 p (by omega) h1 (by omega)
        · have c5 : 365 ≤ d - cal_y p := Nat.le_of_not_lt c5
          iterate 2 refine pw_go tk_X1_dateAt rfl rfl ?_
          refine pw_ifeqB tk_X1_dateAt rfl (fun _ => ?_) (fun c6 => absurd (c4.symm.trans c6) (by decide))
          refine pw_go tk_X1_dateAt rfl rfl ?_
          refine pw_subN (d - cal_y p) 365 tk_X1_dateAt rfl rfl rfl c5 ?_
          refine pw_i (x' := nI (d - cal_y (p + 1))) (by congr 1; omega) ?_
          exact k54 (by omega)
      · rw [c4] at hy
        have hy : cal_y (p + 1) = cal_y p + 366 := hy
        iterate 2 refine pw_go tk_X1_dateAt rfl rfl ?_
        refine pw_icN (d - cal_y p) 366 tk_X1_dateAt rfl rfl rfl (by omega) (by omega) (fun c5 => ?_) (fun c5 => ?_)
        · have c5 : d - cal_y p < 366 := c5
          exact k62 p (by omega) h1 (by omega)
        · have c5 : 366 ≤ d - cal_y p := Nat.le_of_not_lt c5
          iterate 2 refine pw_go tk_X1_dateAt rfl rfl ?_
          refine pw_ifeqB tk_X1_dateAt rfl (fun c6 => absurd (c4.symm.trans c6) (by decide)) (fun _ => ?_)
          iterate 2 refine pw_go tk_X1_dateAt rfl rfl ?_
          refine pw_subN (d - cal_y p) 366 tk_X1_dateAt rfl rfl rfl c5 ?_
          refine pw_i (x' := nI (d - cal_y (p + 1))) (by congr 1; omega) ?_
          exact k54 (by omega)
  iterate 5 refine pw_go tk_X1_dateAt rfl rfl ?_
  refine pw_csp tk_X1_dateAt rfl ca_X1_isLeap lk_X1_13 sx_X1_isLeap (As := [.int (nI (2000 + 0))]) (rest := []) (c_isLeap (by omega)) rfl rfl rfl rfl ?_
  refine pw_go tk_X1_dateAt rfl rfl ?_
  have e0 : cal_y 0 = 0 := by decide +kernel
  refine pw_M [(1, .int (nI (d - cal_y 0))), (2, .int (nI (2000 + 0))), (3, .int (bI (cal_lp (2000 + 0))))] ⟨by rw [e0]; rfl, rfl, rfl, trivial⟩ ?_
  exact loop1 54 0 rfl (by rw [e0]; exact Nat.zero_le d)
end CCAL2
end
section
/-! Term.spanFrom -/
section CSPAN
variable {G : fw_G} {h : fw_H}
set_option maxRecDepth 20000 in
theorem c_spanFrom {a d y m n : Nat} (ho : h a = some (.inr (11, [.int (nI y), .int (nI m), .int (nI n)]))) (hd : d < 20000) (hy : y ≤ 40) (hm : m ≤ 11) (hn : n ≤ 9999) : PM G 2 0 0 mm_X8_spanFrom [.ref a, .int (nI d)] h (fw_qp (nI (sp_len d y m n)) h) := by
  refine pm_of (by decide +kernel) rfl rfl rfl ?_
  have hml := cal_m_lt (d := d) (by omega)
  have hol := cal_o_lt (d := d) (by omega)
  have hdl := (cal_d_lo (cal_m d)).2
  have hY : cal_m d / 12 < 55 := by omega
  have hD : sp_date d = 10000 * (2000 + cal_m d / 12) + 100 * (cal_m d % 12 + 1) + cal_o d + 1 := rfl
  refine pw_go tk_X8_spanFrom rfl rfl ?_
  refine pw_csp tk_X8_spanFrom rfl ca_X1_dateAt lk_X8_19 sx_X1_dateAt (As := [.int (nI d)]) (rest := []) (c_dateAt hd) rfl rfl rfl rfl ?_
  iterate 3 refine pw_go tk_X8_spanFrom rfl rfl ?_
  refine pw_divN (sp_date d) 100 tk_X8_spanFrom rfl rfl rfl (by omega) (by omega) (by omega) ?_
  refine pw_go tk_X8_spanFrom rfl rfl ?_
  refine pw_remN (sp_date d / 100) 100 tk_X8_spanFrom rfl rfl rfl (by omega) (by omega) (by omega) ?_
  refine pw_go tk_X8_spanFrom rfl rfl ?_
  refine pw_subN (sp_date d / 100 % 100) 1 tk_X8_spanFrom rfl rfl rfl (by omega) ?_
  refine pw_i (x' := nI (cal_m d % 12)) (by congr 1; omega) ?_
  refine pw_go tk_X8_spanFrom rfl rfl ?_
  refine pw_get tk_X8_spanFrom rfl fl_X8_13 ho rfl ?_
  refine pw_addN (cal_m d % 12) m tk_X8_spanFrom rfl rfl rfl ?_
  iterate 3 refine pw_go tk_X8_spanFrom rfl rfl ?_
  refine pw_divN (sp_date d) 10000 tk_X8_spanFrom rfl rfl rfl (by omega) (by omega) (by omega) ?_
  refine pw_go tk_X8_spanFrom rfl rfl ?_
  refine pw_get tk_X8_spanFrom rfl fl_X8_7 ho rfl ?_
  refine pw_addN (sp_date d / 10000) y tk_X8_spanFrom rfl rfl rfl ?_
  iterate 2 refine pw_go tk_X8_spanFrom rfl rfl ?_
  refine pw_divN (cal_m d % 12 + m) 12 tk_X8_spanFrom rfl rfl rfl (by omega) (by omega) (by omega) ?_
  refine pw_addN (sp_date d / 10000 + y) ((cal_m d % 12 + m) / 12) tk_X8_spanFrom rfl rfl rfl ?_
  obtain ⟨t, ht⟩ : ∃ t, t = cal_m d + 12 * y + m := ⟨_, rfl⟩
  refine pw_i (x' := nI (2000 + t / 12)) (by congr 1; omega) ?_
  iterate 3 refine pw_go tk_X8_spanFrom rfl rfl ?_
  refine pw_remN (cal_m d % 12 + m) 12 tk_X8_spanFrom rfl rfl rfl (by omega) (by omega) (by omega) ?_
  refine pw_go tk_X8_spanFrom rfl rfl ?_
  refine pw_addN ((cal_m d % 12 + m) % 12) 1 tk_X8_spanFrom rfl rfl rfl ?_
  refine pw_i (x' := nI (t % 12 + 1)) (by congr 1; omega) ?_
  iterate 3 refine pw_go tk_X8_spanFrom rfl rfl ?_
  refine pw_remN (sp_date d) 100 tk_X8_spanFrom rfl rfl rfl (by omega) (by omega) (by omega) ?_
  refine pw_i (x' := nI (cal_o d + 1)) (by congr 1; omega) ?_
  refine pw_go tk_X8_spanFrom rfl rfl ?_
  refine pw_csp tk_X8_spanFrom rfl ca_X1_isLeap lk_X8_25 sx_X1_isLeap (As := [.int (nI (2000 + t / 12))]) (rest := [.int (nI (cal_o d + 1))]) (c_isLeap (by omega)) rfl rfl rfl rfl ?_
  refine pw_go tk_X8_spanFrom rfl rfl ?_
  refine pw_csp tk_X8_spanFrom rfl ca_X1_daysOfMonth lk_X8_29 sx_X1_daysOfMonth (As := [.int (bI (cal_lp (2000 + t / 12))), .int (nI (t % 12 + 1))]) (rest := [.int (nI (cal_o d + 1))]) c_daysOfMonth rfl rfl rfl rfl ?_
  have ed : cal_dm (cal_lp (2000 + t / 12)) (t % 12 + 1) = cal_d t := rfl
  have hdt := cal_d_lo t
  refine pw_i (x' := nI (cal_d t)) (md_n _ (by omega) (by omega)) ?_
  refine pw_minN (cal_o d + 1) (cal_d t) tk_X8_spanFrom rfl lk_X8_33 rfl rfl (by omega) (by omega) rfl ?_
  iterate 4 refine pw_go tk_X8_spanFrom rfl rfl ?_
  refine pw_csp tk_X8_spanFrom rfl ca_X1_numberOf lk_X8_39 sx_X1_numberOf (As := [.int (nI (2000 + t / 12)), .int (nI (t % 12 + 1)), .int (nI (min (cal_o d + 1) (cal_d t)))]) (rest := []) (c_numberOf (by omega) (by omega) (by omega) (by omega) (by omega)) rfl rfl rfl rfl ?_
  refine pw_i (x' := nI (cal_f t + (min (cal_o d + 1) (cal_d t) - 1))) (by rw [show 12 * (t / 12) + (t % 12 + 1 - 1) = t by omega]) ?_
  refine pw_go tk_X8_spanFrom rfl rfl ?_
  refine pw_get tk_X8_spanFrom rfl fl_X8_16 ho rfl ?_
  refine pw_addN (cal_f t + (min (cal_o d + 1) (cal_d t) - 1)) n tk_X8_spanFrom rfl rfl rfl ?_
  refine pw_go tk_X8_spanFrom rfl rfl ?_
  have hge := sp_to_ge (d := d) (y := y) (m := m) (n := n) (by omega) hy hm
  have he : cal_f t + (min (cal_o d + 1) (cal_d t) - 1) + n = sp_to d y m n := by
    unfold sp_to
    rw [← ht]
    omega
  refine pw_subN (cal_f t + (min (cal_o d + 1) (cal_d t) - 1) + n) d tk_X8_spanFrom rfl rfl rfl (by omega) ?_
  refine pw_i (x' := nI (sp_len d y m n)) (by unfold sp_len; rw [he]) ?_
  exact pw_iretp tk_X8_spanFrom rfl rfl
end CSPAN
end
section
/-! the reference's calendar -/
section MCAL
variable {G : fw_G} {h : fw_H}
def inI (v lo hi : Int32) : Bool := decide (lo ≤ v) && decide (v ≤ hi)
theorem inI_iff {v lo hi : Int32} : inI v lo hi = true ↔ (lo ≤ v ∧ v ≤ hi) := by
  unfold inI
  simp
theorem i_nlt {a b : Int32} : ¬ a < b ↔ b ≤ a := by
  rw [Int32.lt_iff_toInt_lt, Int32.le_iff_toInt_le]
  omega
theorem n_in {v lo hi : Int32} : PM G 0 0 0 mm_X17_in [.int v, .int lo, .int hi] h (fw_qp (bI (inI v lo hi)) h) := by
  refine pm_of (by decide +kernel) rfl rfl rfl ?_
  have k14 : inI v lo hi = false → PW G mm_X17_in (fw_qp (bI (inI v lo hi)) h) 0 0 0 h 14 [(0, .int v), (1, .int lo), (2, .int hi)] [] := by
    intro e
    rw [e]
    refine pw_go tk_X17_in rfl rfl ?_
    exact pw_zretp (b := false) tk_X17_in rfl rfl
  iterate 2 refine pw_go tk_X17_in rfl rfl ?_
  refine pw_br tk_X17_in rfl rfl (fun c => k14 ?_) (fun c => ?_)
  · unfold inI
    have c : v < lo := c
    have : ¬ lo ≤ v := fun z => (i_nlt.mpr z) c
    simp [this]
  iterate 2 refine pw_go tk_X17_in rfl rfl ?_
  refine pw_br tk_X17_in rfl rfl (fun c2 => k14 ?_) (fun c2 => ?_)
  · unfold inI
    have c2 : hi < v := c2
    have : ¬ v ≤ hi := fun z => (i_nlt.mpr z) c2
    simp [this]
  have e : inI v lo hi = true := inI_iff.mpr ⟨i_nlt.mp c, i_nlt.mp c2⟩
  rw [e]
  iterate 2 refine pw_go tk_X17_in rfl rfl ?_
  exact pw_zretp (b := true) tk_X17_in rfl rfl
set_option maxRecDepth 20000 in
theorem n_isLeap {n : Nat} (hn : n < 1000000) : PM G 0 0 0 mm_X17_isLeap [.int (nI n)] h (fw_qp (bI (cal_lp n)) h) := by
  refine pm_of (by decide +kernel) rfl rfl rfl ?_
  have k21 : cal_lp n = true → PW G mm_X17_isLeap (fw_qp (bI (cal_lp n)) h) 0 0 0 h 21 [(0, .int (nI n))] [] := by
    intro e
    rw [e]
    iterate 2 refine pw_go tk_X17_isLeap rfl rfl ?_
    exact pw_zretp (b := true) tk_X17_isLeap rfl rfl
  have k25 : cal_lp n = false → PW G mm_X17_isLeap (fw_qp (bI (cal_lp n)) h) 0 0 0 h 25 [(0, .int (nI n))] [] := by
    intro e
    rw [e]
    refine pw_go tk_X17_isLeap rfl rfl ?_
    exact pw_zretp (b := false) tk_X17_isLeap rfl rfl
  iterate 2 refine pw_go tk_X17_isLeap rfl rfl ?_
  refine pw_remN (n) (400) tk_X17_isLeap rfl rfl rfl (by omega) (by omega) (by omega) ?_
  refine pw_ifN (n % 400) tk_X17_isLeap rfl rfl (by omega) (fun c => k21 ?_) (fun c => ?_)
  · have c : n % 400 = 0 := c
    unfold cal_lp
    simp [c]
  have c : n % 400 ≠ 0 := c
  iterate 2 refine pw_go tk_X17_isLeap rfl rfl ?_
  refine pw_remN (n) (4) tk_X17_isLeap rfl rfl rfl (by omega) (by omega) (by omega) ?_
  refine pw_ifN (n % 4) tk_X17_isLeap rfl rfl (by omega) (fun c2 => k25 ?_) (fun c2 => ?_)
  · have c2 : n % 4 ≠ 0 := c2
    unfold cal_lp
    simp [c, c2]
  have c2 : n % 4 = 0 := Classical.not_not.mp c2
  iterate 2 refine pw_go tk_X17_isLeap rfl rfl ?_
  refine pw_remN (n) (100) tk_X17_isLeap rfl rfl rfl (by omega) (by omega) (by omega) ?_
  refine pw_ifN (n % 100) tk_X17_isLeap rfl rfl (by omega) (fun c3 => k25 ?_) (fun c3 => k21 ?_)
  · have c3 : n % 100 = 0 := c3
    unfold cal_lp
    simp [c, c3]
  · have c3 : n % 100 ≠ 0 := c3
    unfold cal_lp
    simp [c2, c3]
set_option maxRecDepth 20000 in
theorem n_daysOf {n m : Nat} (hn : n < 1000000) (hm : m < 2147483648) : PM G 1 0 0 mm_X17_daysOf [.int (nI n), .int (nI m)] h (fw_qp (nI (cal_dm (cal_lp n) m)) h) := by
  refine pm_of (by decide +kernel) rfl rfl rfl ?_
  iterate 2 refine pw_go tk_X17_daysOf rfl rfl ?_
  refine pw_icN (m) (2) tk_X17_daysOf rfl rfl rfl (by omega) (by omega) (fun c => ?_) (fun c => ?_)
  · have c : m ≠ 2 := c
    have k45 : (m = 4 ∨ m = 6 ∨ m = 9 ∨ m = 11) → PW G mm_X17_daysOf (fw_qp (nI (cal_dm (cal_lp n) m)) h) 1 0 0 h 45 [(0, .int (nI n)), (1, .int (nI m))] [] := by
      intro e
      iterate 2 refine pw_go tk_X17_daysOf rfl rfl ?_
      refine pw_i (x' := nI (cal_dm (cal_lp n) m)) (by unfold cal_dm; rw [if_neg c, if_pos e]; rfl) ?_
      exact pw_iretp tk_X17_daysOf rfl rfl
    iterate 2 refine pw_go tk_X17_daysOf rfl rfl ?_
    refine pw_icN (m) (4) tk_X17_daysOf rfl rfl rfl (by omega) (by omega) (fun c2 => k45 (Or.inl c2)) (fun c2 => ?_)
    iterate 2 refine pw_go tk_X17_daysOf rfl rfl ?_
    refine pw_icN (m) (6) tk_X17_daysOf rfl rfl rfl (by omega) (by omega) (fun c3 => k45 (Or.inr (Or.inl c3))) (fun c3 => ?_)
    iterate 2 refine pw_go tk_X17_daysOf rfl rfl ?_
    refine pw_icN (m) (9) tk_X17_daysOf rfl rfl rfl (by omega) (by omega) (fun c4 => k45 (Or.inr (Or.inr (Or.inl c4)))) (fun c4 => ?_)
    iterate 2 refine pw_go tk_X17_daysOf rfl rfl ?_
    refine pw_icN (m) (11) tk_X17_daysOf rfl rfl rfl (by omega) (by omega) (fun c5 => ?_) (fun c5 => k45 (Or.inr (Or.inr (Or.inr (Classical.not_not.mp c5)))))
    refine pw_go tk_X17_daysOf rfl rfl ?_
    refine pw_i (x' := nI (cal_dm (cal_lp n) m)) (by unfold cal_dm; rw [if_neg c, if_neg (fun z => z.elim c2 (fun z => z.elim c3 (fun z => z.elim c4 c5)))]; rfl) ?_
    exact pw_iretp tk_X17_daysOf rfl rfl
  · have c : m = 2 := Classical.not_not.mp c
    subst c
    refine pw_go tk_X17_daysOf rfl rfl ?_
    refine pw_csp tk_X17_daysOf rfl ca_X17_isLeap lk_X17_32 sx_X17_isLeap (As := [.int (nI n)]) (rest := []) (n_isLeap hn) rfl rfl rfl rfl ?_
    refine pw_ifeqB tk_X17_daysOf rfl (fun c => ?_) (fun c => ?_)
    · skip
      iterate 2 refine pw_go tk_X17_daysOf rfl rfl ?_
      refine pw_i (x' := nI (cal_dm (cal_lp n) 2)) (congrArg (fun z => nI (cal_dm z 2)) c.symm) ?_
      exact pw_iretp tk_X17_daysOf rfl rfl
    · skip
      iterate 2 refine pw_go tk_X17_daysOf rfl rfl ?_
      refine pw_i (x' := nI (cal_dm (cal_lp n) 2)) (congrArg (fun z => nI (cal_dm z 2)) c.symm) ?_
      exact pw_iretp tk_X17_daysOf rfl rfl
set_option maxRecDepth 20000 in
theorem n_firstOf {t : Nat} (ht : t < 1320) : PM G 2 0 0 mm_X17_firstOf [.int (nI t)] h (fw_qp (nI (cal_f t)) h) := by
  refine pm_of (by decide +kernel) rfl rfl rfl ?_
  obtain ⟨p, hp⟩ : ∃ p, p = t / 12 := ⟨_, rfl⟩
  obtain ⟨q, hq⟩ : ∃ q, q = t % 12 := ⟨_, rfl⟩
  have hf : cal_f t = cal_y p + cal_s (cal_lp (2000 + p)) q := by rw [hp, hq]; rfl
  iterate 2 refine pw_go tk_X17_firstOf rfl rfl ?_
  refine pw_divN (t) (12) tk_X17_firstOf rfl rfl rfl (by omega) (by omega) (by omega) ?_
  refine pw_i (x' := nI p) (by rw [hp]) ?_
  iterate 3 refine pw_go tk_X17_firstOf rfl rfl ?_
  refine pw_mulN (365) (p) tk_X17_firstOf rfl rfl rfl ?_
  iterate 2 refine pw_go tk_X17_firstOf rfl rfl ?_
  refine pw_addN (p) (3) tk_X17_firstOf rfl rfl rfl ?_
  refine pw_go tk_X17_firstOf rfl rfl ?_
  refine pw_divN (p + 3) (4) tk_X17_firstOf rfl rfl rfl (by omega) (by omega) (by omega) ?_
  refine pw_addN (365 * p) ((p + 3) / 4) tk_X17_firstOf rfl rfl rfl ?_
  iterate 2 refine pw_go tk_X17_firstOf rfl rfl ?_
  refine pw_addN (p) (99) tk_X17_firstOf rfl rfl rfl ?_
  refine pw_go tk_X17_firstOf rfl rfl ?_
  refine pw_divN (p + 99) (100) tk_X17_firstOf rfl rfl rfl (by omega) (by omega) (by omega) ?_
  refine pw_subN (365 * p + (p + 3) / 4) ((p + 99) / 100) tk_X17_firstOf rfl rfl rfl (by omega) ?_
  iterate 2 refine pw_go tk_X17_firstOf rfl rfl ?_
  refine pw_addN (p) (399) tk_X17_firstOf rfl rfl rfl ?_
  refine pw_go tk_X17_firstOf rfl rfl ?_
  refine pw_divN (p + 399) (400) tk_X17_firstOf rfl rfl rfl (by omega) (by omega) (by omega) ?_
  refine pw_addN (365 * p + (p + 3) / 4 - (p + 99) / 100) ((p + 399) / 400) tk_X17_firstOf rfl rfl rfl ?_
  refine pw_i (x' := nI (cal_y p)) (rfl) ?_
  iterate 3 refine pw_go tk_X17_firstOf rfl rfl ?_
  have loop : ∀ (n k : Nat), k + n = q → PW G mm_X17_firstOf (fw_qp (nI (cal_f t)) h) 2 0 0 h 37 [(0, .int (nI t)), (1, .int (nI p)), (2, .int (nI (cal_y p + cal_s (cal_lp (2000 + p)) k))), (3, .int (nI (k + 1)))] [] := by
    intro n
    induction n with
    | zero =>
      intro k hk
      iterate 3 refine pw_go tk_X17_firstOf rfl rfl ?_
      refine pw_remN (t) (12) tk_X17_firstOf rfl rfl rfl (by omega) (by omega) (by omega) ?_
      refine pw_icN (k + 1) (t % 12) tk_X17_firstOf rfl rfl rfl (by omega) (by omega) (fun c => ?_) (fun c => absurd (show t % 12 < k + 1 by omega) c)
      refine pw_go tk_X17_firstOf rfl rfl ?_
      refine pw_i (x' := nI (cal_f t)) (by rw [hf, show q = k by omega]) ?_
      exact pw_iretp tk_X17_firstOf rfl rfl
    | succ n ih =>
      intro k hk
      iterate 3 refine pw_go tk_X17_firstOf rfl rfl ?_
      refine pw_remN (t) (12) tk_X17_firstOf rfl rfl rfl (by omega) (by omega) (by omega) ?_
      refine pw_icN (k + 1) (t % 12) tk_X17_firstOf rfl rfl rfl (by omega) (by omega) (fun c => absurd (show t % 12 < k + 1 from c) (by omega)) (fun c => ?_)
      iterate 3 refine pw_go tk_X17_firstOf rfl rfl ?_
      refine pw_addN (2000) (p) tk_X17_firstOf rfl rfl rfl ?_
      refine pw_go tk_X17_firstOf rfl rfl ?_
      refine pw_csp tk_X17_firstOf rfl ca_X17_daysOf lk_X17_36 sx_X17_daysOf (As := [.int (nI (2000 + p)), .int (nI (k + 1))]) (rest := [.int (nI (cal_y p + cal_s (cal_lp (2000 + p)) k))]) (n_daysOf (by omega) (by omega)) rfl rfl rfl rfl ?_
      refine pw_addN (cal_y p + cal_s (cal_lp (2000 + p)) k) (cal_dm (cal_lp (2000 + p)) (k + 1)) tk_X17_firstOf rfl rfl rfl ?_
      refine pw_i (x' := nI (cal_y p + cal_s (cal_lp (2000 + p)) (k + 1))) (by rw [show cal_s (cal_lp (2000 + p)) (k + 1) = cal_s (cal_lp (2000 + p)) k + cal_dm (cal_lp (2000 + p)) (k + 1) from rfl, Nat.add_assoc]) ?_
      iterate 3 refine pw_go tk_X17_firstOf rfl rfl ?_
      refine pw_M [(0, .int (nI t)), (1, .int (nI p)), (2, .int (nI (cal_y p + cal_s (cal_lp (2000 + p)) (k + 1)))), (3, .int (nI (k + 1 + 1)))] ⟨rfl, rfl, rfl, congrArg (fun z => some (Value.int z)) (nI_1 (k + 1)), trivial⟩ ?_
      exact ih (k + 1) (by omega)
  refine pw_M [(0, .int (nI t)), (1, .int (nI p)), (2, .int (nI (cal_y p + cal_s (cal_lp (2000 + p)) 0))), (3, .int (nI (0 + 1)))] ⟨rfl, rfl, rfl, rfl, trivial⟩ ?_
  exact loop q 0 (by omega)
set_option maxRecDepth 20000 in
theorem n_monthOf {d : Nat} (hd : d < 20089) : PM G 3 0 0 mm_X17_monthOf [.int (nI d)] h (fw_qp (nI (cal_m d)) h) := by
  refine pm_of (by decide +kernel) rfl rfl rfl ?_
  obtain ⟨a1, a2, a3⟩ := cal_m_spec (d := d) (by omega)
  have hml := cal_m_lt hd
  have loop : ∀ (n k : Nat), k + n = cal_m d → PW G mm_X17_monthOf (fw_qp (nI (cal_m d)) h) 3 0 0 h 5 [(0, .int (nI d)), (1, .int (nI k))] [] := by
    intro n
    induction n with
    | zero =>
      intro k hk
      have hk : k = cal_m d := by omega
      subst hk
      iterate 2 refine pw_go tk_X17_monthOf rfl rfl ?_
      refine pw_addN (cal_m d) (1) tk_X17_monthOf rfl rfl rfl ?_
      refine pw_csp tk_X17_monthOf rfl ca_X17_firstOf lk_X17_40 sx_X17_firstOf (As := [.int (nI (cal_m d + 1))]) (rest := []) (n_firstOf (by omega)) rfl rfl rfl rfl ?_
      have hu := cal_f_up (cal_m d + 1) (by omega)
      refine pw_go tk_X17_monthOf rfl rfl ?_
      refine pw_icN (cal_f (cal_m d + 1)) (d) tk_X17_monthOf rfl rfl rfl (by omega) (by omega) (fun c => ?_) (fun c => absurd (show d < cal_f (cal_m d + 1) from a2) c)
      refine pw_go tk_X17_monthOf rfl rfl ?_
      exact pw_iretp tk_X17_monthOf rfl rfl
    | succ n ih =>
      intro k hk
      have hle := cal_f_le (a := k + 1) (b := cal_m d) (by omega) (by omega)
      iterate 2 refine pw_go tk_X17_monthOf rfl rfl ?_
      refine pw_addN (k) (1) tk_X17_monthOf rfl rfl rfl ?_
      refine pw_csp tk_X17_monthOf rfl ca_X17_firstOf lk_X17_40 sx_X17_firstOf (As := [.int (nI (k + 1))]) (rest := []) (n_firstOf (by omega)) rfl rfl rfl rfl ?_
      refine pw_go tk_X17_monthOf rfl rfl ?_
      refine pw_icN (cal_f (k + 1)) (d) tk_X17_monthOf rfl rfl rfl (by omega) (by omega) (fun c => absurd (show d < cal_f (k + 1) from c) (by omega)) (fun c => ?_)
      iterate 2 refine pw_go tk_X17_monthOf rfl rfl ?_
      refine pw_M [(0, .int (nI d)), (1, .int (nI (k + 1)))] ⟨rfl, congrArg (fun z => some (Value.int z)) (nI_1 k), trivial⟩ ?_
      exact ih (k + 1) (by omega)
  iterate 2 refine pw_go tk_X17_monthOf rfl rfl ?_
  refine pw_divN (d) (31) tk_X17_monthOf rfl rfl rfl (by omega) (by omega) (by omega) ?_
  refine pw_go tk_X17_monthOf rfl rfl ?_
  refine pw_M [(0, .int (nI d)), (1, .int (nI (d / 31)))] ⟨rfl, rfl, trivial⟩ ?_
  refine loop (cal_m d - d / 31) (d / 31) ?_
  have hu := cal_f_up (cal_m d + 1) (by omega)
  omega
set_option maxRecDepth 20000 in
theorem n_lengthOf {d y m n : Nat} (hd : d < 20000) (hy : y ≤ 40) (hm : m ≤ 11) (hn : n ≤ 9999) : PM G 4 0 0 mm_X17_lengthOf [.int (nI d), .int (nI y), .int (nI m), .int (nI n)] h (fw_qp (nI (sp_len d y m n)) h) := by
  refine pm_of (by decide +kernel) rfl rfl rfl ?_
  obtain ⟨a1, a2, a3⟩ := cal_m_spec (d := d) (by omega)
  have hml := cal_m_lt (d := d) (by omega)
  have hol := cal_o_lt (d := d) (by omega)
  have hdl := (cal_d_lo (cal_m d)).2
  obtain ⟨t, ht⟩ : ∃ t, t = cal_m d + 12 * y + m := ⟨_, rfl⟩
  have hdt := cal_d_lo t
  have hft := cal_f_up t (by omega)
  refine pw_go tk_X17_lengthOf rfl rfl ?_
  refine pw_csp tk_X17_lengthOf rfl ca_X17_monthOf lk_X17_44 sx_X17_monthOf (As := [.int (nI d)]) (rest := []) (n_monthOf (by omega)) rfl rfl rfl rfl ?_
  iterate 3 refine pw_go tk_X17_lengthOf rfl rfl ?_
  refine pw_csp tk_X17_lengthOf rfl ca_X17_firstOf lk_X17_40 sx_X17_firstOf (As := [.int (nI (cal_m d))]) (rest := [.int (nI d)]) (n_firstOf (by omega)) rfl rfl rfl rfl ?_
  refine pw_subN (d) (cal_f (cal_m d)) tk_X17_lengthOf rfl rfl rfl (by omega) ?_
  refine pw_i (x' := nI (cal_o d)) (rfl) ?_
  iterate 4 refine pw_go tk_X17_lengthOf rfl rfl ?_
  refine pw_mulN (12) (y) tk_X17_lengthOf rfl rfl rfl ?_
  refine pw_addN (cal_m d) (12 * y) tk_X17_lengthOf rfl rfl rfl ?_
  refine pw_go tk_X17_lengthOf rfl rfl ?_
  refine pw_addN (cal_m d + 12 * y) (m) tk_X17_lengthOf rfl rfl rfl ?_
  refine pw_i (x' := nI t) (by rw [ht]) ?_
  iterate 2 refine pw_go tk_X17_lengthOf rfl rfl ?_
  refine pw_csp tk_X17_lengthOf rfl ca_X17_firstOf lk_X17_40 sx_X17_firstOf (As := [.int (nI t)]) (rest := []) (n_firstOf (by omega)) rfl rfl rfl rfl ?_
  iterate 4 refine pw_go tk_X17_lengthOf rfl rfl ?_
  refine pw_divN (t) (12) tk_X17_lengthOf rfl rfl rfl (by omega) (by omega) (by omega) ?_
  refine pw_addN (2000) (t / 12) tk_X17_lengthOf rfl rfl rfl ?_
  iterate 2 refine pw_go tk_X17_lengthOf rfl rfl ?_
  refine pw_remN (t) (12) tk_X17_lengthOf rfl rfl rfl (by omega) (by omega) (by omega) ?_
  refine pw_go tk_X17_lengthOf rfl rfl ?_
  refine pw_addN (t % 12) (1) tk_X17_lengthOf rfl rfl rfl ?_
  refine pw_csp tk_X17_lengthOf rfl ca_X17_daysOf lk_X17_36 sx_X17_daysOf (As := [.int (nI (2000 + t / 12)), .int (nI (t % 12 + 1))]) (rest := [.int (nI (cal_o d)), .int (nI (cal_f t))]) (n_daysOf (by omega) (by omega)) rfl rfl rfl rfl ?_
  refine pw_i (x' := nI (cal_d t)) (rfl) ?_
  refine pw_go tk_X17_lengthOf rfl rfl ?_
  refine pw_subN (cal_d t) (1) tk_X17_lengthOf rfl rfl rfl (by omega) ?_
  refine pw_minN (cal_o d) (cal_d t - 1) tk_X17_lengthOf rfl lk_X17_47 rfl rfl (by omega) (by omega) rfl ?_
  refine pw_addN (cal_f t) (min (cal_o d) (cal_d t - 1)) tk_X17_lengthOf rfl rfl rfl ?_
  refine pw_go tk_X17_lengthOf rfl rfl ?_
  refine pw_addN (cal_f t + min (cal_o d) (cal_d t - 1)) (n) tk_X17_lengthOf rfl rfl rfl ?_
  refine pw_go tk_X17_lengthOf rfl rfl ?_
  have hge := sp_to_ge (d := d) (y := y) (m := m) (n := n) (by omega) hy hm
  have he : cal_f t + min (cal_o d) (cal_d t - 1) + n = sp_to d y m n := by
    unfold sp_to
    rw [← ht]
  refine pw_subN (cal_f t + min (cal_o d) (cal_d t - 1) + n) (d) tk_X17_lengthOf rfl rfl rfl (by omega) ?_
  refine pw_i (x' := nI (sp_len d y m n)) (by unfold sp_len; rw [he]) ?_
  exact pw_iretp tk_X17_lengthOf rfl rfl
end MCAL
end
section
/-! BITS: long words as sets of days; counting -/
theorem wb_tb (n : Nat) : (lN n).toBitVec = BitVec.ofNat 64 n := rfl
theorem wb_inj {a b : Int64} (h : a.toBitVec = b.toBitVec) : a = b := Int64.toBitVec_inj.mp h
theorem wb_tn {n : Nat} (h : n < 2 ^ 64) : (lN n).toBitVec.toNat = n := by rw [wb_tb, BitVec.toNat_ofNat, Nat.mod_eq_of_lt h]
theorem wb_of (x : Int64) : ∃ n, n < 2 ^ 64 ∧ x = lN n := ⟨x.toBitVec.toNat, x.toBitVec.isLt, wb_inj (by rw [wb_tb]; simp)⟩
theorem wb_of32 (x : Int32) : ∃ n, n < 2 ^ 32 ∧ x = nI n := ⟨x.toBitVec.toNat, x.toBitVec.isLt, Int32.toBitVec_inj.mp (by show _ = BitVec.ofNat 32 _; simp)⟩
theorem wb_c : ∀ k, k < 64 → ((nI k).toInt64 &&& 63) = lN k := by decide +kernel
theorem wb_cu : ∀ k, k < 64 → ((nI k).toInt64.toUInt64 &&& Int64.toUInt64 63) = UInt64.ofNat k := by decide +kernel
theorem wb_sm : ∀ k, k < 64 → (BitVec.ofNat 64 k).smod 64 = BitVec.ofNat 64 k := by decide +kernel
theorem wb_pw {a b : Nat} (h : a ≤ b) : 2 ^ b = 2 ^ a * 2 ^ (b - a) := by rw [← Nat.pow_add]; congr 1; omega
theorem wb_lt2 {a b : Nat} (h : a < b) : 2 ^ a < 2 ^ b := Nat.pow_lt_pow_right (by decide) h
theorem wb_mod (n : Nat) : lN n = lN (n % 2 ^ 64) := wb_inj (by rw [wb_tb, wb_tb]; apply BitVec.eq_of_toNat_eq; rw [BitVec.toNat_ofNat, BitVec.toNat_ofNat, Nat.mod_mod])
theorem wb_shr {n k : Nat} (hn : n < 2 ^ 64) (hk : k < 64) : ((lN n).toUInt64 >>> ((nI k).toInt64.toUInt64 &&& Int64.toUInt64 63)).toInt64 = lN (n / 2 ^ k) := by
  rw [wb_cu k hk]
  apply wb_inj
  apply BitVec.eq_of_toNat_eq
  show ((lN n).toUInt64 >>> UInt64.ofNat k).toNat = (BitVec.ofNat 64 _).toNat
  have h1 : (UInt64.ofNat k).toNat = k := by
    show (BitVec.ofNat 64 k).toNat = k
    rw [BitVec.toNat_ofNat, Nat.mod_eq_of_lt (by omega)]
  have h2 : (lN n).toUInt64.toNat = n := wb_tn hn
  rw [UInt64.toNat_shiftRight, h1, h2, Nat.mod_eq_of_lt hk, Nat.shiftRight_eq_div_pow, BitVec.toNat_ofNat, Nat.mod_eq_of_lt (Nat.lt_of_le_of_lt (Nat.div_le_self _ _) hn)]
theorem wb_shl (n : Nat) {k : Nat} (hk : k < 64) : lN n <<< ((nI k).toInt64 &&& 63) = lN (n * 2 ^ k) := by
  rw [wb_c k hk]
  apply wb_inj
  rw [Int64.toBitVec_shiftLeft, wb_tb, wb_tb, wb_tb, wb_sm k hk]
  apply BitVec.eq_of_toNat_eq
  rw [BitVec.shiftLeft_eq', BitVec.toNat_shiftLeft, BitVec.toNat_ofNat, BitVec.toNat_ofNat, BitVec.toNat_ofNat, Nat.mod_eq_of_lt (show k < 2 ^ 64 by omega), Nat.shiftLeft_eq, Nat.mul_mod, Nat.mod_mod, ← Nat.mul_mod]
theorem wb_and {a b : Nat} (ha : a < 2 ^ 64) (hb : b < 2 ^ 64) : lN a &&& lN b = lN (a &&& b) := by
  apply wb_inj
  rw [Int64.toBitVec_and, wb_tb, wb_tb, wb_tb]
  apply BitVec.eq_of_toNat_eq
  rw [BitVec.toNat_and, BitVec.toNat_ofNat, BitVec.toNat_ofNat, BitVec.toNat_ofNat, Nat.mod_eq_of_lt ha, Nat.mod_eq_of_lt hb, Nat.mod_eq_of_lt (Nat.and_lt_two_pow _ hb)]
theorem wb_or {a b : Nat} (ha : a < 2 ^ 64) (hb : b < 2 ^ 64) : lN a ||| lN b = lN (a ||| b) := by
  apply wb_inj
  rw [Int64.toBitVec_or, wb_tb, wb_tb, wb_tb]
  apply BitVec.eq_of_toNat_eq
  rw [BitVec.toNat_or, BitVec.toNat_ofNat, BitVec.toNat_ofNat, BitVec.toNat_ofNat, Nat.mod_eq_of_lt ha, Nat.mod_eq_of_lt hb, Nat.mod_eq_of_lt (Nat.or_lt_two_pow ha hb)]
theorem wb_mask {n k : Nat} (hn : n < 2 ^ 64) (hk : k < 64) : lN n &&& lN (2 ^ k - 1) = lN (n % 2 ^ k) := by
  rw [wb_and hn (by have := wb_lt2 hk; omega), Nat.and_two_pow_sub_one_eq_mod]
theorem wb_a1 {n : Nat} (hn : n < 2 ^ 64) : lN n &&& 1 = lN (n % 2) := wb_mask (k := 1) hn (by decide)
theorem wb_bit {n k : Nat} (hn : n < 2 ^ 64) (hk : k < 64) : ((lN n).toUInt64 >>> ((nI k).toInt64.toUInt64 &&& Int64.toUInt64 63)).toInt64 &&& 1 = lN (n / 2 ^ k % 2) := by
  rw [wb_shr hn hk, wb_a1 (Nat.lt_of_le_of_lt (Nat.div_le_self _ _) hn)]
/-- how many below n -/
def cu (p : Nat → Bool) : Nat → Nat
  | 0 => 0
  | n + 1 => cu p n + (if p n = true then 1 else 0)
theorem cu_congr {p q : Nat → Bool} : ∀ {n : Nat}, (∀ i, i < n → p i = q i) → cu p n = cu q n
  | 0, _ => rfl
  | n + 1, h => by unfold cu; rw [cu_congr (fun i hi => h i (Nat.lt_succ_of_lt hi)), h n (Nat.lt_succ_self n)]
theorem cu_le (p : Nat → Bool) : ∀ n : Nat, cu p n ≤ n
  | 0 => Nat.le_refl _
  | n + 1 => by
    have := cu_le p n
    unfold cu
    split <;> omega
theorem cu_add (p : Nat → Bool) (a : Nat) : ∀ n : Nat, cu p (a + n) = cu p a + cu (fun i => p (a + i)) n
  | 0 => rfl
  | n + 1 => by
    show cu p (a + n) + _ = cu p a + (cu (fun i => p (a + i)) n + _)
    rw [cu_add p a n, Nat.add_assoc]
    rfl
theorem cu_mono (p : Nat → Bool) {a b : Nat} (h : a ≤ b) : cu p a ≤ cu p b := by
  obtain ⟨k, rfl⟩ : ∃ k, b = a + k := ⟨b - a, by omega⟩
  rw [cu_add]
  omega
theorem cu_step (p : Nat → Bool) {a b : Nat} (h : a ≤ b) : cu p b ≤ cu p a + (b - a) := by
  obtain ⟨k, rfl⟩ : ∃ k, b = a + k := ⟨b - a, by omega⟩
  rw [cu_add]
  have := cu_le (fun i => p (a + i)) k
  omega
theorem cu_none {p : Nat → Bool} : ∀ {n : Nat}, (∀ i, i < n → p i = false) → cu p n = 0
  | 0, _ => rfl
  | n + 1, h => by
    unfold cu
    rw [cu_none (fun i hi => h i (Nat.lt_succ_of_lt hi)), h n (Nat.lt_succ_self n)]
    rfl
theorem cu_all {p : Nat → Bool} : ∀ {n : Nat}, (∀ i, i < n → p i = true) → cu p n = n
  | 0, _ => rfl
  | n + 1, h => by
    unfold cu
    rw [cu_all (fun i hi => h i (Nat.lt_succ_of_lt hi)), h n (Nat.lt_succ_self n)]
    rfl
theorem cu_not (p : Nat → Bool) : ∀ n : Nat, cu (fun i => !p i) n + cu p n = n
  | 0 => rfl
  | n + 1 => by
    have := cu_not p n
    unfold cu
    cases p n <;> simp <;> omega
/-- the bits of a long -/
def gb (x : Int64) (i : Nat) : Bool := x.toBitVec.getLsbD i
theorem gb_ext {x y : Int64} (h : ∀ i, i < 64 → gb x i = gb y i) : x = y := wb_inj (BitVec.eq_of_getLsbD_eq (fun i hi => h i hi))
theorem gb_and (x y : Int64) (i : Nat) : gb (x &&& y) i = (gb x i && gb y i) := by
  unfold gb
  rw [Int64.toBitVec_and, BitVec.getLsbD_and]
theorem gb_or (x y : Int64) (i : Nat) : gb (x ||| y) i = (gb x i || gb y i) := by
  unfold gb
  rw [Int64.toBitVec_or, BitVec.getLsbD_or]
theorem gb_m1 {i : Nat} (h : i < 64) : gb (-1) i = true := by
  have : ∀ i : Nat, i < 64 → gb (-1) i = true := by decide +kernel
  exact this i h
theorem gb_not (x : Int64) {i : Nat} (h : i < 64) : gb (x ^^^ (-1)) i = !gb x i := by
  have := gb_m1 h
  unfold gb at this ⊢
  rw [Int64.toBitVec_xor, BitVec.getLsbD_xor, this]
  simp
theorem gb_lN {n i : Nat} (hi : i < 64) : gb (lN n) i = n.testBit i := by
  unfold gb
  rw [wb_tb, BitVec.getLsbD_ofNat]
  simp [hi]
theorem gb_0 (i : Nat) : gb 0 i = false := by
  show (BitVec.ofNat 64 0).getLsbD i = false
  simp
theorem gb_hi {x : Int64} {i : Nat} (h : 64 ≤ i) : gb x i = false := BitVec.getLsbD_of_ge _ _ h
theorem gb_up : ∀ k : Nat, k < 64 → ∀ i : Nat, i < 64 → gb ((-1 : Int64) <<< ((nI k).toInt64 &&& 63)) i = decide (k ≤ i) := by decide +kernel
theorem gb_dn : ∀ k : Nat, k < 64 → ∀ i : Nat, i < 64 → gb (((1 : Int64) <<< ((nI k).toInt64 &&& 63)) - 1) i = decide (i < k) := by decide +kernel
theorem gb_at (x : Int64) {k : Nat} (hk : k < 64) : (((x.toUInt64 >>> ((nI k).toInt64.toUInt64 &&& Int64.toUInt64 63)).toInt64 &&& 1) = 1) = (gb x k = true) ∧ (((x.toUInt64 >>> ((nI k).toInt64.toUInt64 &&& Int64.toUInt64 63)).toInt64 &&& 1) = 0) = (gb x k = false) := by
  obtain ⟨n, hn, rfl⟩ := wb_of x
  rw [wb_bit hn hk, gb_lN hk, Nat.testBit_eq_decide_div_mod_eq]
  rcases Nat.mod_two_eq_zero_or_one (n / 2 ^ k) with e | e
  · rw [e]; decide
  · rw [e]; decide
/-- the number of the bits below n -/
def wn (p : Nat → Bool) : Nat → Nat
  | 0 => 0
  | n + 1 => wn p n + (if p n = true then 2 ^ n else 0)
theorem wn_lt (p : Nat → Bool) : ∀ n : Nat, wn p n < 2 ^ n
  | 0 => by unfold wn; decide
  | n + 1 => by
    have := wn_lt p n
    unfold wn
    rw [Nat.pow_succ]
    split <;> omega
theorem wn_tb (p : Nat → Bool) (i : Nat) : ∀ n : Nat, (wn p n).testBit i = (decide (i < n) && p i)
  | 0 => by unfold wn; simp
  | n + 1 => by
    have h1 := wn_tb p i n
    have h2 := wn_lt p n
    unfold wn
    by_cases hp : p n = true
    · rw [if_pos hp, Nat.add_comm]
      rcases Nat.lt_trichotomy i n with h | h | h
      · rw [Nat.testBit_two_pow_add_gt h, h1]
        simp [h, show i < n + 1 by omega]
      · subst h
        rw [Nat.testBit_two_pow_add_eq, h1]
        simp [hp]
      · have h3 : 2 ^ n + wn p n < 2 ^ i := Nat.lt_of_lt_of_le (by rw [Nat.pow_succ]; omega) (Nat.pow_le_pow_right (by decide) (show n + 1 ≤ i from h))
        rw [Nat.testBit_lt_two_pow h3]
        simp [show ¬ i < n + 1 by omega]
    · rw [if_neg hp, Nat.add_zero, h1]
      rcases Nat.lt_trichotomy i n with h | h | h
      · simp [h, show i < n + 1 by omega]
      · subst h
        simp [hp]
      · simp [show ¬ i < n by omega, show ¬ i < n + 1 by omega]
/-- the word w of a set of days -/
def wd (p : Nat → Bool) (w : Nat) : Int64 := lN (wn (fun i => p (64 * w + i)) 64)
theorem gb_wd (p : Nat → Bool) (w : Nat) {i : Nat} (h : i < 64) : gb (wd p w) i = p (64 * w + i) := by
  unfold wd
  rw [gb_lN h, wn_tb]
  simp [h]
theorem wd_of {p : Nat → Bool} {w : Nat} {x : Int64} (h : ∀ i, i < 64 → gb x i = p (64 * w + i)) : x = wd p w := gb_ext (fun i hi => by rw [h i hi, gb_wd p w hi])
theorem wd_congr {p q : Nat → Bool} {w : Nat} (h : ∀ i, i < 64 → p (64 * w + i) = q (64 * w + i)) : wd p w = wd q w := wd_of (fun i hi => by rw [gb_wd p w hi, h i hi])
/-! counting bits by eights -/
theorem bc_and {a V c C m s : Nat} (ha : a < 2 ^ m) (hs : s ≤ m) (hc : c < 2 ^ (m - s)) : ((a + 2 ^ m * V) / 2 ^ s) &&& (c + 2 ^ m * C) = (a / 2 ^ s &&& c) + 2 ^ m * ((V / 2 ^ s) &&& C) := by
  have hcm : c < 2 ^ m := Nat.lt_of_lt_of_le hc (Nat.pow_le_pow_right (by decide) (by omega))
  have h1 : (a / 2 ^ s &&& c) < 2 ^ m := Nat.lt_of_le_of_lt (Nat.and_le_right) hcm
  apply Nat.eq_of_testBit_eq
  intro i
  rw [Nat.testBit_and, Nat.testBit_div_two_pow, Nat.add_comm a, Nat.add_comm c, Nat.add_comm _ (2 ^ m * _), Nat.testBit_two_pow_mul_add _ ha, Nat.testBit_two_pow_mul_add _ hcm, Nat.testBit_two_pow_mul_add _ h1]
  by_cases hi : i < m
  · rw [if_pos hi, if_pos hi, Nat.testBit_and, Nat.testBit_div_two_pow]
    by_cases h2 : i + s < m
    · rw [if_pos h2]
    · have h3 : c.testBit i = false := Nat.testBit_lt_two_pow (Nat.lt_of_lt_of_le hc (Nat.pow_le_pow_right (by decide) (by omega)))
      rw [h3, Bool.and_false, Bool.and_false]
  · rw [if_neg hi, if_neg hi, if_neg (show ¬ i + s < m by omega), Nat.testBit_and, Nat.testBit_div_two_pow, show i + s - m = i - m + s by omega]
theorem bc_1 {a V c C : Nat} (ha : a < 256) (hc : c < 128) : ((a + 256 * V) / 2) &&& (c + 256 * C) = (a / 2 &&& c) + 256 * ((V / 2) &&& C) := bc_and (m := 8) (s := 1) ha (by decide) hc
theorem bc_2 {a V c C : Nat} (ha : a < 256) (hc : c < 64) : ((a + 256 * V) / 4) &&& (c + 256 * C) = (a / 4 &&& c) + 256 * ((V / 4) &&& C) := bc_and (m := 8) (s := 2) ha (by decide) hc
theorem bc_0 {a V c C : Nat} (ha : a < 256) (hc : c < 256) : (a + 256 * V) &&& (c + 256 * C) = (a &&& c) + 256 * (V &&& C) := by
  have := bc_and (m := 8) (s := 0) (a := a) (V := V) (c := c) (C := C) ha (by decide) hc
  simpa using this
/-- masks of n bytes -/
def bm (c : Nat) : Nat → Nat
  | 0 => 0
  | n + 1 => c + 256 * bm c n
def b1 (n x : Nat) : Nat := x - (x / 2 &&& bm 85 n)
def b2 (n x : Nat) : Nat := (x &&& bm 51 n) + (x / 4 &&& bm 51 n)
def b3 (n x : Nat) : Nat := (x + x / 16) &&& bm 15 n
/-- how many bits of each byte -/
def bp : Nat → Nat → Nat
  | 0, _ => 0
  | n + 1, x => cu (fun i => (x % 256).testBit i) 8 + 256 * bp n (x / 256)
theorem b1_8 : ∀ a : Nat, a < 256 → (a / 2 &&& 85) ≤ a ∧ a - (a / 2 &&& 85) < 256 := by decide +kernel
theorem b2_8 : ∀ a : Nat, a < 256 → (a - (a / 2 &&& 85) &&& 51) + ((a - (a / 2 &&& 85)) / 4 &&& 51) < 256 ∧ ((a - (a / 2 &&& 85) &&& 51) + ((a - (a / 2 &&& 85)) / 4 &&& 51)) % 16 ≤ 4 ∧ ((a - (a / 2 &&& 85) &&& 51) + ((a - (a / 2 &&& 85)) / 4 &&& 51)) / 16 ≤ 4 := by decide +kernel
theorem b3_8 : ∀ a : Nat, a < 256 → (((a - (a / 2 &&& 85) &&& 51) + ((a - (a / 2 &&& 85)) / 4 &&& 51)) + ((a - (a / 2 &&& 85) &&& 51) + ((a - (a / 2 &&& 85)) / 4 &&& 51)) / 16) % 16 = cu (fun i => a.testBit i) 8 := by decide +kernel
theorem b1_n : ∀ (n x : Nat), x < 256 ^ n → (x / 2 &&& bm 85 n) ≤ x
  | n, x, _ => Nat.le_trans Nat.and_le_left (Nat.div_le_self _ _)
theorem b_split {n x : Nat} (h : x < 256 ^ (n + 1)) : x % 256 < 256 ∧ x / 256 < 256 ^ n ∧ x = x % 256 + 256 * (x / 256) := by
  refine ⟨Nat.mod_lt _ (by decide), ?_, by omega⟩
  rw [Nat.div_lt_iff_lt_mul (by decide)]
  rw [Nat.pow_succ] at h
  exact h
theorem b1_s {n a V : Nat} (ha : a < 256) : b1 (n + 1) (a + 256 * V) = (a - (a / 2 &&& 85)) + 256 * b1 n V := by
  have h1 := bc_1 (V := V) (C := bm 85 n) ha (show 85 < 128 by decide)
  have h2 := b1_8 a ha
  have h3 : (V / 2 &&& bm 85 n) ≤ V := Nat.le_trans Nat.and_le_left (Nat.div_le_self _ _)
  unfold b1
  rw [show bm 85 (n + 1) = 85 + 256 * bm 85 n from rfl, h1]
  omega
theorem b2_s {n a V : Nat} (ha : a < 256) : b2 (n + 1) (a + 256 * V) = ((a &&& 51) + (a / 4 &&& 51)) + 256 * b2 n V := by
  have h1 := bc_2 (V := V) (C := bm 51 n) ha (show 51 < 64 by decide)
  have h0 := bc_0 (V := V) (C := bm 51 n) ha (show 51 < 256 by decide)
  unfold b2
  rw [show bm 51 (n + 1) = 51 + 256 * bm 51 n from rfl, h1, h0]
  omega
theorem b3_s {n a V : Nat} (h1 : a % 16 ≤ 4) (h2 : a / 16 ≤ 4) (hV : V % 16 ≤ 4) : b3 (n + 1) (a + 256 * V) = (a + a / 16) % 16 + 256 * b3 n V := by
  unfold b3
  have hm : ∀ r k : Nat, r < 16 → r + 16 * k &&& 15 = r := by
    intro r k hr
    rw [show (15 : Nat) = 2 ^ 4 - 1 from rfl, Nat.and_two_pow_sub_one_eq_mod]
    omega
  have e4 : a + 256 * V + (a + 256 * V) / 16 = ((a + a / 16) % 16 + 16 * (a / 16 + V % 16)) + 256 * (V + V / 16) := by omega
  rw [e4, show bm 15 (n + 1) = 15 + 256 * bm 15 n from rfl, bc_0 (by omega) (by decide), hm _ _ (by omega)]
theorem b2_lo {n x : Nat} (h : x < 256 ^ n) : b2 n (b1 n x) % 16 ≤ 4 := by
  cases n with
  | zero =>
    unfold b2
    rw [show bm 51 0 = 0 from rfl, Nat.and_zero, Nat.and_zero]
    decide
  | succ n =>
    obtain ⟨h1, h2, h3⟩ := b_split h
    have h4 := b2_8 _ h1
    rw [h3, b1_s h1, b2_s (b1_8 _ h1).2]
    omega
theorem b_all : ∀ (n x : Nat), x < 256 ^ n → b3 n (b2 n (b1 n x)) = bp n x
  | 0, x, h => by
    unfold b3
    rw [show bm 15 0 = 0 from rfl, Nat.and_zero]
    rfl
  | n + 1, x, h => by
    obtain ⟨h1, h2, h3⟩ := b_split h
    have h4 := b2_8 _ h1
    have h5 := b3_8 _ h1
    have h6 := b_all n _ h2
    show b3 (n + 1) (b2 (n + 1) (b1 (n + 1) x)) = cu (fun i => (x % 256).testBit i) 8 + 256 * bp n (x / 256)
    rw [← h5, ← h6]
    have e : b1 (n + 1) x = (x % 256 - (x % 256 / 2 &&& 85)) + 256 * b1 n (x / 256) := by
      have := b1_s (n := n) (V := x / 256) h1
      rw [← h3] at this
      exact this
    rw [e, b2_s (b1_8 _ h1).2, b3_s h4.2.1 h4.2.2 (b2_lo h2)]
theorem cu_byte (p : Nat → Bool) : ∀ n : Nat, cu p (8 * (n + 1)) = cu p (8 * n) + cu (fun i => p (8 * n + i)) 8 := fun n => by
  rw [show 8 * (n + 1) = 8 * n + 8 by omega, cu_add]
theorem b_tb {x i : Nat} (k : Nat) (h : i < 8) : (x / 256 ^ k % 256).testBit i = x.testBit (8 * k + i) := by
  rw [show (256 : Nat) = 2 ^ 8 from rfl, Nat.testBit_mod_two_pow, ← Nat.pow_mul, Nat.testBit_div_two_pow]
  simp [h, Nat.add_comm]
theorem cu8 (p : Nat → Bool) (k : Nat) : cu (fun i => p (8 * k + i)) 8 ≤ 8 := cu_le _ 8
theorem bp_u : ∀ (n k x : Nat), bp (n + 1) (x / 256 ^ k) = cu (fun i => (x / 256 ^ k % 256).testBit i) 8 + 256 * bp n (x / 256 ^ (k + 1)) := by
  intro n k x
  rw [Nat.pow_succ, ← Nat.div_div_eq_div_mul]
  rfl
/-- the sum of the bytes -/
theorem b_sum {x : Nat} : ∃ p : Nat → Nat, (∀ k, p k ≤ 8) ∧ bp 8 x = p 0 + 256 * (p 1 + 256 * (p 2 + 256 * (p 3 + 256 * (p 4 + 256 * (p 5 + 256 * (p 6 + 256 * p 7)))))) ∧ cu (fun i => x.testBit i) 64 = p 0 + p 1 + p 2 + p 3 + p 4 + p 5 + p 6 + p 7 := by
  obtain ⟨p, hp⟩ : ∃ p : Nat → Nat, ∀ k, p k = cu (fun i => x.testBit (8 * k + i)) 8 := ⟨_, fun _ => rfl⟩
  have hq : ∀ n k : Nat, bp (n + 1) (x / 256 ^ k) = p k + 256 * bp n (x / 256 ^ (k + 1)) := fun n k => by
    rw [bp_u, hp k]
    exact congrArg (fun z => z + _) (cu_congr (fun i hi => b_tb k hi))
  refine ⟨p, fun k => by rw [hp]; exact cu_le _ 8, ?_, ?_⟩
  · have hx : x / 256 ^ 0 = x := by rw [Nat.pow_zero, Nat.div_one]
    have e0 := hq 7 0
    rw [hx] at e0
    have e1 := hq 6 1
    have e2 := hq 5 2
    have e3 := hq 4 3
    have e4 := hq 3 4
    have e5 := hq 2 5
    have e6 := hq 1 6
    have e7 := hq 0 7
    have e8 : ∀ y : Nat, bp 0 y = 0 := fun _ => rfl
    rw [e8] at e7
    simp only [Nat.reduceAdd] at e0 e1 e2 e3 e4 e5 e6 e7
    rw [e0, e1, e2, e3, e4, e5, e6, e7, Nat.mul_zero, Nat.add_zero]
  · have hc := cu_byte (fun i => x.testBit i)
    have hd : ∀ k : Nat, cu (fun i => x.testBit i) (8 * (k + 1)) = cu (fun i => x.testBit i) (8 * k) + p k := fun k => by rw [hc k, hp k]
    have z : cu (fun i => x.testBit i) (8 * 0) = 0 := rfl
    rw [show (64 : Nat) = 8 * (7 + 1) from rfl, hd 7, show (7 : Nat) = 6 + 1 from rfl, hd 6, show (6 : Nat) = 5 + 1 from rfl, hd 5, show (5 : Nat) = 4 + 1 from rfl, hd 4, show (4 : Nat) = 3 + 1 from rfl, hd 3, show (3 : Nat) = 2 + 1 from rfl, hd 2, show (2 : Nat) = 1 + 1 from rfl, hd 1, show (1 : Nat) = 0 + 1 from rfl, hd 0, z, Nat.zero_add]
theorem b_dv {a b R : Nat} (h : a < b) : (a + b * R) / b = R := by
  rw [Nat.add_mul_div_left _ _ (by omega), Nat.div_eq_of_lt h, Nat.zero_add]
theorem b_f1 {p0 p1 p2 p3 p4 p5 p6 p7 : Nat} : (p0 + 256 * (p1 + 256 * (p2 + 256 * (p3 + 256 * (p4 + 256 * (p5 + 256 * (p6 + 256 * p7))))))) + (p1 + 256 * (p2 + 256 * (p3 + 256 * (p4 + 256 * (p5 + 256 * (p6 + 256 * p7)))))) = ((p0 + p1) + 256 * (p1 + p2)) + 65536 * ((p2 + p3) + 256 * (p3 + p4) + 65536 * ((p4 + p5) + 256 * (p5 + p6) + 65536 * ((p6 + p7) + 256 * p7))) := by omega
theorem b_f2 {a b c d e f g i : Nat} : (a + 256 * b) + 65536 * (c + 256 * d + 65536 * (e + 256 * f + 65536 * (g + 256 * i))) + (c + 256 * d + 65536 * (e + 256 * f + 65536 * (g + 256 * i))) = (a + c + 256 * (b + d) + 65536 * (c + e + 256 * (d + f))) + 4294967296 * (e + g + 256 * (f + i) + 65536 * (g + 256 * i)) := by omega
theorem b_f3 {a b c d e f g i : Nat} : (a + 256 * b + 65536 * (c + 256 * d)) + 4294967296 * (e + 256 * f + 65536 * (g + 256 * i)) + (e + 256 * f + 65536 * (g + 256 * i)) = (a + e) + 128 * (2 * b + 512 * (c + 256 * d) + 33554432 * (e + 256 * f + 65536 * (g + 256 * i)) + 2 * f + 512 * (g + 256 * i)) := by omega
theorem b_fin {P : Nat} (p : Nat → Nat) (hp : ∀ k, p k ≤ 8) (hP : P = p 0 + 256 * (p 1 + 256 * (p 2 + 256 * (p 3 + 256 * (p 4 + 256 * (p 5 + 256 * (p 6 + 256 * p 7))))))) : ∃ t1 t2 t3 : Nat, t1 = P + P / 256 ∧ t2 = t1 + t1 / 65536 ∧ t3 = t2 + t2 / 4294967296 ∧ t3 % 128 = p 0 + p 1 + p 2 + p 3 + p 4 + p 5 + p 6 + p 7 ∧ P < 2 ^ 64 ∧ t1 < 2 ^ 64 ∧ t2 < 2 ^ 64 ∧ t3 < 2 ^ 64 := by
  have h0 := hp 0
  have h1 := hp 1
  have h2 := hp 2
  have h3 := hp 3
  have h4 := hp 4
  have h5 := hp 5
  have h6 := hp 6
  have h7 := hp 7
  generalize p 0 = p0 at *
  generalize p 1 = p1 at *
  generalize p 2 = p2 at *
  generalize p 3 = p3 at *
  generalize p 4 = p4 at *
  generalize p 5 = p5 at *
  generalize p 6 = p6 at *
  generalize p 7 = p7 at *
  have d1 : P / 256 = p1 + 256 * (p2 + 256 * (p3 + 256 * (p4 + 256 * (p5 + 256 * (p6 + 256 * p7))))) := by rw [hP]; exact b_dv (by clear hP; omega)
  have d2 : (((p0 + p1) + 256 * (p1 + p2)) + 65536 * ((p2 + p3) + 256 * (p3 + p4) + 65536 * ((p4 + p5) + 256 * (p5 + p6) + 65536 * ((p6 + p7) + 256 * p7)))) / 65536 = (p2 + p3) + 256 * (p3 + p4) + 65536 * ((p4 + p5) + 256 * (p5 + p6) + 65536 * ((p6 + p7) + 256 * p7)) := b_dv (by clear hP d1; omega)
  have d3 : (((p0 + p1) + (p2 + p3) + 256 * (p1 + p2 + (p3 + p4)) + 65536 * ((p2 + p3) + (p4 + p5) + 256 * (p3 + p4 + (p5 + p6)))) + 4294967296 * ((p4 + p5) + (p6 + p7) + 256 * (p5 + p6 + p7) + 65536 * ((p6 + p7) + 256 * p7))) / 4294967296 = (p4 + p5) + (p6 + p7) + 256 * (p5 + p6 + p7) + 65536 * ((p6 + p7) + 256 * p7) := b_dv (by clear hP d1 d2; omega)
  refine ⟨_, _, _, rfl, rfl, rfl, ?_, ?_, ?_, ?_, ?_⟩
  · rw [d1, hP, b_f1, d2, b_f2, d3, b_f3, Nat.add_mul_mod_self_left]
    clear hP d1 d2 d3
    rw [Nat.mod_eq_of_lt (by omega)]
    omega
  · rw [hP]
    clear hP d1 d2 d3
    omega
  · rw [d1, hP]
    clear hP d1 d2 d3
    omega
  · rw [d1, hP, b_f1, d2]
    clear hP d1 d2 d3
    omega
  · rw [d1, hP, b_f1, d2, b_f2, d3]
    clear hP d1 d2 d3
    omega
end
section
/-! Long.bitCount -/
section BCNT
variable {G : fw_G} {h : fw_H}
theorem lN_add' (a b : Nat) : lN a + lN b = lN (a + b) := wb_inj (by rw [Int64.toBitVec_add, wb_tb, wb_tb, wb_tb, ← BitVec.ofNat_add])
theorem lN_sub' {a b : Nat} (h : b ≤ a) (ha : a < 2 ^ 64) : lN a - lN b = lN (a - b) := wb_inj (by
  rw [Int64.toBitVec_sub, wb_tb, wb_tb, wb_tb]
  apply BitVec.eq_of_toNat_eq
  rw [BitVec.toNat_sub, BitVec.toNat_ofNat, BitVec.toNat_ofNat, BitVec.toNat_ofNat, Nat.mod_eq_of_lt ha, Nat.mod_eq_of_lt (show b < 2 ^ 64 by omega), Nat.mod_eq_of_lt (show a - b < 2 ^ 64 by omega)]
  omega)
theorem bc_sh {n k : Nat} (kk : Int32) (hk : kk = nI k) (hn : n < 2 ^ 64) (h : k < 64) : ((lN n).toUInt64 >>> (kk.toInt64.toUInt64 &&& Int64.toUInt64 63)).toInt64 = lN (n / 2 ^ k) := by subst hk; exact wb_shr hn h
theorem bc_l2i (t : Nat) : (lN t).toInt32 &&& 127 = nI (t % 128) := by
  apply Int32.toBitVec_inj.mp
  rw [Int32.toBitVec_and, Int64.toBitVec_toInt32, wb_tb]
  show (BitVec.ofNat 64 t).signExtend 32 &&& (BitVec.ofNat 32 127) = BitVec.ofNat 32 (t % 128)
  apply BitVec.eq_of_getLsbD_eq
  intro i hi
  rw [BitVec.getLsbD_and, BitVec.getLsbD_signExtend, BitVec.getLsbD_ofNat, BitVec.getLsbD_ofNat, BitVec.getLsbD_ofNat, show (128 : Nat) = 2 ^ 7 from rfl, Nat.testBit_mod_two_pow, show (127 : Nat) = 2 ^ 7 - 1 from rfl, Nat.testBit_two_pow_sub_one]
  have h1 : i < 64 := by omega
  simp [hi, h1, Bool.and_comm]
theorem c_bitCount {x : Int64} : PM G 0 0 0 mm_J13_bitCount_95d88 [.long x] h (fw_qp (nI (cu (gb x) 64)) h) := by
  refine pm_of (by decide +kernel) rfl rfl rfl ?_
  obtain ⟨n, hn, rfl⟩ := wb_of x
  have h8 : n < 256 ^ 8 := hn
  have m1 : b1 8 n < 2 ^ 64 := Nat.lt_of_le_of_lt (Nat.sub_le _ _) hn
  have e1 : lN n - (((lN n).toUInt64 >>> ((1 : Int32).toInt64.toUInt64 &&& Int64.toUInt64 63)).toInt64 &&& 6148914691236517205) = lN (b1 8 n) := by
    rw [bc_sh (k := 1) 1 rfl hn (by decide), show (6148914691236517205 : Int64) = lN (bm 85 8) by decide, wb_and (by omega) (by decide), lN_sub' (b1_n 8 n h8) hn]
    rfl
  have m2 : b2 8 (b1 8 n) < 2 ^ 64 := by
    have : ∀ y : Nat, (y &&& bm 51 8) ≤ bm 51 8 := fun y => Nat.and_le_right
    have h1 := this (b1 8 n)
    have h2 := this (b1 8 n / 4)
    have h3 : bm 51 8 = 3689348814741910323 := by decide
    unfold b2
    omega
  have e2 : (lN (b1 8 n) &&& 3689348814741910323) + (((lN (b1 8 n)).toUInt64 >>> ((2 : Int32).toInt64.toUInt64 &&& Int64.toUInt64 63)).toInt64 &&& 3689348814741910323) = lN (b2 8 (b1 8 n)) := by
    rw [bc_sh (k := 2) 2 rfl m1 (by decide), show (3689348814741910323 : Int64) = lN (bm 51 8) by decide, wb_and m1 (by decide), wb_and (by omega) (by decide), lN_add']
    rfl
  have m3 : b2 8 (b1 8 n) + b2 8 (b1 8 n) / 16 < 2 ^ 64 := by
    have : ∀ y : Nat, (y &&& bm 51 8) ≤ bm 51 8 := fun y => Nat.and_le_right
    have h1 := this (b1 8 n)
    have h2 := this (b1 8 n / 4)
    have h3 : bm 51 8 = 3689348814741910323 := by decide
    unfold b2
    omega
  have e3 : (lN (b2 8 (b1 8 n)) + ((lN (b2 8 (b1 8 n))).toUInt64 >>> ((4 : Int32).toInt64.toUInt64 &&& Int64.toUInt64 63)).toInt64) &&& 1085102592571150095 = lN (bp 8 n) := by
    rw [bc_sh (k := 4) 4 rfl m2 (by decide), lN_add', show (1085102592571150095 : Int64) = lN (bm 15 8) by decide, wb_and m3 (by decide)]
    exact congrArg lN (b_all 8 n h8)
  obtain ⟨p, hp, hP, hc⟩ := b_sum (x := n)
  obtain ⟨t1, t2, t3, r1, r2, r3, r4, g0, g1, g2, g3⟩ := b_fin p hp hP
  have e4 : lN (bp 8 n) + ((lN (bp 8 n)).toUInt64 >>> ((8 : Int32).toInt64.toUInt64 &&& Int64.toUInt64 63)).toInt64 = lN t1 := by
    rw [bc_sh (k := 8) 8 rfl g0 (by decide), lN_add', r1]
  have e5 : lN t1 + ((lN t1).toUInt64 >>> ((16 : Int32).toInt64.toUInt64 &&& Int64.toUInt64 63)).toInt64 = lN t2 := by
    rw [bc_sh (k := 16) 16 rfl g1 (by decide), lN_add', r2]
  have e6 : lN t2 + ((lN t2).toUInt64 >>> ((32 : Int32).toInt64.toUInt64 &&& Int64.toUInt64 63)).toInt64 = lN t3 := by
    rw [bc_sh (k := 32) 32 rfl g2 (by decide), lN_add', r3]
  iterate 4 refine pw_go tk_J13_bitCount_95d88 rfl rfl ?_
  refine pw_ldc2 tk_J13_bitCount_95d88 rfl kc_J13_314 ?_
  iterate 3 refine pw_go tk_J13_bitCount_95d88 rfl rfl ?_
  refine pw_M [(0, .long (lN (b1 8 n)))] ⟨congrArg (fun z => some (Value.long z)) e1, trivial⟩ ?_
  refine pw_go tk_J13_bitCount_95d88 rfl rfl ?_
  refine pw_ldc2 tk_J13_bitCount_95d88 rfl kc_J13_316 ?_
  iterate 4 refine pw_go tk_J13_bitCount_95d88 rfl rfl ?_
  refine pw_ldc2 tk_J13_bitCount_95d88 rfl kc_J13_316 ?_
  iterate 3 refine pw_go tk_J13_bitCount_95d88 rfl rfl ?_
  refine pw_M [(0, .long (lN (b2 8 (b1 8 n))))] ⟨congrArg (fun z => some (Value.long z)) e2, trivial⟩ ?_
  iterate 5 refine pw_go tk_J13_bitCount_95d88 rfl rfl ?_
  refine pw_ldc2 tk_J13_bitCount_95d88 rfl kc_J13_318 ?_
  iterate 2 refine pw_go tk_J13_bitCount_95d88 rfl rfl ?_
  refine pw_M [(0, .long (lN (bp 8 n)))] ⟨congrArg (fun z => some (Value.long z)) e3, trivial⟩ ?_
  iterate 6 refine pw_go tk_J13_bitCount_95d88 rfl rfl ?_
  refine pw_M [(0, .long (lN t1))] ⟨congrArg (fun z => some (Value.long z)) e4, trivial⟩ ?_
  iterate 6 refine pw_go tk_J13_bitCount_95d88 rfl rfl ?_
  refine pw_M [(0, .long (lN t2))] ⟨congrArg (fun z => some (Value.long z)) e5, trivial⟩ ?_
  iterate 6 refine pw_go tk_J13_bitCount_95d88 rfl rfl ?_
  refine pw_M [(0, .long (lN t3))] ⟨congrArg (fun z => some (Value.long z)) e6, trivial⟩ ?_
  iterate 4 refine pw_go tk_J13_bitCount_95d88 rfl rfl ?_
  have hg : cu (gb (lN n)) 64 = t3 % 128 := by
    rw [r4, ← hc]
    exact cu_congr (fun i hi => gb_lN hi)
  rw [hg]
  refine pw_i (x' := nI (t3 % 128)) (bc_l2i t3) ?_
  exact pw_iretp tk_J13_bitCount_95d88 rfl rfl
end BCNT
end
section
/-! DAYS, the numbers: intervals, counting by words, the first day behind so many -/
theorem max0 {a b : Nat} (ha : a < 1073741824) (hb : b < 1073741824) : (if (0 : Int32) < nI a - nI b then nI a - nI b else 0) = nI (a - b) := by
  by_cases h : b < a
  · have q : (0 : Int32) < nI (a - b) := (nI_ltI (a := 0) (b := a - b) (by decide) (by omega)).mpr (by omega)
    rw [pk_sub (show b ≤ a by omega), if_pos q]
  · have e : ¬ (0 : Int32) < nI a - nI b := by
      rw [Int32.lt_iff_toInt_lt]
      have h1 := nI_toInt (n := a) (by omega)
      have h2 := nI_toInt (n := b) (by omega)
      rw [Int32.toInt_sub, h1, h2]
      rw [Int.bmod_eq_of_le (by omega) (by omega)]
      show ¬ (0 : Int) < _
      omega
    rw [if_neg e, show a - b = 0 by omega]
    rfl
theorem min64 {a b : Nat} (ha : a < 1073741824) (hb : b < 1073741824) (h : b ≤ a) : (if nI a - nI b < (64 : Int32) then nI a - nI b else 64) = nI (min 64 (a - b)) := by
  rw [pk_sub h]
  by_cases c : a - b < 64
  · have q : nI (a - b) < (64 : Int32) := (nI_ltI (b := 64) (by omega) (by decide)).mpr c
    rw [if_pos q, Nat.min_eq_right (by omega)]
  · have q : ¬ nI (a - b) < (64 : Int32) := fun z => c ((nI_ltI (b := 64) (by omega) (by decide)).mp z)
    rw [if_neg q, Nat.min_eq_left (by omega)]
    rfl
theorem min64n {a b : Nat} (ha : a < 1073741824) (hb : b < 1073741824) (h : a < b) : nI a - nI b < (64 : Int32) ∧ ∀ k : Nat, k < 1073741824 → ¬ nI k < nI a - nI b := by
  have h1 := nI_toInt (n := a) (by omega)
  have h2 := nI_toInt (n := b) (by omega)
  constructor
  · rw [Int32.lt_iff_toInt_lt, Int32.toInt_sub, h1, h2, Int.bmod_eq_of_le (by omega) (by omega)]
    show _ < (64 : Int)
    omega
  · intro k hk
    have h3 := nI_toInt (n := k) (by omega)
    rw [Int32.lt_iff_toInt_lt, Int32.toInt_sub, h1, h2, h3, Int.bmod_eq_of_le (by omega) (by omega)]
    omega
/-- the days from a on, ahead of b -/
def iv (a b : Nat) : Nat → Bool := fun d => decide (a ≤ d) && decide (d < b)
theorem wd_iv {a b w : Nat} (hb : b < 64 * w + 64) (hlt : a < b) (hw : 64 * w ≤ b) : ((((1 : Int64) <<< ((nI (b - 64 * w)).toInt64 &&& 63)) - 1) &&& ((-1 : Int64) <<< ((nI (a - 64 * w)).toInt64 &&& 63))) = wd (iv a b) w := by
  apply wd_of
  intro i hi
  rw [gb_and, gb_dn _ (by omega) _ hi, gb_up _ (by omega) _ hi]
  unfold iv
  rw [Bool.and_comm]
  congr 1
  · exact decide_eq_decide.mpr (by omega)
  · exact decide_eq_decide.mpr (by omega)
theorem wd_iv64 {a b w : Nat} (hb : 64 * w + 64 ≤ b) (hlt : a < 64 * w + 64) : ((-1 : Int64) &&& ((-1 : Int64) <<< ((nI (a - 64 * w)).toInt64 &&& 63))) = wd (iv a b) w := by
  apply wd_of
  intro i hi
  rw [gb_and, gb_m1 hi, gb_up _ (by omega) _ hi]
  unfold iv
  rw [Bool.true_and, show decide (64 * w + i < b) = true from decide_eq_true (by omega), Bool.and_true]
  exact decide_eq_decide.mpr (by omega)
theorem wd_iv0 {a b w : Nat} (h : 64 * w + 64 ≤ a ∨ b ≤ a ∨ b ≤ 64 * w) : (0 : Int64) = wd (iv a b) w := by
  apply wd_of
  intro i hi
  rw [gb_0]
  unfold iv
  rcases Nat.lt_or_ge (64 * w + i) a with c | c
  · rw [show decide (a ≤ 64 * w + i) = false from decide_eq_false (by omega)]
    rfl
  · rw [show decide (64 * w + i < b) = false from decide_eq_false (by omega), Bool.and_false]
theorem cu_word {p : Nat → Bool} {x : Int64} {w : Nat} (h : ∀ i, i < 64 → gb x i = p (64 * w + i)) : cu (gb x) 64 + cu p (64 * w) = cu p (64 * (w + 1)) := by
  rw [show 64 * (w + 1) = 64 * w + 64 by omega, cu_add, Nat.add_comm, cu_congr h]
/-- the first day behind so many of f's, from t on; k days more are looked at, else e -/
def db (f : Nat → Bool) : Nat → Nat → Nat → Nat → Nat
  | 0, t, _, _ => t
  | _ + 1, _, 0, e => e
  | n + 1, t, k + 1, e => db f (n + 1 - (if f t = true then 1 else 0)) (t + 1) k e
theorem db_0 {f : Nat → Bool} {t k e : Nat} : db f 0 t k e = t := by cases k <;> rfl
theorem db_e {f : Nat → Bool} {n t e : Nat} (h : 0 < n) : db f n t 0 e = e := by
  cases n with
  | zero => omega
  | succ n => rfl
theorem db_s {f : Nat → Bool} {n t k e : Nat} (h : 0 < n) : db f n t (k + 1) e = db f (n - (if f t = true then 1 else 0)) (t + 1) k e := by
  cases n with
  | zero => omega
  | succ n => rfl
/-- past so many days that are too few -/
theorem db_skip {f : Nat → Bool} {e : Nat} : ∀ (a n t k : Nat), cu (fun i => f (t + i)) a < n → db f n t (a + k) e = db f (n - cu (fun i => f (t + i)) a) (t + a) k e
  | 0, n, t, k, h => by rw [Nat.zero_add]; rfl
  | a + 1, n, t, k, h => by
    have e1 : cu (fun i => f (t + i)) (a + 1) = (if f t = true then 1 else 0) + cu (fun i => f (t + 1 + i)) a := by
      rw [Nat.add_comm a 1, cu_add]
      have e2 : cu (fun i => f (t + i)) 1 = if f t = true then 1 else 0 := by
        show 0 + (if f (t + 0) = true then 1 else 0) = _
        rw [Nat.zero_add, Nat.add_zero]
      have e3 : cu (fun i => (fun i => f (t + i)) (1 + i)) a = cu (fun i => f (t + 1 + i)) a := cu_congr (fun i _ => by show f _ = f _; rw [Nat.add_assoc])
      rw [e2, e3]
    rw [show a + 1 + k = (a + k) + 1 by omega, db_s (by omega), db_skip a _ (t + 1) k (by omega), e1]
    congr 1
    · omega
    · omega
/-- found within the first days -/
theorem db_found {f : Nat → Bool} {e e' : Nat} : ∀ (a n t k : Nat), n ≤ cu (fun i => f (t + i)) a → db f n t (a + k) e = db f n t a e'
  | 0, n, t, k, h => by
    have : n = 0 := Nat.le_zero.mp h
    subst this
    rw [db_0, db_0]
  | a + 1, n, t, k, h => by
    cases n with
    | zero => rw [db_0, db_0]
    | succ n =>
      have e1 : cu (fun i => f (t + i)) (a + 1) = (if f t = true then 1 else 0) + cu (fun i => f (t + 1 + i)) a := by
        rw [Nat.add_comm a 1, cu_add]
        have e2 : cu (fun i => f (t + i)) 1 = if f t = true then 1 else 0 := by
          show 0 + (if f (t + 0) = true then 1 else 0) = _
          rw [Nat.zero_add, Nat.add_zero]
        have e3 : cu (fun i => (fun i => f (t + i)) (1 + i)) a = cu (fun i => f (t + 1 + i)) a := cu_congr (fun i _ => by show f _ = f _; rw [Nat.add_assoc])
        rw [e2, e3]
      rw [show a + 1 + k = (a + k) + 1 by omega, db_s (by omega), db_s (by omega), db_found (e' := e') a _ (t + 1) k (by omega)]
theorem db_shift {f g : Nat → Bool} {s : Nat} (h : ∀ i, f i = g (s + i)) : ∀ (k n t e : Nat), db g n (s + t) k (s + e) = s + db f n t k e
  | k, 0, t, e => by rw [db_0, db_0]
  | 0, n + 1, t, e => rfl
  | k + 1, n + 1, t, e => by
    rw [db_s (by omega), db_s (by omega), h t, Nat.add_assoc s t 1, db_shift h k]
theorem db_congr {f g : Nat → Bool} : ∀ (k n t e : Nat), (∀ i, t ≤ i → i < t + k → f i = g i) → db f n t k e = db g n t k e
  | k, 0, t, e, _ => by rw [db_0, db_0]
  | 0, n + 1, t, e, _ => rfl
  | k + 1, n + 1, t, e, h => by
    rw [db_s (by omega), db_s (by omega), h t (Nat.le_refl _) (by omega), db_congr k _ (t + 1) e (fun i h1 h2 => h i (by omega) (by omega))]
/-- what it is: the least day behind so many, or there is none -/
theorem db_spec {f : Nat → Bool} {e : Nat} : ∀ (k n t : Nat), (t ≤ db f n t k e ∧ db f n t k e ≤ t + k ∧ n ≤ cu f (db f n t k e) - cu f t ∧ ∀ i, t ≤ i → i < db f n t k e → cu f i - cu f t < n) ∨ (db f n t k e = e ∧ cu f (t + k) - cu f t < n)
  | k, 0, t => Or.inl (by
      rw [db_0]
      exact ⟨Nat.le_refl _, by omega, by omega, fun i h1 h2 => by omega⟩)
  | 0, n + 1, t => Or.inr ⟨rfl, by rw [Nat.add_zero, Nat.sub_self]; omega⟩
  | k + 1, n + 1, t => by
    rw [db_s (by omega)]
    have hu : cu f (t + 1) = cu f t + (if f t = true then 1 else 0) := rfl
    generalize hc : (if f t = true then 1 else 0) = c at *
    have hc1 : c ≤ 1 := by subst hc; split <;> omega
    have hm : ∀ i, t + 1 ≤ i → cu f (t + 1) ≤ cu f i := fun i hi => cu_mono f hi
    rcases db_spec (f := f) (e := e) k (n + 1 - c) (t + 1) with ⟨h1, h2, h3, h4⟩ | ⟨h1, h2⟩
    · left
      have h5 := hm _ h1
      refine ⟨by omega, by omega, by omega, fun i hi1 hi2 => ?_⟩
      by_cases e9 : i = t
      · subst e9
        omega
      · have h6 := hm i (by omega)
        have h7 := h4 i (by omega) hi2
        omega
    · right
      have h5 := hm (t + 1 + k) (by omega)
      rw [show t + (k + 1) = t + 1 + k by omega]
      exact ⟨h1, by omega⟩
end
section
/-! DAYS: the class's sets of days -/
section CDAYS
variable {G : fw_G} {h : fw_H}
set_option maxRecDepth 20000 in
theorem c_bitsOf {w a b : Nat} (hw : w < 1000) (ha : a < 1073741824) (hb : b < 1073741824) : PM G 0 0 0 mm_X3_bitsOf [.int (nI w), .int (nI a), .int (nI b)] h (fw_qpL (wd (iv a b) w) h) := by
  refine pm_of (by decide +kernel) rfl rfl rfl ?_
  iterate 4 refine pw_go tk_X3_bitsOf rfl rfl ?_
  refine pw_mulN (w) (64) tk_X3_bitsOf rfl rfl rfl ?_
  refine pw_go tk_X3_bitsOf rfl rfl ?_
  refine pw_max tk_X3_bitsOf rfl lk_X3_21 rfl ?_
  refine pw_i (x' := nI (a - w * 64)) (max0 ha (by omega)) ?_
  iterate 5 refine pw_go tk_X3_bitsOf rfl rfl ?_
  refine pw_mulN (w) (64) tk_X3_bitsOf rfl rfl rfl ?_
  refine pw_go tk_X3_bitsOf rfl rfl ?_
  refine pw_min tk_X3_bitsOf rfl lk_X3_15 rfl ?_
  by_cases c : w * 64 ≤ b
  · refine pw_i (x' := nI (min 64 (b - w * 64))) (min64 hb (by omega) c) ?_
    iterate 3 refine pw_go tk_X3_bitsOf rfl rfl ?_
    refine pw_icN (a - w * 64) (min 64 (b - w * 64)) tk_X3_bitsOf rfl rfl rfl (by omega) (by omega) (fun c1 => ?_) (fun c1 => ?_)
    · skip
      have c1 : a - w * 64 < min 64 (b - w * 64) := c1
      iterate 2 refine pw_go tk_X3_bitsOf rfl rfl ?_
      refine pw_icN (min 64 (b - w * 64)) (64) tk_X3_bitsOf rfl rfl rfl (by omega) (by omega) (fun c2 => ?_) (fun c2 => ?_)
      · have c2 : min 64 (b - w * 64) ≠ 64 := c2
        iterate 7 refine pw_go tk_X3_bitsOf rfl rfl ?_
        refine pw_ldc2 tk_X3_bitsOf rfl kc_X3_28 ?_
        iterate 3 refine pw_go tk_X3_bitsOf rfl rfl ?_
        refine pw_lret tk_X3_bitsOf rfl rfl ⟨_, rfl, ?_, rfl⟩
        rw [← wd_iv (a := a) (b := b) (w := w) (by omega) (by omega) (by omega), show b - 64 * w = min 64 (b - w * 64) by omega, Nat.mul_comm 64 w]
        rfl
      · have c2 : min 64 (b - w * 64) = 64 := Classical.not_not.mp c2
        refine pw_ldc2 tk_X3_bitsOf rfl kc_X3_28 ?_
        iterate 3 refine pw_go tk_X3_bitsOf rfl rfl ?_
        refine pw_ldc2 tk_X3_bitsOf rfl kc_X3_28 ?_
        iterate 3 refine pw_go tk_X3_bitsOf rfl rfl ?_
        refine pw_lret tk_X3_bitsOf rfl rfl ⟨_, rfl, ?_, rfl⟩
        rw [← wd_iv64 (a := a) (b := b) (w := w) (by omega) (by omega), Nat.mul_comm 64 w]
    · skip
      have c1 : ¬ (a - w * 64 < min 64 (b - w * 64)) := c1
      refine pw_go tk_X3_bitsOf rfl rfl ?_
      refine pw_lret tk_X3_bitsOf rfl rfl ⟨_, rfl, ?_, rfl⟩
      exact wd_iv0 (by omega)
  · have c9 := min64n hb (show w * 64 < 1073741824 by omega) (show b < w * 64 by omega)
    refine pw_i (x' := nI b - nI (w * 64)) (if_pos c9.1) ?_
    iterate 3 refine pw_go tk_X3_bitsOf rfl rfl ?_
    refine pw_br tk_X3_bitsOf rfl rfl (fun c1 => ?_) (fun c1 => ?_)
    · exact absurd c1 (c9.2 _ (by omega))
    · skip
      refine pw_go tk_X3_bitsOf rfl rfl ?_
      refine pw_lret tk_X3_bitsOf rfl rfl ⟨_, rfl, ?_, rfl⟩
      exact wd_iv0 (by omega)
theorem nI_dec {m : Nat} (h : 0 < m) : nI m + (-1) = nI (m - 1) := by
  obtain ⟨k, rfl⟩ : ∃ k, m = k + 1 := ⟨m - 1, by omega⟩
  rw [← nI_add k 1, Int32.add_assoc, show nI 1 + (-1) = 0 by decide, Int32.add_zero]
  rfl
set_option maxRecDepth 20000 in
theorem c_bitBehind {x : Int64} {n : Nat} (hn : 0 < n) (hn2 : n < 1073741824) : PM G 0 0 0 mm_X3_bitBehind [.long x, .int (nI n)] h (fw_qp (nI (db (gb x) n 0 64 64)) h) := by
  refine pm_of (by decide +kernel) rfl rfl rfl ?_
  have loop : ∀ (j k m : Nat), k + j = 64 → 0 < m → m < 1073741824 → db (gb x) m k j 64 = db (gb x) n 0 64 64 → PW G mm_X3_bitBehind (fw_qp (nI (db (gb x) n 0 64 64)) h) 0 0 0 h 5 [(0, .long x), (2, .int (nI n)), (3, .int (nI m)), (4, .int (nI k))] [] := by
    intro j
    induction j with
    | zero =>
      intro k m hk hm hm2 he
      have hk : k = 64 := by omega
      subst hk
      iterate 2 refine pw_go tk_X3_bitBehind rfl rfl ?_
      refine pw_icN (64) (64) tk_X3_bitBehind rfl rfl rfl (by omega) (by omega) (fun c => ?_) (fun c => absurd (Nat.le_refl 64) c)
      refine pw_go tk_X3_bitBehind rfl rfl ?_
      refine pw_i (x' := nI (db (gb x) n 0 64 64)) (by rw [← he, db_e hm]; rfl) ?_
      exact pw_iretp tk_X3_bitBehind rfl rfl
    | succ j ih =>
      intro k m hk hm hm2 he
      rw [db_s hm] at he
      iterate 2 refine pw_go tk_X3_bitBehind rfl rfl ?_
      refine pw_icN (k) (64) tk_X3_bitBehind rfl rfl rfl (by omega) (by omega) (fun c => absurd (show 64 ≤ k from c) (by omega)) (fun c => ?_)
      iterate 5 refine pw_go tk_X3_bitBehind rfl rfl ?_
      have hb := gb_at x (k := k) (by omega)
      have k26 : ∀ m', m' ≤ m → db (gb x) m' (k + 1) j 64 = db (gb x) n 0 64 64 → PW G mm_X3_bitBehind (fw_qp (nI (db (gb x) n 0 64 64)) h) 0 0 0 h 26 [(0, .long x), (2, .int (nI n)), (3, .int (nI m')), (4, .int (nI k))] [] := by
        intro m' hm' he'
        refine pw_go tk_X3_bitBehind rfl rfl ?_
        refine pw_ifN (m') tk_X3_bitBehind rfl rfl (by omega) (fun c => ?_) (fun c => ?_)
        · skip
          iterate 2 refine pw_go tk_X3_bitBehind rfl rfl ?_
          refine pw_M [(0, .long x), (2, .int (nI n)), (3, .int (nI m')), (4, .int (nI (k + 1)))] ⟨rfl, rfl, rfl, congrArg (fun z => some (Value.int z)) (nI_1 k), trivial⟩ ?_
          exact ih (k + 1) m' (by omega) c (by omega) he'
        · skip
          have c : ¬ 0 < m' := c
          have c : m' = 0 := by omega
          subst c
          rw [db_0] at he'
          iterate 2 refine pw_go tk_X3_bitBehind rfl rfl ?_
          refine pw_addN (k) (1) tk_X3_bitBehind rfl rfl rfl ?_
          refine pw_i (x' := nI (db (gb x) n 0 64 64)) (by rw [he']) ?_
          exact pw_iretp tk_X3_bitBehind rfl rfl
      cases hg : gb x k with
      | true =>
        rw [hg] at he
        refine pw_l (x' := 1) (hb.1.mpr hg) ?_
        iterate 2 refine pw_go tk_X3_bitBehind rfl rfl ?_
        refine pw_br tk_X3_bitBehind rfl rfl (fun c => absurd c (by decide)) (fun c => ?_)
        refine pw_go tk_X3_bitBehind rfl rfl ?_
        refine pw_M [(0, .long x), (2, .int (nI n)), (3, .int (nI (m - 1))), (4, .int (nI k))] ⟨rfl, rfl, congrArg (fun z => some (Value.int z)) (nI_dec hm), rfl, trivial⟩ ?_
        exact k26 (m - 1) (by omega) he
      | false =>
        rw [hg] at he
        refine pw_l (x' := 0) (hb.2.mpr hg) ?_
        iterate 2 refine pw_go tk_X3_bitBehind rfl rfl ?_
        refine pw_br tk_X3_bitBehind rfl rfl (fun c => ?_) (fun c => absurd rfl c)
        refine pw_M [(0, .long x), (2, .int (nI n)), (3, .int (nI m)), (4, .int (nI k))] ⟨rfl, rfl, rfl, rfl, trivial⟩ ?_
        exact k26 m (by omega) he
  iterate 4 refine pw_go tk_X3_bitBehind rfl rfl ?_
  refine pw_M [(0, .long x), (2, .int (nI n)), (3, .int (nI n)), (4, .int (nI 0))] ⟨rfl, rfl, rfl, rfl, trivial⟩ ?_
  exact loop 64 0 n (by omega) hn hn2 rfl
/-- a set of days lies at b, its words at wa -/
def dyAt (h : fw_H) (b wa : Nat) (p : Nat → Bool) : Prop := h b = some (.inr (6, [.ref wa])) ∧ h wa = some (.inl (1, 313, .inr (.inl (wd p))))
section
variable {b wa : Nat} {p : Nat → Bool}
set_option maxRecDepth 20000 in
theorem c_has {d : Nat} (HD : dyAt h b wa p) (hd : d < 20032) : PM G 0 0 0 mm_X3_has [.ref b, .int (nI d)] h (fw_qp (bI (p d)) h) := by
  refine pm_of (by decide +kernel) rfl rfl rfl ?_
  obtain ⟨ho, hw⟩ := HD
  iterate 2 refine pw_go tk_X3_has rfl rfl ?_
  refine pw_divN (d) (64) tk_X3_has rfl rfl rfl (by omega) (by omega) (by omega) ?_
  iterate 2 refine pw_go tk_X3_has rfl rfl ?_
  refine pw_ifN (d) tk_X3_has rfl rfl (by omega) (fun c => absurd (show d < 0 from c) (by omega)) (fun c => ?_)
  iterate 2 refine pw_go tk_X3_has rfl rfl ?_
  refine pw_get tk_X3_has rfl fl_X3_11 ho rfl ?_
  refine pw_alen tk_X3_has rfl hw (by decide) ?_
  refine pw_icN (d / 64) (313) tk_X3_has rfl rfl rfl (by omega) (by omega) (fun c => absurd (show 313 ≤ d / 64 from c) (by omega)) (fun c => ?_)
  refine pw_go tk_X3_has rfl rfl ?_
  refine pw_get tk_X3_has rfl fl_X3_11 ho rfl ?_
  refine pw_go tk_X3_has rfl rfl ?_
  refine pw_laldN tk_X3_has rfl hw rfl (by omega) (by omega) ?_
  iterate 2 refine pw_go tk_X3_has rfl rfl ?_
  refine pw_remN (d) (64) tk_X3_has rfl rfl rfl (by omega) (by omega) (by omega) ?_
  iterate 3 refine pw_go tk_X3_has rfl rfl ?_
  have hb := gb_at (wd p (d / 64)) (k := d % 64) (by omega)
  have hg : gb (wd p (d / 64)) (d % 64) = p d := by rw [gb_wd _ _ (by omega), Nat.div_add_mod]
  cases hp : p d with
  | true =>
    refine pw_l (x' := 1) (hb.1.mpr (hg.trans hp)) ?_
    iterate 2 refine pw_go tk_X3_has rfl rfl ?_
    refine pw_br tk_X3_has rfl rfl (fun c => absurd c (by decide)) (fun c => ?_)
    iterate 2 refine pw_go tk_X3_has rfl rfl ?_
    exact pw_zretp (b := true) tk_X3_has rfl rfl
  | false =>
    refine pw_l (x' := 0) (hb.2.mpr (hg.trans hp)) ?_
    iterate 2 refine pw_go tk_X3_has rfl rfl ?_
    refine pw_br tk_X3_has rfl rfl (fun c => ?_) (fun c => absurd rfl c)
    refine pw_go tk_X3_has rfl rfl ?_
    exact pw_zretp (b := false) tk_X3_has rfl rfl
set_option maxRecDepth 20000 in
theorem c_put {x z : Nat} (HD : dyAt h b wa p) (hx : x < 1073741824) (hz : z < 1073741824) : PM G 1 0 0 mm_X3_put [.ref b, .int (nI x), .int (nI z)] h (fw_qV (fun h' => h' = fw_up h wa (.inl (1, 313, .inr (.inl (wd (fun d => p d || iv x (min z 20000) d)))))) fw_noX) := by
  refine pm_of (by decide +kernel) rfl rfl rfl ?_
  obtain ⟨ho, hw⟩ := HD
  obtain ⟨t, ht⟩ : ∃ t, t = min z 20000 := ⟨_, rfl⟩
  rw [← ht]
  have nwb : b ≠ wa := fw_ne ho hw (fun e => nomatch e)
  have fin : ∀ k, t ≤ 64 * k → (fun d => p d || (decide (d < 64 * k) && iv x t d)) = (fun d => p d || iv x t d) := by
    intro k hk
    funext d
    congr 1
    unfold iv
    by_cases hd : d < t
    · rw [decide_eq_true (show d < 64 * k by omega), Bool.true_and]
    · rw [decide_eq_false hd, Bool.and_false, Bool.and_false]
  have hst : (fun d => p d || (decide (d < 64 * (x / 64)) && iv x t d)) = p := by
    funext d
    unfold iv
    by_cases hd : d < 64 * (x / 64)
    · rw [decide_eq_false (show ¬ x ≤ d by omega), Bool.false_and, Bool.and_false, Bool.or_false]
    · rw [decide_eq_false hd, Bool.false_and, Bool.or_false]
  have stp : ∀ k, vp_updL (wd (fun d => p d || (decide (d < 64 * k) && iv x t d))) k (wd (fun d => p d || (decide (d < 64 * k) && iv x t d)) k ||| wd (iv x t) k) = wd (fun d => p d || (decide (d < 64 * (k + 1)) && iv x t d)) := by
    intro k
    funext w
    unfold vp_updL
    by_cases e : w = k
    · subst e
      rw [if_pos rfl]
      apply wd_of
      intro i hi
      rw [gb_or, gb_wd _ _ hi, gb_wd _ _ hi, decide_eq_false (show ¬ 64 * w + i < 64 * w by omega), decide_eq_true (show 64 * w + i < 64 * (w + 1) by omega), Bool.false_and, Bool.or_false, Bool.true_and]
    · rw [if_neg e]
      apply wd_congr
      intro i hi
      congr 2
      exact decide_eq_decide.mpr (by omega)
  have loop : ∀ (n k : Nat), k + n = 313 + x / 64 → PW G mm_X3_put (fw_qV (fun h' => h' = fw_up h wa (.inl (1, 313, .inr (.inl (wd (fun d => p d || iv x t d)))))) fw_noX) 1 0 0 (fw_up h wa (.inl (1, 313, .inr (.inl (wd (fun d => p d || (decide (d < 64 * k) && iv x t d))))))) 18 [(0, .ref b), (1, .int (nI x)), (2, .int (nI z)), (3, .int (nI t)), (4, .int (nI k))] [] := by
    intro n
    induction n with
    | zero =>
      intro k hk
      iterate 2 refine pw_go tk_X3_put rfl rfl ?_
      refine pw_get tk_X3_put rfl fl_X3_11 ((fw_up_n nwb).trans ho) rfl ?_
      refine pw_alen tk_X3_put rfl fw_up_s (by decide) ?_
      refine pw_icN (k) (313) tk_X3_put rfl rfl rfl (by omega) (by omega) (fun c => ?_) (fun c => absurd (show 313 ≤ k by omega) c)
      exact pw_vret tk_X3_put rfl rfl ⟨rfl, by rw [fin k (by omega)]⟩
    | succ n ih =>
      intro k hk
      iterate 2 refine pw_go tk_X3_put rfl rfl ?_
      refine pw_get tk_X3_put rfl fl_X3_11 ((fw_up_n nwb).trans ho) rfl ?_
      refine pw_alen tk_X3_put rfl fw_up_s (by decide) ?_
      refine pw_icN (k) (313) tk_X3_put rfl rfl rfl (by omega) (by omega) (fun c => ?_) (fun c => ?_)
      · skip
        have c : 313 ≤ k := c
        exact pw_vret tk_X3_put rfl rfl ⟨rfl, by rw [fin k (by omega)]⟩
      · skip
        have c : ¬ 313 ≤ k := c
        iterate 2 refine pw_go tk_X3_put rfl rfl ?_
        refine pw_mulN (k) (64) tk_X3_put rfl rfl rfl ?_
        refine pw_go tk_X3_put rfl rfl ?_
        refine pw_icN (k * 64) (t) tk_X3_put rfl rfl rfl (by omega) (by omega) (fun c2 => ?_) (fun c2 => ?_)
        · skip
          have c2 : t ≤ k * 64 := c2
          exact pw_vret tk_X3_put rfl rfl ⟨rfl, by rw [fin k (by omega)]⟩
        · skip
          refine pw_go tk_X3_put rfl rfl ?_
          refine pw_get tk_X3_put rfl fl_X3_11 ((fw_up_n nwb).trans ho) rfl ?_
          iterate 2 refine pw_go tk_X3_put rfl rfl ?_
          refine pw_laldN tk_X3_put rfl fw_up_s rfl (by omega) (by omega) ?_
          iterate 3 refine pw_go tk_X3_put rfl rfl ?_
          refine pw_cspL tk_X3_put rfl ca_X3_bitsOf lk_X3_24 sx_X3_bitsOf (As := [.int (nI k), .int (nI x), .int (nI t)]) (rest := [.long (wd (fun d => p d || (decide (d < 64 * k) && iv x t d)) k), .int (nI k), .ref wa]) (c_bitsOf (by omega) hx (by omega)) rfl rfl rfl rfl ?_
          refine pw_go tk_X3_put rfl rfl ?_
          refine pw_lastN tk_X3_put rfl fw_up_s rfl (by omega) (by omega) ?_
          refine pw_h (by rw [fw_up_2, stp]) ?_
          iterate 2 refine pw_go tk_X3_put rfl rfl ?_
          refine pw_M [(0, .ref b), (1, .int (nI x)), (2, .int (nI z)), (3, .int (nI t)), (4, .int (nI (k + 1)))] ⟨rfl, rfl, rfl, rfl, congrArg (fun z => some (Value.int z)) (nI_1 k), trivial⟩ ?_
          exact ih (k + 1) (by omega)
  iterate 2 refine pw_go tk_X3_put rfl rfl ?_
  refine pw_minN (z) (20000) tk_X3_put rfl lk_X3_15 rfl rfl (by omega) (by omega) rfl ?_
  refine pw_i (x' := nI t) (by rw [ht]) ?_
  iterate 3 refine pw_go tk_X3_put rfl rfl ?_
  refine pw_maxN (x) (0) tk_X3_put rfl lk_X3_21 rfl rfl (by omega) (by omega) rfl ?_
  refine pw_go tk_X3_put rfl rfl ?_
  refine pw_divN (max x 0) (64) tk_X3_put rfl rfl rfl (by omega) (by omega) (by omega) ?_
  refine pw_go tk_X3_put rfl rfl ?_
  refine pw_h (h' := fw_up h wa (.inl (1, 313, .inr (.inl (wd (fun d => p d || (decide (d < 64 * (x / 64)) && iv x t d))))))) (by rw [hst, fw_up_i hw]) ?_
  refine pw_M [(0, .ref b), (1, .int (nI x)), (2, .int (nI z)), (3, .int (nI t)), (4, .int (nI (x / 64)))] ⟨rfl, rfl, rfl, rfl, congrArg (fun z => some (Value.int (nI (z / 64)))) (by omega), trivial⟩ ?_
  exact loop 313 (x / 64) (by omega)
set_option maxRecDepth 20000 in
theorem c_clear (HD : dyAt h b wa p) (hp : ∀ d, 20000 ≤ d → p d = false) : PM G 0 0 0 mm_X3_clear [.ref b] h (fw_qV (fun h' => h' = fw_up h wa (.inl (1, 313, .inr (.inl (wd (fun _ => false)))))) fw_noX) := by
  refine pm_of (by decide +kernel) rfl rfl rfl ?_
  obtain ⟨ho, hw⟩ := HD
  have nwb : b ≠ wa := fw_ne ho hw (fun e => nomatch e)
  have hst : (fun d => p d && decide (64 * 0 ≤ d)) = p := by
    funext d
    rw [decide_eq_true (show 64 * 0 ≤ d by omega), Bool.and_true]
  have fin : (fun d => p d && decide (64 * 313 ≤ d)) = (fun _ => false) := by
    funext d
    by_cases hd : 20000 ≤ d
    · rw [hp d hd, Bool.false_and]
    · rw [decide_eq_false (show ¬ 64 * 313 ≤ d by omega), Bool.and_false]
  have stp : ∀ k, vp_updL (wd (fun d => p d && decide (64 * k ≤ d))) k 0 = wd (fun d => p d && decide (64 * (k + 1) ≤ d)) := by
    intro k
    funext w
    unfold vp_updL
    by_cases e : w = k
    · subst e
      rw [if_pos rfl]
      apply wd_of
      intro i hi
      rw [gb_0, decide_eq_false (show ¬ 64 * (w + 1) ≤ 64 * w + i by omega), Bool.and_false]
    · rw [if_neg e]
      apply wd_congr
      intro i hi
      congr 1
      exact decide_eq_decide.mpr (by omega)
  have loop : ∀ (n k : Nat), k + n = 313 → PW G mm_X3_clear (fw_qV (fun h' => h' = fw_up h wa (.inl (1, 313, .inr (.inl (wd (fun _ => false)))))) fw_noX) 0 0 0 (fw_up h wa (.inl (1, 313, .inr (.inl (wd (fun d => p d && decide (64 * k ≤ d))))))) 2 [(0, .ref b), (1, .int (nI k))] [] := by
    intro n
    induction n with
    | zero =>
      intro k hk
      have hk : k = 313 := by omega
      subst hk
      iterate 2 refine pw_go tk_X3_clear rfl rfl ?_
      refine pw_get tk_X3_clear rfl fl_X3_11 ((fw_up_n nwb).trans ho) rfl ?_
      refine pw_alen tk_X3_clear rfl fw_up_s (by decide) ?_
      refine pw_icN (313) (313) tk_X3_clear rfl rfl rfl (by omega) (by omega) (fun c => ?_) (fun c => absurd (Nat.le_refl 313) c)
      exact pw_vret tk_X3_clear rfl rfl ⟨rfl, by rw [fin]⟩
    | succ n ih =>
      intro k hk
      iterate 2 refine pw_go tk_X3_clear rfl rfl ?_
      refine pw_get tk_X3_clear rfl fl_X3_11 ((fw_up_n nwb).trans ho) rfl ?_
      refine pw_alen tk_X3_clear rfl fw_up_s (by decide) ?_
      refine pw_icN (k) (313) tk_X3_clear rfl rfl rfl (by omega) (by omega) (fun c => absurd (show 313 ≤ k from c) (by omega)) (fun c => ?_)
      refine pw_go tk_X3_clear rfl rfl ?_
      refine pw_get tk_X3_clear rfl fl_X3_11 ((fw_up_n nwb).trans ho) rfl ?_
      iterate 2 refine pw_go tk_X3_clear rfl rfl ?_
      refine pw_lastN tk_X3_clear rfl fw_up_s rfl (by omega) (by omega) ?_
      refine pw_h (fw_up_2.trans (congrArg (fun f => fw_up h wa (.inl (1, 313, .inr (.inl f)))) (stp k))) ?_
      iterate 2 refine pw_go tk_X3_clear rfl rfl ?_
      refine pw_M [(0, .ref b), (1, .int (nI (k + 1)))] ⟨rfl, congrArg (fun z => some (Value.int z)) (nI_1 k), trivial⟩ ?_
      exact ih (k + 1) (by omega)
  iterate 2 refine pw_go tk_X3_clear rfl rfl ?_
  refine pw_h (h' := fw_up h wa (.inl (1, 313, .inr (.inl (wd (fun d => p d && decide (64 * 0 ≤ d))))))) (by rw [hst, fw_up_i hw]) ?_
  refine pw_M [(0, .ref b), (1, .int (nI 0))] ⟨rfl, rfl, trivial⟩ ?_
  exact loop 313 0 (by omega)
set_option maxRecDepth 20000 in
theorem c_remove {b2 wa2 : Nat} {o : Nat → Bool} (HD : dyAt h b wa p) (HO : dyAt h b2 wa2 o) (nw : wa2 ≠ wa) (hp : ∀ d, 20000 ≤ d → o d = false) : PM G 0 0 0 mm_X3_remove [.ref b, .ref b2] h (fw_qV (fun h' => h' = fw_up h wa (.inl (1, 313, .inr (.inl (wd (fun d => p d && !o d)))))) fw_noX) := by
  refine pm_of (by decide +kernel) rfl rfl rfl ?_
  obtain ⟨ho, hw⟩ := HD
  obtain ⟨ho2, hw2⟩ := HO
  have nwb : b ≠ wa := fw_ne ho hw (fun e => nomatch e)
  have nwb2 : b2 ≠ wa := fw_ne ho2 hw (fun e => nomatch e)
  have hst : (fun d => p d && !(o d && decide (d < 64 * 0))) = p := by
    funext d
    rw [decide_eq_false (show ¬ d < 64 * 0 by omega), Bool.and_false]
    simp
  have fin : (fun d => p d && !(o d && decide (d < 64 * 313))) = (fun d => p d && !o d) := by
    funext d
    by_cases hd : 20000 ≤ d
    · rw [hp d hd, Bool.false_and]
    · rw [decide_eq_true (show d < 64 * 313 by omega), Bool.and_true]
  have stp : ∀ k, vp_updL (wd (fun d => p d && !(o d && decide (d < 64 * k)))) k (wd (fun d => p d && !(o d && decide (d < 64 * k))) k &&& (wd o k ^^^ (-1))) = wd (fun d => p d && !(o d && decide (d < 64 * (k + 1)))) := by
    intro k
    funext w
    unfold vp_updL
    by_cases e : w = k
    · subst e
      rw [if_pos rfl]
      apply wd_of
      intro i hi
      rw [gb_and, gb_not _ hi, gb_wd _ _ hi, gb_wd _ _ hi, decide_eq_false (show ¬ 64 * w + i < 64 * w by omega), decide_eq_true (show 64 * w + i < 64 * (w + 1) by omega), Bool.and_false]
      simp
    · rw [if_neg e]
      apply wd_congr
      intro i hi
      congr 3
      exact decide_eq_decide.mpr (by omega)
  have loop : ∀ (n k : Nat), k + n = 313 → PW G mm_X3_remove (fw_qV (fun h' => h' = fw_up h wa (.inl (1, 313, .inr (.inl (wd (fun d => p d && !o d)))))) fw_noX) 0 0 0 (fw_up h wa (.inl (1, 313, .inr (.inl (wd (fun d => p d && !(o d && decide (d < 64 * k)))))))) 2 [(0, .ref b), (1, .ref b2), (2, .int (nI k))] [] := by
    intro n
    induction n with
    | zero =>
      intro k hk
      have hk : k = 313 := by omega
      subst hk
      iterate 2 refine pw_go tk_X3_remove rfl rfl ?_
      refine pw_get tk_X3_remove rfl fl_X3_11 ((fw_up_n nwb).trans ho) rfl ?_
      refine pw_alen tk_X3_remove rfl fw_up_s (by decide) ?_
      refine pw_icN (313) (313) tk_X3_remove rfl rfl rfl (by omega) (by omega) (fun c => ?_) (fun c => absurd (Nat.le_refl 313) c)
      exact pw_vret tk_X3_remove rfl rfl ⟨rfl, by rw [fin]⟩
    | succ n ih =>
      intro k hk
      iterate 2 refine pw_go tk_X3_remove rfl rfl ?_
      refine pw_get tk_X3_remove rfl fl_X3_11 ((fw_up_n nwb).trans ho) rfl ?_
      refine pw_alen tk_X3_remove rfl fw_up_s (by decide) ?_
      refine pw_icN (k) (313) tk_X3_remove rfl rfl rfl (by omega) (by omega) (fun c => absurd (show 313 ≤ k from c) (by omega)) (fun c => ?_)
      iterate 2 refine pw_go tk_X3_remove rfl rfl ?_
      refine pw_get tk_X3_remove rfl fl_X3_11 ((fw_up_n nwb2).trans ho2) rfl ?_
      refine pw_alen tk_X3_remove rfl ((fw_up_n nw).trans hw2) (by decide) ?_
      refine pw_icN (k) (313) tk_X3_remove rfl rfl rfl (by omega) (by omega) (fun c => absurd (show 313 ≤ k from c) (by omega)) (fun c => ?_)
      refine pw_go tk_X3_remove rfl rfl ?_
      refine pw_get tk_X3_remove rfl fl_X3_11 ((fw_up_n nwb).trans ho) rfl ?_
      iterate 2 refine pw_go tk_X3_remove rfl rfl ?_
      refine pw_laldN tk_X3_remove rfl fw_up_s rfl (by omega) (by omega) ?_
      refine pw_go tk_X3_remove rfl rfl ?_
      refine pw_get tk_X3_remove rfl fl_X3_11 ((fw_up_n nwb2).trans ho2) rfl ?_
      refine pw_go tk_X3_remove rfl rfl ?_
      refine pw_laldN tk_X3_remove rfl ((fw_up_n nw).trans hw2) rfl (by omega) (by omega) ?_
      refine pw_ldc2 tk_X3_remove rfl kc_X3_28 ?_
      iterate 2 refine pw_go tk_X3_remove rfl rfl ?_
      refine pw_lastN tk_X3_remove rfl fw_up_s rfl (by omega) (by omega) ?_
      refine pw_h (by rw [fw_up_2, stp]) ?_
      iterate 2 refine pw_go tk_X3_remove rfl rfl ?_
      refine pw_M [(0, .ref b), (1, .ref b2), (2, .int (nI (k + 1)))] ⟨rfl, rfl, congrArg (fun z => some (Value.int z)) (nI_1 k), trivial⟩ ?_
      exact ih (k + 1) (by omega)
  iterate 2 refine pw_go tk_X3_remove rfl rfl ?_
  refine pw_h (h' := fw_up h wa (.inl (1, 313, .inr (.inl (wd (fun d => p d && !(o d && decide (d < 64 * 0)))))))) (by rw [hst, fw_up_i hw]) ?_
  refine pw_M [(0, .ref b), (1, .ref b2), (2, .int (nI 0))] ⟨rfl, rfl, rfl, trivial⟩ ?_
  exact loop 313 0 (by omega)
set_option maxRecDepth 20000 in
theorem c_within {x z : Nat} (HD : dyAt h b wa p) (hx : x < 1073741824) (hz : z < 1073741824) : PM G 1 0 0 mm_X3_within [.ref b, .int (nI x), .int (nI z)] h (fw_qp (nI (cu (fun d => p d && iv x z d) 20032)) h) := by
  refine pm_of (by decide +kernel) rfl rfl rfl ?_
  obtain ⟨ho, hw⟩ := HD
  have hst : cu (fun d => p d && iv x z d) (64 * (x / 64)) = 0 := cu_none (fun i hi => by
    unfold iv
    rw [decide_eq_false (show ¬ x ≤ i by omega), Bool.false_and, Bool.and_false])
  have fin : ∀ k, k ≤ 313 → z ≤ 64 * k → cu (fun d => p d && iv x z d) (64 * k) = cu (fun d => p d && iv x z d) 20032 := by
    intro k hk hz
    obtain ⟨j, hj⟩ : ∃ j, 20032 = 64 * k + j := ⟨20032 - 64 * k, by omega⟩
    have e0 : cu (fun i => (fun d => p d && iv x z d) (64 * k + i)) j = 0 := cu_none (fun i hi => by
      unfold iv
      show (p (64 * k + i) && (decide (x ≤ 64 * k + i) && decide (64 * k + i < z))) = false
      rw [decide_eq_false (show ¬ 64 * k + i < z by omega), Bool.and_false, Bool.and_false])
    rw [hj, cu_add, e0, Nat.add_zero]
  have stp : ∀ k, cu (fun d => p d && iv x z d) (64 * k) + cu (gb (wd p k &&& wd (iv x z) k)) 64 = cu (fun d => p d && iv x z d) (64 * (k + 1)) := by
    intro k
    rw [Nat.add_comm]
    exact cu_word (fun i hi => by rw [gb_and, gb_wd _ _ hi, gb_wd _ _ hi])
  have loop : ∀ (n k : Nat), k + n = 313 + x / 64 → k ≤ 313 + x / 64 → (k ≤ 313 ∨ k = x / 64) → PW G mm_X3_within (fw_qp (nI (cu (fun d => p d && iv x z d) 20032)) h) 1 0 0 h 12 [(0, .ref b), (1, .int (nI x)), (2, .int (nI z)), (3, .int (nI (cu (fun d => p d && iv x z d) (64 * k)))), (4, .int (nI k))] [] := by
    intro n
    have big : ∀ k, 313 ≤ k → (k ≤ 313 ∨ k = x / 64) → cu (fun d => p d && iv x z d) (64 * k) = cu (fun d => p d && iv x z d) 20032 := by
      intro k h1 h2
      rcases h2 with h2 | h2
      · rw [show 64 * k = 20032 by omega]
      · rw [h2, hst]
        refine (cu_none (fun i hi => ?_)).symm
        unfold iv
        rw [decide_eq_false (show ¬ x ≤ i by omega), Bool.false_and, Bool.and_false]
    induction n with
    | zero =>
      intro k hk hk2 hk3
      iterate 2 refine pw_go tk_X3_within rfl rfl ?_
      refine pw_get tk_X3_within rfl fl_X3_11 ho rfl ?_
      refine pw_alen tk_X3_within rfl hw (by decide) ?_
      refine pw_icN (k) (313) tk_X3_within rfl rfl rfl (by omega) (by omega) (fun c => ?_) (fun c => absurd (show 313 ≤ k by omega) c)
      refine pw_go tk_X3_within rfl rfl ?_
      refine pw_i (x' := nI (cu (fun d => p d && iv x z d) 20032)) (by rw [big k (by omega) hk3]) ?_
      exact pw_iretp tk_X3_within rfl rfl
    | succ n ih =>
      intro k hk hk2 hk3
      iterate 2 refine pw_go tk_X3_within rfl rfl ?_
      refine pw_get tk_X3_within rfl fl_X3_11 ho rfl ?_
      refine pw_alen tk_X3_within rfl hw (by decide) ?_
      refine pw_icN (k) (313) tk_X3_within rfl rfl rfl (by omega) (by omega) (fun c => ?_) (fun c => ?_)
      · skip
        have c : 313 ≤ k := c
        refine pw_go tk_X3_within rfl rfl ?_
        refine pw_i (x' := nI (cu (fun d => p d && iv x z d) 20032)) (by rw [big k (by omega) hk3]) ?_
        exact pw_iretp tk_X3_within rfl rfl
      · skip
        have c : ¬ 313 ≤ k := c
        iterate 2 refine pw_go tk_X3_within rfl rfl ?_
        refine pw_mulN (k) (64) tk_X3_within rfl rfl rfl ?_
        refine pw_go tk_X3_within rfl rfl ?_
        refine pw_icN (k * 64) (z) tk_X3_within rfl rfl rfl (by omega) (by omega) (fun c2 => ?_) (fun c2 => ?_)
        · skip
          have c2 : z ≤ k * 64 := c2
          refine pw_go tk_X3_within rfl rfl ?_
          refine pw_i (x' := nI (cu (fun d => p d && iv x z d) 20032)) (by rw [fin k (by omega) (by omega)]) ?_
          exact pw_iretp tk_X3_within rfl rfl
        · skip
          iterate 2 refine pw_go tk_X3_within rfl rfl ?_
          refine pw_get tk_X3_within rfl fl_X3_11 ho rfl ?_
          refine pw_go tk_X3_within rfl rfl ?_
          refine pw_laldN tk_X3_within rfl hw rfl (by omega) (by omega) ?_
          iterate 3 refine pw_go tk_X3_within rfl rfl ?_
          refine pw_cspL tk_X3_within rfl ca_X3_bitsOf lk_X3_24 sx_X3_bitsOf (As := [.int (nI k), .int (nI x), .int (nI z)]) (rest := [.long (wd p k), .int (nI (cu (fun d => p d && iv x z d) (64 * k)))]) (c_bitsOf (by omega) hx hz) rfl rfl rfl rfl ?_
          refine pw_go tk_X3_within rfl rfl ?_
          refine pw_csp tk_X3_within rfl ca_J13_bitCount_95d88 lk_X3_30 sx_J13_bitCount_95d88 (As := [.long (wd p k &&& wd (iv x z) k)]) (rest := [.int (nI (cu (fun d => p d && iv x z d) (64 * k)))]) (c_bitCount) rfl rfl rfl rfl ?_
          refine pw_addN (cu (fun d => p d && iv x z d) (64 * k)) (cu (gb (wd p k &&& wd (iv x z) k)) 64) tk_X3_within rfl rfl rfl ?_
          refine pw_i (x' := nI (cu (fun d => p d && iv x z d) (64 * (k + 1)))) (by rw [stp]) ?_
          iterate 3 refine pw_go tk_X3_within rfl rfl ?_
          refine pw_M [(0, .ref b), (1, .int (nI x)), (2, .int (nI z)), (3, .int (nI (cu (fun d => p d && iv x z d) (64 * (k + 1))))), (4, .int (nI (k + 1)))] ⟨rfl, rfl, rfl, rfl, congrArg (fun z => some (Value.int z)) (nI_1 k), trivial⟩ ?_
          exact ih (k + 1) (by omega) (by omega) (Or.inl (by omega))
  iterate 4 refine pw_go tk_X3_within rfl rfl ?_
  refine pw_maxN (x) (0) tk_X3_within rfl lk_X3_21 rfl rfl (by omega) (by omega) rfl ?_
  refine pw_go tk_X3_within rfl rfl ?_
  refine pw_divN (max x 0) (64) tk_X3_within rfl rfl rfl (by omega) (by omega) (by omega) ?_
  refine pw_go tk_X3_within rfl rfl ?_
  refine pw_M [(0, .ref b), (1, .int (nI x)), (2, .int (nI z)), (3, .int (nI (cu (fun d => p d && iv x z d) (64 * (x / 64))))), (4, .int (nI (x / 64)))] ⟨rfl, rfl, rfl, by rw [hst]; rfl, congrArg (fun z => some (Value.int (nI (z / 64)))) (by omega), trivial⟩ ?_
  exact loop 313 (x / 64) (by omega) (by omega) (Or.inr rfl)
set_option maxRecDepth 20000 in
theorem c_outside {b2 wa2 z : Nat} {o : Nat → Bool} (HD : dyAt h b wa p) (HO : dyAt h b2 wa2 o) (hz : z < 1073741824) : PM G 1 0 0 mm_X3_outside [.ref b, .ref b2, .int (nI z)] h (fw_qp (nI (cu (fun d => p d && !o d && iv 0 z d) 20032)) h) := by
  refine pm_of (by decide +kernel) rfl rfl rfl ?_
  obtain ⟨ho, hw⟩ := HD
  obtain ⟨ho2, hw2⟩ := HO
  have stp : ∀ k, cu (fun d => p d && !o d && iv 0 z d) (64 * k) + cu (gb (wd p k &&& (wd o k ^^^ (-1)) &&& wd (iv 0 z) k)) 64 = cu (fun d => p d && !o d && iv 0 z d) (64 * (k + 1)) := by
    intro k
    rw [Nat.add_comm]
    exact cu_word (fun i hi => by rw [gb_and, gb_and, gb_not _ hi, gb_wd _ _ hi, gb_wd _ _ hi, gb_wd _ _ hi])
  have loop : ∀ (n k : Nat), k + n = 313 → PW G mm_X3_outside (fw_qp (nI (cu (fun d => p d && !o d && iv 0 z d) 20032)) h) 1 0 0 h 5 [(0, .ref b), (1, .ref b2), (2, .int (nI z)), (3, .int (nI (cu (fun d => p d && !o d && iv 0 z d) (64 * k)))), (4, .int (nI k))] [] := by
    intro n
    induction n with
    | zero =>
      intro k hk
      have hk : k = 313 := by omega
      subst hk
      iterate 2 refine pw_go tk_X3_outside rfl rfl ?_
      refine pw_get tk_X3_outside rfl fl_X3_11 ho rfl ?_
      refine pw_alen tk_X3_outside rfl hw (by decide) ?_
      refine pw_icN (313) (313) tk_X3_outside rfl rfl rfl (by omega) (by omega) (fun c => ?_) (fun c => absurd (Nat.le_refl 313) c)
      refine pw_go tk_X3_outside rfl rfl ?_
      exact pw_iretp tk_X3_outside rfl rfl
    | succ n ih =>
      intro k hk
      iterate 2 refine pw_go tk_X3_outside rfl rfl ?_
      refine pw_get tk_X3_outside rfl fl_X3_11 ho rfl ?_
      refine pw_alen tk_X3_outside rfl hw (by decide) ?_
      refine pw_icN (k) (313) tk_X3_outside rfl rfl rfl (by omega) (by omega) (fun c => absurd (show 313 ≤ k from c) (by omega)) (fun c => ?_)
      iterate 2 refine pw_go tk_X3_outside rfl rfl ?_
      refine pw_get tk_X3_outside rfl fl_X3_11 ho2 rfl ?_
      refine pw_alen tk_X3_outside rfl hw2 (by decide) ?_
      refine pw_icN (k) (313) tk_X3_outside rfl rfl rfl (by omega) (by omega) (fun c => absurd (show 313 ≤ k from c) (by omega)) (fun c => ?_)
      iterate 2 refine pw_go tk_X3_outside rfl rfl ?_
      refine pw_get tk_X3_outside rfl fl_X3_11 ho rfl ?_
      refine pw_go tk_X3_outside rfl rfl ?_
      refine pw_laldN tk_X3_outside rfl hw rfl (by omega) (by omega) ?_
      refine pw_go tk_X3_outside rfl rfl ?_
      refine pw_get tk_X3_outside rfl fl_X3_11 ho2 rfl ?_
      refine pw_go tk_X3_outside rfl rfl ?_
      refine pw_laldN tk_X3_outside rfl hw2 rfl (by omega) (by omega) ?_
      refine pw_ldc2 tk_X3_outside rfl kc_X3_28 ?_
      iterate 5 refine pw_go tk_X3_outside rfl rfl ?_
      refine pw_cspL tk_X3_outside rfl ca_X3_bitsOf lk_X3_24 sx_X3_bitsOf (As := [.int (nI k), .int 0, .int (nI z)]) (rest := [.long (wd p k &&& (wd o k ^^^ (-1))), .int (nI (cu (fun d => p d && !o d && iv 0 z d) (64 * k)))]) (c_bitsOf (a := 0) (by omega) (by omega) hz) rfl rfl rfl rfl ?_
      refine pw_go tk_X3_outside rfl rfl ?_
      refine pw_csp tk_X3_outside rfl ca_J13_bitCount_95d88 lk_X3_30 sx_J13_bitCount_95d88 (As := [.long (wd p k &&& (wd o k ^^^ (-1)) &&& wd (iv 0 z) k)]) (rest := [.int (nI (cu (fun d => p d && !o d && iv 0 z d) (64 * k)))]) (c_bitCount) rfl rfl rfl rfl ?_
      refine pw_addN (cu (fun d => p d && !o d && iv 0 z d) (64 * k)) (cu (gb (wd p k &&& (wd o k ^^^ (-1)) &&& wd (iv 0 z) k)) 64) tk_X3_outside rfl rfl rfl ?_
      refine pw_i (x' := nI (cu (fun d => p d && !o d && iv 0 z d) (64 * (k + 1)))) (by rw [stp]) ?_
      iterate 3 refine pw_go tk_X3_outside rfl rfl ?_
      refine pw_M [(0, .ref b), (1, .ref b2), (2, .int (nI z)), (3, .int (nI (cu (fun d => p d && !o d && iv 0 z d) (64 * (k + 1))))), (4, .int (nI (k + 1)))] ⟨rfl, rfl, rfl, rfl, congrArg (fun z => some (Value.int z)) (nI_1 k), trivial⟩ ?_
      exact ih (k + 1) (by omega)
  iterate 4 refine pw_go tk_X3_outside rfl rfl ?_
  refine pw_M [(0, .ref b), (1, .ref b2), (2, .int (nI z)), (3, .int (nI (cu (fun d => p d && !o d && iv 0 z d) (64 * 0)))), (4, .int (nI 0))] ⟨rfl, rfl, rfl, rfl, rfl, trivial⟩ ?_
  exact loop 313 0 (by omega)
set_option maxRecDepth 20000 in
theorem c_dayBehind {x n : Nat} (HD : dyAt h b wa p) (hx : x < 20000) (hn : n < 1073741824) : PM G 1 0 0 mm_X3_dayBehind [.ref b, .int (nI x), .int (nI n)] h (fw_qp (nI (db (fun d => !p d) n x (20032 - x) 1000000)) h) := by
  refine pm_of (by decide +kernel) rfl rfl rfl ?_
  obtain ⟨ho, hw⟩ := HD
  refine pw_go tk_X3_dayBehind rfl rfl ?_
  refine pw_ifN (n) tk_X3_dayBehind rfl rfl (by omega) (fun c => ?_) (fun c => ?_)
  rotate_left
  · skip
    have c : ¬ 0 < n := c
    have c : n = 0 := by omega
    subst c
    refine pw_go tk_X3_dayBehind rfl rfl ?_
    refine pw_i (x' := nI (db (fun d => !p d) 0 x (20032 - x) 1000000)) (by rw [db_0]) ?_
    exact pw_iretp tk_X3_dayBehind rfl rfl
  have c : 0 < n := c
  obtain ⟨R, hR⟩ : ∃ R, R = db (fun d => !p d) n x (20032 - x) 1000000 := ⟨_, rfl⟩
  rw [← hR]
  obtain ⟨f, hf⟩ : ∃ f : Nat → Bool, f = fun d => !p d && decide (x ≤ d) := ⟨_, rfl⟩
  have hR2 : db f n (64 * (x / 64)) (20032 - 64 * (x / 64)) 1000000 = R := by
    have z : cu (fun i => f (64 * (x / 64) + i)) (x - 64 * (x / 64)) = 0 := cu_none (fun i hi => by
      subst hf
      show (!p (64 * (x / 64) + i) && decide (x ≤ 64 * (x / 64) + i)) = false
      rw [decide_eq_false (by omega), Bool.and_false])
    rw [show 20032 - 64 * (x / 64) = (x - 64 * (x / 64)) + (20032 - x) by omega, db_skip _ _ _ _ (by rw [z]; exact c), z, show 64 * (x / 64) + (x - 64 * (x / 64)) = x by omega, hR]
    refine db_congr _ _ _ _ (fun i h1 h2 => ?_)
    subst hf
    show (!p i && decide (x ≤ i)) = !p i
    rw [decide_eq_true h1, Bool.and_true]
  have loop : ∀ (j k m : Nat), k + j = 313 → x / 64 ≤ k → 0 < m → m < 1073741824 → db f m (64 * k) (64 * j) 1000000 = R → PW G mm_X3_dayBehind (fw_qp (nI R) h) 1 0 0 h 22 [(0, .ref b), (1, .int (nI x)), (3, .int (nI m)), (4, .int (nI (x / 64))), (5, .int (nI k))] [] := by
    intro j
    induction j with
    | zero =>
      intro k m hk hk2 hm hm2 he
      have hk : k = 313 := by omega
      subst hk
      iterate 2 refine pw_go tk_X3_dayBehind rfl rfl ?_
      refine pw_get tk_X3_dayBehind rfl fl_X3_11 ho rfl ?_
      refine pw_alen tk_X3_dayBehind rfl hw (by decide) ?_
      refine pw_icN (313) (313) tk_X3_dayBehind rfl rfl rfl (by omega) (by omega) (fun c => ?_) (fun c => absurd (Nat.le_refl 313) c)
      refine pw_ldc tk_X3_dayBehind rfl kc_X3_40 ?_
      refine pw_i (x' := nI R) (by rw [← he, db_e hm]; rfl) ?_
      exact pw_iretp tk_X3_dayBehind rfl rfl
    | succ j ih =>
      intro k m hk hk2 hm hm2 he
      have k73 : PW G mm_X3_dayBehind (fw_qp (nI R) h) 1 0 0 h 73 [(0, .ref b), (1, .int (nI x)), (3, .int (nI m)), (4, .int (nI (x / 64))), (5, .int (nI k))] [.long (wd f k)] := by
        have hg : ∀ i, i < 64 → gb (wd f k) i = f (64 * k + i) := fun i hi => gb_wd _ _ hi
        have hc : cu (gb (wd f k)) 64 = cu (fun i => f (64 * k + i)) 64 := cu_congr hg
        iterate 2 refine pw_go tk_X3_dayBehind rfl rfl ?_
        refine pw_csp tk_X3_dayBehind rfl ca_J13_bitCount_95d88 lk_X3_30 sx_J13_bitCount_95d88 (As := [.long (wd f k)]) (rest := []) (c_bitCount) rfl rfl rfl rfl ?_
        have hc64 := cu_le (gb (wd f k)) 64
        iterate 3 refine pw_go tk_X3_dayBehind rfl rfl ?_
        refine pw_icN (cu (gb (wd f k)) 64) (m) tk_X3_dayBehind rfl rfl rfl (by omega) (by omega) (fun c => ?_) (fun c => ?_)
        · have c : cu (gb (wd f k)) 64 < m := c
          iterate 2 refine pw_go tk_X3_dayBehind rfl rfl ?_
          refine pw_subN (m) (cu (gb (wd f k)) 64) tk_X3_dayBehind rfl rfl rfl (by omega) ?_
          iterate 3 refine pw_go tk_X3_dayBehind rfl rfl ?_
          refine pw_M [(0, .ref b), (1, .int (nI x)), (3, .int (nI (m - cu (gb (wd f k)) 64))), (4, .int (nI (x / 64))), (5, .int (nI (k + 1)))] ⟨rfl, rfl, rfl, rfl, congrArg (fun z => some (Value.int z)) (nI_1 k), trivial⟩ ?_
          refine ih (k + 1) (m - cu (gb (wd f k)) 64) (by omega) (by omega) (by omega) (by omega) ?_
          rw [show 64 * (j + 1) = 64 + 64 * j by omega, db_skip _ _ _ _ (by rw [← hc]; exact c)] at he
          rw [hc, show 64 * (k + 1) = 64 * k + 64 by omega, he]
        · have c : ¬ cu (gb (wd f k)) 64 < m := c
          have eR : k * 64 + db (gb (wd f k)) m 0 64 64 = R := by
            rw [show 64 * (j + 1) = 64 + 64 * j by omega, db_found (e' := 64 * k + 64) _ _ _ _ (by rw [← hc]; omega)] at he
            rw [← he, db_congr (g := fun i => f (64 * k + i)) _ _ _ _ (fun i _ hi => hg i (by omega)), Nat.mul_comm k 64]
            exact (db_shift (f := fun i => f (64 * k + i)) (g := f) (s := 64 * k) (fun i => rfl) 64 m 0 64).symm
          iterate 2 refine pw_go tk_X3_dayBehind rfl rfl ?_
          refine pw_mulN (k) (64) tk_X3_dayBehind rfl rfl rfl ?_
          iterate 2 refine pw_go tk_X3_dayBehind rfl rfl ?_
          refine pw_csp tk_X3_dayBehind rfl ca_X3_bitBehind lk_X3_36 sx_X3_bitBehind (As := [.long (wd f k), .int (nI m)]) (rest := [.int (nI (k * 64))]) (c_bitBehind hm hm2) rfl rfl rfl rfl ?_
          refine pw_addN (k * 64) (db (gb (wd f k)) m 0 64 64) tk_X3_dayBehind rfl rfl rfl ?_
          refine pw_i (x' := nI R) (by rw [eR]) ?_
          exact pw_iretp tk_X3_dayBehind rfl rfl
      iterate 2 refine pw_go tk_X3_dayBehind rfl rfl ?_
      refine pw_get tk_X3_dayBehind rfl fl_X3_11 ho rfl ?_
      refine pw_alen tk_X3_dayBehind rfl hw (by decide) ?_
      refine pw_icN (k) (313) tk_X3_dayBehind rfl rfl rfl (by omega) (by omega) (fun c => absurd (show 313 ≤ k from c) (by omega)) (fun c => ?_)
      iterate 2 refine pw_go tk_X3_dayBehind rfl rfl ?_
      refine pw_icN (k) (x / 64) tk_X3_dayBehind rfl rfl rfl (by omega) (by omega) (fun c => ?_) (fun c => ?_)
      · have c : k ≠ x / 64 := c
        refine pw_go tk_X3_dayBehind rfl rfl ?_
        refine pw_get tk_X3_dayBehind rfl fl_X3_11 ho rfl ?_
        refine pw_go tk_X3_dayBehind rfl rfl ?_
        refine pw_laldN tk_X3_dayBehind rfl hw rfl (by omega) (by omega) ?_
        refine pw_ldc2 tk_X3_dayBehind rfl kc_X3_28 ?_
        refine pw_go tk_X3_dayBehind rfl rfl ?_
        refine pw_l (x' := wd f k) (wd_of (fun i hi => by rw [gb_not _ hi, gb_wd _ _ hi]; subst hf; show _ = (!p (64 * k + i) && decide (x ≤ 64 * k + i)); rw [decide_eq_true (by omega), Bool.and_true])) ?_
        exact k73
      · have c : k = x / 64 := Classical.not_not.mp c
        refine pw_go tk_X3_dayBehind rfl rfl ?_
        refine pw_get tk_X3_dayBehind rfl fl_X3_11 ho rfl ?_
        refine pw_go tk_X3_dayBehind rfl rfl ?_
        refine pw_laldN tk_X3_dayBehind rfl hw rfl (by omega) (by omega) ?_
        refine pw_ldc2 tk_X3_dayBehind rfl kc_X3_28 ?_
        refine pw_go tk_X3_dayBehind rfl rfl ?_
        refine pw_ldc2 tk_X3_dayBehind rfl kc_X3_28 ?_
        iterate 2 refine pw_go tk_X3_dayBehind rfl rfl ?_
        refine pw_remN (x) (64) tk_X3_dayBehind rfl rfl rfl (by omega) (by omega) (by omega) ?_
        iterate 3 refine pw_go tk_X3_dayBehind rfl rfl ?_
        refine pw_l (x' := wd f k) (wd_of (fun i hi => by rw [gb_and, gb_up _ (by omega) _ hi, gb_not _ hi, gb_wd _ _ hi]; subst hf; show _ = (!p (64 * k + i) && decide (x ≤ 64 * k + i)); congr 1; exact decide_eq_decide.mpr (by omega))) ?_
        exact k73
  iterate 4 refine pw_go tk_X3_dayBehind rfl rfl ?_
  refine pw_maxN (x) (0) tk_X3_dayBehind rfl lk_X3_21 rfl rfl (by omega) (by omega) rfl ?_
  refine pw_go tk_X3_dayBehind rfl rfl ?_
  refine pw_divN (max x 0) (64) tk_X3_dayBehind rfl rfl rfl (by omega) (by omega) (by omega) ?_
  refine pw_i (x' := nI (x / 64)) (by rw [show max x 0 = x by omega]) ?_
  iterate 3 refine pw_go tk_X3_dayBehind rfl rfl ?_
  refine pw_M [(0, .ref b), (1, .int (nI x)), (3, .int (nI n)), (4, .int (nI (x / 64))), (5, .int (nI (x / 64)))] ⟨rfl, rfl, rfl, rfl, rfl, trivial⟩ ?_
  exact loop (313 - x / 64) (x / 64) n (by omega) (Nat.le_refl _) c hn (by rw [← hR2, show 64 * (313 - x / 64) = 20032 - 64 * (x / 64) by omega])
theorem wd_none : (fun _ : Nat => (0 : Int64)) = wd (fun _ => false) := funext fun w => wd_of (fun i hi => by rw [gb_0])
theorem c_Days (ho : h b = some (.inr (6, [.null]))) : PM G 0 1 313 mm_X3_init [.ref b] h (fw_qV (fun h' => ∃ q, h q = none ∧ G.2.1 ≤ q ∧ h' = fw_up (fw_up h q (.inl (1, 313, .inr (.inl (wd (fun _ => false)))))) b (.inr (6, [.ref q]))) fw_noX) := by
  refine pm_of (by decide +kernel) rfl rfl rfl ?_
  refine pw_go tk_X3_init rfl rfl ?_
  refine pw_oinit tk_X3_init rfl lk_X3_3 oi_1 oi_2 rfl ?_
  iterate 2 refine pw_go tk_X3_init rfl rfl ?_
  refine pw_newa (kc := 0) (ks := 0) (t := 1) (N' := 313) (a0 := (313, .inr (.inl (fun _ => 0)))) tk_X3_init rfl (by decide) rfl rfl ar_long (fun _ => rfl) (by decide) (by decide) (by decide) (fun q qf qg => ?_)
  have nq : b ≠ q := fun e => by subst e; rw [qf] at ho; cases ho
  refine pw_putF tk_X3_init rfl fq_X3_11 rfl ((fw_up_n nq).trans ho) rfl rfl (Nat.le_of_ble_eq_true rfl) ?_
  exact pw_vret tk_X3_init rfl rfl ⟨rfl, q, qf, qg, by rw [wd_none]; rfl⟩
end
end CDAYS
end
