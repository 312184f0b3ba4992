/-! RULES: what touches no heap -/
def fw_ldi (L : List (Nat × Value)) (a nx : Nat) (st : List Value) : Option (Nat × List (Nat × Value) × List Value) := match fw_lk L a with
  | some (.int x) => some (nx, L, .int x :: st)
  | _ => none
def fw_ldl (L : List (Nat × Value)) (a nx : Nat) (st : List Value) : Option (Nat × List (Nat × Value) × List Value) := match fw_lk L a with
  | some (.long x) => some (nx, L, .long x :: st)
  | _ => none
def fw_ldf (L : List (Nat × Value)) (a nx : Nat) (st : List Value) : Option (Nat × List (Nat × Value) × List Value) := match fw_lk L a with
  | some (.float x) => some (nx, L, .float x :: st)
  | _ => none
def fw_ldd (L : List (Nat × Value)) (a nx : Nat) (st : List Value) : Option (Nat × List (Nat × Value) × List Value) := match fw_lk L a with
  | some (.double x) => some (nx, L, .double x :: st)
  | _ => none
def fw_lda (L : List (Nat × Value)) (a nx : Nat) (st : List Value) : Option (Nat × List (Nat × Value) × List Value) := match fw_lk L a with
  | some (.ref x) => some (nx, L, .ref x :: st)
  | some .null => some (nx, L, .null :: st)
  | _ => none
def fw_svi (L : List (Nat × Value)) (a nx : Nat) (st : List Value) : Option (Nat × List (Nat × Value) × List Value) := match st with
  | .int x :: r => bif fw_ok1 L a then some (nx, (a, .int x) :: L, r) else none
  | _ => none
def fw_svl (L : List (Nat × Value)) (a nx : Nat) (st : List Value) : Option (Nat × List (Nat × Value) × List Value) := match st with
  | .long x :: r => bif fw_ok2 L a then some (nx, (a, .long x) :: L, r) else none
  | _ => none
def fw_svf (L : List (Nat × Value)) (a nx : Nat) (st : List Value) : Option (Nat × List (Nat × Value) × List Value) := match st with
  | .float x :: r => bif fw_ok1 L a then some (nx, (a, .float x) :: L, r) else none
  | _ => none
def fw_svd (L : List (Nat × Value)) (a nx : Nat) (st : List Value) : Option (Nat × List (Nat × Value) × List Value) := match st with
  | .double x :: r => bif fw_ok2 L a then some (nx, (a, .double x) :: L, r) else none
  | _ => none
def fw_sva (L : List (Nat × Value)) (a nx : Nat) (st : List Value) : Option (Nat × List (Nat × Value) × List Value) := match st with
  | .ref x :: r => bif fw_ok1 L a then some (nx, (a, .ref x) :: L, r) else none
  | .null :: r => bif fw_ok1 L a then some (nx, (a, .null) :: L, r) else none
  | _ => none
def fw_inc (L : List (Nat × Value)) (a nx : Nat) (v : Int32) (st : List Value) : Option (Nat × List (Nat × Value) × List Value) := match fw_lk L a with
  | some (.int x) => bif fw_ok1 L a then some (nx, (a, .int (x + v)) :: L, st) else none
  | _ => none
def fw_o_iadd (L : List (Nat × Value)) (nx : Nat) (st : List Value) : Option (Nat × List (Nat × Value) × List Value) := match st with
  | .int y :: .int x :: r => some (nx, L, .int (x + y) :: r)
  | _ => none
def fw_o_isub (L : List (Nat × Value)) (nx : Nat) (st : List Value) : Option (Nat × List (Nat × Value) × List Value) := match st with
  | .int y :: .int x :: r => some (nx, L, .int (x - y) :: r)
  | _ => none
def fw_o_imul (L : List (Nat × Value)) (nx : Nat) (st : List Value) : Option (Nat × List (Nat × Value) × List Value) := match st with
  | .int y :: .int x :: r => some (nx, L, .int (x * y) :: r)
  | _ => none
def fw_o_iand (L : List (Nat × Value)) (nx : Nat) (st : List Value) : Option (Nat × List (Nat × Value) × List Value) := match st with
  | .int y :: .int x :: r => some (nx, L, .int (x &&& y) :: r)
  | _ => none
def fw_o_ior (L : List (Nat × Value)) (nx : Nat) (st : List Value) : Option (Nat × List (Nat × Value) × List Value) := match st with
  | .int y :: .int x :: r => some (nx, L, .int (x ||| y) :: r)
  | _ => none
def fw_o_ishl (L : List (Nat × Value)) (nx : Nat) (st : List Value) : Option (Nat × List (Nat × Value) × List Value) := match st with
  | .int y :: .int x :: r => some (nx, L, .int (x <<< (y &&& 31)) :: r)
  | _ => none
def fw_o_ishr (L : List (Nat × Value)) (nx : Nat) (st : List Value) : Option (Nat × List (Nat × Value) × List Value) := match st with
  | .int y :: .int x :: r => some (nx, L, .int (x >>> (y &&& 31)) :: r)
  | _ => none
def fw_o_iushr (L : List (Nat × Value)) (nx : Nat) (st : List Value) : Option (Nat × List (Nat × Value) × List Value) := match st with
  | .int y :: .int x :: r => some (nx, L, .int (x.toUInt32 >>> (y.toUInt32 &&& Int32.toUInt32 31)).toInt32 :: r)
  | _ => none
def fw_o_ineg (L : List (Nat × Value)) (nx : Nat) (st : List Value) : Option (Nat × List (Nat × Value) × List Value) := match st with
  | .int x :: r => some (nx, L, .int (-x) :: r)
  | _ => none
def fw_o_ladd (L : List (Nat × Value)) (nx : Nat) (st : List Value) : Option (Nat × List (Nat × Value) × List Value) := match st with
  | .long y :: .long x :: r => some (nx, L, .long (x + y) :: r)
  | _ => none
def fw_o_lsub (L : List (Nat × Value)) (nx : Nat) (st : List Value) : Option (Nat × List (Nat × Value) × List Value) := match st with
  | .long y :: .long x :: r => some (nx, L, .long (x - y) :: r)
  | _ => none
def fw_o_land (L : List (Nat × Value)) (nx : Nat) (st : List Value) : Option (Nat × List (Nat × Value) × List Value) := match st with
  | .long y :: .long x :: r => some (nx, L, .long (x &&& y) :: r)
  | _ => none
def fw_o_lor (L : List (Nat × Value)) (nx : Nat) (st : List Value) : Option (Nat × List (Nat × Value) × List Value) := match st with
  | .long y :: .long x :: r => some (nx, L, .long (x ||| y) :: r)
  | _ => none
def fw_o_lxor (L : List (Nat × Value)) (nx : Nat) (st : List Value) : Option (Nat × List (Nat × Value) × List Value) := match st with
  | .long y :: .long x :: r => some (nx, L, .long (x ^^^ y) :: r)
  | _ => none
def fw_o_lshl (L : List (Nat × Value)) (nx : Nat) (st : List Value) : Option (Nat × List (Nat × Value) × List Value) := match st with
  | .int y :: .long x :: r => some (nx, L, .long (x <<< (y.toInt64 &&& 63)) :: r)
  | _ => none
def fw_o_lushr (L : List (Nat × Value)) (nx : Nat) (st : List Value) : Option (Nat × List (Nat × Value) × List Value) := match st with
  | .int y :: .long x :: r => some (nx, L, .long (x.toUInt64 >>> (y.toInt64.toUInt64 &&& Int64.toUInt64 63)).toInt64 :: r)
  | _ => none
def fw_o_i2l (L : List (Nat × Value)) (nx : Nat) (st : List Value) : Option (Nat × List (Nat × Value) × List Value) := match st with
  | .int x :: r => some (nx, L, .long x.toInt64 :: r)
  | _ => none
def fw_o_l2i (L : List (Nat × Value)) (nx : Nat) (st : List Value) : Option (Nat × List (Nat × Value) × List Value) := match st with
  | .long x :: r => some (nx, L, .int x.toInt32 :: r)
  | _ => none
def fw_o_i2c (L : List (Nat × Value)) (nx : Nat) (st : List Value) : Option (Nat × List (Nat × Value) × List Value) := match st with
  | .int x :: r => some (nx, L, .int (x.toUInt32 % 65536).toInt32 :: r)
  | _ => none
def fw_o_i2b (L : List (Nat × Value)) (nx : Nat) (st : List Value) : Option (Nat × List (Nat × Value) × List Value) := match st with
  | .int x :: r => some (nx, L, .int x.toInt8.toInt32 :: r)
  | _ => none
def fw_o_i2f (L : List (Nat × Value)) (nx : Nat) (st : List Value) : Option (Nat × List (Nat × Value) × List Value) := match st with
  | .int x :: r => some (nx, L, .float (FP.i2f x) :: r)
  | _ => none
def fw_o_i2d (L : List (Nat × Value)) (nx : Nat) (st : List Value) : Option (Nat × List (Nat × Value) × List Value) := match st with
  | .int x :: r => some (nx, L, .double (FP.i2d x) :: r)
  | _ => none
def fw_o_l2d (L : List (Nat × Value)) (nx : Nat) (st : List Value) : Option (Nat × List (Nat × Value) × List Value) := match st with
  | .long x :: r => some (nx, L, .double (FP.l2d x) :: r)
  | _ => none
def fw_o_lcmp (L : List (Nat × Value)) (nx : Nat) (st : List Value) : Option (Nat × List (Nat × Value) × List Value) := match st with
  | .long y :: .long x :: r => some (nx, L, .int (lg_cmp x y) :: r)
  | _ => none
def fw_dup (L : List (Nat × Value)) (nx : Nat) (st : List Value) : Option (Nat × List (Nat × Value) × List Value) := match st with
  | v :: r => bif Nat.beq v.category 1 then some (nx, L, v :: v :: r) else none
  | _ => none
def fw_pop (L : List (Nat × Value)) (nx : Nat) (st : List Value) : Option (Nat × List (Nat × Value) × List Value) := match st with
  | v :: r => bif Nat.beq v.category 1 then some (nx, L, r) else none
  | _ => none
def fw_dupx1 (L : List (Nat × Value)) (nx : Nat) (st : List Value) : Option (Nat × List (Nat × Value) × List Value) := match st with
  | v :: u :: r => bif Nat.beq v.category 1 && Nat.beq u.category 1 then some (nx, L, v :: u :: v :: r) else none
  | _ => none
def fw_dup2 (L : List (Nat × Value)) (nx : Nat) (st : List Value) : Option (Nat × List (Nat × Value) × List Value) := match st with
  | v :: u :: r => bif Nat.beq v.category 1 && Nat.beq u.category 1 then some (nx, L, v :: u :: v :: u :: r) else none
  | _ => none
def fw_ifn (L : List (Nat × Value)) (nx a : Nat) (st : List Value) : Option (Nat × List (Nat × Value) × List Value) := match st with
  | .ref _ :: r => some (nx, L, r)
  | .null :: r => some (a, L, r)
  | _ => none
def fw_ifnn (L : List (Nat × Value)) (nx a : Nat) (st : List Value) : Option (Nat × List (Nat × Value) × List Value) := match st with
  | .ref _ :: r => some (a, L, r)
  | .null :: r => some (nx, L, r)
  | _ => none
def fw_st (i : Instr) (nx a : Nat) (v : Int32) (L : List (Nat × Value)) (st : List Value) : Option (Nat × List (Nat × Value) × List Value) := match i with
  | .iload _ => fw_ldi L a nx st
  | .iload_n _ => fw_ldi L a nx st
  | .lload _ => fw_ldl L a nx st
  | .lload_n _ => fw_ldl L a nx st
  | .fload _ => fw_ldf L a nx st
  | .fload_n _ => fw_ldf L a nx st
  | .dload _ => fw_ldd L a nx st
  | .dload_n _ => fw_ldd L a nx st
  | .aload _ => fw_lda L a nx st
  | .aload_n _ => fw_lda L a nx st
  | .istore _ => fw_svi L a nx st
  | .istore_n _ => fw_svi L a nx st
  | .astore _ => fw_sva L a nx st
  | .astore_n _ => fw_sva L a nx st
  | .fstore _ => fw_svf L a nx st
  | .lstore _ => fw_svl L a nx st
  | .lstore_n _ => fw_svl L a nx st
  | .dstore _ => fw_svd L a nx st
  | .iinc _ _ => fw_inc L a nx v st
  | .iconst _ => some (nx, L, .int v :: st)
  | .bipush _ => some (nx, L, .int v :: st)
  | .sipush _ => some (nx, L, .int v :: st)
  | .lconst n => some (nx, L, .long (Int64.ofNat (n : Nat)) :: st)
  | .iadd => fw_o_iadd L nx st
  | .isub => fw_o_isub L nx st
  | .imul => fw_o_imul L nx st
  | .iand => fw_o_iand L nx st
  | .ior => fw_o_ior L nx st
  | .ishl => fw_o_ishl L nx st
  | .ishr => fw_o_ishr L nx st
  | .iushr => fw_o_iushr L nx st
  | .ineg => fw_o_ineg L nx st
  | .ladd => fw_o_ladd L nx st
  | .lsub => fw_o_lsub L nx st
  | .land => fw_o_land L nx st
  | .lor => fw_o_lor L nx st
  | .lxor => fw_o_lxor L nx st
  | .lshl => fw_o_lshl L nx st
  | .lushr => fw_o_lushr L nx st
  | .i2l => fw_o_i2l L nx st
  | .l2i => fw_o_l2i L nx st
  | .i2c => fw_o_i2c L nx st
  | .i2b => fw_o_i2b L nx st
  | .i2f => fw_o_i2f L nx st
  | .i2d => fw_o_i2d L nx st
  | .l2d => fw_o_l2d L nx st
  | .lcmp => fw_o_lcmp L nx st
  | .dup => fw_dup L nx st
  | .pop => fw_pop L nx st
  | .dup_x1 => fw_dupx1 L nx st
  | .dup2 => fw_dup2 L nx st
  | .aconst_null => some (nx, L, .null :: st)
  | .goto _ => some (a, L, st)
  | .ifnull _ => fw_ifn L nx a st
  | .ifnonnull _ => fw_ifnn L nx a st
  | _ => none
section PWR
variable {G : fw_G} {y : fw_M} {Q : fw_Q} {d kc ks : Nat} {h : fw_H} {pc nx a : Nat} {v : Int32} {L L' : List (Nat × Value)} {st st' : List Value} {pc' : Nat}
theorem pw_iload {j : Nat} (hd : fw_rok y (pc, .iload j, nx, a, v)) (hs : fw_ldi L a nx st = some (pc', L', st')) (k : PW G y Q d kc ks h pc' L' st') : PW G y Q d kc ks h pc L st := by
  unfold fw_ldi at hs
  have ej : a = j := Nat.eq_of_beq_eq_true hd.2.2
  have en : nx = pc + 2 := hd.2.1
  split at hs
  · cases hs
    intro p e R s m args below meth c H locs cells slots ls C X
    exact lv_iload C.1 C.2.1 hd.1 (ej ▸ X.2.2.2.2.2 a _ ‹_›) (en ▸ k p e R s m args below meth c H locs cells slots ls C X)
  · cases hs
theorem pw_iload_n {j : Fin 4} (hd : fw_rok y (pc, .iload_n j, nx, a, v)) (hs : fw_ldi L a nx st = some (pc', L', st')) (k : PW G y Q d kc ks h pc' L' st') : PW G y Q d kc ks h pc L st := by
  unfold fw_ldi at hs
  have ej : a = j.val := Nat.eq_of_beq_eq_true hd.2.2
  have en : nx = pc + 1 := hd.2.1
  split at hs
  · cases hs
    intro p e R s m args below meth c H locs cells slots ls C X
    exact lv_iload_n C.1 C.2.1 hd.1 ej.symm (X.2.2.2.2.2 a _ ‹_›) (en ▸ k p e R s m args below meth c H locs cells slots ls C X)
  · cases hs
theorem pw_lload {j : Nat} (hd : fw_rok y (pc, .lload j, nx, a, v)) (hs : fw_ldl L a nx st = some (pc', L', st')) (k : PW G y Q d kc ks h pc' L' st') : PW G y Q d kc ks h pc L st := by
  unfold fw_ldl at hs
  have ej : a = j := Nat.eq_of_beq_eq_true hd.2.2
  have en : nx = pc + 2 := hd.2.1
  split at hs
  · cases hs
    intro p e R s m args below meth c H locs cells slots ls C X
    exact lv_lload C.1 C.2.1 hd.1 (ej ▸ X.2.2.2.2.2 a _ ‹_›) (en ▸ k p e R s m args below meth c H locs cells slots ls C X)
  · cases hs
theorem pw_lload_n {j : Fin 4} (hd : fw_rok y (pc, .lload_n j, nx, a, v)) (hs : fw_ldl L a nx st = some (pc', L', st')) (k : PW G y Q d kc ks h pc' L' st') : PW G y Q d kc ks h pc L st := by
  unfold fw_ldl at hs
  have ej : a = j.val := Nat.eq_of_beq_eq_true hd.2.2
  have en : nx = pc + 1 := hd.2.1
  split at hs
  · cases hs
    intro p e R s m args below meth c H locs cells slots ls C X
    exact lv_lload_n C.1 C.2.1 hd.1 ej.symm (X.2.2.2.2.2 a _ ‹_›) (en ▸ k p e R s m args below meth c H locs cells slots ls C X)
  · cases hs
theorem pw_fload {j : Nat} (hd : fw_rok y (pc, .fload j, nx, a, v)) (hs : fw_ldf L a nx st = some (pc', L', st')) (k : PW G y Q d kc ks h pc' L' st') : PW G y Q d kc ks h pc L st := by
  unfold fw_ldf at hs
  have ej : a = j := Nat.eq_of_beq_eq_true hd.2.2
  have en : nx = pc + 2 := hd.2.1
  split at hs
  · cases hs
    intro p e R s m args below meth c H locs cells slots ls C X
    exact lv_fload C.1 C.2.1 hd.1 (ej ▸ X.2.2.2.2.2 a _ ‹_›) (en ▸ k p e R s m args below meth c H locs cells slots ls C X)
  · cases hs
theorem pw_fload_n {j : Fin 4} (hd : fw_rok y (pc, .fload_n j, nx, a, v)) (hs : fw_ldf L a nx st = some (pc', L', st')) (k : PW G y Q d kc ks h pc' L' st') : PW G y Q d kc ks h pc L st := by
  unfold fw_ldf at hs
  have ej : a = j.val := Nat.eq_of_beq_eq_true hd.2.2
  have en : nx = pc + 1 := hd.2.1
  split at hs
  · cases hs
    intro p e R s m args below meth c H locs cells slots ls C X
    exact lv_fload_n C.1 C.2.1 hd.1 ej.symm (X.2.2.2.2.2 a _ ‹_›) (en ▸ k p e R s m args below meth c H locs cells slots ls C X)
  · cases hs
theorem pw_dload {j : Nat} (hd : fw_rok y (pc, .dload j, nx, a, v)) (hs : fw_ldd L a nx st = some (pc', L', st')) (k : PW G y Q d kc ks h pc' L' st') : PW G y Q d kc ks h pc L st := by
  unfold fw_ldd at hs
  have ej : a = j := Nat.eq_of_beq_eq_true hd.2.2
  have en : nx = pc + 2 := hd.2.1
  split at hs
  · cases hs
    intro p e R s m args below meth c H locs cells slots ls C X
    exact lv_dload C.1 C.2.1 hd.1 (ej ▸ X.2.2.2.2.2 a _ ‹_›) (en ▸ k p e R s m args below meth c H locs cells slots ls C X)
  · cases hs
theorem pw_dload_n {j : Fin 4} (hd : fw_rok y (pc, .dload_n j, nx, a, v)) (hs : fw_ldd L a nx st = some (pc', L', st')) (k : PW G y Q d kc ks h pc' L' st') : PW G y Q d kc ks h pc L st := by
  unfold fw_ldd at hs
  have ej : a = j.val := Nat.eq_of_beq_eq_true hd.2.2
  have en : nx = pc + 1 := hd.2.1
  split at hs
  · cases hs
    intro p e R s m args below meth c H locs cells slots ls C X
    exact lv_dload_n C.1 C.2.1 hd.1 ej.symm (X.2.2.2.2.2 a _ ‹_›) (en ▸ k p e R s m args below meth c H locs cells slots ls C X)
  · cases hs
theorem pw_aload {j : Nat} (hd : fw_rok y (pc, .aload j, nx, a, v)) (hs : fw_lda L a nx st = some (pc', L', st')) (k : PW G y Q d kc ks h pc' L' st') : PW G y Q d kc ks h pc L st := by
  unfold fw_lda at hs
  have ej : a = j := Nat.eq_of_beq_eq_true hd.2.2
  have en : nx = pc + 2 := hd.2.1
  split at hs
  · cases hs
    intro p e R s m args below meth c H locs cells slots ls C X
    exact lv_aload C.1 C.2.1 hd.1 (ej ▸ X.2.2.2.2.2 a _ ‹_›) (en ▸ k p e R s m args below meth c H locs cells slots ls C X)
  · cases hs
    intro p e R s m args below meth c H locs cells slots ls C X
    exact lv_aloadN C.1 C.2.1 hd.1 (ej ▸ X.2.2.2.2.2 a _ ‹_›) (en ▸ k p e R s m args below meth c H locs cells slots ls C X)
  · cases hs
theorem pw_aload_n {j : Fin 4} (hd : fw_rok y (pc, .aload_n j, nx, a, v)) (hs : fw_lda L a nx st = some (pc', L', st')) (k : PW G y Q d kc ks h pc' L' st') : PW G y Q d kc ks h pc L st := by
  unfold fw_lda at hs
  have ej : a = j.val := Nat.eq_of_beq_eq_true hd.2.2
  have en : nx = pc + 1 := hd.2.1
  split at hs
  · cases hs
    intro p e R s m args below meth c H locs cells slots ls C X
    exact lv_aload_n C.1 C.2.1 hd.1 ej.symm (X.2.2.2.2.2 a _ ‹_›) (en ▸ k p e R s m args below meth c H locs cells slots ls C X)
  · cases hs
    intro p e R s m args below meth c H locs cells slots ls C X
    exact lv_aload_nN C.1 C.2.1 hd.1 ej.symm (X.2.2.2.2.2 a _ ‹_›) (en ▸ k p e R s m args below meth c H locs cells slots ls C X)
  · cases hs
theorem pw_istore {j : Nat} (hd : fw_rok y (pc, .istore j, nx, a, v)) (hs : fw_svi L a nx st = some (pc', L', st')) (k : PW G y Q d kc ks h pc' L' st') : PW G y Q d kc ks h pc L st := by
  unfold fw_svi at hs
  obtain ⟨e1, e2⟩ := Bool.and_eq_true_iff.mp hd.2.2
  have ej : a = j := Nat.eq_of_beq_eq_true e1
  have el : a < y.2.2.1 := Nat.le_of_ble_eq_true e2
  have en : nx = pc + 2 := hd.2.1
  split at hs
  · cases ho : fw_ok1 L a with
    | false => rw [ho] at hs; cases hs
    | true =>
      rw [ho] at hs
      cases hs
      intro p e R s m args below meth c H locs cells slots ls C X
      subst ej
      exact lv_istore C.1 C.2.1 hd.1 X.2.2.2.lv el rfl (fun ls' h' => en ▸ k p e R s m args below meth c H locs cells slots ls' C ⟨X.1, X.2.1, X.2.2.1, fw_store1 X.2.2.2 ho h'⟩)
  · cases hs
theorem pw_istore_n {j : Fin 4} (hd : fw_rok y (pc, .istore_n j, nx, a, v)) (hs : fw_svi L a nx st = some (pc', L', st')) (k : PW G y Q d kc ks h pc' L' st') : PW G y Q d kc ks h pc L st := by
  unfold fw_svi at hs
  obtain ⟨e1, e2⟩ := Bool.and_eq_true_iff.mp hd.2.2
  have ej : a = j.val := Nat.eq_of_beq_eq_true e1
  have el : a < y.2.2.1 := Nat.le_of_ble_eq_true e2
  have en : nx = pc + 1 := hd.2.1
  split at hs
  · cases ho : fw_ok1 L a with
    | false => rw [ho] at hs; cases hs
    | true =>
      rw [ho] at hs
      cases hs
      intro p e R s m args below meth c H locs cells slots ls C X
      exact lv_istore_n C.1 C.2.1 hd.1 ej.symm X.2.2.2.lv el rfl (fun ls' h' => en ▸ k p e R s m args below meth c H locs cells slots ls' C ⟨X.1, X.2.1, X.2.2.1, fw_store1 X.2.2.2 ho h'⟩)
  · cases hs
theorem pw_astore {j : Nat} (hd : fw_rok y (pc, .astore j, nx, a, v)) (hs : fw_sva L a nx st = some (pc', L', st')) (k : PW G y Q d kc ks h pc' L' st') : PW G y Q d kc ks h pc L st := by
  unfold fw_sva at hs
  obtain ⟨e1, e2⟩ := Bool.and_eq_true_iff.mp hd.2.2
  have ej : a = j := Nat.eq_of_beq_eq_true e1
  have el : a < y.2.2.1 := Nat.le_of_ble_eq_true e2
  have en : nx = pc + 2 := hd.2.1
  split at hs
  · cases ho : fw_ok1 L a with
    | false => rw [ho] at hs; cases hs
    | true =>
      rw [ho] at hs
      cases hs
      intro p e R s m args below meth c H locs cells slots ls C X
      subst ej
      exact lv_astore C.1 C.2.1 hd.1 X.2.2.2.lv el rfl (fun ls' h' => en ▸ k p e R s m args below meth c H locs cells slots ls' C ⟨X.1, X.2.1, X.2.2.1, fw_store1 X.2.2.2 ho h'⟩)
  · cases ho : fw_ok1 L a with
    | false => rw [ho] at hs; cases hs
    | true =>
      rw [ho] at hs
      cases hs
      intro p e R s m args below meth c H locs cells slots ls C X
      subst ej
      exact lv_astoreN C.1 C.2.1 hd.1 X.2.2.2.lv el rfl (fun ls' h' => en ▸ k p e R s m args below meth c H locs cells slots ls' C ⟨X.1, X.2.1, X.2.2.1, fw_store1 X.2.2.2 ho h'⟩)
  · cases hs
theorem pw_astore_n {j : Fin 4} (hd : fw_rok y (pc, .astore_n j, nx, a, v)) (hs : fw_sva L a nx st = some (pc', L', st')) (k : PW G y Q d kc ks h pc' L' st') : PW G y Q d kc ks h pc L st := by
  unfold fw_sva at hs
  obtain ⟨e1, e2⟩ := Bool.and_eq_true_iff.mp hd.2.2
  have ej : a = j.val := Nat.eq_of_beq_eq_true e1
  have el : a < y.2.2.1 := Nat.le_of_ble_eq_true e2
  have en : nx = pc + 1 := hd.2.1
  split at hs
  · cases ho : fw_ok1 L a with
    | false => rw [ho] at hs; cases hs
    | true =>
      rw [ho] at hs
      cases hs
      intro p e R s m args below meth c H locs cells slots ls C X
      exact lv_astore_n C.1 C.2.1 hd.1 ej.symm X.2.2.2.lv el rfl (fun ls' h' => en ▸ k p e R s m args below meth c H locs cells slots ls' C ⟨X.1, X.2.1, X.2.2.1, fw_store1 X.2.2.2 ho h'⟩)
  · cases ho : fw_ok1 L a with
    | false => rw [ho] at hs; cases hs
    | true =>
      rw [ho] at hs
      cases hs
      intro p e R s m args below meth c H locs cells slots ls C X
      exact lv_astore_nN C.1 C.2.1 hd.1 ej.symm X.2.2.2.lv el rfl (fun ls' h' => en ▸ k p e R s m args below meth c H locs cells slots ls' C ⟨X.1, X.2.1, X.2.2.1, fw_store1 X.2.2.2 ho h'⟩)
  · cases hs
theorem pw_fstore {j : Nat} (hd : fw_rok y (pc, .fstore j, nx, a, v)) (hs : fw_svf L a nx st = some (pc', L', st')) (k : PW G y Q d kc ks h pc' L' st') : PW G y Q d kc ks h pc L st := by
  unfold fw_svf at hs
  obtain ⟨e1, e2⟩ := Bool.and_eq_true_iff.mp hd.2.2
  have ej : a = j := Nat.eq_of_beq_eq_true e1
  have el : a < y.2.2.1 := Nat.le_of_ble_eq_true e2
  have en : nx = pc + 2 := hd.2.1
  split at hs
  · cases ho : fw_ok1 L a with
    | false => rw [ho] at hs; cases hs
    | true =>
      rw [ho] at hs
      cases hs
      intro p e R s m args below meth c H locs cells slots ls C X
      subst ej
      exact lv_fstore C.1 C.2.1 hd.1 X.2.2.2.lv el rfl (fun ls' h' => en ▸ k p e R s m args below meth c H locs cells slots ls' C ⟨X.1, X.2.1, X.2.2.1, fw_store1 X.2.2.2 ho h'⟩)
  · cases hs
theorem pw_lstore {j : Nat} (hd : fw_rok y (pc, .lstore j, nx, a, v)) (hs : fw_svl L a nx st = some (pc', L', st')) (k : PW G y Q d kc ks h pc' L' st') : PW G y Q d kc ks h pc L st := by
  unfold fw_svl at hs
  obtain ⟨e1, e2⟩ := Bool.and_eq_true_iff.mp hd.2.2
  have ej : a = j := Nat.eq_of_beq_eq_true e1
  have el : a + 1 < y.2.2.1 := Nat.le_of_ble_eq_true e2
  have en : nx = pc + 2 := hd.2.1
  split at hs
  · cases ho : fw_ok2 L a with
    | false => rw [ho] at hs; cases hs
    | true =>
      rw [ho] at hs
      cases hs
      intro p e R s m args below meth c H locs cells slots ls C X
      subst ej
      exact lv_lstore C.1 C.2.1 hd.1 X.2.2.2.lv el rfl (fun ls' h' => en ▸ k p e R s m args below meth c H locs cells slots ls' C ⟨X.1, X.2.1, X.2.2.1, fw_store2 X.2.2.2 ho h'⟩)
  · cases hs
theorem pw_lstore_n {j : Fin 4} (hd : fw_rok y (pc, .lstore_n j, nx, a, v)) (hs : fw_svl L a nx st = some (pc', L', st')) (k : PW G y Q d kc ks h pc' L' st') : PW G y Q d kc ks h pc L st := by
  unfold fw_svl at hs
  obtain ⟨e1, e2⟩ := Bool.and_eq_true_iff.mp hd.2.2
  have ej : a = j.val := Nat.eq_of_beq_eq_true e1
  have el : a + 1 < y.2.2.1 := Nat.le_of_ble_eq_true e2
  have en : nx = pc + 1 := hd.2.1
  split at hs
  · cases ho : fw_ok2 L a with
    | false => rw [ho] at hs; cases hs
    | true =>
      rw [ho] at hs
      cases hs
      intro p e R s m args below meth c H locs cells slots ls C X
      exact lv_lstore_n C.1 C.2.1 hd.1 ej.symm X.2.2.2.lv el rfl (fun ls' h' => en ▸ k p e R s m args below meth c H locs cells slots ls' C ⟨X.1, X.2.1, X.2.2.1, fw_store2 X.2.2.2 ho h'⟩)
  · cases hs
theorem pw_dstore {j : Nat} (hd : fw_rok y (pc, .dstore j, nx, a, v)) (hs : fw_svd L a nx st = some (pc', L', st')) (k : PW G y Q d kc ks h pc' L' st') : PW G y Q d kc ks h pc L st := by
  unfold fw_svd at hs
  obtain ⟨e1, e2⟩ := Bool.and_eq_true_iff.mp hd.2.2
  have ej : a = j := Nat.eq_of_beq_eq_true e1
  have el : a + 1 < y.2.2.1 := Nat.le_of_ble_eq_true e2
  have en : nx = pc + 2 := hd.2.1
  split at hs
  · cases ho : fw_ok2 L a with
    | false => rw [ho] at hs; cases hs
    | true =>
      rw [ho] at hs
      cases hs
      intro p e R s m args below meth c H locs cells slots ls C X
      subst ej
      exact lv_dstore C.1 C.2.1 hd.1 X.2.2.2.lv el rfl (fun ls' h' => en ▸ k p e R s m args below meth c H locs cells slots ls' C ⟨X.1, X.2.1, X.2.2.1, fw_store2 X.2.2.2 ho h'⟩)
  · cases hs
theorem pw_iinc {j : Nat} {n : Int} (hd : fw_rok y (pc, .iinc j n, nx, a, v)) (hs : fw_inc L a nx v st = some (pc', L', st')) (k : PW G y Q d kc ks h pc' L' st') : PW G y Q d kc ks h pc L st := by
  unfold fw_inc at hs
  obtain ⟨e0, e3⟩ := Bool.and_eq_true_iff.mp hd.2.2
  obtain ⟨e1, e2⟩ := Bool.and_eq_true_iff.mp e0
  have ej : a = j := Nat.eq_of_beq_eq_true e1
  have el : a < y.2.2.1 := Nat.le_of_ble_eq_true e2
  have ev : Int32.ofInt n = v := of_decide_eq_true e3
  have en : nx = pc + 3 := hd.2.1
  split at hs
  · rename_i x hx
    cases ho : fw_ok1 L a with
    | false => rw [ho] at hs; cases hs
    | true =>
      rw [ho] at hs
      cases hs
      intro p e R s m args below meth c H locs cells slots ls C X
      subst ej
      obtain ⟨k9, h9⟩ := List.getElem?_of_mem (fw_all_mem X.2.2.2 hx)
      exact lv_iinc C.1 C.2.1 hd.1 X.2.2.2.lv h9 (by rw [ev]) el rfl (fun ls' h' => en ▸ k p e R s m args below meth c H locs cells slots ls' C ⟨X.1, X.2.1, X.2.2.1, fw_store1 X.2.2.2 ho h'⟩)
  · cases hs
theorem pw_iconst {n : Int} (hd : fw_rok y (pc, .iconst n, nx, a, v)) (hs : some (nx, L, Value.int v :: st) = some (pc', L', st')) (k : PW G y Q d kc ks h pc' L' st') : PW G y Q d kc ks h pc L st := by
  cases hs
  have en : nx = pc + 1 := hd.2.1
  intro p e R s m args below meth c H locs cells slots ls C X
  exact lv_iconst C.1 C.2.1 hd.1 (of_decide_eq_true hd.2.2) (en ▸ k p e R s m args below meth c H locs cells slots ls C X)
theorem pw_bipush {n : Int} (hd : fw_rok y (pc, .bipush n, nx, a, v)) (hs : some (nx, L, Value.int v :: st) = some (pc', L', st')) (k : PW G y Q d kc ks h pc' L' st') : PW G y Q d kc ks h pc L st := by
  cases hs
  have en : nx = pc + 2 := hd.2.1
  intro p e R s m args below meth c H locs cells slots ls C X
  exact lv_bipush C.1 C.2.1 hd.1 (of_decide_eq_true hd.2.2) (en ▸ k p e R s m args below meth c H locs cells slots ls C X)
theorem pw_sipush {n : Int} (hd : fw_rok y (pc, .sipush n, nx, a, v)) (hs : some (nx, L, Value.int v :: st) = some (pc', L', st')) (k : PW G y Q d kc ks h pc' L' st') : PW G y Q d kc ks h pc L st := by
  cases hs
  have en : nx = pc + 3 := hd.2.1
  intro p e R s m args below meth c H locs cells slots ls C X
  exact lv_sipush C.1 C.2.1 hd.1 (of_decide_eq_true hd.2.2) (en ▸ k p e R s m args below meth c H locs cells slots ls C X)
theorem pw_lconst {n : Fin 2} (hd : fw_rok y (pc, .lconst n, nx, a, v)) (hs : some (nx, L, Value.long (Int64.ofNat (n : Nat)) :: st) = some (pc', L', st')) (k : PW G y Q d kc ks h pc' L' st') : PW G y Q d kc ks h pc L st := by
  cases hs
  have en : nx = pc + 1 := hd.2.1
  intro p e R s m args below meth c H locs cells slots ls C X
  exact lv_lconst C.1 C.2.1 hd.1 rfl (en ▸ k p e R s m args below meth c H locs cells slots ls C X)
theorem pw_iadd (hd : fw_rok y (pc, .iadd, nx, a, v)) (hs : fw_o_iadd L nx st = some (pc', L', st')) (k : PW G y Q d kc ks h pc' L' st') : PW G y Q d kc ks h pc L st := by
  unfold fw_o_iadd at hs
  have en : nx = pc + 1 := hd.2.1
  split at hs
  · cases hs
    intro p e R s m args below meth c H locs cells slots ls C X
    exact lv_iadd C.1 C.2.1 hd.1  (en ▸ k p e R s m args below meth c H locs cells slots ls C X)
  · cases hs
theorem pw_isub (hd : fw_rok y (pc, .isub, nx, a, v)) (hs : fw_o_isub L nx st = some (pc', L', st')) (k : PW G y Q d kc ks h pc' L' st') : PW G y Q d kc ks h pc L st := by
  unfold fw_o_isub at hs
  have en : nx = pc + 1 := hd.2.1
  split at hs
  · cases hs
    intro p e R s m args below meth c H locs cells slots ls C X
    exact lv_isub C.1 C.2.1 hd.1  (en ▸ k p e R s m args below meth c H locs cells slots ls C X)
  · cases hs
theorem pw_imul (hd : fw_rok y (pc, .imul, nx, a, v)) (hs : fw_o_imul L nx st = some (pc', L', st')) (k : PW G y Q d kc ks h pc' L' st') : PW G y Q d kc ks h pc L st := by
  unfold fw_o_imul at hs
  have en : nx = pc + 1 := hd.2.1
  split at hs
  · cases hs
    intro p e R s m args below meth c H locs cells slots ls C X
    exact lv_imul C.1 C.2.1 hd.1  (en ▸ k p e R s m args below meth c H locs cells slots ls C X)
  · cases hs
theorem pw_iand (hd : fw_rok y (pc, .iand, nx, a, v)) (hs : fw_o_iand L nx st = some (pc', L', st')) (k : PW G y Q d kc ks h pc' L' st') : PW G y Q d kc ks h pc L st := by
  unfold fw_o_iand at hs
  have en : nx = pc + 1 := hd.2.1
  split at hs
  · cases hs
    intro p e R s m args below meth c H locs cells slots ls C X
    exact lv_iand C.1 C.2.1 hd.1  (en ▸ k p e R s m args below meth c H locs cells slots ls C X)
  · cases hs
theorem pw_ior (hd : fw_rok y (pc, .ior, nx, a, v)) (hs : fw_o_ior L nx st = some (pc', L', st')) (k : PW G y Q d kc ks h pc' L' st') : PW G y Q d kc ks h pc L st := by
  unfold fw_o_ior at hs
  have en : nx = pc + 1 := hd.2.1
  split at hs
  · cases hs
    intro p e R s m args below meth c H locs cells slots ls C X
    exact lv_ior C.1 C.2.1 hd.1  (en ▸ k p e R s m args below meth c H locs cells slots ls C X)
  · cases hs
theorem pw_ishl (hd : fw_rok y (pc, .ishl, nx, a, v)) (hs : fw_o_ishl L nx st = some (pc', L', st')) (k : PW G y Q d kc ks h pc' L' st') : PW G y Q d kc ks h pc L st := by
  unfold fw_o_ishl at hs
  have en : nx = pc + 1 := hd.2.1
  split at hs
  · cases hs
    intro p e R s m args below meth c H locs cells slots ls C X
    exact lv_ishl C.1 C.2.1 hd.1  (en ▸ k p e R s m args below meth c H locs cells slots ls C X)
  · cases hs
theorem pw_ishr (hd : fw_rok y (pc, .ishr, nx, a, v)) (hs : fw_o_ishr L nx st = some (pc', L', st')) (k : PW G y Q d kc ks h pc' L' st') : PW G y Q d kc ks h pc L st := by
  unfold fw_o_ishr at hs
  have en : nx = pc + 1 := hd.2.1
  split at hs
  · cases hs
    intro p e R s m args below meth c H locs cells slots ls C X
    exact lv_ishr C.1 C.2.1 hd.1  (en ▸ k p e R s m args below meth c H locs cells slots ls C X)
  · cases hs
theorem pw_iushr (hd : fw_rok y (pc, .iushr, nx, a, v)) (hs : fw_o_iushr L nx st = some (pc', L', st')) (k : PW G y Q d kc ks h pc' L' st') : PW G y Q d kc ks h pc L st := by
  unfold fw_o_iushr at hs
  have en : nx = pc + 1 := hd.2.1
  split at hs
  · cases hs
    intro p e R s m args below meth c H locs cells slots ls C X
    exact lv_iushr C.1 C.2.1 hd.1 rfl (en ▸ k p e R s m args below meth c H locs cells slots ls C X)
  · cases hs
theorem pw_ineg (hd : fw_rok y (pc, .ineg, nx, a, v)) (hs : fw_o_ineg L nx st = some (pc', L', st')) (k : PW G y Q d kc ks h pc' L' st') : PW G y Q d kc ks h pc L st := by
  unfold fw_o_ineg at hs
  have en : nx = pc + 1 := hd.2.1
  split at hs
  · cases hs
    intro p e R s m args below meth c H locs cells slots ls C X
    exact lv_ineg C.1 C.2.1 hd.1  (en ▸ k p e R s m args below meth c H locs cells slots ls C X)
  · cases hs
theorem pw_ladd (hd : fw_rok y (pc, .ladd, nx, a, v)) (hs : fw_o_ladd L nx st = some (pc', L', st')) (k : PW G y Q d kc ks h pc' L' st') : PW G y Q d kc ks h pc L st := by
  unfold fw_o_ladd at hs
  have en : nx = pc + 1 := hd.2.1
  split at hs
  · cases hs
    intro p e R s m args below meth c H locs cells slots ls C X
    exact lv_ladd C.1 C.2.1 hd.1  (en ▸ k p e R s m args below meth c H locs cells slots ls C X)
  · cases hs
theorem pw_lsub (hd : fw_rok y (pc, .lsub, nx, a, v)) (hs : fw_o_lsub L nx st = some (pc', L', st')) (k : PW G y Q d kc ks h pc' L' st') : PW G y Q d kc ks h pc L st := by
  unfold fw_o_lsub at hs
  have en : nx = pc + 1 := hd.2.1
  split at hs
  · cases hs
    intro p e R s m args below meth c H locs cells slots ls C X
    exact lv_lsub C.1 C.2.1 hd.1  (en ▸ k p e R s m args below meth c H locs cells slots ls C X)
  · cases hs
theorem pw_land (hd : fw_rok y (pc, .land, nx, a, v)) (hs : fw_o_land L nx st = some (pc', L', st')) (k : PW G y Q d kc ks h pc' L' st') : PW G y Q d kc ks h pc L st := by
  unfold fw_o_land at hs
  have en : nx = pc + 1 := hd.2.1
  split at hs
  · cases hs
    intro p e R s m args below meth c H locs cells slots ls C X
    exact lv_land C.1 C.2.1 hd.1  (en ▸ k p e R s m args below meth c H locs cells slots ls C X)
  · cases hs
theorem pw_lor (hd : fw_rok y (pc, .lor, nx, a, v)) (hs : fw_o_lor L nx st = some (pc', L', st')) (k : PW G y Q d kc ks h pc' L' st') : PW G y Q d kc ks h pc L st := by
  unfold fw_o_lor at hs
  have en : nx = pc + 1 := hd.2.1
  split at hs
  · cases hs
    intro p e R s m args below meth c H locs cells slots ls C X
    exact lv_lor C.1 C.2.1 hd.1  (en ▸ k p e R s m args below meth c H locs cells slots ls C X)
  · cases hs
theorem pw_lxor (hd : fw_rok y (pc, .lxor, nx, a, v)) (hs : fw_o_lxor L nx st = some (pc', L', st')) (k : PW G y Q d kc ks h pc' L' st') : PW G y Q d kc ks h pc L st := by
  unfold fw_o_lxor at hs
  have en : nx = pc + 1 := hd.2.1
  split at hs
  · cases hs
    intro p e R s m args below meth c H locs cells slots ls C X
    exact lv_lxor C.1 C.2.1 hd.1  (en ▸ k p e R s m args below meth c H locs cells slots ls C X)
  · cases hs
theorem pw_lshl (hd : fw_rok y (pc, .lshl, nx, a, v)) (hs : fw_o_lshl L nx st = some (pc', L', st')) (k : PW G y Q d kc ks h pc' L' st') : PW G y Q d kc ks h pc L st := by
  unfold fw_o_lshl at hs
  have en : nx = pc + 1 := hd.2.1
  split at hs
  · cases hs
    intro p e R s m args below meth c H locs cells slots ls C X
    exact lv_lshl C.1 C.2.1 hd.1 rfl (en ▸ k p e R s m args below meth c H locs cells slots ls C X)
  · cases hs
theorem pw_lushr (hd : fw_rok y (pc, .lushr, nx, a, v)) (hs : fw_o_lushr L nx st = some (pc', L', st')) (k : PW G y Q d kc ks h pc' L' st') : PW G y Q d kc ks h pc L st := by
  unfold fw_o_lushr at hs
  have en : nx = pc + 1 := hd.2.1
  split at hs
  · cases hs
    intro p e R s m args below meth c H locs cells slots ls C X
    exact lv_lushr C.1 C.2.1 hd.1 rfl (en ▸ k p e R s m args below meth c H locs cells slots ls C X)
  · cases hs
theorem pw_i2l (hd : fw_rok y (pc, .i2l, nx, a, v)) (hs : fw_o_i2l L nx st = some (pc', L', st')) (k : PW G y Q d kc ks h pc' L' st') : PW G y Q d kc ks h pc L st := by
  unfold fw_o_i2l at hs
  have en : nx = pc + 1 := hd.2.1
  split at hs
  · cases hs
    intro p e R s m args below meth c H locs cells slots ls C X
    exact lv_i2l C.1 C.2.1 hd.1 rfl (en ▸ k p e R s m args below meth c H locs cells slots ls C X)
  · cases hs
theorem pw_l2i (hd : fw_rok y (pc, .l2i, nx, a, v)) (hs : fw_o_l2i L nx st = some (pc', L', st')) (k : PW G y Q d kc ks h pc' L' st') : PW G y Q d kc ks h pc L st := by
  unfold fw_o_l2i at hs
  have en : nx = pc + 1 := hd.2.1
  split at hs
  · cases hs
    intro p e R s m args below meth c H locs cells slots ls C X
    exact lv_l2i C.1 C.2.1 hd.1 rfl (en ▸ k p e R s m args below meth c H locs cells slots ls C X)
  · cases hs
theorem pw_i2c (hd : fw_rok y (pc, .i2c, nx, a, v)) (hs : fw_o_i2c L nx st = some (pc', L', st')) (k : PW G y Q d kc ks h pc' L' st') : PW G y Q d kc ks h pc L st := by
  unfold fw_o_i2c at hs
  have en : nx = pc + 1 := hd.2.1
  split at hs
  · cases hs
    intro p e R s m args below meth c H locs cells slots ls C X
    exact lv_i2c C.1 C.2.1 hd.1 rfl (en ▸ k p e R s m args below meth c H locs cells slots ls C X)
  · cases hs
theorem pw_i2b (hd : fw_rok y (pc, .i2b, nx, a, v)) (hs : fw_o_i2b L nx st = some (pc', L', st')) (k : PW G y Q d kc ks h pc' L' st') : PW G y Q d kc ks h pc L st := by
  unfold fw_o_i2b at hs
  have en : nx = pc + 1 := hd.2.1
  split at hs
  · cases hs
    intro p e R s m args below meth c H locs cells slots ls C X
    exact lv_i2b C.1 C.2.1 hd.1 rfl (en ▸ k p e R s m args below meth c H locs cells slots ls C X)
  · cases hs
theorem pw_i2f (hd : fw_rok y (pc, .i2f, nx, a, v)) (hs : fw_o_i2f L nx st = some (pc', L', st')) (k : PW G y Q d kc ks h pc' L' st') : PW G y Q d kc ks h pc L st := by
  unfold fw_o_i2f at hs
  have en : nx = pc + 1 := hd.2.1
  split at hs
  · cases hs
    intro p e R s m args below meth c H locs cells slots ls C X
    exact lv_i2f C.1 C.2.1 hd.1  (en ▸ k p e R s m args below meth c H locs cells slots ls C X)
  · cases hs
theorem pw_i2d (hd : fw_rok y (pc, .i2d, nx, a, v)) (hs : fw_o_i2d L nx st = some (pc', L', st')) (k : PW G y Q d kc ks h pc' L' st') : PW G y Q d kc ks h pc L st := by
  unfold fw_o_i2d at hs
  have en : nx = pc + 1 := hd.2.1
  split at hs
  · cases hs
    intro p e R s m args below meth c H locs cells slots ls C X
    exact lv_i2d C.1 C.2.1 hd.1  (en ▸ k p e R s m args below meth c H locs cells slots ls C X)
  · cases hs
theorem pw_l2d (hd : fw_rok y (pc, .l2d, nx, a, v)) (hs : fw_o_l2d L nx st = some (pc', L', st')) (k : PW G y Q d kc ks h pc' L' st') : PW G y Q d kc ks h pc L st := by
  unfold fw_o_l2d at hs
  have en : nx = pc + 1 := hd.2.1
  split at hs
  · cases hs
    intro p e R s m args below meth c H locs cells slots ls C X
    exact lv_l2d C.1 C.2.1 hd.1  (en ▸ k p e R s m args below meth c H locs cells slots ls C X)
  · cases hs
theorem pw_lcmp (hd : fw_rok y (pc, .lcmp, nx, a, v)) (hs : fw_o_lcmp L nx st = some (pc', L', st')) (k : PW G y Q d kc ks h pc' L' st') : PW G y Q d kc ks h pc L st := by
  unfold fw_o_lcmp at hs
  have en : nx = pc + 1 := hd.2.1
  split at hs
  · cases hs
    intro p e R s m args below meth c H locs cells slots ls C X
    exact W.lcmp C.1 C.2.1 hd.1  (en ▸ k p e R s m args below meth c H locs cells slots ls C X)
  · cases hs
theorem pw_dup (hd : fw_rok y (pc, .dup, nx, a, v)) (hs : fw_dup L nx st = some (pc', L', st')) (k : PW G y Q d kc ks h pc' L' st') : PW G y Q d kc ks h pc L st := by
  unfold fw_dup at hs
  have en : nx = pc + 1 := hd.2.1
  split at hs
  · rename_i v9 r9
    cases hc : Nat.beq v9.category 1 with
    | false => rw [hc] at hs; cases hs
    | true =>
      rw [hc] at hs
      cases hs
      intro p e R s m args below meth c H locs cells slots ls C X
      exact lv_dup C.1 C.2.1 hd.1 (Nat.eq_of_beq_eq_true hc) (en ▸ k p e R s m args below meth c H locs cells slots ls C X)
  · cases hs
theorem pw_pop (hd : fw_rok y (pc, .pop, nx, a, v)) (hs : fw_pop L nx st = some (pc', L', st')) (k : PW G y Q d kc ks h pc' L' st') : PW G y Q d kc ks h pc L st := by
  unfold fw_pop at hs
  have en : nx = pc + 1 := hd.2.1
  split at hs
  · rename_i v9 r9
    cases hc : Nat.beq v9.category 1 with
    | false => rw [hc] at hs; cases hs
    | true =>
      rw [hc] at hs
      cases hs
      intro p e R s m args below meth c H locs cells slots ls C X
      exact lv_pop C.1 C.2.1 hd.1 (Nat.eq_of_beq_eq_true hc) (en ▸ k p e R s m args below meth c H locs cells slots ls C X)
  · cases hs
theorem pw_dup_x1 (hd : fw_rok y (pc, .dup_x1, nx, a, v)) (hs : fw_dupx1 L nx st = some (pc', L', st')) (k : PW G y Q d kc ks h pc' L' st') : PW G y Q d kc ks h pc L st := by
  unfold fw_dupx1 at hs
  have en : nx = pc + 1 := hd.2.1
  split at hs
  · rename_i v9 u9 r9
    cases hc : (Nat.beq v9.category 1 && Nat.beq u9.category 1) with
    | false => rw [hc] at hs; cases hs
    | true =>
      rw [hc] at hs
      obtain ⟨h1, h2⟩ := Bool.and_eq_true_iff.mp hc
      cases hs
      intro p e R s m args below meth c H locs cells slots ls C X
      exact lv_dup_x1 C.1 C.2.1 hd.1 (Nat.eq_of_beq_eq_true h1) (Nat.eq_of_beq_eq_true h2) (en ▸ k p e R s m args below meth c H locs cells slots ls C X)
  · cases hs
theorem pw_dup2 (hd : fw_rok y (pc, .dup2, nx, a, v)) (hs : fw_dup2 L nx st = some (pc', L', st')) (k : PW G y Q d kc ks h pc' L' st') : PW G y Q d kc ks h pc L st := by
  unfold fw_dup2 at hs
  have en : nx = pc + 1 := hd.2.1
  split at hs
  · rename_i v9 u9 r9
    cases hc : (Nat.beq v9.category 1 && Nat.beq u9.category 1) with
    | false => rw [hc] at hs; cases hs
    | true =>
      rw [hc] at hs
      obtain ⟨h1, h2⟩ := Bool.and_eq_true_iff.mp hc
      cases hs
      intro p e R s m args below meth c H locs cells slots ls C X
      exact lv_dup2_11 C.1 C.2.1 hd.1 (Nat.eq_of_beq_eq_true h1) (Nat.eq_of_beq_eq_true h2) (en ▸ k p e R s m args below meth c H locs cells slots ls C X)
  · cases hs
theorem pw_aconst_null (hd : fw_rok y (pc, .aconst_null, nx, a, v)) (hs : some (nx, L, Value.null :: st) = some (pc', L', st')) (k : PW G y Q d kc ks h pc' L' st') : PW G y Q d kc ks h pc L st := by
  cases hs
  have en : nx = pc + 1 := hd.2.1
  intro p e R s m args below meth c H locs cells slots ls C X
  exact lv_null C.1 C.2.1 hd.1 (en ▸ k p e R s m args below meth c H locs cells slots ls C X)
theorem pw_goto {off : Int} (hd : fw_rok y (pc, .goto off, nx, a, v)) (hs : some (a, L, st) = some (pc', L', st')) (k : PW G y Q d kc ks h pc' L' st') : PW G y Q d kc ks h pc L st := by
  cases hs
  intro p e R s m args below meth c H locs cells slots ls C X
  exact lv_goto C.1 C.2.1 hd.1 (of_decide_eq_true hd.2.2) (k p e R s m args below meth c H locs cells slots ls C X)
theorem pw_ifnull {off : Int} (hd : fw_rok y (pc, .ifnull off, nx, a, v)) (hs : fw_ifn L nx a st = some (pc', L', st')) (k : PW G y Q d kc ks h pc' L' st') : PW G y Q d kc ks h pc L st := by
  unfold fw_ifn at hs
  have en : nx = pc + 3 := hd.2.1
  split at hs
  · cases hs
    intro p e R s m args below meth c H locs cells slots ls C X
    exact lv_ifnull C.1 C.2.1 hd.1 (en ▸ k p e R s m args below meth c H locs cells slots ls C X)
  · cases hs
    intro p e R s m args below meth c H locs cells slots ls C X
    exact lv_ifnullN C.1 C.2.1 hd.1 (of_decide_eq_true hd.2.2) (k p e R s m args below meth c H locs cells slots ls C X)
  · cases hs
theorem pw_ifnonnull {off : Int} (hd : fw_rok y (pc, .ifnonnull off, nx, a, v)) (hs : fw_ifnn L nx a st = some (pc', L', st')) (k : PW G y Q d kc ks h pc' L' st') : PW G y Q d kc ks h pc L st := by
  unfold fw_ifnn at hs
  have en : nx = pc + 3 := hd.2.1
  split at hs
  · cases hs
    intro p e R s m args below meth c H locs cells slots ls C X
    exact lv_ifnonnull C.1 C.2.1 hd.1 (of_decide_eq_true hd.2.2) (k p e R s m args below meth c H locs cells slots ls C X)
  · cases hs
    intro p e R s m args below meth c H locs cells slots ls C X
    exact lv_ifnonnullN C.1 C.2.1 hd.1 (en ▸ k p e R s m args below meth c H locs cells slots ls C X)
  · cases hs
/-- a step that needs no fact -/
theorem pw_go {tb : List fw_R} {i : Instr} (hT : fw_tok y tb) (hr : fw_at tb pc = some (i, nx, a, v)) (hs : fw_st i nx a v L st = some (pc', L', st')) (k : PW G y Q d kc ks h pc' L' st') : PW G y Q d kc ks h pc L st := by
  have hd := fw_row hT hr
  cases i with
  | iload j => exact pw_iload hd hs k
  | iload_n j => exact pw_iload_n hd hs k
  | lload j => exact pw_lload hd hs k
  | lload_n j => exact pw_lload_n hd hs k
  | fload j => exact pw_fload hd hs k
  | fload_n j => exact pw_fload_n hd hs k
  | dload j => exact pw_dload hd hs k
  | dload_n j => exact pw_dload_n hd hs k
  | aload j => exact pw_aload hd hs k
  | aload_n j => exact pw_aload_n hd hs k
  | istore j => exact pw_istore hd hs k
  | istore_n j => exact pw_istore_n hd hs k
  | astore j => exact pw_astore hd hs k
  | astore_n j => exact pw_astore_n hd hs k
  | fstore j => exact pw_fstore hd hs k
  | lstore j => exact pw_lstore hd hs k
  | lstore_n j => exact pw_lstore_n hd hs k
  | dstore j => exact pw_dstore hd hs k
  | iinc j n => exact pw_iinc hd hs k
  | iconst j => exact pw_iconst hd hs k
  | bipush j => exact pw_bipush hd hs k
  | sipush j => exact pw_sipush hd hs k
  | lconst n => exact pw_lconst hd hs k
  | iadd => exact pw_iadd hd hs k
  | isub => exact pw_isub hd hs k
  | imul => exact pw_imul hd hs k
  | iand => exact pw_iand hd hs k
  | ior => exact pw_ior hd hs k
  | ishl => exact pw_ishl hd hs k
  | ishr => exact pw_ishr hd hs k
  | iushr => exact pw_iushr hd hs k
  | ineg => exact pw_ineg hd hs k
  | ladd => exact pw_ladd hd hs k
  | lsub => exact pw_lsub hd hs k
  | land => exact pw_land hd hs k
  | lor => exact pw_lor hd hs k
  | lxor => exact pw_lxor hd hs k
  | lshl => exact pw_lshl hd hs k
  | lushr => exact pw_lushr hd hs k
  | i2l => exact pw_i2l hd hs k
  | l2i => exact pw_l2i hd hs k
  | i2c => exact pw_i2c hd hs k
  | i2b => exact pw_i2b hd hs k
  | i2f => exact pw_i2f hd hs k
  | i2d => exact pw_i2d hd hs k
  | l2d => exact pw_l2d hd hs k
  | lcmp => exact pw_lcmp hd hs k
  | dup => exact pw_dup hd hs k
  | pop => exact pw_pop hd hs k
  | dup_x1 => exact pw_dup_x1 hd hs k
  | dup2 => exact pw_dup2 hd hs k
  | aconst_null => exact pw_aconst_null hd hs k
  | goto j => exact pw_goto hd hs k
  | ifnull j => exact pw_ifnull hd hs k
  | ifnonnull j => exact pw_ifnonnull hd hs k
  | _ => cases hs
def fw_br (i : Instr) (st : List Value) : Option (Prop × List Value) := match i with
  | .if_icmp .eq _ => (match st with | .int y :: .int x :: r => some (x = y, r) | _ => none)
  | .if_icmp .ne _ => (match st with | .int y :: .int x :: r => some (¬ x = y, r) | _ => none)
  | .if_icmp .lt _ => (match st with | .int y :: .int x :: r => some (x < y, r) | _ => none)
  | .if_icmp .ge _ => (match st with | .int y :: .int x :: r => some (y ≤ x, r) | _ => none)
  | .if_icmp .gt _ => (match st with | .int y :: .int x :: r => some (y < x, r) | _ => none)
  | .if_icmp .le _ => (match st with | .int y :: .int x :: r => some (x ≤ y, r) | _ => none)
  | .ifCond .eq _ => (match st with | .int x :: r => some (x = 0, r) | _ => none)
  | .ifCond .ne _ => (match st with | .int x :: r => some (¬ x = 0, r) | _ => none)
  | .ifCond .lt _ => (match st with | .int x :: r => some (x < 0, r) | _ => none)
  | .ifCond .ge _ => (match st with | .int x :: r => some (0 ≤ x, r) | _ => none)
  | .ifCond .gt _ => (match st with | .int x :: r => some (0 < x, r) | _ => none)
  | .ifCond .le _ => (match st with | .int x :: r => some (x ≤ 0, r) | _ => none)
  | _ => none
/-- a branch -/
theorem pw_br {tb : List fw_R} {i : Instr} {c9 : Prop} (hT : fw_tok y tb) (hr : fw_at tb pc = some (i, nx, a, v)) (hs : fw_br i st = some (c9, st')) (kt : c9 → PW G y Q d kc ks h a L st') (kf : ¬ c9 → PW G y Q d kc ks h nx L st') : PW G y Q d kc ks h pc L st := by
  have hd := fw_row hT hr
  cases i with
  | if_icmp cc off =>
    have en : nx = pc + 3 := hd.2.1
    cases cc <;> (simp only [fw_br] at hs; split at hs)
    · cases hs
      intro p e R s m args below meth c H locs cells slots ls C X
      exact lv_icmp_eq C.1 C.2.1 hd.1 (of_decide_eq_true hd.2.2) (fun z => kt z p e R s m args below meth c H locs cells slots ls C X) (fun z => en ▸ kf z p e R s m args below meth c H locs cells slots ls C X)
    · cases hs
    · cases hs
      intro p e R s m args below meth c H locs cells slots ls C X
      exact lv_icmp_ne C.1 C.2.1 hd.1 (of_decide_eq_true hd.2.2) (fun z => kt z p e R s m args below meth c H locs cells slots ls C X) (fun z => en ▸ kf (fun q => q z) p e R s m args below meth c H locs cells slots ls C X)
    · cases hs
    · cases hs
      intro p e R s m args below meth c H locs cells slots ls C X
      exact lv_icmp_lt C.1 C.2.1 hd.1 (of_decide_eq_true hd.2.2) (fun z => kt z p e R s m args below meth c H locs cells slots ls C X) (fun z => en ▸ kf z p e R s m args below meth c H locs cells slots ls C X)
    · cases hs
    · cases hs
      intro p e R s m args below meth c H locs cells slots ls C X
      exact lv_icmp_ge C.1 C.2.1 hd.1 (of_decide_eq_true hd.2.2) (fun z => kt z p e R s m args below meth c H locs cells slots ls C X) (fun z => en ▸ kf z p e R s m args below meth c H locs cells slots ls C X)
    · cases hs
    · cases hs
      intro p e R s m args below meth c H locs cells slots ls C X
      exact lv_icmp_gt C.1 C.2.1 hd.1 (of_decide_eq_true hd.2.2) (fun z => kt z p e R s m args below meth c H locs cells slots ls C X) (fun z => en ▸ kf z p e R s m args below meth c H locs cells slots ls C X)
    · cases hs
    · cases hs
      intro p e R s m args below meth c H locs cells slots ls C X
      exact lv_icmp_le C.1 C.2.1 hd.1 (of_decide_eq_true hd.2.2) (fun z => kt z p e R s m args below meth c H locs cells slots ls C X) (fun z => en ▸ kf z p e R s m args below meth c H locs cells slots ls C X)
    · cases hs
  | ifCond cc off =>
    have en : nx = pc + 3 := hd.2.1
    cases cc <;> (simp only [fw_br] at hs; split at hs)
    · cases hs
      intro p e R s m args below meth c H locs cells slots ls C X
      exact lv_if_eq C.1 C.2.1 hd.1 (of_decide_eq_true hd.2.2) (fun z => kt z p e R s m args below meth c H locs cells slots ls C X) (fun z => en ▸ kf z p e R s m args below meth c H locs cells slots ls C X)
    · cases hs
    · cases hs
      intro p e R s m args below meth c H locs cells slots ls C X
      exact lv_if_ne C.1 C.2.1 hd.1 (of_decide_eq_true hd.2.2) (fun z => kt z p e R s m args below meth c H locs cells slots ls C X) (fun z => en ▸ kf (fun q => q z) p e R s m args below meth c H locs cells slots ls C X)
    · cases hs
    · cases hs
      intro p e R s m args below meth c H locs cells slots ls C X
      exact lv_if_lt C.1 C.2.1 hd.1 (of_decide_eq_true hd.2.2) (fun z => kt z p e R s m args below meth c H locs cells slots ls C X) (fun z => en ▸ kf z p e R s m args below meth c H locs cells slots ls C X)
    · cases hs
    · cases hs
      intro p e R s m args below meth c H locs cells slots ls C X
      exact lv_if_ge C.1 C.2.1 hd.1 (of_decide_eq_true hd.2.2) (fun z => kt z p e R s m args below meth c H locs cells slots ls C X) (fun z => en ▸ kf z p e R s m args below meth c H locs cells slots ls C X)
    · cases hs
    · cases hs
      intro p e R s m args below meth c H locs cells slots ls C X
      exact lv_if_gt C.1 C.2.1 hd.1 (of_decide_eq_true hd.2.2) (fun z => kt z p e R s m args below meth c H locs cells slots ls C X) (fun z => en ▸ kf z p e R s m args below meth c H locs cells slots ls C X)
    · cases hs
    · cases hs
      intro p e R s m args below meth c H locs cells slots ls C X
      exact lv_if_le C.1 C.2.1 hd.1 (of_decide_eq_true hd.2.2) (fun z => kt z p e R s m args below meth c H locs cells slots ls C X) (fun z => en ▸ kf z p e R s m args below meth c H locs cells slots ls C X)
    · cases hs
  | _ => cases hs
theorem pw_ifnullq {tb : List fw_R} {off : Int} {r : Option Nat} {rest : List Value} (hT : fw_tok y tb) (hr : fw_at tb pc = some (.ifnull off, nx, a, v)) (kt : r = none → PW G y Q d kc ks h a L rest) (kf : ∀ b, r = some b → PW G y Q d kc ks h nx L rest) : PW G y Q d kc ks h pc L (va_rf r :: rest) := by
  cases r with
  | none => exact pw_ifnull (fw_row hT hr) rfl (kt rfl)
  | some b => exact pw_ifnull (fw_row hT hr) rfl (kf b rfl)
theorem pw_ifnonnullq {tb : List fw_R} {off : Int} {r : Option Nat} {rest : List Value} (hT : fw_tok y tb) (hr : fw_at tb pc = some (.ifnonnull off, nx, a, v)) (kt : ∀ b, r = some b → PW G y Q d kc ks h a L rest) (kf : r = none → PW G y Q d kc ks h nx L rest) : PW G y Q d kc ks h pc L (va_rf r :: rest) := by
  cases r with
  | none => exact pw_ifnonnull (fw_row hT hr) rfl (kf rfl)
  | some b => exact pw_ifnonnull (fw_row hT hr) rfl (kt b rfl)
theorem pw_acmpeq {tb : List fw_R} {off : Int} {rx ry : Option Nat} {rest : List Value} (hT : fw_tok y tb) (hr : fw_at tb pc = some (.if_acmp .eq off, nx, a, v)) (kt : rx = ry → PW G y Q d kc ks h a L rest) (kf : ¬ rx = ry → PW G y Q d kc ks h nx L rest) : PW G y Q d kc ks h pc L (va_rf ry :: va_rf rx :: rest) := by
  have hd := fw_row hT hr
  have en : nx = pc + 3 := hd.2.1
  intro p e R s m args below meth c H locs cells slots ls C X
  exact lv_acmp_eq C.1 C.2.1 hd.1 (of_decide_eq_true hd.2.2) (fun z => kt z p e R s m args below meth c H locs cells slots ls C X) (fun z => en ▸ kf z p e R s m args below meth c H locs cells slots ls C X)
theorem pw_acmpne {tb : List fw_R} {off : Int} {rx ry : Option Nat} {rest : List Value} (hT : fw_tok y tb) (hr : fw_at tb pc = some (.if_acmp .ne off, nx, a, v)) (kt : ¬ rx = ry → PW G y Q d kc ks h a L rest) (kf : rx = ry → PW G y Q d kc ks h nx L rest) : PW G y Q d kc ks h pc L (va_rf ry :: va_rf rx :: rest) := by
  have hd := fw_row hT hr
  have en : nx = pc + 3 := hd.2.1
  intro p e R s m args below meth c H locs cells slots ls C X
  exact lv_acmp_ne C.1 C.2.1 hd.1 (of_decide_eq_true hd.2.2) (fun z => kt z p e R s m args below meth c H locs cells slots ls C X) (fun z => en ▸ kf z p e R s m args below meth c H locs cells slots ls C X)
theorem pw_div {tb : List fw_R} {x1 x2 : Int32} {rest : List Value} (hT : fw_tok y tb) (hr : fw_at tb pc = some (.idiv, nx, a, v)) (hz : ¬ x2 = 0) (k : PW G y Q d kc ks h nx L (.int (x1 / x2) :: rest)) : PW G y Q d kc ks h pc L (.int x2 :: .int x1 :: rest) := by
  have hd := fw_row hT hr
  have en : nx = pc + 1 := hd.2.1
  intro p e R s m args below meth c H locs cells slots ls C X
  exact lv_idiv C.1 C.2.1 hd.1 hz (en ▸ k p e R s m args below meth c H locs cells slots ls C X)
theorem pw_rem {tb : List fw_R} {x1 x2 : Int32} {rest : List Value} (hT : fw_tok y tb) (hr : fw_at tb pc = some (.irem, nx, a, v)) (hz : ¬ x2 = 0) (k : PW G y Q d kc ks h nx L (.int (x1 - x1 / x2 * x2) :: rest)) : PW G y Q d kc ks h pc L (.int x2 :: .int x1 :: rest) := by
  have hd := fw_row hT hr
  have en : nx = pc + 1 := hd.2.1
  intro p e R s m args below meth c H locs cells slots ls C X
  exact lv_irem C.1 C.2.1 hd.1 hz (en ▸ k p e R s m args below meth c H locs cells slots ls C X)
/-- other locals: fewer, in another order -/
theorem pw_L (hs : ∀ q ∈ L', fw_lk L q.1 = some q.2) (k : PW G y Q d kc ks h pc L' st) : PW G y Q d kc ks h pc L st := by
  intro p e R s m args below meth c H locs cells slots ls C X
  exact k p e R s m args below meth c H locs cells slots ls C ⟨X.1, X.2.1, X.2.2.1, X.2.2.2.sub hs⟩
theorem pw_e {st2 : List Value} (hs : st = st2) (k : PW G y Q d kc ks h pc L st2) : PW G y Q d kc ks h pc L st := hs ▸ k
theorem pw_mono {d' kc' ks' : Nat} {Q' : fw_Q} (h1 : d' ≤ d) (h2 : kc' ≤ kc) (h3 : ks' ≤ ks) (k : PW G y Q d' kc' ks' h pc L st) : PW G y Q d kc ks h pc L st := by
  intro p e R s m args below meth c H locs cells slots ls C X
  obtain ⟨x1, x2, ⟨x3, x4, x5, x6⟩, x7⟩ := X
  exact k p e R s m args below meth c H locs cells slots ls C ⟨x1, x2, ⟨by omega, by omega, by omega, by omega⟩, x7⟩
theorem fw_end {p : Program} {l : Launch} {e : Env} {R : Room} {s : State} {m : MethodId} {args : Array Value} {below : List Frame} {meth : Method} {c : Code} {H : Heap} {locs : List Loc} {cells slots : Nat} {g : JFrame} {Qc : Array Value → State → Outcome → State → Prop} {XC : String → State → State → Prop} {free : Addr → Prop} (h1 : cells ≤ R.cells) (h2 : slots ≤ R.slots) (k : W p l e R s m args below meth c H locs R.cells R.slots (MQ below Qc args s R.cells R.slots free) g) : W p l e R s m args below meth c H locs cells slots (vx_MQ below Qc XC args s R.cells R.slots free) g := W.widen (k := R.cells) (n := R.slots) h1 h2 (vx_ret k)
theorem pw_iret {tb : List fw_R} {r : Int32} {ty : FieldType} (hT : fw_tok y tb) (hr : fw_at tb pc = some (.ireturn, nx, a, v)) (hy : y.2.2.2.1 = some ty) (hn : narrow ty (.int r) = .int r) (hq : Q.1 (some (.int r)) h) : PW G y Q d kc ks h pc L [.int r] := by
  have hd := fw_row hT hr
  intro p e R s m args below meth c H locs cells slots ls C X
  obtain ⟨x1, x2, ⟨x3, x4, x5, x6⟩, x7⟩ := X
  refine fw_end (by omega) (by omega) (W.zret C.1 C.2.1 (C.2.2.1.trans hy) hn (fun t ht hW => ⟨_, h, rfl, hq, by rw [ht]; exact x1⟩) (fun q hq => x2.2.2 q hq) hd.1 C.2.2.2.1)
theorem pw_lret {tb : List fw_R} {r : Int64} (hT : fw_tok y tb) (hr : fw_at tb pc = some (.lreturn, nx, a, v)) (hy : y.2.2.2.1 = some .long) (hq : Q.1 (some (.long r)) h) : PW G y Q d kc ks h pc L [.long r] := by
  have hd := fw_row hT hr
  intro p e R s m args below meth c H locs cells slots ls C X
  obtain ⟨x1, x2, ⟨x3, x4, x5, x6⟩, x7⟩ := X
  refine fw_end (by omega) (by omega) (W.lret C.1 C.2.1 (C.2.2.1.trans hy) (fun t ht hW => ⟨_, h, rfl, hq, by rw [ht]; exact x1⟩) (fun q hq => x2.2.2 q hq) hd.1 C.2.2.2.1)
theorem pw_fret {tb : List fw_R} {r : UInt32} (hT : fw_tok y tb) (hr : fw_at tb pc = some (.freturn, nx, a, v)) (hy : y.2.2.2.1 = some .float) (hq : Q.1 (some (.float r)) h) : PW G y Q d kc ks h pc L [.float r] := by
  have hd := fw_row hT hr
  intro p e R s m args below meth c H locs cells slots ls C X
  obtain ⟨x1, x2, ⟨x3, x4, x5, x6⟩, x7⟩ := X
  refine fw_end (by omega) (by omega) (W.fret C.1 C.2.1 (C.2.2.1.trans hy) (fun t ht hW => ⟨_, h, rfl, hq, by rw [ht]; exact x1⟩) (fun q hq => x2.2.2 q hq) hd.1 C.2.2.2.1)
theorem pw_dret {tb : List fw_R} {r : UInt64} (hT : fw_tok y tb) (hr : fw_at tb pc = some (.dreturn, nx, a, v)) (hy : y.2.2.2.1 = some .double) (hq : Q.1 (some (.double r)) h) : PW G y Q d kc ks h pc L [.double r] := by
  have hd := fw_row hT hr
  intro p e R s m args below meth c H locs cells slots ls C X
  obtain ⟨x1, x2, ⟨x3, x4, x5, x6⟩, x7⟩ := X
  refine fw_end (by omega) (by omega) (W.dret C.1 C.2.1 (C.2.2.1.trans hy) (fun t ht hW => ⟨_, h, rfl, hq, by rw [ht]; exact x1⟩) (fun q hq => x2.2.2 q hq) hd.1 C.2.2.2.1)
theorem pw_aret {tb : List fw_R} {r : Option Nat} {rt : FieldType} (hT : fw_tok y tb) (hr : fw_at tb pc = some (.areturn, nx, a, v)) (hy : y.2.2.2.1 = some rt) (hrt : (∃ n, rt = .object n) ∨ ∃ t, rt = .array t) (hq : Q.1 (some (va_rf r)) h) : PW G y Q d kc ks h pc L [va_rf r] := by
  have hd := fw_row hT hr
  intro p e R s m args below meth c H locs cells slots ls C X
  obtain ⟨x1, x2, ⟨x3, x4, x5, x6⟩, x7⟩ := X
  refine fw_end (by omega) (by omega) (W.aret C.1 C.2.1 (C.2.2.1.trans hy) hrt (by cases r with | none => exact Or.inl rfl | some b => exact Or.inr ⟨b, rfl⟩) (fun t ht hW => ⟨_, h, rfl, hq, by rw [ht]; exact x1⟩) (fun q hq => x2.2.2 q hq) hd.1 C.2.2.2.1)
theorem pw_vret {tb : List fw_R} (hT : fw_tok y tb) (hr : fw_at tb pc = some (.return_, nx, a, v)) (hy : y.2.2.2.1 = none) (hq : Q.1 none h) : PW G y Q d kc ks h pc L [] := by
  have hd := fw_row hT hr
  intro p e R s m args below meth c H locs cells slots ls C X
  obtain ⟨x1, x2, ⟨x3, x4, x5, x6⟩, x7⟩ := X
  exact fw_end (by omega) (by omega) (W.vret C.1 C.2.1 (C.2.2.1.trans hy) (fun t ht hW => ⟨_, h, rfl, hq, by rw [ht]; exact x1⟩) (fun q hq => x2.2.2 q hq) hd.1 C.2.2.2.1)
end PWR
