/-! STRINGS: where a char stands in one of the reference's -/
section STRR
variable {G : fw_G} {y : fw_M} {Q Q' : fw_Q} {d d' kc ks : Nat} {h : fw_H} {pc nx a idx n : Nat} {v w : Int32} {L : List (Nat × Value)} {st rest As : List Value} {tb : List fw_R} {y' : fw_M}
theorem pw_gcs (hT : fw_tok y tb) (hr : fw_at tb pc = some (.getstatic 38, nx, a, v)) (hy : y.1.cls = "java/lang/String") (kk : PW G y Q d kc ks h nx L (.int 1 :: st)) : PW G y Q d kc ks h pc L st := by
  have hd := fw_row hT hr
  have en : nx = pc + 3 := hd.2.1
  intro p e R s m args below meth c H locs cells slots ls C X
  have C0 := C
  obtain ⟨hx, hb, hre, hlk, hml, hown, hnm, hts, htab, hK, hN⟩ := C
  rw [hy] at hown
  exact va_gets hx hb hK.2.2.2.2.2.1 X.2.1 hown (hts _ (fw_gw 1429 (by decide +kernel) (by decide +kernel))) (fun _ z => z) hd.1 (en ▸ kk p e R s m args below meth c H locs cells slots ls C0 X)
theorem pw_cvsp {i : Nat} (hi : i < 3) (hT : fw_tok y tb) (hr : fw_at tb pc = some (.invokevirtual idx, nx, a, v)) (hc : fw_cal y' n) (hw : Cond.methodLink y.1.cls idx y'.1 ∈ fw_GW) (hw2 : Cond.instanceMethod y'.1 ∈ fw_GW) (hw3 : Cond.selects y'.1.cls y'.1 y'.1 ∈ fw_GW) (hcl : y'.1.cls = "java/lang/String") (hM : PM G d' 0 0 y' (.ref (sK G i) :: As) h (fw_qp w h)) (hst : st = As.reverse ++ .ref (sK G i) :: rest) (hn : As.length = n) (h8 : Nat.ble ((rest.map fun v => v.category).sum) 8 = true) (hd : Nat.blt d' d = true) (k : PW G y Q d kc ks h nx L (.int w :: rest)) : PW G y Q d kc ks h pc L st :=
  pw_cvs (kc' := kc) (ks' := ks) hi hT hr hc hw hw2 hw3 hcl hM (fun _ _ z => z) hst hn h8 (Nat.le_of_ble_eq_true hd) (by omega) (by omega) (fun r h' ⟨x, e1, e2, e3⟩ => by subst e1; subst e2; subst e3; exact k)
end STRR
/-- the first place of a number in a list, -1 if it has none -/
def idxF : List Int32 → Int32 → Nat → Int32
  | [], _, _ => -1
  | b :: l, c, k => if b = c then nI k else idxF l c (k + 1)
section STR
variable {G : fw_G} {h : fw_H} {i : Nat}
theorem s_coder (hi : i < 3) : PM G 0 0 0 mm_J0_coder_7d493 [.ref (sK G i)] h (fw_qp 0 h) := by
  refine pm_of (by decide +kernel) rfl rfl rfl ?_
  refine pw_gcs tk_J0_coder_7d493 rfl rfl ?_
  refine pw_br tk_J0_coder_7d493 rfl rfl (fun c => absurd c (by decide)) (fun _ => ?_)
  refine pw_go tk_J0_coder_7d493 rfl rfl ?_
  refine pw_sget (hi) (Or.inl ⟨rfl, rfl, rfl⟩) tk_J0_coder_7d493 rfl (fw_gw 1935 (by decide +kernel) (by decide +kernel)) ?_
  refine pw_go tk_J0_coder_7d493 rfl rfl ?_
  exact pw_iret tk_J0_coder_7d493 rfl rfl rfl ⟨_, rfl, rfl, rfl⟩
theorem s_latin (hi : i < 3) : PM G 0 0 0 mm_J0_isLatin1_aae02 [.ref (sK G i)] h (fw_qp 1 h) := by
  refine pm_of (by decide +kernel) rfl rfl rfl ?_
  refine pw_gcs tk_J0_isLatin1_aae02 rfl rfl ?_
  refine pw_br tk_J0_isLatin1_aae02 rfl rfl (fun c => absurd c (by decide)) (fun _ => ?_)
  refine pw_go tk_J0_isLatin1_aae02 rfl rfl ?_
  refine pw_sget (hi) (Or.inl ⟨rfl, rfl, rfl⟩) tk_J0_isLatin1_aae02 rfl (fw_gw 1935 (by decide +kernel) (by decide +kernel)) ?_
  refine pw_br tk_J0_isLatin1_aae02 rfl rfl (fun c => absurd rfl c) (fun _ => ?_)
  iterate 2 refine pw_go tk_J0_isLatin1_aae02 rfl rfl ?_
  exact pw_iret tk_J0_isLatin1_aae02 rfl rfl rfl ⟨_, rfl, rfl, rfl⟩
theorem s_length (hi : i < 3) : PM G 1 0 0 mm_J0_length_8abf5 [.ref (sK G i)] h (fw_qp (nI (sLn.getD i 0)) h) := by
  refine pm_of (by decide +kernel) rfl rfl rfl ?_
  refine pw_go tk_J0_length_8abf5 rfl rfl ?_
  refine pw_sget (hi) (Or.inr ⟨rfl, rfl, rfl⟩) tk_J0_length_8abf5 rfl (fw_gw 1934 (by decide +kernel) (by decide +kernel)) ?_
  refine pw_slen (hi) tk_J0_length_8abf5 rfl ?_
  refine pw_go tk_J0_length_8abf5 rfl rfl ?_
  refine pw_cvsp (hi) tk_J0_length_8abf5 rfl ca_J0_coder_7d493 lk_J0_335 iv_J0_coder_7d493 sv_J0_coder_7d493 rfl (As := []) (rest := [.int (nI (sLn.getD i 0))]) (s_coder hi) rfl rfl rfl rfl ?_
  refine pw_go tk_J0_length_8abf5 rfl rfl ?_
  refine pw_i (x' := nI (sLn.getD i 0)) ?_ ?_
  · rcases (show i = 0 ∨ i = 1 ∨ i = 2 by omega) with rfl | rfl | rfl <;> decide
  exact pw_iretp tk_J0_length_8abf5 rfl rfl
theorem s_enc {k : Int32} : PM G 0 0 0 mm_J1_canEncode_9a6ad [.int k] h (fw_qp (bI (inI k 0 (nI 255))) h) := by
  refine pm_of (by decide +kernel) rfl rfl rfl ?_
  refine pw_go tk_J1_canEncode_9a6ad rfl rfl ?_
  refine pw_br tk_J1_canEncode_9a6ad rfl rfl (fun c => ?_) (fun c => ?_)
  · have c : k < 0 := c
    rw [show inI k 0 (nI 255) = false by unfold inI; rw [decide_eq_false (fun z => (i_nlt.mpr z) c)]; rfl]
    refine pw_go tk_J1_canEncode_9a6ad rfl rfl ?_
    exact pw_zretp (b := false) tk_J1_canEncode_9a6ad rfl rfl
  have c : ¬ k < 0 := c
  iterate 2 refine pw_go tk_J1_canEncode_9a6ad rfl rfl ?_
  refine pw_br tk_J1_canEncode_9a6ad rfl rfl (fun c2 => ?_) (fun c2 => ?_)
  · have c2 : nI 255 < k := c2
    rw [show inI k 0 (nI 255) = false by unfold inI; rw [decide_eq_false (p := k ≤ nI 255) (fun z => (i_nlt.mpr z) c2), Bool.and_false]]
    refine pw_go tk_J1_canEncode_9a6ad rfl rfl ?_
    exact pw_zretp (b := false) tk_J1_canEncode_9a6ad rfl rfl
  · have c2 : ¬ nI 255 < k := c2
    rw [show inI k 0 (nI 255) = true from inI_iff.mpr ⟨i_nlt.mp c, i_nlt.mp c2⟩]
    iterate 2 refine pw_go tk_J1_canEncode_9a6ad rfl rfl ?_
    exact pw_zretp (b := true) tk_J1_canEncode_9a6ad rfl rfl
theorem s_i2b : ∀ c : Nat, c < 256 → ∀ b ∈ ([102, 108, 100, 115, 111, 112, 114] : List Nat), (nI b = (nI c).toInt8.toInt32 ↔ nI b = nI c) := by decide +kernel
theorem s_by {k : Nat} (hi : i < 3) (hk : k < sLn.getD i 0) : ∃ b ∈ ([102, 108, 100, 115, 111, 112, 114] : List Nat), (sBy.getD i []).getD k 0 = nI b := by
  rcases (show i = 0 ∨ i = 1 ∨ i = 2 by omega) with rfl | rfl | rfl
  · rcases (show k = 0 ∨ k = 1 ∨ k = 2 ∨ k = 3 by have : k < 4 := hk; omega) with rfl | rfl | rfl | rfl
    · exact ⟨102, by decide, rfl⟩
    · exact ⟨108, by decide, rfl⟩
    · exact ⟨100, by decide, rfl⟩
    · exact ⟨115, by decide, rfl⟩
  · rcases (show k = 0 ∨ k = 1 by have : k < 2 := hk; omega) with rfl | rfl
    · exact ⟨108, by decide, rfl⟩
    · exact ⟨111, by decide, rfl⟩
  · rcases (show k = 0 ∨ k = 1 by have : k < 2 := hk; omega) with rfl | rfl
    · exact ⟨112, by decide, rfl⟩
    · exact ⟨114, by decide, rfl⟩
theorem s_ln (hi : i < 3) : sLn.getD i 0 ≤ 4 ∧ (sBy.getD i []).length = sLn.getD i 0 := by
  rcases (show i = 0 ∨ i = 1 ∨ i = 2 by omega) with rfl | rfl | rfl <;> decide
theorem s_ioc {c : Nat} (hi : i < 3) (hc : c < 256) : PM G 0 0 0 mm_J1_indexOfChar_4cfef [.ref (sV G i), .int (nI c), .int (nI 0), .int (nI (sLn.getD i 0))] h (fw_qp (idxF (sBy.getD i []) (nI c) 0) h) := by
  refine pm_of (by decide +kernel) rfl rfl rfl ?_
  obtain ⟨hl, hlen⟩ := s_ln hi
  have loop : ∀ j k, j + k = sLn.getD i 0 → idxF (sBy.getD i []) (nI c) 0 = idxF ((sBy.getD i []).drop k) (nI c) k → PW G mm_J1_indexOfChar_4cfef (fw_qp (idxF (sBy.getD i []) (nI c) 0) h) 0 0 0 h 7 [(0, .ref (sV G i)), (1, .int (nI c)), (2, .int (nI 0)), (3, .int (nI (sLn.getD i 0))), (4, .int (nI c).toInt8.toInt32), (5, .int (nI k))] [] := by
    intro j
    induction j with
    | zero =>
      intro k hk he
      have hk : k = sLn.getD i 0 := by omega
      rw [he, List.drop_eq_nil_of_le (by omega), hk]
      iterate 2 refine pw_go tk_J1_indexOfChar_4cfef rfl rfl ?_
      refine pw_icN (sLn.getD i 0) (sLn.getD i 0) tk_J1_indexOfChar_4cfef rfl rfl rfl (by omega) (by omega) (fun _ => ?_) (fun z => absurd (show sLn.getD i 0 ≤ sLn.getD i 0 by omega) z)
      refine pw_go tk_J1_indexOfChar_4cfef rfl rfl ?_
      exact pw_iret tk_J1_indexOfChar_4cfef rfl rfl rfl ⟨_, rfl, rfl, rfl⟩
    | succ j ih =>
      intro k hk he
      have hk2 : k < sLn.getD i 0 := by omega
      obtain ⟨b, hb, eb⟩ := s_by hi hk2
      have hd : (sBy.getD i []).drop k = nI b :: (sBy.getD i []).drop (k + 1) := by
        rw [List.drop_eq_getElem_cons (by omega), ← eb, List.getD_eq_getElem?_getD (l := sBy.getD i []), List.getElem?_eq_getElem (by omega)]
        rfl
      rw [hd] at he
      have hi2 := s_i2b c hc b hb
      iterate 2 refine pw_go tk_J1_indexOfChar_4cfef rfl rfl ?_
      refine pw_icN (k) (sLn.getD i 0) tk_J1_indexOfChar_4cfef rfl rfl rfl (by omega) (by omega) (fun z => absurd (show sLn.getD i 0 ≤ k from z) (by omega)) (fun _ => ?_)
      iterate 2 refine pw_go tk_J1_indexOfChar_4cfef rfl rfl ?_
      refine pw_sbald (k := k) hi tk_J1_indexOfChar_4cfef rfl rfl hk2 ?_
      rw [eb]
      refine pw_go tk_J1_indexOfChar_4cfef rfl rfl ?_
      refine pw_br tk_J1_indexOfChar_4cfef rfl rfl (fun z => ?_) (fun z => ?_)
      · have z : nI b ≠ (nI c).toInt8.toInt32 := z
        have z2 : ¬ nI b = nI c := fun y => z (hi2.mpr y)
        have he : idxF (sBy.getD i []) (nI c) 0 = if nI b = nI c then nI k else idxF ((sBy.getD i []).drop (k + 1)) (nI c) (k + 1) := he
        rw [if_neg z2] at he
        refine pw_go tk_J1_indexOfChar_4cfef rfl rfl ?_
        refine pw_M [(0, .ref (sV G i)), (1, .int (nI c)), (2, .int (nI 0)), (3, .int (nI (sLn.getD i 0))), (4, .int (nI c).toInt8.toInt32), (5, .int (nI (k + 1)))] ⟨rfl, rfl, rfl, rfl, rfl, congrArg (fun z => some (Value.int z)) (nI_1 k), trivial⟩ ?_
        refine pw_go tk_J1_indexOfChar_4cfef rfl rfl ?_
        exact ih (k + 1) (by omega) he
      · have z : nI b = (nI c).toInt8.toInt32 := Decidable.not_not.mp z
        have he : idxF (sBy.getD i []) (nI c) 0 = if nI b = nI c then nI k else idxF ((sBy.getD i []).drop (k + 1)) (nI c) (k + 1) := he
        rw [if_pos (hi2.mp z)] at he
        rw [he]
        refine pw_go tk_J1_indexOfChar_4cfef rfl rfl ?_
        exact pw_iretp tk_J1_indexOfChar_4cfef rfl rfl
  iterate 5 refine pw_go tk_J1_indexOfChar_4cfef rfl rfl ?_
  exact pw_W (loop _ 0 (Nat.add_zero _) rfl) ⟨rfl, rfl, rfl, rfl, rfl, rfl, trivial⟩
theorem idx_no {l : List Int32} {c : Int32} {k : Nat} (h : ∀ b ∈ l, b ≠ c) : idxF l c k = -1 := by
  induction l generalizing k with
  | nil => rfl
  | cons b l ih =>
    show (if b = c then nI k else idxF l c (k + 1)) = -1
    rw [if_neg (h b List.mem_cons_self)]
    exact ih (fun x hx => h x (List.mem_cons_of_mem _ hx))
theorem s_no {k : Int32} (hi : i < 3) (h : inI k 0 (nI 255) = false) : idxF (sBy.getD i []) k 0 = -1 := by
  refine idx_no (fun b hb => ?_)
  intro e
  subst e
  have : inI b 0 (nI 255) = true := by
    rcases (show i = 0 ∨ i = 1 ∨ i = 2 by omega) with rfl | rfl | rfl
    · have key : ∀ b ∈ ([102, 108, 100, 115] : List Int32), inI b 0 (nI 255) = true := by decide
      exact key b hb
    · have key : ∀ b ∈ ([108, 111] : List Int32), inI b 0 (nI 255) = true := by decide
      exact key b hb
    · have key : ∀ b ∈ ([112, 114] : List Int32), inI b 0 (nI 255) = true := by decide
      exact key b hb
  rw [this] at h
  cases h
theorem s_io1 {k : Int32} (hi : i < 3) : PM G 1 0 0 mm_J1_indexOf_4cfef [.ref (sV G i), .int k, .int (nI 0), .int (nI (sLn.getD i 0))] h (fw_qp (idxF (sBy.getD i []) k 0) h) := by
  refine pm_of (by decide +kernel) rfl rfl rfl ?_
  obtain ⟨hl, hlen⟩ := s_ln hi
  have h0 : 0 < sLn.getD i 0 := by rcases (show i = 0 ∨ i = 1 ∨ i = 2 by omega) with rfl | rfl | rfl <;> decide
  refine pw_go tk_J1_indexOf_4cfef rfl rfl ?_
  refine pw_csp tk_J1_indexOf_4cfef rfl ca_J1_canEncode_9a6ad lk_J1_88 sx_J1_canEncode_9a6ad (As := [.int k]) (rest := []) (s_enc) rfl rfl rfl rfl ?_
  cases hk : inI k 0 (nI 255) with
  | false =>
    rw [s_no hi hk]
    refine pw_ifneB tk_J1_indexOf_4cfef rfl (fun c => absurd c (by decide)) (fun _ => ?_)
    refine pw_go tk_J1_indexOf_4cfef rfl rfl ?_
    exact pw_iret tk_J1_indexOf_4cfef rfl rfl rfl ⟨_, rfl, rfl, rfl⟩
  | true =>
    obtain ⟨c, rfl, -, hc⟩ := inI_N (a := 0) hk (by omega) (by omega)
    refine pw_ifneB tk_J1_indexOf_4cfef rfl (fun _ => ?_) (fun c => absurd c (by decide))
    iterate 2 refine pw_go tk_J1_indexOf_4cfef rfl rfl ?_
    refine pw_maxN 0 0 tk_J1_indexOf_4cfef rfl lk_J1_92 rfl nI_0.symm (by omega) (by omega) rfl ?_
    iterate 3 refine pw_go tk_J1_indexOf_4cfef rfl rfl ?_
    refine pw_slen (hi) tk_J1_indexOf_4cfef rfl ?_
    refine pw_minN (sLn.getD i 0) (sLn.getD i 0) tk_J1_indexOf_4cfef rfl lk_J1_38 rfl rfl (by omega) (by omega) rfl ?_
    rw [Nat.min_self, Nat.max_self]
    iterate 3 refine pw_go tk_J1_indexOf_4cfef rfl rfl ?_
    refine pw_icN (0) (sLn.getD i 0) tk_J1_indexOf_4cfef rfl rfl rfl (by omega) (by omega) (fun _ => ?_) (fun c => absurd h0 c)
    iterate 4 refine pw_go tk_J1_indexOf_4cfef rfl rfl ?_
    refine pw_csp tk_J1_indexOf_4cfef rfl ca_J1_indexOfChar_4cfef lk_J1_95 sx_J1_indexOfChar_4cfef (As := [.ref (sV G i), .int (nI c), .int (nI 0), .int (nI (sLn.getD i 0))]) (rest := []) (s_ioc hi (by omega)) rfl rfl rfl rfl ?_
    exact pw_iret tk_J1_indexOf_4cfef rfl rfl rfl ⟨_, rfl, rfl, rfl⟩
theorem s_io2 {k : Int32} (hi : i < 3) : PM G 2 0 0 mm_J0_indexOf_7cf53 [.ref (sK G i), .int k, .int (nI 0)] h (fw_qp (idxF (sBy.getD i []) k 0) h) := by
  refine pm_of (by decide +kernel) rfl rfl rfl ?_
  refine pw_go tk_J0_indexOf_7cf53 rfl rfl ?_
  refine pw_cvsp (hi) tk_J0_indexOf_7cf53 rfl ca_J0_isLatin1_aae02 lk_J0_492 iv_J0_isLatin1_aae02 sv_J0_isLatin1_aae02 rfl (As := []) (rest := []) (s_latin hi) rfl rfl rfl rfl ?_
  refine pw_br tk_J0_indexOf_7cf53 rfl rfl (fun c => absurd c (by decide)) (fun _ => ?_)
  refine pw_go tk_J0_indexOf_7cf53 rfl rfl ?_
  refine pw_sget (hi) (Or.inr ⟨rfl, rfl, rfl⟩) tk_J0_indexOf_7cf53 rfl (fw_gw 1934 (by decide +kernel) (by decide +kernel)) ?_
  iterate 3 refine pw_go tk_J0_indexOf_7cf53 rfl rfl ?_
  refine pw_cvsp (hi) tk_J0_indexOf_7cf53 rfl ca_J0_length_8abf5 lk_J0_505 iv_J0_length_8abf5 sv_J0_length_8abf5 rfl (As := []) (rest := [.int (nI 0), .int k, .ref (sV G i)]) (s_length hi) rfl rfl rfl rfl ?_
  refine pw_csp tk_J0_indexOf_7cf53 rfl ca_J1_indexOf_4cfef lk_J0_637 sx_J1_indexOf_4cfef (As := [.ref (sV G i), .int k, .int (nI 0), .int (nI (sLn.getD i 0))]) (rest := []) (s_io1 hi) rfl rfl rfl rfl ?_
  refine pw_go tk_J0_indexOf_7cf53 rfl rfl ?_
  exact pw_iret tk_J0_indexOf_7cf53 rfl rfl rfl ⟨_, rfl, rfl, rfl⟩
theorem s_indexOf {k : Int32} (hi : i < 3) : PM G 3 0 0 mm_J0_indexOf_0f7a4 [.ref (sK G i), .int k] h (fw_qp (idxF (sBy.getD i []) k 0) h) := by
  refine pm_of (by decide +kernel) rfl rfl rfl ?_
  iterate 3 refine pw_go tk_J0_indexOf_0f7a4 rfl rfl ?_
  refine pw_cvsp (hi) tk_J0_indexOf_0f7a4 rfl ca_J0_indexOf_7cf53 lk_J0_633 iv_J0_indexOf_7cf53 sv_J0_indexOf_7cf53 rfl (As := [.int k, .int (nI 0)]) (rest := []) (s_io2 hi) rfl rfl rfl rfl ?_
  exact pw_iret tk_J0_indexOf_0f7a4 rfl rfl rfl ⟨_, rfl, rfl, rfl⟩
end STR

