/-! LISTS: the library's list and its iterator, on any heap -/
abbrev lsO (mc e n : Nat) : fw_O := .inr (4, [.int (nI mc), .ref e, .int (nI n)])
abbrev itO (a n cur last : Nat) : fw_O := .inr (3, [.int (nI cur), .int (nP last), .int (nI n), .ref a])
def cut (n : Nat) (f : Nat → Option Nat) : Nat → Option Nat := fun j => if j < n then f j else none
theorem cut_cpy {n : Nat} {f : Nat → Option Nat} : va_cpy f (fun _ => none) 0 0 n = cut n f := funext fun j => by
  unfold va_cpy cut
  simp
def ncap (c : Nat) : Nat := if c = 0 then 10 else c + max 1 (c / 2)
theorem nI_half {c : Nat} (h : c < 64) : nI c >>> ((1 : Int32) &&& 31) = nI (c / 2) := by
  have : ∀ c : Nat, c < 64 → nI c >>> ((1 : Int32) &&& 31) = nI (c / 2) := by decide +kernel
  exact this c h
theorem fp_al : fw_fldW RJxc12de 7 4 0 (.int) := ⟨_, _, _, _, cl_4, by decide, Or.inl (fw_gw 1167 (by decide +kernel) (by decide +kernel)), rfl, by decide +kernel⟩
/-- a list whose elements stand at F -/
def LV (h : fw_H) (a n : Nat) (F : Nat → Nat) : Prop := ∃ e cap, h a = some (lsO n e n) ∧ (0 < n → ∃ f, h e = some (oA cap f) ∧ n ≤ cap ∧ cap ≤ 48 ∧ ∀ j, j < n → f j = some (F j)) ∧ n ≤ 48
theorem LV.up {h : fw_H} {a n q : Nat} {F : Nat → Nat} {o : fw_O} (l : LV h a n F) (hq : h q = none) : LV (fw_up h q o) a n F := by
  obtain ⟨e, cap, h1, h2, h3⟩ := l
  have ne : ∀ {b : Nat} {x : fw_O}, h b = some x → fw_up h q o b = some x := fun {b} {x} hb => by
    rw [fw_up_n (fun z => by rw [z, hq] at hb; cases hb)]
    exact hb
  exact ⟨e, cap, ne h1, fun z => (h2 z).imp fun f hf => ⟨ne hf.1, hf.2⟩, h3⟩
theorem up_sub {h : fw_H} {q : Nat} {o : fw_O} (hq : h q = none) : ∀ (b : Nat) (x : fw_O), h b = some x → fw_up h q o b = some x := fun b x hb => by
  rw [fw_up_n (fun z => by rw [z, hq] at hb; cases hb)]
  exact hb
section LIST
variable {G : fw_G} {h : fw_H} {a n : Nat} {F : Nat → Nat}
theorem j_size (l : LV h a n F) : PM G 0 0 0 mm_Jx4a65c_size_8abf5 [.ref a] h (fw_qp (nI n) h) := by
  refine pm_of (by decide +kernel) rfl rfl rfl ?_
  obtain ⟨e, cap, h1, h2, h3⟩ := l
  refine pw_go tk_Jx4a65c_size_8abf5 rfl rfl ?_
  refine pw_get tk_Jx4a65c_size_8abf5 rfl fl_Jx4a65c_48 h1 rfl ?_
  exact pw_iretp tk_Jx4a65c_size_8abf5 rfl rfl
theorem j_isEmpty (l : LV h a n F) : PM G 0 0 0 mm_Jx4a65c_isEmpty_aae02 [.ref a] h (fw_qp (bI (decide (n = 0))) h) := by
  refine pm_of (by decide +kernel) rfl rfl rfl ?_
  obtain ⟨e, cap, h1, h2, h3⟩ := l
  refine pw_go tk_Jx4a65c_isEmpty_aae02 rfl rfl ?_
  refine pw_get tk_Jx4a65c_isEmpty_aae02 rfl fl_Jx4a65c_48 h1 rfl ?_
  refine pw_ifN (n) tk_Jx4a65c_isEmpty_aae02 rfl rfl (by omega) (fun c => ?_) (fun c => ?_)
  · skip
    have c : n ≠ 0 := c
    refine pw_go tk_Jx4a65c_isEmpty_aae02 rfl rfl ?_
    rw [decide_eq_false c]
    exact pw_zretp (b := false) tk_Jx4a65c_isEmpty_aae02 rfl rfl
  · skip
    have c : n = 0 := Decidable.not_not.mp c
    iterate 2 refine pw_go tk_Jx4a65c_isEmpty_aae02 rfl rfl ?_
    rw [decide_eq_true c]
    exact pw_zretp (b := true) tk_Jx4a65c_isEmpty_aae02 rfl rfl
theorem j_check3 {k m : Nat} {r : Option Nat} (hk : k < m) (hm : m < 2147483648) : PM G 0 0 0 mm_J3_checkIndex_8e157 [.int (nI k), .int (nI m), va_rf r] h (fw_qp (nI k) h) := by
  cases r with
  | none =>
    refine pm_of (by decide +kernel) rfl rfl rfl ?_
    refine pw_go tk_J3_checkIndex_8e157 rfl rfl ?_
    refine pw_ifN (k) tk_J3_checkIndex_8e157 rfl rfl (by omega) (fun c => ?_) (fun c => ?_)
    · have c : k < 0 := c
      omega
    iterate 2 refine pw_go tk_J3_checkIndex_8e157 rfl rfl ?_
    refine pw_icN (k) (m) tk_J3_checkIndex_8e157 rfl rfl rfl (by omega) (by omega) (fun c => ?_) (fun c => ?_)
    · skip
      refine pw_go tk_J3_checkIndex_8e157 rfl rfl ?_
      exact pw_iretp tk_J3_checkIndex_8e157 rfl rfl
    · have c : ¬ k < m := c
      omega
  | some b =>
    refine pm_of (by decide +kernel) rfl rfl rfl ?_
    refine pw_go tk_J3_checkIndex_8e157 rfl rfl ?_
    refine pw_ifN (k) tk_J3_checkIndex_8e157 rfl rfl (by omega) (fun c => ?_) (fun c => ?_)
    · have c : k < 0 := c
      omega
    iterate 2 refine pw_go tk_J3_checkIndex_8e157 rfl rfl ?_
    refine pw_icN (k) (m) tk_J3_checkIndex_8e157 rfl rfl rfl (by omega) (by omega) (fun c => ?_) (fun c => ?_)
    · skip
      refine pw_go tk_J3_checkIndex_8e157 rfl rfl ?_
      exact pw_iretp tk_J3_checkIndex_8e157 rfl rfl
    · have c : ¬ k < m := c
      omega
theorem j_check2 {k m : Nat} (hk : k < m) (hm : m < 2147483648) : PM G 1 0 0 mm_J15_checkIndex_7cf53 [.int (nI k), .int (nI m)] h (fw_qp (nI k) h) := by
  refine pm_of (by decide +kernel) rfl rfl rfl ?_
  iterate 3 refine pw_go tk_J15_checkIndex_7cf53 rfl rfl ?_
  refine pw_csp tk_J15_checkIndex_7cf53 rfl ca_J3_checkIndex_8e157 lk_J15_105 sx_J3_checkIndex_8e157 (As := [.int (nI k), .int (nI m), .null]) (rest := []) (j_check3 (r := none) hk hm) rfl rfl rfl rfl ?_
  exact pw_iretp tk_J15_checkIndex_7cf53 rfl rfl
theorem j_elem {k : Nat} (l : LV h a n F) (hk : k < n) : PM G 0 0 0 mm_Jx4a65c_elementData_915e3 [.ref a, .int (nI k)] h (fw_qpQ (some (F k)) h) := by
  refine pm_of (by decide +kernel) rfl rfl rfl ?_
  obtain ⟨e, cap, h1, h2, h3⟩ := l
  obtain ⟨f, h4, h5, h6, h7⟩ := h2 (by omega)
  refine pw_go tk_Jx4a65c_elementData_915e3 rfl rfl ?_
  refine pw_get tk_Jx4a65c_elementData_915e3 rfl fl_Jx4a65c_9 h1 rfl ?_
  refine pw_go tk_Jx4a65c_elementData_915e3 rfl rfl ?_
  refine pw_aaldN (k := k) tk_Jx4a65c_elementData_915e3 rfl h4 (by decide) rfl rfl (by omega) (by omega) ?_
  refine pw_q (x' := some (F k)) (h7 k hk) ?_
  exact pw_aretp tk_Jx4a65c_elementData_915e3 rfl rfl (Or.inl ⟨_, rfl⟩)
theorem j_get {k : Nat} (l : LV h a n F) (hk : k < n) : PM G 2 0 0 mm_Jx4a65c_get_915e3 [.ref a, .int (nI k)] h (fw_qpQ (some (F k)) h) := by
  refine pm_of (by decide +kernel) rfl rfl rfl ?_
  have l0 := l
  obtain ⟨e, cap, h1, h2, h3⟩ := l
  iterate 2 refine pw_go tk_Jx4a65c_get_915e3 rfl rfl ?_
  refine pw_get tk_Jx4a65c_get_915e3 rfl fl_Jx4a65c_48 h1 rfl ?_
  refine pw_csp tk_Jx4a65c_get_915e3 rfl ca_J15_checkIndex_7cf53 lk_Jx4a65c_118 sx_J15_checkIndex_7cf53 (As := [.int (nI k), .int (nI n)]) (rest := []) (j_check2 hk (by omega)) rfl rfl rfl rfl ?_
  iterate 3 refine pw_go tk_Jx4a65c_get_915e3 rfl rfl ?_
  refine pw_cvpQ tk_Jx4a65c_get_915e3 rfl ca_Jx4a65c_elementData_915e3 lk_Jx4a65c_123 iv_Jx4a65c_elementData_915e3 sv_Jx4a65c_elementData_915e3 h1 rfl rfl (As := [.int (nI k)]) (rest := []) (j_elem l0 hk) rfl rfl rfl rfl ?_
  exact pw_aretp tk_Jx4a65c_get_915e3 rfl rfl (Or.inl ⟨_, rfl⟩)
theorem j_ac0 {b : Nat} : PM G 0 0 0 mm_Jxa1e45_init_da8c8 [.ref b] h (fw_qV (fun h' => h' = h) fw_noX) := by
  refine pm_of (by decide +kernel) rfl rfl rfl ?_
  refine pw_go tk_Jxa1e45_init_da8c8 rfl rfl ?_
  refine pw_oinit tk_Jxa1e45_init_da8c8 rfl lk_Jxa1e45_1 oi_1 oi_2 rfl ?_
  exact pw_vret tk_Jxa1e45_init_da8c8 rfl rfl ⟨rfl, rfl⟩
theorem j_al0 {b : Nat} (hb : h b = some (.inr (4, [.int 0, .null, .int 0]))) : PM G 1 0 0 mm_Jxc12de_init_da8c8 [.ref b] h (fw_qV (fun h' => h' = h) fw_noX) := by
  refine pm_of (by decide +kernel) rfl rfl rfl ?_
  refine pw_go tk_Jxc12de_init_da8c8 rfl rfl ?_
  refine pw_ci tk_Jxc12de_init_da8c8 rfl ca_Jxa1e45_init_da8c8 (Or.inl lk_Jxc12de_1) iv_Jxa1e45_init_da8c8 rfl rfl (As := []) (rest := [])  (j_ac0) (fun _ _ z => z) rfl rfl rfl (Nat.le_of_ble_eq_true rfl) (Nat.le_of_eq (Nat.zero_add _)) (Nat.le_of_eq (Nat.zero_add _)) ?_
  rintro _ _ ⟨rfl, rfl⟩
  iterate 2 refine pw_go tk_Jxc12de_init_da8c8 rfl rfl ?_
  refine pw_put tk_Jxc12de_init_da8c8 rfl fp_al hb rfl rfl (Nat.le_of_ble_eq_true rfl) ?_
  exact pw_vret tk_Jxc12de_init_da8c8 rfl rfl ⟨rfl, fw_up_i hb⟩
theorem j_init {b : Nat} (hb : h b = some (.inr (4, [.int 0, .null, .int 0]))) : PM G 2 0 0 mm_Jx4a65c_init_da8c8 [.ref b] h (fw_qV (fun h' => h' = fw_up h b (lsO 0 (tE G) 0)) fw_noX) := by
  refine pm_of (by decide +kernel) rfl rfl rfl ?_
  refine pw_go tk_Jx4a65c_init_da8c8 rfl rfl ?_
  refine pw_ci tk_Jx4a65c_init_da8c8 rfl ca_Jxc12de_init_da8c8 (Or.inl lk_Jx4a65c_1) iv_Jxc12de_init_da8c8 rfl rfl (As := []) (rest := [])  (j_al0 hb) (fun _ _ z => z) rfl rfl rfl (Nat.le_of_ble_eq_true rfl) (Nat.le_of_eq (Nat.zero_add _)) (Nat.le_of_eq (Nat.zero_add _)) ?_
  rintro _ _ ⟨rfl, rfl⟩
  refine pw_go tk_Jx4a65c_init_da8c8 rfl rfl ?_
  refine pw_gete tk_Jx4a65c_init_da8c8 rfl rfl ?_
  refine pw_put tk_Jx4a65c_init_da8c8 rfl fp_Jx4a65c_9 hb rfl rfl (Nat.le_of_ble_eq_true rfl) ?_
  exact pw_vret tk_Jx4a65c_init_da8c8 rfl rfl ⟨rfl, rfl⟩
theorem j_newLen {x y z : Nat} (h1 : x + max y z ≤ 1000) (h2 : 0 < x + max y z) : PM G 0 0 0 mm_J8_newLength_cabcc [.int (nI x), .int (nI y), .int (nI z)] h (fw_qp (nI (x + max y z)) h) := by
  refine pm_of (by decide +kernel) rfl rfl rfl ?_
  have hy : y < 2147483648 := Nat.lt_of_le_of_lt (Nat.le_max_left y z) (by omega)
  have hz : z < 2147483648 := Nat.lt_of_le_of_lt (Nat.le_max_right y z) (by omega)
  iterate 3 refine pw_go tk_J8_newLength_cabcc rfl rfl ?_
  refine pw_maxN y z tk_J8_newLength_cabcc rfl lk_J8_194 rfl rfl hy hz rfl ?_
  generalize max y z = t at *
  refine pw_addN (x) (t) tk_J8_newLength_cabcc rfl rfl rfl ?_
  iterate 3 refine pw_go tk_J8_newLength_cabcc rfl rfl ?_
  refine pw_icN (0) (x + t) tk_J8_newLength_cabcc rfl nI_0.symm rfl (by omega) (by omega) (fun c => ?_) (fun c => ?_)
  · have c : x + t ≤ 0 := c
    omega
  refine pw_go tk_J8_newLength_cabcc rfl rfl ?_
  refine pw_ldc tk_J8_newLength_cabcc rfl kc_J8_200 ?_
  refine pw_icN (x + t) (2147483639) tk_J8_newLength_cabcc rfl rfl (by decide) (by omega) (by omega) (fun c => ?_) (fun c => ?_)
  · have c : 2147483639 < x + t := c
    omega
  refine pw_go tk_J8_newLength_cabcc rfl rfl ?_
  exact pw_iretp tk_J8_newLength_cabcc rfl rfl
theorem j_copy3 {b cap m ci : Nat} {f : Nat → Option Nat} {r : vw_C} (hb : h b = some (oA cap f)) (hm : cap ≤ m) (hm2 : m ≤ 1000) (hc : vwCl[ci]? = some r) (hca : Cond.castable r.1 "java/lang/Object" ∈ fw_NW) (hel : ∀ i, i < cap → ∀ q, f i = some q → ∃ fs, h q = some (.inr (ci, fs))) : PM G 0 1 m mm_J7_copyOf_6403c [.ref b, .int (nI m), .ref (mI9 G)] h (fw_qQ (fun x h' => ∃ q, x = some q ∧ h q = none ∧ h' = fw_up h q (oA m (cut cap f))) fw_noX) := by
  refine pm_of (by decide +kernel) rfl rfl rfl ?_
  refine pw_go tk_J7_copyOf_6403c rfl rfl ?_
  refine pw_ldcM tk_J7_copyOf_6403c rfl (fw_gw 1331 (by decide +kernel) (by decide +kernel)) ?_
  refine pw_acmpne (rx := some (mI9 G)) (ry := some (mI9 G)) tk_J7_copyOf_6403c rfl (fun c => absurd rfl c) (fun _ => ?_)
  refine pw_go tk_J7_copyOf_6403c rfl rfl ?_
  refine pw_mono (Q' := fw_qp 0 h) (Nat.le_refl _) (Nat.le_refl _) (show 0 + m ≤ m by omega) ?_
  refine pw_newq (kc := 0) (ks := 0) (t := 10) (N' := m) (Cn := "java/lang/Object") tk_J7_copyOf_6403c rfl (by decide) rfl (by decide) (fw_gw 1333 (by decide +kernel) (by decide +kernel)) (fun z => by have := (nI_ltI (a := m) (b := 0) (by omega) (by omega)).mp z; omega) (nI_clamp (show m < 2 ^ 31 by omega)) (by omega) (fun q hq hg => ?_)
  iterate 7 refine pw_go tk_J7_copyOf_6403c rfl rfl ?_
  have hbq : fw_up h q (oA m (fun _ => none)) b = some (oA cap f) := by
    rw [fw_up_n (fun z => by rw [z, hq] at hb; cases hb)]
    exact hb
  refine pw_alen tk_J7_copyOf_6403c rfl hbq (by decide) ?_
  refine pw_go tk_J7_copyOf_6403c rfl rfl ?_
  refine pw_minN cap m tk_J7_copyOf_6403c rfl lk_J7_304 rfl rfl (by omega) (by omega) rfl ?_
  rw [Nat.min_eq_left hm]
  refine pw_copyq (sp := 0) (dp := 0) (k := cap) tk_J7_copyOf_6403c rfl (fw_gw 1335 (by decide +kernel) (by decide +kernel)) hbq fw_up_s rfl rfl rfl (by omega) (by omega) (by omega) (by omega) hc hca (fun i hi q' hq' => ?_) rfl ?_
  · rw [Nat.zero_add] at hq'
    obtain ⟨fs, hfs⟩ := hel i hi q' hq'
    exact ⟨fs, up_sub hq _ _ hfs⟩
  refine pw_go tk_J7_copyOf_6403c rfl rfl ?_
  refine pw_aret (r := some q) tk_J7_copyOf_6403c rfl rfl (Or.inr ⟨_, rfl⟩) ⟨some q, rfl, q, rfl, hq, ?_⟩
  rw [fw_up_2, cut_cpy]
theorem j_copy2 {b cap m ci : Nat} {f : Nat → Option Nat} {r : vw_C} (hb : h b = some (oA cap f)) (hm : cap ≤ m) (hm2 : m ≤ 1000) (hc : vwCl[ci]? = some r) (hca : Cond.castable r.1 "java/lang/Object" ∈ fw_NW) (hel : ∀ i, i < cap → ∀ q, f i = some q → ∃ fs, h q = some (.inr (ci, fs))) : PM G 1 1 m mm_J7_copyOf_1904c [.ref b, .int (nI m)] h (fw_qQ (fun x h' => ∃ q, x = some q ∧ h q = none ∧ h' = fw_up h q (oA m (cut cap f))) fw_noX) := by
  refine pm_of (by decide +kernel) rfl rfl rfl ?_
  iterate 3 refine pw_go tk_J7_copyOf_1904c rfl rfl ?_
  refine pw_getC tk_J7_copyOf_1904c rfl hb (fw_gw 1297 (by decide +kernel) (by decide +kernel)) rfl ?_
  refine pw_cs tk_J7_copyOf_1904c rfl ca_J7_copyOf_6403c lk_J7_300 sx_J7_copyOf_6403c (As := [.ref b, .int (nI m), .ref (mI9 G)]) (rest := []) (kc' := 0) (ks' := 0) (j_copy3 hb hm hm2 hc hca hel) rfl rfl rfl (Nat.le_of_ble_eq_true rfl) (Nat.le_refl _) (Nat.le_refl _) ?_ ?_
  · rintro _ h2 ⟨_, rfl, q, rfl, hq, rfl⟩
    exact pw_aret (r := some q) tk_J7_copyOf_1904c rfl rfl (Or.inr ⟨_, rfl⟩) ⟨some q, rfl, q, rfl, hq, rfl⟩
  · exact fun _ _ z => z.elim
theorem ncap_le {c : Nat} (h : c ≤ 32) : ncap c ≤ 48 ∧ c < ncap c := by
  have hm : max 1 (c / 2) ≤ 16 := Nat.max_le.mpr ⟨by omega, by omega⟩
  have hm1 : 1 ≤ max 1 (c / 2) := Nat.le_max_left _ _
  unfold ncap
  split <;> omega
/-- what an addition costs: nothing, or a new array -/
def gC (n cap : Nat) : Nat := if n = cap then 1 else 0
def gS (n cap : Nat) : Nat := if n = cap then ncap cap else 0
/-- the array to write into: there already, or a new one with what was there -/
def gw (h : fw_H) (n e cap : Nat) (f : Nat → Option Nat) (h1 : fw_H) (e1 cap1 : Nat) (f1 : Nat → Option Nat) : Prop := (n < cap ∧ h1 = h ∧ e1 = e ∧ cap1 = cap ∧ f1 = f) ∨ (n = cap ∧ h e1 = none ∧ cap1 = ncap cap ∧ f1 = cut n f ∧ h1 = fw_up h e1 (oA cap1 f1))
/-- an empty one or one of one's own -/
def ar (G : fw_G) (h : fw_H) (n e cap : Nat) (f : Nat → Option Nat) : Prop := (e = tE G ∧ cap = 0 ∧ n = 0) ∨ (h e = some (oA cap f) ∧ 0 < cap)
theorem cut_0 {f : Nat → Option Nat} : cut 0 f = fun _ => none := funext fun j => if_neg (by omega)
theorem j_grow1 {mc n e cap ci : Nat} {f : Nat → Option Nat} {r : vw_C} (hA : h a = some (lsO mc e n)) (hE : ar G h n e cap f) (hn : n = cap) (hn2 : n ≤ 32) (hc : vwCl[ci]? = some r) (hca : Cond.castable r.1 "java/lang/Object" ∈ fw_NW) (hel : ∀ i, i < cap → ∀ q, f i = some q → ∃ fs, h q = some (.inr (ci, fs))) : PM G 2 1 (ncap cap) mm_Jx4a65c_grow_92f84 [.ref a, .int (nI (n + 1))] h (fw_qQ (fun x h' => ∃ q, x = some q ∧ h q = none ∧ h' = fw_up (fw_up h q (oA (ncap cap) (cut n f))) a (lsO mc q n)) fw_noX) := by
  refine pm_of (by decide +kernel) rfl rfl rfl ?_
  refine pw_go tk_Jx4a65c_grow_92f84 rfl rfl ?_
  refine pw_get tk_Jx4a65c_grow_92f84 rfl fl_Jx4a65c_9 hA rfl ?_
  rcases hE with ⟨rfl, rfl, h0⟩ | ⟨hE, h0⟩
  · subst hn
    refine pw_elen tk_Jx4a65c_grow_92f84 rfl ?_
    iterate 2 refine pw_go tk_Jx4a65c_grow_92f84 rfl rfl ?_
    refine pw_ifN (0) tk_Jx4a65c_grow_92f84 rfl nI_0.symm (by omega) (fun c => ?_) (fun c => ?_)
    · have c : 0 < 0 := c
      omega
    refine pw_go tk_Jx4a65c_grow_92f84 rfl rfl ?_
    refine pw_get tk_Jx4a65c_grow_92f84 rfl fl_Jx4a65c_9 hA rfl ?_
    refine pw_gete tk_Jx4a65c_grow_92f84 rfl rfl ?_
    refine pw_acmpeq (rx := some (tE G)) (ry := some (tE G)) tk_Jx4a65c_grow_92f84 rfl (fun _ => ?_) (fun c => absurd rfl c)
    iterate 3 refine pw_go tk_Jx4a65c_grow_92f84 rfl rfl ?_
    refine pw_maxN 10 1 tk_Jx4a65c_grow_92f84 rfl lk_Jx4a65c_79 rfl rfl (by omega) (by omega) rfl ?_
    refine pw_mono (Q' := fw_qp 0 h) (Nat.le_refl _) (Nat.le_refl _) (show 0 + 10 ≤ ncap 0 by decide) ?_
    refine pw_newq (kc := 0) (ks := 0) (t := 10) (N' := 10) (Cn := "java/lang/Object") tk_Jx4a65c_grow_92f84 rfl (by decide) rfl (by decide) (fw_gw 1339 (by decide +kernel) (by decide +kernel)) (by decide) rfl (by omega) (fun q hq hg => ?_)
    refine pw_go tk_Jx4a65c_grow_92f84 rfl rfl ?_
    refine pw_put tk_Jx4a65c_grow_92f84 rfl fp_Jx4a65c_9 ((up_sub hq _ _ hA)) rfl rfl (Nat.le_of_ble_eq_true rfl) ?_
    refine pw_aret (r := some q) tk_Jx4a65c_grow_92f84 rfl rfl (Or.inr ⟨_, rfl⟩) ⟨some q, rfl, q, rfl, hq, ?_⟩
    rw [cut_0]
    rfl
  · skip
    refine pw_alen tk_Jx4a65c_grow_92f84 rfl hE (by decide) ?_
    iterate 2 refine pw_go tk_Jx4a65c_grow_92f84 rfl rfl ?_
    have hm : max 1 (cap / 2) ≤ 16 := Nat.max_le.mpr ⟨by omega, by omega⟩
    have hm1 : 1 ≤ max 1 (cap / 2) := Nat.le_max_left _ _
    refine pw_ifN (cap) tk_Jx4a65c_grow_92f84 rfl rfl (by omega) (fun c => ?_) (fun c => ?_)
    · skip
      iterate 3 refine pw_go tk_Jx4a65c_grow_92f84 rfl rfl ?_
      refine pw_subN (n + 1) (cap) tk_Jx4a65c_grow_92f84 rfl rfl rfl (by omega) ?_
      iterate 3 refine pw_go tk_Jx4a65c_grow_92f84 rfl rfl ?_
      have e1 : n + 1 - cap = 1 := by omega
      rw [e1]
      refine pw_i (x' := nI (cap / 2)) (nI_half (by omega)) ?_
      refine pw_csp tk_Jx4a65c_grow_92f84 rfl ca_J8_newLength_cabcc lk_Jx4a65c_73 sx_J8_newLength_cabcc (As := [.int (nI cap), .int (nI 1), .int (nI (cap / 2))]) (rest := []) (j_newLen (x := cap) (y := 1) (z := cap / 2) (by omega) (by omega)) rfl rfl rfl rfl ?_
      iterate 3 refine pw_go tk_Jx4a65c_grow_92f84 rfl rfl ?_
      refine pw_get tk_Jx4a65c_grow_92f84 rfl fl_Jx4a65c_9 hA rfl ?_
      refine pw_go tk_Jx4a65c_grow_92f84 rfl rfl ?_
      refine pw_mono (Q' := fw_qp 0 h) (Nat.le_refl _) (Nat.le_refl _) (show (cap + max 1 (cap / 2)) + 0 ≤ ncap cap by unfold ncap; rw [if_neg (by omega)]; exact Nat.le_refl _) ?_
      refine pw_cs tk_Jx4a65c_grow_92f84 rfl ca_J7_copyOf_1904c lk_Jx4a65c_66 sx_J7_copyOf_1904c (As := [.ref e, .int (nI (cap + max 1 (cap / 2)))]) (rest := [.ref a]) (kc' := 0) (ks' := 0) (j_copy2 hE (m := cap + max 1 (cap / 2)) (by omega) (by omega) hc hca hel) rfl rfl rfl (Nat.le_of_ble_eq_true rfl) (Nat.le_refl _) (Nat.le_refl _) ?_ ?_
      · rintro _ h2 ⟨_, rfl, q, rfl, hq, rfl⟩
        refine pw_go tk_Jx4a65c_grow_92f84 rfl rfl ?_
        refine pw_put tk_Jx4a65c_grow_92f84 rfl fp_Jx4a65c_9 ((up_sub hq _ _ hA)) rfl rfl (Nat.le_of_ble_eq_true rfl) ?_
        refine pw_aret (r := some q) tk_Jx4a65c_grow_92f84 rfl rfl (Or.inr ⟨_, rfl⟩) ⟨some q, rfl, q, rfl, hq, ?_⟩
        unfold ncap
        rw [if_neg (by omega), hn]
        rfl
      · exact fun _ _ z => z.elim
    · have c : ¬ 0 < cap := c
      omega
theorem j_grow0 {mc n e cap ci : Nat} {f : Nat → Option Nat} {r : vw_C} (hA : h a = some (lsO mc e n)) (hE : ar G h n e cap f) (hn : n = cap) (hn2 : n ≤ 32) (hc : vwCl[ci]? = some r) (hca : Cond.castable r.1 "java/lang/Object" ∈ fw_NW) (hel : ∀ i, i < cap → ∀ q, f i = some q → ∃ fs, h q = some (.inr (ci, fs))) : PM G 3 1 (ncap cap) mm_Jx4a65c_grow_d5877 [.ref a] h (fw_qQ (fun x h' => ∃ q, x = some q ∧ h q = none ∧ h' = fw_up (fw_up h q (oA (ncap cap) (cut n f))) a (lsO mc q n)) fw_noX) := by
  refine pm_of (by decide +kernel) rfl rfl rfl ?_
  iterate 2 refine pw_go tk_Jx4a65c_grow_d5877 rfl rfl ?_
  refine pw_get tk_Jx4a65c_grow_d5877 rfl fl_Jx4a65c_48 hA rfl ?_
  refine pw_go tk_Jx4a65c_grow_d5877 rfl rfl ?_
  refine pw_addN (n) (1) tk_Jx4a65c_grow_d5877 rfl rfl rfl ?_
  refine pw_cv tk_Jx4a65c_grow_d5877 rfl ca_Jx4a65c_grow_92f84 lk_Jx4a65c_69 iv_Jx4a65c_grow_92f84 sv_Jx4a65c_grow_92f84 hA rfl rfl (As := [.int (nI (n + 1))]) (rest := []) (kc' := 0) (ks' := 0) (j_grow1 hA hE hn hn2 hc hca hel) rfl rfl rfl (Nat.le_of_ble_eq_true rfl) (Nat.le_refl _) (Nat.le_refl _) ?_ ?_
  · rintro _ h2 ⟨_, rfl, q, rfl, hq, rfl⟩
    exact pw_aret (r := some q) tk_Jx4a65c_grow_d5877 rfl rfl (Or.inr ⟨_, rfl⟩) ⟨some q, rfl, q, rfl, hq, rfl⟩
  · exact fun _ _ z => z.elim
theorem j_add3 {mc n e cap ci w : Nat} {f : Nat → Option Nat} {r : vw_C} {fw : List Value} (hA : h a = some (lsO mc e n)) (hE : ar G h n e cap f) (hn : n ≤ cap) (hn2 : n ≤ 32) (hcap : cap ≤ 48) (hc : vwCl[ci]? = some r) (hca : Cond.castable r.1 "java/lang/Object" ∈ fw_NW) (hel : ∀ i, i < n → ∀ q, f i = some q → ∃ fs, h q = some (.inr (ci, fs))) (hw : h w = some (.inr (ci, fw))) : PM G 4 (gC n cap) (gS n cap) mm_Jx4a65c_add_72be8 [.ref a, .ref w, .ref e, .int (nI n)] h (fw_qV (fun h' => ∃ h1 e1 cap1 f1, gw h n e cap f h1 e1 cap1 f1 ∧ h' = fw_up (fw_up h1 e1 (oA cap1 (va_up f1 n (some w)))) a (lsO mc e1 (n + 1))) fw_noX) := by
  refine pm_of (by decide +kernel) rfl rfl rfl ?_
  have k11 : ∀ h1 e1 cap1 f1, gw h n e cap f h1 e1 cap1 f1 → n < cap1 → cap1 ≤ 48 → h1 e1 = some (oA cap1 f1) → h1 w = some (.inr (ci, fw)) → a ≠ e1 → PW G mm_Jx4a65c_add_72be8 (fw_qV (fun h' => ∃ h1 e1 cap1 f1, gw h n e cap f h1 e1 cap1 f1 ∧ h' = fw_up (fw_up h1 e1 (oA cap1 (va_up f1 n (some w)))) a (lsO mc e1 (n + 1))) fw_noX) 4 0 0 (fw_up h1 a (lsO mc e1 n)) 11 [(0, .ref a), (1, .ref w), (2, .ref e1), (3, .int (nI n))] [] := by
    intro h1 e1 cap1 f1 g1 g2 g3 g4 g5 g6
    have hwa : w ≠ a ∨ w = a := by omega
    have x1 : fw_up h1 a (lsO mc e1 n) e1 = some (oA cap1 f1) := by rw [fw_up_n g6.symm]; exact g4
    have x2 : ∃ ff, fw_up h1 a (lsO mc e1 n) w = some (.inr (ci, ff)) := by
      rcases hwa with z | z
      · exact ⟨fw, by rw [fw_up_n z]; exact g5⟩
      · subst z
        have : ci = 4 := by
          have := hA.symm.trans hw
          cases this
          rfl
        subst this
        exact ⟨_, fw_up_s⟩
    obtain ⟨ff, x2⟩ := x2
    iterate 3 refine pw_go tk_Jx4a65c_add_72be8 rfl rfl ?_
    refine pw_aastO (k := n) tk_Jx4a65c_add_72be8 rfl x1 x2 hc hca rfl g2 (by omega) ?_
    iterate 3 refine pw_go tk_Jx4a65c_add_72be8 rfl rfl ?_
    refine pw_addN (n) (1) tk_Jx4a65c_add_72be8 rfl rfl rfl ?_
    have x3 : fw_up (fw_up h1 a (lsO mc e1 n)) e1 (oA cap1 (va_up f1 n (some w))) a = some (lsO mc e1 n) := by
      rw [fw_up_n g6]
      exact fw_up_s
    refine pw_put tk_Jx4a65c_add_72be8 rfl fp_Jx4a65c_48 x3 rfl rfl (Nat.le_of_ble_eq_true rfl) ?_
    refine pw_vret tk_Jx4a65c_add_72be8 rfl rfl ⟨rfl, h1, e1, cap1, f1, g1, ?_⟩
    rw [fw_up_c g6, fw_up_2]
    rfl
  iterate 2 refine pw_go tk_Jx4a65c_add_72be8 rfl rfl ?_
  rcases hE with ⟨rfl, rfl, h0⟩ | ⟨hE, h0⟩
  · subst h0
    refine pw_elen tk_Jx4a65c_add_72be8 rfl ?_
    refine pw_icN (0) (0) tk_Jx4a65c_add_72be8 rfl rfl nI_0.symm (by omega) (by omega) (fun c => ?_) (fun c => ?_)
    · have c : 0 ≠ 0 := c
      exact absurd rfl c
    refine pw_go tk_Jx4a65c_add_72be8 rfl rfl ?_
    refine pw_cv tk_Jx4a65c_add_72be8 rfl ca_Jx4a65c_grow_d5877 lk_Jx4a65c_129 iv_Jx4a65c_grow_d5877 sv_Jx4a65c_grow_d5877 hA rfl rfl (As := []) (rest := []) (kc' := 0) (ks' := 0) (j_grow0 (f := f) hA (Or.inl ⟨rfl, rfl, rfl⟩) rfl (by omega) hc hca (fun i hi => absurd hi (by omega))) rfl rfl rfl (Nat.le_of_ble_eq_true rfl) (show 1 + 0 ≤ gC 0 0 by decide) (show ncap 0 + 0 ≤ gS 0 0 by decide) ?_ ?_
    · rintro _ h2 ⟨_, rfl, q, rfl, hq, rfl⟩
      have hqa : a ≠ q := fun z => by rw [z, hq] at hA; cases hA
      refine pw_go tk_Jx4a65c_add_72be8 rfl rfl ?_
      have k := k11 (fw_up h q (oA (ncap 0) (cut 0 f))) q (ncap 0) (cut 0 f) (Or.inr ⟨rfl, hq, rfl, rfl, rfl⟩) (by decide) (by decide) fw_up_s (up_sub hq _ _ hw) hqa
      exact pw_M [(0, .ref a), (1, .ref w), (2, .ref q), (3, .int (nI 0))] ⟨rfl, rfl, rfl, rfl, trivial⟩ k
    · exact fun _ _ z => z.elim
  · skip
    refine pw_alen tk_Jx4a65c_add_72be8 rfl hE (by decide) ?_
    refine pw_icN (n) (cap) tk_Jx4a65c_add_72be8 rfl rfl rfl (by omega) (by omega) (fun c => ?_) (fun c => ?_)
    · have c : n ≠ cap := c
      refine pw_mono (Q' := fw_qp 0 h) (Nat.le_refl _) (Nat.zero_le _) (Nat.zero_le _) ?_
      have hea : a ≠ e := fun z => by rw [z, hE] at hA; cases hA
      have k := k11 h e cap f (Or.inl ⟨by omega, rfl, rfl, rfl, rfl⟩) (by omega) hcap hE hw hea
      rw [fw_up_i hA] at k
      exact pw_M [(0, .ref a), (1, .ref w), (2, .ref e), (3, .int (nI n))] ⟨rfl, rfl, rfl, rfl, trivial⟩ k
    have c : n = cap := Decidable.not_not.mp c
    refine pw_go tk_Jx4a65c_add_72be8 rfl rfl ?_
    refine pw_cv tk_Jx4a65c_add_72be8 rfl ca_Jx4a65c_grow_d5877 lk_Jx4a65c_129 iv_Jx4a65c_grow_d5877 sv_Jx4a65c_grow_d5877 hA rfl rfl (As := []) (rest := []) (kc' := 0) (ks' := 0) (j_grow0 hA (Or.inr ⟨hE, h0⟩) c hn2 hc hca (fun i hi => hel i (by omega))) rfl rfl rfl (Nat.le_of_ble_eq_true rfl) (show 1 + 0 ≤ gC n cap by unfold gC; rw [if_pos c]; decide) (show ncap cap + 0 ≤ gS n cap by unfold gS; rw [if_pos c]; exact Nat.le_refl _) ?_ ?_
    · rintro _ h2 ⟨_, rfl, q, rfl, hq, rfl⟩
      have hqa : a ≠ q := fun z => by rw [z, hq] at hA; cases hA
      have hm : max 1 (cap / 2) ≤ 16 := Nat.max_le.mpr ⟨by omega, by omega⟩
      have hm1 : 1 ≤ max 1 (cap / 2) := Nat.le_max_left _ _
      have hnc : ncap cap = cap + max 1 (cap / 2) := if_neg (by omega)
      refine pw_go tk_Jx4a65c_add_72be8 rfl rfl ?_
      have k := k11 (fw_up h q (oA (ncap cap) (cut n f))) q (ncap cap) (cut n f) (Or.inr ⟨c, hq, rfl, rfl, rfl⟩) (by omega) (by omega) fw_up_s (up_sub hq _ _ hw) hqa
      exact pw_M [(0, .ref a), (1, .ref w), (2, .ref q), (3, .int (nI n))] ⟨rfl, rfl, rfl, rfl, trivial⟩ k
    · exact fun _ _ z => z.elim
theorem j_add1 {mc n e cap ci w : Nat} {f : Nat → Option Nat} {r : vw_C} {fw : List Value} (hA : h a = some (lsO mc e n)) (hE : ar G h n e cap f) (hn : n ≤ cap) (hn2 : n ≤ 32) (hcap : cap ≤ 48) (hc : vwCl[ci]? = some r) (h4 : ci ≠ 4) (hca : Cond.castable r.1 "java/lang/Object" ∈ fw_NW) (hel : ∀ i, i < n → ∀ q, f i = some q → ∃ fs, h q = some (.inr (ci, fs))) (hw : h w = some (.inr (ci, fw))) : PM G 5 (gC n cap) (gS n cap) mm_Jx4a65c_add_9ea2d [.ref a, .ref w] h (fw_qI (fun x h' => x = 1 ∧ ∃ h1 e1 cap1 f1, gw h n e cap f h1 e1 cap1 f1 ∧ h' = fw_up (fw_up h1 e1 (oA cap1 (va_up f1 n (some w)))) a (lsO (mc + 1) e1 (n + 1))) fw_noX) := by
  refine pm_of (by decide +kernel) rfl rfl rfl ?_
  iterate 2 refine pw_go tk_Jx4a65c_add_9ea2d rfl rfl ?_
  refine pw_get tk_Jx4a65c_add_9ea2d rfl fl_Jx4a65c_63 hA rfl ?_
  refine pw_go tk_Jx4a65c_add_9ea2d rfl rfl ?_
  refine pw_addN (mc) (1) tk_Jx4a65c_add_9ea2d rfl rfl rfl ?_
  refine pw_put tk_Jx4a65c_add_9ea2d rfl fp_Jx4a65c_63 hA rfl rfl (Nat.le_of_ble_eq_true rfl) ?_
  have hA2 : fw_up h a (lsO (mc + 1) e n) a = some (lsO (mc + 1) e n) := fw_up_s
  iterate 3 refine pw_go tk_Jx4a65c_add_9ea2d rfl rfl ?_
  refine pw_get tk_Jx4a65c_add_9ea2d rfl fl_Jx4a65c_9 hA2 rfl ?_
  refine pw_go tk_Jx4a65c_add_9ea2d rfl rfl ?_
  refine pw_get tk_Jx4a65c_add_9ea2d rfl fl_Jx4a65c_48 hA2 rfl ?_
  have keep : ∀ {b ci : Nat} {fs : List Value}, ci ≠ 4 → h b = some (.inr (ci, fs)) → fw_up h a (lsO (mc + 1) e n) b = some (.inr (ci, fs)) := fun {b ci fs} hc4 hb => by
    rw [fw_up_n (fun z => by rw [z, hA] at hb; cases hb; exact hc4 rfl)]
    exact hb
  have hE2 : ar G (fw_up h a (lsO (mc + 1) e n)) n e cap f := by
    rcases hE with z | ⟨z1, z2⟩
    · exact Or.inl z
    · refine Or.inr ⟨?_, z2⟩
      rw [fw_up_n (fun z => by rw [z, hA] at z1; cases z1)]
      exact z1
  refine pw_cv tk_Jx4a65c_add_9ea2d rfl ca_Jx4a65c_add_72be8 lk_Jx4a65c_131 iv_Jx4a65c_add_72be8 sv_Jx4a65c_add_72be8 hA2 rfl rfl (As := [.ref w, .ref e, .int (nI n)]) (rest := []) (kc' := 0) (ks' := 0) (j_add3 hA2 hE2 hn hn2 hcap hc hca (fun i hi q hq => (hel i hi q hq).imp fun fs hfs => keep h4 hfs) (keep h4 hw)) rfl rfl rfl (Nat.le_of_ble_eq_true rfl) (Nat.le_refl _) (Nat.le_refl _) ?_ ?_
  · rintro _ _ ⟨rfl, h1, e1, cap1, f1, g, rfl⟩
    refine pw_go tk_Jx4a65c_add_9ea2d rfl rfl ?_
    refine pw_iret tk_Jx4a65c_add_9ea2d rfl rfl rfl ⟨_, rfl, rfl, ?_⟩
    rcases g with ⟨g1, rfl, rfl, rfl, rfl⟩ | ⟨rfl, g2, rfl, rfl, rfl⟩
    · refine ⟨h, e1, cap1, f1, Or.inl ⟨g1, rfl, rfl, rfl, rfl⟩, ?_⟩
      have hae : a ≠ e1 := fun z => by
        rcases hE with ⟨-, z2, z3⟩ | ⟨z1, z2⟩
        · omega
        · rw [← z, hA] at z1
          cases z1
      rw [fw_up_c hae, fw_up_2]
    · have hq : h e1 = none := by
        by_cases z : e1 = a
        · rw [z, fw_up_s] at g2
          cases g2
        · rw [fw_up_n z] at g2
          exact g2
      have hae : a ≠ e1 := fun z => by rw [← z, hA] at hq; cases hq
      refine ⟨fw_up h e1 (oA (ncap n) (cut n f)), e1, ncap n, cut n f, Or.inr ⟨rfl, hq, rfl, rfl, rfl⟩, ?_⟩
      rw [fw_up_2, fw_up_2, fw_up_c hae, fw_up_2]
  · exact fun _ _ z => z.elim
theorem j_range {mc n e i : Nat} (hA : h a = some (lsO mc e n)) (hi : i ≤ n) (hn : n ≤ 48) : PM G 0 0 0 mm_Jx4a65c_rangeCheckForAdd_d00df [.ref a, .int (nI i)] h (fw_qV (fun h' => h' = h) fw_noX) := by
  refine pm_of (by decide +kernel) rfl rfl rfl ?_
  iterate 2 refine pw_go tk_Jx4a65c_rangeCheckForAdd_d00df rfl rfl ?_
  refine pw_get tk_Jx4a65c_rangeCheckForAdd_d00df rfl fl_Jx4a65c_48 hA rfl ?_
  refine pw_icN (i) (n) tk_Jx4a65c_rangeCheckForAdd_d00df rfl rfl rfl (by omega) (by omega) (fun c => ?_) (fun c => ?_)
  · have c : n < i := c
    omega
  refine pw_go tk_Jx4a65c_rangeCheckForAdd_d00df rfl rfl ?_
  refine pw_ifN (i) tk_Jx4a65c_rangeCheckForAdd_d00df rfl rfl (by omega) (fun c => ?_) (fun c => ?_)
  · skip
    exact pw_vret tk_Jx4a65c_rangeCheckForAdd_d00df rfl rfl ⟨rfl, rfl⟩
  · have c : ¬ 0 ≤ i := c
    omega
def insF (i n x : Nat) (f : Nat → Option Nat) : Nat → Option Nat := va_up (va_cpy f f i (i + 1) (n - i)) i (some x)
theorem j_addI {mc n e cap ci w i : Nat} {f : Nat → Option Nat} {r : vw_C} {fw : List Value} (hA : h a = some (lsO mc e n)) (hE : ar G h n e cap f) (hi : i ≤ n) (hn : n ≤ cap) (hn2 : n ≤ 32) (hcap : cap ≤ 48) (hc : vwCl[ci]? = some r) (h4 : ci ≠ 4) (hca : Cond.castable r.1 "java/lang/Object" ∈ fw_NW) (hel : ∀ i, i < n → ∀ q, f i = some q → ∃ fs, h q = some (.inr (ci, fs))) (hw : h w = some (.inr (ci, fw))) : PM G 5 (gC n cap) (gS n cap) mm_Jx4a65c_add_7a177 [.ref a, .int (nI i), .ref w] h (fw_qV (fun h' => ∃ h1 e1 cap1 f1, gw h n e cap f h1 e1 cap1 f1 ∧ h' = fw_up (fw_up h1 e1 (oA cap1 (insF i n w f1))) a (lsO (mc + 1) e1 (n + 1))) fw_noX) := by
  refine pm_of (by decide +kernel) rfl rfl rfl ?_
  have k38 : ∀ h1 e1 cap1 f1 kc ks, gw h n e cap f h1 e1 cap1 f1 → n < cap1 → cap1 ≤ 48 → h1 e1 = some (oA cap1 f1) → (∀ b fs, h b = some (.inr (ci, fs)) → h1 b = some (.inr (ci, fs))) → (∀ i, i < n → ∀ q, f1 i = some q → ∃ fs, h q = some (.inr (ci, fs))) → a ≠ e1 → PW G mm_Jx4a65c_add_7a177 (fw_qV (fun h' => ∃ h1 e1 cap1 f1, gw h n e cap f h1 e1 cap1 f1 ∧ h' = fw_up (fw_up h1 e1 (oA cap1 (insF i n w f1))) a (lsO (mc + 1) e1 (n + 1))) fw_noX) 5 kc ks (fw_up h1 a (lsO (mc + 1) e1 n)) 38 [(0, .ref a), (1, .int (nI i)), (2, .ref w), (3, .int (nI n)), (4, .ref e1)] [] := by
    intro h1 e1 cap1 f1 kc ks g1 g2 g3 g4 g5 g7 g6
    have x1 : fw_up h1 a (lsO (mc + 1) e1 n) e1 = some (oA cap1 f1) := by rw [fw_up_n g6.symm]; exact g4
    have kp : ∀ {b : Nat} {fs : List Value}, h b = some (.inr (ci, fs)) → fw_up h1 a (lsO (mc + 1) e1 n) b = some (.inr (ci, fs)) := fun {b fs} hb => by
      rw [fw_up_n (fun z => by rw [z, hA] at hb; cases hb; exact h4 rfl)]
      exact g5 b fs hb
    iterate 5 refine pw_go tk_Jx4a65c_add_7a177 rfl rfl ?_
    refine pw_addN (i) (1) tk_Jx4a65c_add_7a177 rfl rfl rfl ?_
    iterate 2 refine pw_go tk_Jx4a65c_add_7a177 rfl rfl ?_
    refine pw_subN (n) (i) tk_Jx4a65c_add_7a177 rfl rfl rfl (by omega) ?_
    refine pw_copyq (sp := i) (dp := i + 1) (k := n - i) tk_Jx4a65c_add_7a177 rfl (fw_gw 1942 (by decide +kernel) (by decide +kernel)) x1 x1 rfl rfl rfl (by omega) (by omega) (by omega) (by omega) hc hca (fun j hj q hq => ?_) rfl ?_
    · obtain ⟨fs, hfs⟩ := g7 (i + j) (by omega) q hq
      exact ⟨fs, kp hfs⟩
    iterate 3 refine pw_go tk_Jx4a65c_add_7a177 rfl rfl ?_
    have x2 : fw_up (fw_up h1 a (lsO (mc + 1) e1 n)) e1 (oA cap1 (va_cpy f1 f1 i (i + 1) (n - i))) e1 = some (oA cap1 (va_cpy f1 f1 i (i + 1) (n - i))) := fw_up_s
    have x3 : fw_up (fw_up h1 a (lsO (mc + 1) e1 n)) e1 (oA cap1 (va_cpy f1 f1 i (i + 1) (n - i))) w = some (.inr (ci, fw)) := by
      rw [fw_up_n (fun z => by have := kp hw; rw [z, x1] at this; cases this)]
      exact kp hw
    refine pw_aastO (k := i) tk_Jx4a65c_add_7a177 rfl x2 x3 hc hca rfl (by omega) (by omega) ?_
    iterate 3 refine pw_go tk_Jx4a65c_add_7a177 rfl rfl ?_
    refine pw_addN (n) (1) tk_Jx4a65c_add_7a177 rfl rfl rfl ?_
    have x4 : fw_up (fw_up (fw_up h1 a (lsO (mc + 1) e1 n)) e1 (oA cap1 (va_cpy f1 f1 i (i + 1) (n - i)))) e1 (oA cap1 (va_up (va_cpy f1 f1 i (i + 1) (n - i)) i (some w))) a = some (lsO (mc + 1) e1 n) := by
      rw [fw_up_n g6, fw_up_n g6]
      exact fw_up_s
    refine pw_put tk_Jx4a65c_add_7a177 rfl fp_Jx4a65c_48 x4 rfl rfl (Nat.le_of_ble_eq_true rfl) ?_
    refine pw_vret tk_Jx4a65c_add_7a177 rfl rfl ⟨rfl, h1, e1, cap1, f1, g1, ?_⟩
    rw [fw_up_2, fw_up_c g6, fw_up_2]
    rfl
  iterate 2 refine pw_go tk_Jx4a65c_add_7a177 rfl rfl ?_
  refine pw_cv tk_Jx4a65c_add_7a177 rfl ca_Jx4a65c_rangeCheckForAdd_d00df lk_Jx4a65c_135 iv_Jx4a65c_rangeCheckForAdd_d00df sv_Jx4a65c_rangeCheckForAdd_d00df hA rfl rfl (As := [.int (nI i)]) (rest := []) (kc' := gC n cap) (ks' := gS n cap) (j_range hA hi (by omega)) rfl rfl rfl (Nat.le_of_ble_eq_true rfl) (Nat.le_of_eq (Nat.zero_add _)) (Nat.le_of_eq (Nat.zero_add _)) ?_ ?_
  · rintro _ h2 ⟨rfl, e2⟩
    rw [e2]
    iterate 2 refine pw_go tk_Jx4a65c_add_7a177 rfl rfl ?_
    refine pw_get tk_Jx4a65c_add_7a177 rfl fl_Jx4a65c_63 hA rfl ?_
    refine pw_go tk_Jx4a65c_add_7a177 rfl rfl ?_
    refine pw_addN (mc) (1) tk_Jx4a65c_add_7a177 rfl rfl rfl ?_
    refine pw_put tk_Jx4a65c_add_7a177 rfl fp_Jx4a65c_63 hA rfl rfl (Nat.le_of_ble_eq_true rfl) ?_
    have hA2 : fw_up h a (lsO (mc + 1) e n) a = some (lsO (mc + 1) e n) := fw_up_s
    refine pw_go tk_Jx4a65c_add_7a177 rfl rfl ?_
    refine pw_get tk_Jx4a65c_add_7a177 rfl fl_Jx4a65c_48 hA2 rfl ?_
    iterate 3 refine pw_go tk_Jx4a65c_add_7a177 rfl rfl ?_
    refine pw_get tk_Jx4a65c_add_7a177 rfl fl_Jx4a65c_9 hA2 rfl ?_
    iterate 2 refine pw_go tk_Jx4a65c_add_7a177 rfl rfl ?_
    have keep : ∀ {b : Nat} {fs : List Value}, h b = some (.inr (ci, fs)) → fw_up h a (lsO (mc + 1) e n) b = some (.inr (ci, fs)) := fun {b fs} hb => by
      rw [fw_up_n (fun z => by rw [z, hA] at hb; cases hb; exact h4 rfl)]
      exact hb
    have fresh : ∀ {q : Nat}, fw_up h a (lsO (mc + 1) e n) q = none → h q = none ∧ a ≠ q := fun {q} hq => by
      by_cases z : q = a
      · rw [z, fw_up_s] at hq
        cases hq
      · rw [fw_up_n z] at hq
        exact ⟨hq, Ne.symm z⟩
    rcases hE with ⟨rfl, rfl, h0⟩ | ⟨hE, h0⟩
    · subst h0
      refine pw_elen tk_Jx4a65c_add_7a177 rfl ?_
      refine pw_icN (0) (0) tk_Jx4a65c_add_7a177 rfl rfl nI_0.symm (by omega) (by omega) (fun c => ?_) (fun c => ?_)
      · have c : 0 ≠ 0 := c
        exact absurd rfl c
      refine pw_go tk_Jx4a65c_add_7a177 rfl rfl ?_
      refine pw_cv tk_Jx4a65c_add_7a177 rfl ca_Jx4a65c_grow_d5877 lk_Jx4a65c_129 iv_Jx4a65c_grow_d5877 sv_Jx4a65c_grow_d5877 hA2 rfl rfl (As := []) (rest := []) (kc' := 0) (ks' := 0) (j_grow0 (f := f) hA2 (Or.inl ⟨rfl, rfl, rfl⟩) rfl (by omega) hc hca (fun i hi => absurd hi (by omega))) rfl rfl rfl (Nat.le_of_ble_eq_true rfl) (show 1 + 0 ≤ gC 0 0 by decide) (show ncap 0 + 0 ≤ gS 0 0 by decide) ?_ ?_
      · rintro _ h2 ⟨_, rfl, q, rfl, hq, rfl⟩
        obtain ⟨hq, hqa⟩ := fresh hq
        refine pw_go tk_Jx4a65c_add_7a177 rfl rfl ?_
        have k := k38 (fw_up h q (oA (ncap 0) (cut 0 f))) q (ncap 0) (cut 0 f) 0 0 (Or.inr ⟨rfl, hq, rfl, rfl, rfl⟩) (by decide) (by decide) fw_up_s (fun b fs hb => up_sub hq _ _ hb) (fun i hi => absurd hi (by omega)) hqa
        rw [fw_up_c hqa, fw_up_2]
        exact pw_M [(0, .ref a), (1, .int (nI i)), (2, .ref w), (3, .int (nI 0)), (4, .ref q)] ⟨rfl, rfl, rfl, rfl, rfl, trivial⟩ k
      · exact fun _ _ z => z.elim
    · have hae : a ≠ e := fun z => by rw [← z, hA] at hE; cases hE
      have hE2 : fw_up h a (lsO (mc + 1) e n) e = some (oA cap f) := by
        rw [fw_up_n hae.symm]
        exact hE
      refine pw_alen tk_Jx4a65c_add_7a177 rfl hE2 (by decide) ?_
      refine pw_icN (n) (cap) tk_Jx4a65c_add_7a177 rfl rfl rfl (by omega) (by omega) (fun c => ?_) (fun c => ?_)
      · have c : n ≠ cap := c
        have k := k38 h e cap f (gC n cap) (gS n cap) (Or.inl ⟨by omega, rfl, rfl, rfl, rfl⟩) (by omega) hcap hE (fun b fs hb => hb) hel hae
        exact pw_M [(0, .ref a), (1, .int (nI i)), (2, .ref w), (3, .int (nI n)), (4, .ref e)] ⟨rfl, rfl, rfl, rfl, rfl, trivial⟩ k
      have c : n = cap := Decidable.not_not.mp c
      refine pw_go tk_Jx4a65c_add_7a177 rfl rfl ?_
      refine pw_cv tk_Jx4a65c_add_7a177 rfl ca_Jx4a65c_grow_d5877 lk_Jx4a65c_129 iv_Jx4a65c_grow_d5877 sv_Jx4a65c_grow_d5877 hA2 rfl rfl (As := []) (rest := []) (kc' := 0) (ks' := 0) (j_grow0 hA2 (Or.inr ⟨hE2, h0⟩) c hn2 hc hca (fun i hi q hq => (hel i (by omega) q hq).imp fun fs hfs => keep hfs)) rfl rfl rfl (Nat.le_of_ble_eq_true rfl) (show 1 + 0 ≤ gC n cap by unfold gC; rw [if_pos c]; decide) (show ncap cap + 0 ≤ gS n cap by unfold gS; rw [if_pos c]; exact Nat.le_refl _) ?_ ?_
      · rintro _ h2 ⟨_, rfl, q, rfl, hq, rfl⟩
        obtain ⟨hq, hqa⟩ := fresh hq
        have hnc := ncap_le (c := cap) (by omega)
        refine pw_go tk_Jx4a65c_add_7a177 rfl rfl ?_
        have k := k38 (fw_up h q (oA (ncap cap) (cut n f))) q (ncap cap) (cut n f) 0 0 (Or.inr ⟨c, hq, rfl, rfl, rfl⟩) (by omega) (by omega) fw_up_s (fun b fs hb => up_sub hq _ _ hb) (fun i hi q' hq' => hel i hi q' (by unfold cut at hq'; rw [if_pos hi] at hq'; exact hq')) hqa
        rw [fw_up_c hqa, fw_up_2]
        exact pw_M [(0, .ref a), (1, .int (nI i)), (2, .ref w), (3, .int (nI n)), (4, .ref q)] ⟨rfl, rfl, rfl, rfl, rfl, trivial⟩ k
      · exact fun _ _ z => z.elim
  · exact fun _ _ z => z.elim
/-! iterators -/
theorem j_itinit {q : Nat} (l : LV h a n F) (hq : h q = some (.inr (3, [.int 0, .int 0, .int 0, .null]))) : PM G 1 0 0 mm_Jx35411_init_45d68 [.ref q, .ref a] h (fw_qV (fun h' => h' = fw_up h q (itO a n 0 0)) fw_noX) := by
  refine pm_of (by decide +kernel) rfl rfl rfl ?_
  obtain ⟨e, cap, h1, h2, h3⟩ := l
  have hqa : a ≠ q := fun z => by rw [z, hq] at h1; cases h1
  iterate 2 refine pw_go tk_Jx35411_init_45d68 rfl rfl ?_
  refine pw_putF tk_Jx35411_init_45d68 rfl fq_Jx35411_1 rfl hq rfl rfl (Nat.le_of_ble_eq_true rfl) ?_
  refine pw_go tk_Jx35411_init_45d68 rfl rfl ?_
  refine pw_oinit tk_Jx35411_init_45d68 rfl lk_Jx35411_7 oi_1 oi_2 rfl ?_
  iterate 2 refine pw_go tk_Jx35411_init_45d68 rfl rfl ?_
  refine pw_put tk_Jx35411_init_45d68 rfl fp_Jx35411_13 fw_up_s rfl rfl (Nat.le_of_ble_eq_true rfl) ?_
  rw [fw_up_2]
  iterate 2 refine pw_go tk_Jx35411_init_45d68 rfl rfl ?_
  refine pw_get tk_Jx35411_init_45d68 rfl fl_Jx35411_1 fw_up_s rfl ?_
  have h9 : fw_up h q (.inr (3, [.int 0, .int (-1), .int 0, .ref a])) a = some (lsO n e n) := by
    rw [fw_up_n hqa]
    exact h1
  refine pw_get tk_Jx35411_init_45d68 rfl fl_Jx35411_17 h9 rfl ?_
  refine pw_put tk_Jx35411_init_45d68 rfl fp_Jx35411_22 fw_up_s rfl rfl (Nat.le_of_ble_eq_true rfl) ?_
  rw [fw_up_2]
  exact pw_vret tk_Jx35411_init_45d68 rfl rfl ⟨rfl, rfl⟩
theorem j_iterator (l : LV h a n F) : PM G 2 1 4 mm_Jx4a65c_iterator_32c93 [.ref a] h (fw_qQ (fun x h' => ∃ q, x = some q ∧ h q = none ∧ h' = fw_up h q (itO a n 0 0)) fw_noX) := by
  refine pm_of (by decide +kernel) rfl rfl rfl ?_
  refine pw_new (kc := 0) (ks := 0) tk_Jx4a65c_iterator_32c93 rfl nw_Jx4a65c_267 (fun q qf qg => ?_)
  iterate 2 refine pw_go tk_Jx4a65c_iterator_32c93 rfl rfl ?_
  refine pw_ci tk_Jx4a65c_iterator_32c93 rfl ca_Jx35411_init_45d68 (Or.inl lk_Jx4a65c_269) iv_Jx35411_init_45d68 rfl rfl (As := [.ref a]) (rest := [.ref q])  (j_itinit (l.up qf) fw_up_s) (fun _ _ z => z) rfl rfl rfl (Nat.le_of_ble_eq_true rfl) (Nat.le_of_eq (Nat.zero_add _)) (Nat.le_of_eq (Nat.zero_add _)) ?_
  rintro _ _ ⟨rfl, rfl⟩
  refine pw_aret (r := some q) tk_Jx4a65c_iterator_32c93 rfl rfl (Or.inl ⟨_, rfl⟩) ⟨some q, rfl, q, rfl, qf, ?_⟩
  rw [fw_up_2]
theorem j_hasNext {q cur last : Nat} (l : LV h a n F) (hq : h q = some (itO a n cur last)) (hcur : cur ≤ 48) : PM G 0 0 0 mm_Jx35411_hasNext_aae02 [.ref q] h (fw_qp (bI (decide (cur ≠ n))) h) := by
  refine pm_of (by decide +kernel) rfl rfl rfl ?_
  obtain ⟨e, cap, h1, h2, h3⟩ := l
  refine pw_go tk_Jx35411_hasNext_aae02 rfl rfl ?_
  refine pw_get tk_Jx35411_hasNext_aae02 rfl fl_Jx35411_25 hq rfl ?_
  refine pw_go tk_Jx35411_hasNext_aae02 rfl rfl ?_
  refine pw_get tk_Jx35411_hasNext_aae02 rfl fl_Jx35411_1 hq rfl ?_
  refine pw_get tk_Jx35411_hasNext_aae02 rfl fl_Jx35411_28 h1 rfl ?_
  refine pw_icN (cur) (n) tk_Jx35411_hasNext_aae02 rfl rfl rfl (by omega) (by omega) (fun c => ?_) (fun c => ?_)
  · skip
    have c : cur = n := c
    refine pw_go tk_Jx35411_hasNext_aae02 rfl rfl ?_
    rw [decide_eq_false (fun z => z c)]
    exact pw_zretp (b := false) tk_Jx35411_hasNext_aae02 rfl rfl
  · skip
    have c : cur ≠ n := c
    iterate 2 refine pw_go tk_Jx35411_hasNext_aae02 rfl rfl ?_
    rw [decide_eq_true c]
    exact pw_zretp (b := true) tk_Jx35411_hasNext_aae02 rfl rfl
theorem j_cfc {q cur last : Nat} (l : LV h a n F) (hq : h q = some (itO a n cur last)) : PM G 0 0 0 mm_Jx35411_checkForComodification_da8c8 [.ref q] h (fw_qV (fun h' => h' = h) fw_noX) := by
  refine pm_of (by decide +kernel) rfl rfl rfl ?_
  obtain ⟨e, cap, h1, h2, h3⟩ := l
  refine pw_go tk_Jx35411_checkForComodification_da8c8 rfl rfl ?_
  refine pw_get tk_Jx35411_checkForComodification_da8c8 rfl fl_Jx35411_1 hq rfl ?_
  refine pw_get tk_Jx35411_checkForComodification_da8c8 rfl fl_Jx35411_17 h1 rfl ?_
  refine pw_go tk_Jx35411_checkForComodification_da8c8 rfl rfl ?_
  refine pw_get tk_Jx35411_checkForComodification_da8c8 rfl fl_Jx35411_22 hq rfl ?_
  refine pw_icN (n) (n) tk_Jx35411_checkForComodification_da8c8 rfl rfl rfl (by omega) (by omega) (fun c => ?_) (fun c => ?_)
  · skip
    exact pw_vret tk_Jx35411_checkForComodification_da8c8 rfl rfl ⟨rfl, rfl⟩
  · have c : ¬ n = n := c
    exact absurd rfl c
theorem j_next {q cur last : Nat} (l : LV h a n F) (hq : h q = some (itO a n cur last)) (hcur : cur < n) : PM G 1 0 0 mm_Jx35411_next_0502b [.ref q] h (fw_qQ (fun x h' => x = some (F cur) ∧ h' = fw_up h q (itO a n (cur + 1) (cur + 1))) fw_noX) := by
  refine pm_of (by decide +kernel) rfl rfl rfl ?_
  have l0 := l
  obtain ⟨e, cap, h1, h2, h3⟩ := l
  obtain ⟨f, h4, h5, h6, h7⟩ := h2 (by omega)
  have hqa : a ≠ q := fun z => by rw [z, hq] at h1; cases h1
  have hqe : e ≠ q := fun z => by rw [z, hq] at h4; cases h4
  refine pw_go tk_Jx35411_next_0502b rfl rfl ?_
  refine pw_cv tk_Jx35411_next_0502b rfl ca_Jx35411_checkForComodification_da8c8 lk_Jx35411_31 iv_Jx35411_checkForComodification_da8c8 sv_Jx35411_checkForComodification_da8c8 hq rfl rfl (As := []) (rest := [])  (j_cfc l0 hq) rfl rfl rfl (Nat.le_of_ble_eq_true rfl) (Nat.le_of_eq (Nat.zero_add _)) (Nat.le_of_eq (Nat.zero_add _)) ?_ ?_
  · rintro _ h2 ⟨rfl, e2⟩
    rw [e2]
    refine pw_go tk_Jx35411_next_0502b rfl rfl ?_
    refine pw_get tk_Jx35411_next_0502b rfl fl_Jx35411_25 hq rfl ?_
    iterate 3 refine pw_go tk_Jx35411_next_0502b rfl rfl ?_
    refine pw_get tk_Jx35411_next_0502b rfl fl_Jx35411_1 hq rfl ?_
    refine pw_get tk_Jx35411_next_0502b rfl fl_Jx35411_28 h1 rfl ?_
    refine pw_icN (cur) (n) tk_Jx35411_next_0502b rfl rfl rfl (by omega) (by omega) (fun c => ?_) (fun c => ?_)
    · skip
      refine pw_go tk_Jx35411_next_0502b rfl rfl ?_
      refine pw_get tk_Jx35411_next_0502b rfl fl_Jx35411_1 hq rfl ?_
      refine pw_get tk_Jx35411_next_0502b rfl fl_Jx35411_37 h1 rfl ?_
      iterate 3 refine pw_go tk_Jx35411_next_0502b rfl rfl ?_
      refine pw_alen tk_Jx35411_next_0502b rfl h4 (by decide) ?_
      refine pw_icN (cur) (cap) tk_Jx35411_next_0502b rfl rfl rfl (by omega) (by omega) (fun c => ?_) (fun c => ?_)
      · skip
        iterate 3 refine pw_go tk_Jx35411_next_0502b rfl rfl ?_
        refine pw_addN (cur) (1) tk_Jx35411_next_0502b rfl rfl rfl ?_
        refine pw_put tk_Jx35411_next_0502b rfl fp_Jx35411_25 hq rfl rfl (Nat.le_of_ble_eq_true rfl) ?_
        iterate 4 refine pw_go tk_Jx35411_next_0502b rfl rfl ?_
        refine pw_put tk_Jx35411_next_0502b rfl fp_Jx35411_13 fw_up_s rfl rfl (Nat.le_of_ble_eq_true rfl) ?_
        rw [fw_up_2]
        have h8 : fw_up h q (.inr (3, (([.int (nI cur), .int (nP last), .int (nI n), .ref a] : List Value).set 0 (.int (nI (cur + 1)))).set 1 (.int (nI cur)))) e = some (oA cap f) := by
          rw [fw_up_n hqe]
          exact h4
        refine pw_aaldN (k := cur) tk_Jx35411_next_0502b rfl h8 (by decide) rfl rfl (by omega) (by omega) ?_
        refine pw_q (x' := some (F cur)) (h7 cur hcur) ?_
        refine pw_aret (r := some (F cur)) tk_Jx35411_next_0502b rfl rfl (Or.inl ⟨_, rfl⟩) ⟨some (F cur), rfl, rfl, ?_⟩
        show fw_up h q (.inr (3, [.int (nI (cur + 1)), .int (nI cur), .int (nI n), .ref a])) = fw_up h q (.inr (3, [.int (nI (cur + 1)), .int (nP (cur + 1)), .int (nI n), .ref a]))
        rw [nP_p (by omega)]
        rfl
      · have c : ¬ cur < cap := c
        omega
    · have c : ¬ cur < n := c
      omega
  · exact fun _ _ z => z.elim
end LIST
theorem ca_hasN : fw_cal mm_Jx35411_hasNext_aae02 0 := ⟨fw_gw 1601 (by decide +kernel) (by decide +kernel), fw_gw 72 (by decide +kernel) (by decide +kernel), ⟨by decide, by decide, by decide +kernel⟩, rfl, rfl⟩
theorem ca_nextN : fw_cal mm_Jx35411_next_0502b 0 := ⟨fw_gw 1610 (by decide +kernel) (by decide +kernel), fw_gw 72 (by decide +kernel) (by decide +kernel), ⟨by decide, by decide, by decide +kernel⟩, rfl, rfl⟩
section LISTI
variable {G : fw_G} {y : fw_M} {Q : fw_Q} {d d' kc ks : Nat} {h h2 : fw_H} {pc nx a b cnt w : Nat} {v wI : Int32} {L : List (Nat × Value)} {st rest : List Value} {tb : List fw_R} {fs : List Value}
theorem pw_ifh (hT : fw_tok y tb) (hr : fw_at tb pc = some (.invokeinterface 162 cnt, nx, a, v)) (ho : h b = some (.inr (3, fs))) (hM : PM G d' 0 0 mm_Jx35411_hasNext_aae02 [.ref b] h (fw_qp wI h)) (hst : st = .ref b :: rest) (h8 : Nat.ble ((rest.map fun v => v.category).sum) 8 = true) (hd : Nat.blt d' d = true) (hy : y.1.cls = RX17) (k : PW G y Q d kc ks h nx L (.int wI :: rest)) : PW G y Q d kc ks h pc L st :=
  pw_cif (As := []) (rest := rest) (kc' := kc) (ks' := ks) (n := 0) (x := ⟨"java/util/Iterator", "hasNext", "()Z"⟩) hT hr ca_hasN (hy ▸ fw_gw 1593 (by decide +kernel) (by decide +kernel)) (fw_gw 1599 (by decide +kernel) (by decide +kernel)) (fw_gw 1597 (by decide +kernel) (by decide +kernel)) (fw_nw 1595 (by decide +kernel) (by decide +kernel)) (fw_nw 1594 (by decide +kernel) (by decide +kernel)) (fw_nw 1600 (by decide +kernel) (by decide +kernel)) (fw_nw 1598 (by decide +kernel) (by decide +kernel)) (fw_nw 1596 (by decide +kernel) (by decide +kernel)) ⟨by decide, by decide, by decide +kernel⟩ ho rfl hM (fun _ _ z => z) hst rfl h8 (Nat.le_of_ble_eq_true hd) (by omega) (by omega) (fun r h' ⟨x, e1, e2, e3⟩ => by subst e1; subst e2; subst e3; exact k)
theorem pw_ifn (hT : fw_tok y tb) (hr : fw_at tb pc = some (.invokeinterface 167 cnt, nx, a, v)) (ho : h b = some (.inr (3, fs))) (hM : PM G d' 0 0 mm_Jx35411_next_0502b [.ref b] h (fw_qQ (fun x h' => x = some w ∧ h' = h2) fw_noX)) (hst : st = .ref b :: rest) (h8 : Nat.ble ((rest.map fun v => v.category).sum) 8 = true) (hd : Nat.blt d' d = true) (hy : y.1.cls = RX17) (k : PW G y Q d kc ks h2 nx L (.ref w :: rest)) : PW G y Q d kc ks h pc L st :=
  pw_cif (As := []) (rest := rest) (kc' := kc) (ks' := ks) (n := 0) (x := ⟨"java/util/Iterator", "next", "()Ljava/lang/Object;"⟩) hT hr ca_nextN (hy ▸ fw_gw 1603 (by decide +kernel) (by decide +kernel)) (fw_gw 1608 (by decide +kernel) (by decide +kernel)) (fw_gw 1606 (by decide +kernel) (by decide +kernel)) (fw_nw 1605 (by decide +kernel) (by decide +kernel)) (fw_nw 1604 (by decide +kernel) (by decide +kernel)) (fw_nw 1609 (by decide +kernel) (by decide +kernel)) (fw_nw 1607 (by decide +kernel) (by decide +kernel)) (fw_nw 1596 (by decide +kernel) (by decide +kernel)) ⟨by decide, by decide, by decide +kernel⟩ ho rfl hM (fun _ _ z => z) hst rfl h8 (Nat.le_of_ble_eq_true hd) (by omega) (by omega) (fun r h' ⟨x, e1, e2, e3⟩ => by subst e1; subst e2; subst e3; exact k)
end LISTI

