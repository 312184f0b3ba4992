/-! what the face tests ahead of its work -/
abbrev eIA : String := "java/lang/IllegalArgumentException"
abbrev eIS : String := "java/lang/IllegalStateException"
abbrev eIO : String := "java/lang/IndexOutOfBoundsException"
abbrev eUO : String := "java/lang/UnsupportedOperationException"
abbrev eNS : String := "java/util/NoSuchElementException"
abbrev eAR : String := "java/lang/ArithmeticException"
theorem nI_inj {a b : Nat} (ha : a < 2147483648) (hb : b < 2147483648) (h : nI a = nI b) : a = b := by
  have := congrArg Int32.toInt h
  rw [nI_toInt ha, nI_toInt hb] at this
  omega
theorem i_nle {a b : Int32} (h : ¬ a ≤ b) : b < a := by
  rw [Int32.le_iff_toInt_le] at h
  rw [Int32.lt_iff_toInt_lt]
  omega
theorem i_toN {x : Int32} {m : Nat} (h0 : 0 ≤ x) (h1 : x ≤ nI m) (hm : m < 2147483648) : ∃ n, x = nI n ∧ n ≤ m := by
  have e0 : (0 : Int) ≤ x.toInt := by
    have := Int32.le_iff_toInt_le.mp h0
    simpa using this
  refine ⟨x.toInt.toNat, ?_, ?_⟩
  · apply Int32.toInt_inj.mp
    have hl := x.toInt_lt
    rw [nI_toInt (by omega)]
    omega
  · have := Int32.le_iff_toInt_le.mp h1
    rw [nI_toInt hm] at this
    omega
theorem inI_N {x : Int32} {a m : Nat} (h : inI x (nI a) (nI m) = true) (hm : m < 2147483648) (ha : a < 2147483648) : ∃ n, x = nI n ∧ a ≤ n ∧ n ≤ m := by
  obtain ⟨h1, h2⟩ := inI_iff.mp h
  have h0 : (0 : Int32) ≤ x := by
    have := Int32.le_iff_toInt_le.mp h1
    rw [nI_toInt ha] at this
    rw [Int32.le_iff_toInt_le]
    show (0 : Int) ≤ _
    omega
  obtain ⟨n, e, hn⟩ := i_toN h0 h2 hm
  refine ⟨n, e, ?_, hn⟩
  subst e
  have := Int32.le_iff_toInt_le.mp h1
  rw [nI_toInt ha, nI_toInt (by omega)] at this
  omega
theorem inI_nN {n a m : Nat} (hm : m < 2147483648) (ha : a < 2147483648) (hn : n < 2147483648) : inI (nI n) (nI a) (nI m) = (decide (a ≤ n) && decide (n ≤ m)) := by
  unfold inI
  congr 1
  · rw [decide_eq_decide, Int32.le_iff_toInt_le, nI_toInt ha, nI_toInt hn]
    omega
  · rw [decide_eq_decide, Int32.le_iff_toInt_le, nI_toInt hm, nI_toInt hn]
    omega
section REQ
variable {G : fw_G} {h : fw_H}
theorem q_range {x a b : Int32} (hl : G.1.stackTraces = false) : PM G 0 1 6 mm_X10_requireRange [.int x, .int a, .int b] h (fw_qV (fun h' => h' = h ∧ inI x a b = true) (fun E h' => (E = eIA ∧ h' = h) ∧ inI x a b = false)) := by
  refine pm_of (by decide +kernel) rfl rfl rfl ?_
  have k10 : inI x a b = false → PW G mm_X10_requireRange (fw_qV (fun h' => h' = h ∧ inI x a b = true) (fun E h' => (E = eIA ∧ h' = h) ∧ inI x a b = false)) 0 1 6 h 10 [(0, .int x), (1, .int a), (2, .int b)] [] := by
    intro e
    exact pw_throwW hl rfl th_46_342 tk_X10_requireRange rfl rfl rfl rfl rfl rfl ⟨⟨rfl, rfl⟩, e⟩
  iterate 2 refine pw_go tk_X10_requireRange rfl rfl ?_
  refine pw_br tk_X10_requireRange rfl rfl (fun c => k10 ?_) (fun c => ?_)
  · unfold inI
    have c : x < a := c
    have : ¬ a ≤ x := fun z => (i_nlt.mpr z) c
    simp [this]
  iterate 2 refine pw_go tk_X10_requireRange rfl rfl ?_
  refine pw_br tk_X10_requireRange rfl rfl (fun c2 => ?_) (fun c2 => k10 ?_)
  · skip
    have c2 : x ≤ b := c2
    exact pw_vret tk_X10_requireRange rfl rfl ⟨rfl, rfl, inI_iff.mpr ⟨i_nlt.mp c, c2⟩⟩
  · unfold inI
    have c2 : ¬ x ≤ b := c2
    simp [c2]
theorem q_day {x : Int32} (hl : G.1.stackTraces = false) : PM G 1 1 6 mm_X10_requireDay [.int x] h (fw_qV (fun h' => h' = h ∧ inI x 0 (nI 19999) = true) (fun E h' => (E = eIA ∧ h' = h) ∧ inI x 0 (nI 19999) = false)) := by
  refine pm_of (by decide +kernel) rfl rfl rfl ?_
  iterate 3 refine pw_go tk_X10_requireDay rfl rfl ?_
  refine pw_cs tk_X10_requireDay rfl ca_X10_requireRange lk_X10_84 sx_X10_requireRange (As := [.int x, .int 0, .int (nI 19999)]) (rest := []) (kc' := 0) (ks' := 0) (q_range hl) rfl rfl rfl (Nat.le_of_ble_eq_true rfl) (Nat.le_refl _) (Nat.le_refl _) ?_ ?_
  · rintro _ _ ⟨rfl, rfl, e⟩
    exact pw_vret tk_X10_requireDay rfl rfl ⟨rfl, rfl, e⟩
  · rintro E _ ⟨⟨rfl, rfl⟩, e⟩
    exact px_out rfl ⟨⟨rfl, rfl⟩, e⟩
def spI (a b : Int32) : Bool := inI a 0 (nI 19999) && inI b (a + 1) (nI 20000)
theorem q_span {a b : Int32} (hl : G.1.stackTraces = false) : PM G 2 2 12 mm_X10_requireSpan [.int a, .int b] h (fw_qV (fun h' => h' = h ∧ spI a b = true) (fun E h' => (E = eIA ∧ h' = h) ∧ spI a b = false)) := by
  refine pm_of (by decide +kernel) rfl rfl rfl ?_
  refine pw_go tk_X10_requireSpan rfl rfl ?_
  refine pw_cs tk_X10_requireSpan rfl ca_X10_requireDay lk_X10_63 sx_X10_requireDay (As := [.int a]) (rest := []) (kc' := 1) (ks' := 6) (q_day hl) rfl rfl rfl (Nat.le_of_ble_eq_true rfl) (Nat.le_refl _) (Nat.le_refl _) ?_ ?_
  · rintro _ _ ⟨rfl, rfl, e⟩
    iterate 5 refine pw_go tk_X10_requireSpan rfl rfl ?_
    refine pw_cs tk_X10_requireSpan rfl ca_X10_requireRange lk_X10_84 sx_X10_requireRange (As := [.int b, .int (a + 1), .int (nI 20000)]) (rest := []) (kc' := 0) (ks' := 0) (q_range hl) rfl rfl rfl (Nat.le_of_ble_eq_true rfl) (Nat.le_refl _) (Nat.le_refl _) ?_ ?_
    · rintro _ _ ⟨rfl, rfl, e2⟩
      exact pw_vret tk_X10_requireSpan rfl rfl ⟨rfl, rfl, by unfold spI; rw [e, e2]; rfl⟩
    · rintro E _ ⟨⟨rfl, rfl⟩, e2⟩
      exact px_out rfl ⟨⟨rfl, rfl⟩, by unfold spI; rw [e2, Bool.and_false]⟩
  · rintro E _ ⟨⟨rfl, rfl⟩, e⟩
    exact px_out rfl ⟨⟨rfl, rfl⟩, by unfold spI; rw [e]; rfl⟩
def tmI (y m n : Int32) : Bool := inI y 0 (nI 40) && inI m 0 (nI 11) && inI n 0 (nI 9999)
theorem q_term {a b c : Int32} (hl : G.1.stackTraces = false) : PM G 1 3 18 mm_X10_requireTerm [.int a, .int b, .int c] h (fw_qV (fun h' => h' = h ∧ tmI a b c = true) (fun E h' => (E = eIA ∧ h' = h) ∧ tmI a b c = false)) := by
  refine pm_of (by decide +kernel) rfl rfl rfl ?_
  iterate 3 refine pw_go tk_X10_requireTerm rfl rfl ?_
  refine pw_cs tk_X10_requireTerm rfl ca_X10_requireRange lk_X10_84 sx_X10_requireRange (As := [.int a, .int 0, .int (nI 40)]) (rest := []) (kc' := 2) (ks' := 12) (q_range hl) rfl rfl rfl (Nat.le_of_ble_eq_true rfl) (Nat.le_refl _) (Nat.le_refl _) ?_ ?_
  · rintro _ _ ⟨rfl, rfl, e⟩
    iterate 3 refine pw_go tk_X10_requireTerm rfl rfl ?_
    refine pw_cs tk_X10_requireTerm rfl ca_X10_requireRange lk_X10_84 sx_X10_requireRange (As := [.int b, .int 0, .int (nI 11)]) (rest := []) (kc' := 1) (ks' := 6) (q_range hl) rfl rfl rfl (Nat.le_of_ble_eq_true rfl) (Nat.le_refl _) (Nat.le_refl _) ?_ ?_
    · rintro _ _ ⟨rfl, rfl, e2⟩
      iterate 3 refine pw_go tk_X10_requireTerm rfl rfl ?_
      refine pw_cs tk_X10_requireTerm rfl ca_X10_requireRange lk_X10_84 sx_X10_requireRange (As := [.int c, .int 0, .int (nI 9999)]) (rest := []) (kc' := 0) (ks' := 0) (q_range hl) rfl rfl rfl (Nat.le_of_ble_eq_true rfl) (Nat.le_refl _) (Nat.le_refl _) ?_ ?_
      · rintro _ _ ⟨rfl, rfl, e3⟩
        exact pw_vret tk_X10_requireTerm rfl rfl ⟨rfl, rfl, by unfold tmI; rw [e, e2, e3]; rfl⟩
      · rintro E _ ⟨⟨rfl, rfl⟩, e3⟩
        exact px_out rfl ⟨⟨rfl, rfl⟩, by unfold tmI; rw [e3, Bool.and_false]⟩
    · rintro E _ ⟨⟨rfl, rfl⟩, e2⟩
      exact px_out rfl ⟨⟨rfl, rfl⟩, by unfold tmI; rw [e2, Bool.and_false, Bool.false_and]⟩
  · rintro E _ ⟨⟨rfl, rfl⟩, e⟩
    exact px_out rfl ⟨⟨rfl, rfl⟩, by unfold tmI; rw [e, Bool.false_and, Bool.false_and]⟩
def smI (y m n : Int32) : Bool := tmI y m n && !(decide (y = 0) && decide (m = 0) && decide (n = 0))
theorem q_some {a b c : Int32} (hl : G.1.stackTraces = false) : PM G 2 4 24 mm_X10_requireSomeTerm [.int a, .int b, .int c] h (fw_qV (fun h' => h' = h ∧ smI a b c = true) (fun E h' => (E = eIA ∧ h' = h) ∧ smI a b c = false)) := by
  refine pm_of (by decide +kernel) rfl rfl rfl ?_
  iterate 3 refine pw_go tk_X10_requireSomeTerm rfl rfl ?_
  refine pw_cs tk_X10_requireSomeTerm rfl ca_X10_requireTerm lk_X10_71 sx_X10_requireTerm (As := [.int a, .int b, .int c]) (rest := []) (kc' := 1) (ks' := 6) (q_term hl) rfl rfl rfl (Nat.le_of_ble_eq_true rfl) (Nat.le_refl _) (Nat.le_refl _) ?_ ?_
  · rintro _ h2 ⟨rfl, e2, e⟩
    rw [e2]
    have k29 : ¬ (a = 0 ∧ b = 0 ∧ c = 0) → PW G mm_X10_requireSomeTerm (fw_qV (fun h' => h' = h ∧ smI a b c = true) (fun E h' => (E = eIA ∧ h' = h) ∧ smI a b c = false)) 2 1 6 h 29 [(0, .int a), (1, .int b), (2, .int c)] [] := by
      intro z
      exact pw_vret tk_X10_requireSomeTerm rfl rfl ⟨rfl, rfl, by unfold smI; rw [e]; simp only [Bool.true_and, Bool.not_eq_true', Bool.and_eq_false_imp, Bool.and_eq_true, decide_eq_true_eq, decide_eq_false_iff_not]; exact fun z1 z2 => z ⟨z1.1, z1.2, z2⟩⟩
    refine pw_go tk_X10_requireSomeTerm rfl rfl ?_
    refine pw_br tk_X10_requireSomeTerm rfl rfl (fun c1 => k29 (fun z => c1 z.1)) (fun c1 => ?_)
    refine pw_go tk_X10_requireSomeTerm rfl rfl ?_
    refine pw_br tk_X10_requireSomeTerm rfl rfl (fun c2 => k29 (fun z => c2 z.2.1)) (fun c2 => ?_)
    refine pw_go tk_X10_requireSomeTerm rfl rfl ?_
    refine pw_br tk_X10_requireSomeTerm rfl rfl (fun c3 => k29 (fun z => c3 z.2.2)) (fun c3 => ?_)
    have c1 : ¬ ¬ a = 0 := c1
    have c2 : ¬ ¬ b = 0 := c2
    have c3 : ¬ ¬ c = 0 := c3
    exact pw_throwW hl rfl th_46_344 tk_X10_requireSomeTerm rfl rfl rfl rfl rfl rfl ⟨⟨rfl, rfl⟩, by unfold smI; rw [Decidable.not_not.mp c1, Decidable.not_not.mp c2, Decidable.not_not.mp c3]; simp⟩
  · rintro E _ ⟨⟨rfl, rfl⟩, e⟩
    exact px_out rfl ⟨⟨rfl, rfl⟩, by unfold smI; rw [e, Bool.false_and]⟩
def kdI (k : Int32) : Bool := decide (k = nI 102) || decide (k = nI 108) || decide (k = nI 100) || decide (k = nI 115)
theorem q_kind {k : Int32} (hl : G.1.stackTraces = false) : PM G 0 1 6 mm_X10_requireKind [.int k] h (fw_qV (fun h' => h' = h ∧ kdI k = true) (fun E h' => (E = eIA ∧ h' = h) ∧ kdI k = false)) := by
  refine pm_of (by decide +kernel) rfl rfl rfl ?_
  have k35 : kdI k = true → PW G mm_X10_requireKind (fw_qV (fun h' => h' = h ∧ kdI k = true) (fun E h' => (E = eIA ∧ h' = h) ∧ kdI k = false)) 0 1 6 h 35 [(0, .int k)] [] := by
    intro z
    exact pw_vret tk_X10_requireKind rfl rfl ⟨rfl, rfl, z⟩
  iterate 2 refine pw_go tk_X10_requireKind rfl rfl ?_
  refine pw_br tk_X10_requireKind rfl rfl (fun c1 => k35 ?_) (fun c1 => ?_)
  · have c1 : k = nI 102 := c1
    subst c1
    rfl
  iterate 2 refine pw_go tk_X10_requireKind rfl rfl ?_
  refine pw_br tk_X10_requireKind rfl rfl (fun c2 => k35 ?_) (fun c2 => ?_)
  · have c2 : k = nI 108 := c2
    subst c2
    rfl
  iterate 2 refine pw_go tk_X10_requireKind rfl rfl ?_
  refine pw_br tk_X10_requireKind rfl rfl (fun c3 => k35 ?_) (fun c3 => ?_)
  · have c3 : k = nI 100 := c3
    subst c3
    rfl
  iterate 2 refine pw_go tk_X10_requireKind rfl rfl ?_
  refine pw_br tk_X10_requireKind rfl rfl (fun c4 => k35 ?_) (fun c4 => ?_)
  · have c4 : k = nI 115 := c4
    subst c4
    rfl
  have c1 : ¬ k = nI 102 := c1
  have c2 : ¬ k = nI 108 := c2
  have c3 : ¬ k = nI 100 := c3
  have c4 : ¬ k = nI 115 := c4
  exact pw_throwW hl rfl th_46_346 tk_X10_requireKind rfl rfl rfl rfl rfl rfl ⟨⟨rfl, rfl⟩, by unfold kdI; rw [decide_eq_false c1, decide_eq_false c2, decide_eq_false c3, decide_eq_false c4]; rfl⟩
/-- a number of one of n -/
def knI (x : Int32) (n : Nat) : Bool := inI x 0 (nI n - 1)
theorem knI_of {k n : Nat} (h : k < n) (hn : n ≤ 100) : knI (nI k) n = true := by
  unfold knI
  rw [show (1 : Int32) = nI 1 from rfl, pk_sub (by omega : 1 ≤ n)]
  show inI (nI k) (nI 0) (nI (n - 1)) = true
  rw [inI_nN (by omega) (by omega) (by omega)]
  simp
  omega
theorem knI_to {x : Int32} {n : Nat} (h : knI x n = true) (hn : n ≤ 100) : ∃ k, k < n ∧ x = nI k := by
  unfold knI at h
  by_cases c : n = 0
  · subst c
    obtain ⟨h1, h2⟩ := inI_iff.mp h
    have h1 := Int32.le_iff_toInt_le.mp h1
    have h2 := Int32.le_iff_toInt_le.mp h2
    have e0 : (0 : Int32).toInt = 0 := by decide
    have e1 : (nI 0 - 1 : Int32).toInt = -1 := by decide
    rw [e0] at h1
    rw [e1] at h2
    omega
  · rw [show (1 : Int32) = nI 1 from rfl, pk_sub (by omega : 1 ≤ n)] at h
    obtain ⟨k, e, -, hk⟩ := inI_N (a := 0) h (by omega) (by omega)
    exact ⟨k, by omega, e⟩
/-- the main object's numbers -/
def mI (D : fw_DB) : Prop := (D 99 0 0 = 1 ∧ D 99 0 1 = 1 ∧ D 99 0 2 = 1 ∧ D 99 0 3 = 1 ∧ D 99 0 4 = 1 ∧ D 99 0 5 = 1 ∧ D 99 0 6 = 1) ∧ (D 1 0 0 = D 99 0 7 ∧ D 2 0 0 = D 99 0 8 ∧ D 3 0 0 = D 99 0 13 ∧ D 4 0 0 = D 99 0 16) ∧ (D 0 0 5 = D 99 0 7 ∧ D 0 0 6 = D 99 0 8 ∧ D 0 0 7 = D 99 0 13 ∧ D 0 0 8 = D 99 0 16 ∧ D 0 0 9 = D 99 0 17) ∧ D 99 0 7 ≤ 8 ∧ D 99 0 8 ≤ 6 ∧ D 99 0 13 ≤ 24 ∧ D 99 0 16 ≤ 30 ∧ D 99 0 17 ≤ 20
end REQ

