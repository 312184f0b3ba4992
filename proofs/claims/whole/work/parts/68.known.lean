/-! the numbered ones looked up -/
section KNOWN
variable {G : fw_G} {D : fw_DB} {A : fw_AD} {M : fw_MP}
theorem rfs_p {f : Nat → Nat} {n k : Nat} (h : k < n) : rfs n f k = some (f k) := if_pos h
theorem rfs_n {f : Nat → Nat} {n k : Nat} (h : ¬ k < n) : rfs n f k = none := if_neg h
theorem knI_lo {x : Int32} {n : Nat} (h : x < 0) : knI x n = false := by
  unfold knI inI
  rw [decide_eq_false (fun z => (i_nlt.mpr z) h)]
  rfl
theorem knI_hi {k n : Nat} (h : n ≤ k) (hk : k < 1000) (hn : n ≤ 100) : knI (nI k) n = false := by
  cases e : knI (nI k) n with
  | false => rfl
  | true =>
    obtain ⟨j, hj, ej⟩ := knI_to e (by omega)
    have := nI_inj (by omega) (by omega) ej
    omega
theorem knI_big {x : Int32} {m n : Nat} (h : ¬ x < nI m) (hn : n ≤ m) (hm : m ≤ 100) : knI x n = false := by
  cases e : knI x n with
  | false => rfl
  | true =>
    obtain ⟨j, hj, ej⟩ := knI_to e (by omega)
    subst ej
    refine absurd ?_ h
    rw [Int32.lt_iff_toInt_lt, nI_toInt (by omega), nI_toInt (by omega)]
    omega
theorem q_person {x : Int32} (hl : G.1.stackTraces = false) (g : gd D A M) (m : mI D) : PM G 0 1 6 mm_X10_knownPerson [.ref (A 0 0), .int x] (hp M A D) (fw_qQ (fun r h' => h' = hp M A D ∧ ∃ k, k < D 99 0 8 ∧ x = nI k ∧ r = some (A 8 k)) (fun E h' => (E = eIO ∧ h' = hp M A D) ∧ knI x (D 99 0 8) = false)) := by
  refine pm_of (by decide +kernel) rfl rfl rfl ?_
  obtain ⟨⟨m0, m1, m2, m3, m4, m5, m6⟩, ⟨m7, m8, m9, m10⟩, -, n7, n8, n13, n16, n17⟩ := m
  have L0 := g.1.lv (k := 0) (i := 0) (by omega)
  have La := g.1.lv (k := 2) (i := 0) (by omega)
  have k22 : knI x (D 99 0 8) = false → PW G mm_X10_knownPerson (fw_qQ (fun r h' => h' = hp M A D ∧ ∃ k, k < D 99 0 8 ∧ x = nI k ∧ r = some (A 8 k)) (fun E h' => (E = eIO ∧ h' = hp M A D) ∧ knI x (D 99 0 8) = false)) 0 1 6 (hp M A D) 22 [(0, .ref (A 0 0)), (1, .int x)] [] := by
    intro e
    iterate 3 refine pw_go tk_X10_knownPerson rfl rfl ?_
    refine pw_go tk_X10_knownPerson rfl rfl ?_
    exact pw_throwW hl rfl th_335_333 tk_X10_knownPerson rfl rfl rfl rfl rfl rfl ⟨⟨rfl, rfl⟩, e⟩
  refine pw_go tk_X10_knownPerson rfl rfl ?_
  refine pw_br tk_X10_knownPerson rfl rfl (fun c => k22 (knI_lo c)) (fun c => ?_)
  iterate 2 refine pw_go tk_X10_knownPerson rfl rfl ?_
  refine pw_get tk_X10_knownPerson rfl fl_X10_17 (hget L0) rfl ?_
  refine pw_alen tk_X10_knownPerson rfl (hget La) (by decide) ?_
  refine pw_br tk_X10_knownPerson rfl rfl (fun c2 => k22 ?_) (fun c2 => ?_)
  · have c2 : ¬ x < nI 6 := i_nlt.mpr c2
    exact knI_big c2 (by omega) (by omega)
  have c : ¬ x < 0 := c
  have c2 : ¬ nI 6 ≤ x := c2
  have e0 : inI x 0 (nI (6 - 1)) = true := by
    refine inI_iff.mpr ⟨i_nlt.mp c, ?_⟩
    have := i_nle c2
    rw [Int32.lt_iff_toInt_lt, nI_toInt (by omega)] at this
    rw [Int32.le_iff_toInt_le, nI_toInt (by omega)]
    omega
  obtain ⟨k, e, -, hk⟩ := inI_N (a := 0) e0 (by omega) (by omega)
  subst e
  refine pw_go tk_X10_knownPerson rfl rfl ?_
  refine pw_get tk_X10_knownPerson rfl fl_X10_17 (hget L0) rfl ?_
  refine pw_go tk_X10_knownPerson rfl rfl ?_
  refine pw_aaldN tk_X10_knownPerson rfl (hget La) (by decide) rfl rfl (by omega) (by omega) ?_
  refine pw_go tk_X10_knownPerson rfl rfl ?_
  refine pw_astoreq tk_X10_knownPerson rfl rfl rfl ?_
  refine pw_aloadq tk_X10_knownPerson rfl rfl rfl ?_
  by_cases hc : k < D 99 0 8
  · refine pw_q (rfs_p (by omega : k < D 2 0 0)) ?_
    refine pw_go tk_X10_knownPerson rfl rfl ?_
    refine pw_aloadq tk_X10_knownPerson rfl rfl rfl ?_
    exact pw_aret tk_X10_knownPerson rfl rfl (Or.inl ⟨_, rfl⟩) ⟨_, rfl, rfl, k, hc, rfl, rfs_p (by omega : k < D 2 0 0)⟩
  · refine pw_q (rfs_n (by omega : ¬ k < D 2 0 0)) ?_
    refine pw_go tk_X10_knownPerson rfl rfl ?_
    exact pw_throwW hl rfl th_335_333 tk_X10_knownPerson rfl rfl rfl rfl rfl rfl ⟨⟨rfl, rfl⟩, knI_hi (by omega) (by omega) (by omega)⟩
theorem q_warrant {x : Int32} (hl : G.1.stackTraces = false) (g : gd D A M) (m : mI D) : PM G 0 1 6 mm_X10_knownWarrant [.ref (A 0 0), .int x] (hp M A D) (fw_qQ (fun r h' => h' = hp M A D ∧ ∃ k, k < D 99 0 13 ∧ x = nI k ∧ r = some (A 13 k)) (fun E h' => (E = eIO ∧ h' = hp M A D) ∧ knI x (D 99 0 13) = false)) := by
  refine pm_of (by decide +kernel) rfl rfl rfl ?_
  obtain ⟨⟨m0, m1, m2, m3, m4, m5, m6⟩, ⟨m7, m8, m9, m10⟩, -, n7, n8, n13, n16, n17⟩ := m
  have L0 := g.1.lv (k := 0) (i := 0) (by omega)
  have La := g.1.lv (k := 3) (i := 0) (by omega)
  have k22 : knI x (D 99 0 13) = false → PW G mm_X10_knownWarrant (fw_qQ (fun r h' => h' = hp M A D ∧ ∃ k, k < D 99 0 13 ∧ x = nI k ∧ r = some (A 13 k)) (fun E h' => (E = eIO ∧ h' = hp M A D) ∧ knI x (D 99 0 13) = false)) 0 1 6 (hp M A D) 22 [(0, .ref (A 0 0)), (1, .int x)] [] := by
    intro e
    iterate 3 refine pw_go tk_X10_knownWarrant rfl rfl ?_
    refine pw_go tk_X10_knownWarrant rfl rfl ?_
    exact pw_throwW hl rfl th_335_336 tk_X10_knownWarrant rfl rfl rfl rfl rfl rfl ⟨⟨rfl, rfl⟩, e⟩
  refine pw_go tk_X10_knownWarrant rfl rfl ?_
  refine pw_br tk_X10_knownWarrant rfl rfl (fun c => k22 (knI_lo c)) (fun c => ?_)
  iterate 2 refine pw_go tk_X10_knownWarrant rfl rfl ?_
  refine pw_get tk_X10_knownWarrant rfl fl_X10_23 (hget L0) rfl ?_
  refine pw_alen tk_X10_knownWarrant rfl (hget La) (by decide) ?_
  refine pw_br tk_X10_knownWarrant rfl rfl (fun c2 => k22 ?_) (fun c2 => ?_)
  · have c2 : ¬ x < nI 24 := i_nlt.mpr c2
    exact knI_big c2 (by omega) (by omega)
  have c : ¬ x < 0 := c
  have c2 : ¬ nI 24 ≤ x := c2
  have e0 : inI x 0 (nI (24 - 1)) = true := by
    refine inI_iff.mpr ⟨i_nlt.mp c, ?_⟩
    have := i_nle c2
    rw [Int32.lt_iff_toInt_lt, nI_toInt (by omega)] at this
    rw [Int32.le_iff_toInt_le, nI_toInt (by omega)]
    omega
  obtain ⟨k, e, -, hk⟩ := inI_N (a := 0) e0 (by omega) (by omega)
  subst e
  refine pw_go tk_X10_knownWarrant rfl rfl ?_
  refine pw_get tk_X10_knownWarrant rfl fl_X10_23 (hget L0) rfl ?_
  refine pw_go tk_X10_knownWarrant rfl rfl ?_
  refine pw_aaldN tk_X10_knownWarrant rfl (hget La) (by decide) rfl rfl (by omega) (by omega) ?_
  refine pw_go tk_X10_knownWarrant rfl rfl ?_
  refine pw_astoreq tk_X10_knownWarrant rfl rfl rfl ?_
  refine pw_aloadq tk_X10_knownWarrant rfl rfl rfl ?_
  by_cases hc : k < D 99 0 13
  · refine pw_q (rfs_p (by omega : k < D 3 0 0)) ?_
    refine pw_go tk_X10_knownWarrant rfl rfl ?_
    refine pw_aloadq tk_X10_knownWarrant rfl rfl rfl ?_
    exact pw_aret tk_X10_knownWarrant rfl rfl (Or.inl ⟨_, rfl⟩) ⟨_, rfl, rfl, k, hc, rfl, rfs_p (by omega : k < D 3 0 0)⟩
  · refine pw_q (rfs_n (by omega : ¬ k < D 3 0 0)) ?_
    refine pw_go tk_X10_knownWarrant rfl rfl ?_
    exact pw_throwW hl rfl th_335_336 tk_X10_knownWarrant rfl rfl rfl rfl rfl rfl ⟨⟨rfl, rfl⟩, knI_hi (by omega) (by omega) (by omega)⟩
theorem q_added {x : Int32} (hl : G.1.stackTraces = false) (g : gd D A M) (m : mI D) : PM G 0 1 6 mm_X10_knownAdded [.ref (A 0 0), .int x] (hp M A D) (fw_qQ (fun r h' => h' = hp M A D ∧ ∃ k, k < D 99 0 16 ∧ x = nI k ∧ r = some (A 16 k)) (fun E h' => (E = eIO ∧ h' = hp M A D) ∧ knI x (D 99 0 16) = false)) := by
  refine pm_of (by decide +kernel) rfl rfl rfl ?_
  obtain ⟨⟨m0, m1, m2, m3, m4, m5, m6⟩, ⟨m7, m8, m9, m10⟩, -, n7, n8, n13, n16, n17⟩ := m
  have L0 := g.1.lv (k := 0) (i := 0) (by omega)
  have La := g.1.lv (k := 4) (i := 0) (by omega)
  have k22 : knI x (D 99 0 16) = false → PW G mm_X10_knownAdded (fw_qQ (fun r h' => h' = hp M A D ∧ ∃ k, k < D 99 0 16 ∧ x = nI k ∧ r = some (A 16 k)) (fun E h' => (E = eIO ∧ h' = hp M A D) ∧ knI x (D 99 0 16) = false)) 0 1 6 (hp M A D) 22 [(0, .ref (A 0 0)), (1, .int x)] [] := by
    intro e
    iterate 3 refine pw_go tk_X10_knownAdded rfl rfl ?_
    refine pw_go tk_X10_knownAdded rfl rfl ?_
    exact pw_throwW hl rfl th_335_338 tk_X10_knownAdded rfl rfl rfl rfl rfl rfl ⟨⟨rfl, rfl⟩, e⟩
  refine pw_go tk_X10_knownAdded rfl rfl ?_
  refine pw_br tk_X10_knownAdded rfl rfl (fun c => k22 (knI_lo c)) (fun c => ?_)
  iterate 2 refine pw_go tk_X10_knownAdded rfl rfl ?_
  refine pw_get tk_X10_knownAdded rfl fl_X10_29 (hget L0) rfl ?_
  refine pw_alen tk_X10_knownAdded rfl (hget La) (by decide) ?_
  refine pw_br tk_X10_knownAdded rfl rfl (fun c2 => k22 ?_) (fun c2 => ?_)
  · have c2 : ¬ x < nI 30 := i_nlt.mpr c2
    exact knI_big c2 (by omega) (by omega)
  have c : ¬ x < 0 := c
  have c2 : ¬ nI 30 ≤ x := c2
  have e0 : inI x 0 (nI (30 - 1)) = true := by
    refine inI_iff.mpr ⟨i_nlt.mp c, ?_⟩
    have := i_nle c2
    rw [Int32.lt_iff_toInt_lt, nI_toInt (by omega)] at this
    rw [Int32.le_iff_toInt_le, nI_toInt (by omega)]
    omega
  obtain ⟨k, e, -, hk⟩ := inI_N (a := 0) e0 (by omega) (by omega)
  subst e
  refine pw_go tk_X10_knownAdded rfl rfl ?_
  refine pw_get tk_X10_knownAdded rfl fl_X10_29 (hget L0) rfl ?_
  refine pw_go tk_X10_knownAdded rfl rfl ?_
  refine pw_aaldN tk_X10_knownAdded rfl (hget La) (by decide) rfl rfl (by omega) (by omega) ?_
  refine pw_go tk_X10_knownAdded rfl rfl ?_
  refine pw_astoreq tk_X10_knownAdded rfl rfl rfl ?_
  refine pw_aloadq tk_X10_knownAdded rfl rfl rfl ?_
  by_cases hc : k < D 99 0 16
  · refine pw_q (rfs_p (by omega : k < D 4 0 0)) ?_
    refine pw_go tk_X10_knownAdded rfl rfl ?_
    refine pw_aloadq tk_X10_knownAdded rfl rfl rfl ?_
    exact pw_aret tk_X10_knownAdded rfl rfl (Or.inl ⟨_, rfl⟩) ⟨_, rfl, rfl, k, hc, rfl, rfs_p (by omega : k < D 4 0 0)⟩
  · refine pw_q (rfs_n (by omega : ¬ k < D 4 0 0)) ?_
    refine pw_go tk_X10_knownAdded rfl rfl ?_
    exact pw_throwW hl rfl th_335_338 tk_X10_knownAdded rfl rfl rfl rfl rfl rfl ⟨⟨rfl, rfl⟩, knI_hi (by omega) (by omega) (by omega)⟩
end KNOWN

