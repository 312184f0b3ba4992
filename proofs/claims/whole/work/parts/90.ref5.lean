/-! REFERENCE: recalls that go on, states of days -/
theorem icr {n : Nat} {S : fw_DB} {r : Nat} (h : ICd n S) (hr : r < S 99 0 17) : S 17 r 1 < 20000 ∧ S 17 r 3 ≤ S 99 0 13 ∧ S 17 r 1 ≤ S 17 r 4 ∧ (S 17 r 4 < 20000 ∨ S 17 r 4 = 1000000) ∧ S 17 r 0 < S 99 0 8 := by
  have x := h.2.2.2.2.2.2.2.2 r hr
  exact ⟨(h.1.2.1 r hr).1, x.2.2.1, x.1, x.2.1, x.2.2.2⟩
theorem tw_any {P : Nat → Bool} {m : Nat} : ∀ {l : List Nat}, List.Pairwise (fun a b => a < b) l → (l.takeWhile (fun w => decide (w < m))).any P = l.any (fun w => decide (w < m) && P w)
  | [], _ => rfl
  | w :: l, h => by
    obtain ⟨h1, h2⟩ := List.pairwise_cons.mp h
    by_cases c : w < m
    · rw [List.takeWhile_cons_of_pos (by simpa using c), List.any_cons, List.any_cons, tw_any h2, decide_eq_true c, Bool.true_and]
    · rw [List.takeWhile_cons_of_neg (by simpa using c), List.any_cons, decide_eq_false c, Bool.false_and, Bool.false_or]
      show false = _
      symm
      rw [List.any_eq_false]
      intro x hx
      rw [decide_eq_false (fun z => c (by have := h1 x hx; omega))]
      simp
theorem lic_is {S : fw_DB} {p d m : Nat} (hm : m ≤ S 99 0 13) : lcF (FD S) m (wlS S p) d = licK S p d m := by
  unfold lcF
  rw [tw_any wlS_pw]
  unfold licK wlS
  rw [any_f]
  apply Bool.eq_iff_iff.mpr
  rw [anyK_t, List.any_eq_true]
  constructor
  · rintro ⟨w, h1, h2⟩
    simp only [Bool.and_eq_true, decide_eq_true_eq] at h2
    exact ⟨w, h2.2.1, by simp only [Bool.and_eq_true, decide_eq_true_eq]; exact ⟨h2.1, h2.2.2⟩⟩
  · rintro ⟨w, h1, h2⟩
    simp only [Bool.and_eq_true, decide_eq_true_eq] at h2
    exact ⟨w, List.mem_range.mpr (by omega), by simp only [Bool.and_eq_true, decide_eq_true_eq]; exact ⟨h2.1, h1, h2.2⟩⟩
/-- a recall goes on -/
def gO (S : fw_DB) (r d : Nat) : Bool := decide (S 17 r 1 ≤ d) && decide (d < FD S 17 r 5)
theorem go_on {n : Nat} {S : fw_DB} {r d : Nat} (h : ICd n S) (hr : r < S 99 0 17) (h1 : S 17 r 1 ≤ d) (h2 : d ≤ FD S 17 r 5) (hd : d < 20000) : d < FD S 17 r 5 ↔ (d < S 17 r 4 ∧ (0 < S 17 r 2 → cu (fun d => !sB (S 10 (S 17 r 0)) d) d - cu (fun d => !sB (S 10 (S 17 r 0)) d) (S 17 r 1) < 28) ∧ licK S (S 17 r 0) d (S 17 r 3) = true) := by
  have := fxR_on (FD_fxR (okd h) hr) (d := d) (by rw [f17 (by decide)]; exact h1) h2 hd
  rw [this, f17 (by decide), f17 (by decide), f17 (by decide), f17 (by decide), f10, lic_is (icr h hr).2.1]
theorem go_ge {n : Nat} {S : fw_DB} {r : Nat} (h : ICd n S) (hr : r < S 99 0 17) : S 17 r 1 ≤ FD S 17 r 5 := by
  have := fxR_ge (FD_fxR (okd h) hr)
  rw [f17 (by decide)] at this
  exact this
/-- all days from its first one on keep it going -/
theorem go_all {n : Nat} {S : fw_DB} {r d : Nat} (h : ICd n S) (hr : r < S 99 0 17) (h1 : S 17 r 1 ≤ d) (hd : d < 20000) : d < FD S 17 r 5 ↔ (d < S 17 r 4 ∧ (0 < S 17 r 2 → cu (fun d => !sB (S 10 (S 17 r 0)) d) d - cu (fun d => !sB (S 10 (S 17 r 0)) d) (S 17 r 1) < 28) ∧ ∀ x, S 17 r 1 ≤ x → x ≤ d → licK S (S 17 r 0) x (S 17 r 3) = true) := by
  constructor
  · intro z
    have y := (go_on h hr h1 (by omega) hd).mp z
    exact ⟨y.1, y.2.1, fun x a b => ((go_on h hr a (by omega) (by omega)).mp (by omega)).2.2⟩
  · rintro ⟨a, b, c⟩
    refine Decidable.by_contra (fun z => ?_)
    have g := go_ge h hr
    have := (go_on h hr g (Nat.le_refl _) (show FD S 17 r 5 < 20000 by omega)).mpr ⟨by omega, fun y => ?_, c _ g (by omega)⟩
    · omega
    · have := b y
      have := cu_mono (fun d => !sB (S 10 (S 17 r 0)) d) (show FD S 17 r 5 ≤ d by omega)
      omega
section REF5
variable {G : fw_G} {n : Nat} {S D : fw_DB} {A : fw_AD} {M : fw_MP} {h : fw_H}
theorem n_goesOn {r d q : Nat} {ad : Nat → Nat} (R : RD G n S D A M h) (F : FA S h q ad (S 99 0 13)) (hr : r < S 99 0 17) (hd : d < 20000) : PM G 4 0 0 mm_X17_goesOn [.ref (A 30 0), .ref (A 55 r), .int (nI d), .ref q] h (fw_qp (bI (gO S r d)) h) := by
  refine pm_of (by decide +kernel) rfl rfl rfl ?_
  have hN := R.n7
  obtain ⟨i1, i3, i4, i5, i0⟩ := icr R.1 hr
  have hm4 : min (S 17 r 4) 20000 ≤ 20000 ∧ (d < min (S 17 r 4) 20000 ↔ d < S 17 r 4) := ⟨Nat.min_le_right _ _, by rcases i5 with z | z; (rw [Nat.min_eq_left (by omega)]); (rw [Nat.min_eq_right (by omega)]; omega)⟩
  have cl : ∀ d, cu (fun d => !sB (S 10 (S 17 r 0)) d) d ≤ d := fun d => cu_le _ d
  have k108 : ∀ z, z = gO S r d → ∀ k, PW G mm_X17_goesOn (fw_qp (bI (gO S r d)) h) 4 0 0 h 108 [(0, .ref (A 30 0)), (1, .ref (A 55 r)), (2, .int (nI d)), (3, .ref q), (4, .ref (A 56 (S 17 r 0))), (5, .int (bI z)), (6, .int (nI k))] [] := by
    intro z hz k
    rw [← hz]
    refine pw_go tk_X17_goesOn rfl rfl ?_
    exact pw_zretp (b := z) tk_X17_goesOn rfl rfl
  have loop : ∀ j k, j + k = d + 1 → S 17 r 1 ≤ k → d < S 17 r 4 → (0 < S 17 r 2 → cu (fun d => !sB (S 10 (S 17 r 0)) d) d - cu (fun d => !sB (S 10 (S 17 r 0)) d) (S 17 r 1) < 28) → (∀ x, S 17 r 1 ≤ x → x < k → licK S (S 17 r 0) x (S 17 r 3) = true) → S 17 r 1 ≤ d → PW G mm_X17_goesOn (fw_qp (bI (gO S r d)) h) 4 0 0 h 74 [(0, .ref (A 30 0)), (1, .ref (A 55 r)), (2, .int (nI d)), (3, .ref q), (4, .ref (A 56 (S 17 r 0))), (5, .int (bI true)), (6, .int (nI k))] [] := by
    intro j
    induction j with
    | zero =>
      intro k hk a1 a2 a3 a4 a5
      have hk : k = d + 1 := by omega
      subst hk
      iterate 2 refine pw_go tk_X17_goesOn rfl rfl ?_
      refine pw_icN (d + 1) (d) tk_X17_goesOn rfl rfl rfl (by omega) (by omega) (fun _ => ?_) (fun c => absurd (show d < d + 1 by omega) c)
      refine k108 true ?_ _
      unfold gO
      rw [decide_eq_true a5, decide_eq_true ((go_all R.1 hr a5 hd).mpr ⟨a2, a3, fun x y z => a4 x y (by omega)⟩)]
      rfl
    | succ j ih =>
      intro k hk a1 a2 a3 a4 a5
      iterate 2 refine pw_go tk_X17_goesOn rfl rfl ?_
      refine pw_icN (k) (d) tk_X17_goesOn rfl rfl rfl (by omega) (by omega) (fun c => absurd (show d < k from c) (by omega)) (fun _ => ?_)
      refine pw_go tk_X17_goesOn rfl rfl ?_
      refine pw_br tk_X17_goesOn rfl rfl (fun c => absurd c (by decide)) (fun _ => ?_)
      iterate 2 refine pw_go tk_X17_goesOn rfl rfl ?_
      refine pw_get tk_X17_goesOn rfl fl_X17_272 (R.rec hr) rfl ?_
      iterate 3 refine pw_go tk_X17_goesOn rfl rfl ?_
      refine pw_get tk_X17_goesOn rfl fl_X17_280 (R.rec hr) rfl ?_
      refine pw_cvp tk_X17_goesOn rfl ca_X17_isLicensed lk_X17_282 iv_X17_isLicensed sv_X17_isLicensed R.m rfl rfl (As := [.int (nI (S 17 r 0)), .int (nI k), .ref q, .int (nI (S 17 r 3))]) (rest := []) (n_isLic R F i0 (show k < 20000 by omega) i3) rfl rfl rfl rfl ?_
      iterate 2 refine pw_go tk_X17_goesOn rfl rfl ?_
      generalize hz : licK S (S 17 r 0) k (S 17 r 3) = z
      refine pw_M [(0, .ref (A 30 0)), (1, .ref (A 55 r)), (2, .int (nI d)), (3, .ref q), (4, .ref (A 56 (S 17 r 0))), (5, .int (bI z)), (6, .int (nI (k + 1)))] ⟨rfl, rfl, rfl, rfl, rfl, rfl, congrArg (fun z => some (Value.int z)) (nI_1 k), trivial⟩ ?_
      refine pw_go tk_X17_goesOn rfl rfl ?_
      cases z with
      | true =>
        refine ih (k + 1) (by omega) (by omega) a2 a3 (fun x y z => ?_) a5
        by_cases e : x = k
        · rw [e]
          exact hz
        · exact a4 x y (by omega)
      | false =>
        have e : gO S r d = false := by
          unfold gO
          rw [decide_eq_false (p := d < _) (fun z => by
            have := ((go_all R.1 hr a5 hd).mp z).2.2 k a1 (by omega)
            rw [hz] at this
            cases this), Bool.and_false]
        iterate 2 refine pw_go tk_X17_goesOn rfl rfl ?_
        refine pw_br tk_X17_goesOn rfl rfl (fun c => k108 false e.symm _) (fun c => ?_)
        refine pw_go tk_X17_goesOn rfl rfl ?_
        refine pw_br tk_X17_goesOn rfl rfl (fun c => k108 false e.symm _) (fun c => absurd rfl c)
  have k66 : ∀ z : Bool, z = (decide (S 17 r 1 ≤ d) && (decide (d < S 17 r 4) && (!decide (0 < S 17 r 2) || decide (cu (fun d => !sB (S 10 (S 17 r 0)) d) d - cu (fun d => !sB (S 10 (S 17 r 0)) d) (S 17 r 1) < 28)))) → PW G mm_X17_goesOn (fw_qp (bI (gO S r d)) h) 4 0 0 h 66 [(0, .ref (A 30 0)), (1, .ref (A 55 r)), (2, .int (nI d)), (3, .ref q), (4, .ref (A 56 (S 17 r 0)))] [.int (bI z)] := by
    intro z hz
    iterate 2 refine pw_go tk_X17_goesOn rfl rfl ?_
    refine pw_get tk_X17_goesOn rfl fl_X17_275 (R.rec hr) rfl ?_
    refine pw_go tk_X17_goesOn rfl rfl ?_
    refine pw_M [(0, .ref (A 30 0)), (1, .ref (A 55 r)), (2, .int (nI d)), (3, .ref q), (4, .ref (A 56 (S 17 r 0))), (5, .int (bI z)), (6, .int (nI (S 17 r 1)))] ⟨rfl, rfl, rfl, rfl, rfl, rfl, rfl, trivial⟩ ?_
    cases z with
    | true =>
      have hz := hz.symm
      simp only [Bool.and_eq_true, Bool.or_eq_true, Bool.not_eq_true', decide_eq_true_eq, decide_eq_false_iff_not] at hz
      exact loop (d + 1 - S 17 r 1) (S 17 r 1) (by omega) (Nat.le_refl _) hz.2.1 (fun y => hz.2.2.resolve_left (fun w => w y)) (fun x a b => by omega) hz.1
    | false =>
      have e : gO S r d = false := by
        unfold gO
        apply Bool.eq_false_iff.mpr
        intro y
        simp only [Bool.and_eq_true, decide_eq_true_eq] at y
        have := (go_all R.1 hr y.1 hd).mp y.2
        rw [decide_eq_true y.1, decide_eq_true this.1] at hz
        by_cases c : 0 < S 17 r 2
        · rw [decide_eq_true (this.2.1 c)] at hz
          simp at hz
        · rw [decide_eq_false c] at hz
          simp at hz
      iterate 2 refine pw_go tk_X17_goesOn rfl rfl ?_
      refine pw_br tk_X17_goesOn rfl rfl (fun c => k108 false e.symm _) (fun c => ?_)
      refine pw_go tk_X17_goesOn rfl rfl ?_
      refine pw_br tk_X17_goesOn rfl rfl (fun c => k108 false e.symm _) (fun c => absurd rfl c)
  have k65 : (decide (S 17 r 1 ≤ d) && (decide (d < S 17 r 4) && (!decide (0 < S 17 r 2) || decide (cu (fun d => !sB (S 10 (S 17 r 0)) d) d - cu (fun d => !sB (S 10 (S 17 r 0)) d) (S 17 r 1) < 28)))) = false → PW G mm_X17_goesOn (fw_qp (bI (gO S r d)) h) 4 0 0 h 65 [(0, .ref (A 30 0)), (1, .ref (A 55 r)), (2, .int (nI d)), (3, .ref q), (4, .ref (A 56 (S 17 r 0)))] [] := by
    intro e
    refine pw_go tk_X17_goesOn rfl rfl ?_
    exact k66 false e.symm
  have sw : ∀ {pc : Nat} {L L' : List (Nat × Value)} {st : List Value}, PW G mm_X17_goesOn (fw_qp (bI (gO S r d)) h) 4 0 0 h pc L' st → fw_sL L L' → PW G mm_X17_goesOn (fw_qp (bI (gO S r d)) h) 4 0 0 h pc L st := fun {pc L L' st} b a => pw_M _ a b
  refine pw_go tk_X17_goesOn rfl rfl ?_
  refine pw_get tk_X17_goesOn rfl fl_X17_16 R.m rfl ?_
  refine pw_go tk_X17_goesOn rfl rfl ?_
  refine pw_get tk_X17_goesOn rfl fl_X17_272 (R.rec hr) rfl ?_
  refine pw_lget (k := S 17 r 0) tk_X17_goesOn rfl (R.l2) i0 rfl rfl rfl rfl ?_
  refine pw_cast tk_X17_goesOn rfl (R.per i0) rfl cw_X17_112 ?_
  refine pw_get tk_X17_goesOn rfl fl_X17_257 (R.per i0) rfl ?_
  iterate 3 refine pw_go tk_X17_goesOn rfl rfl ?_
  refine pw_get tk_X17_goesOn rfl fl_X17_275 (R.rec hr) rfl ?_
  refine pw_icN (d) (S 17 r 1) tk_X17_goesOn rfl rfl rfl (by omega) (by omega) (fun c => ?_) (fun c => ?_)
  · have c : d < S 17 r 1 := c
    exact sw (k65 (by rw [decide_eq_false (p := S 17 r 1 ≤ d) (by omega)]; rfl)) ⟨rfl, rfl, rfl, rfl, rfl, trivial⟩
  have c : ¬ d < S 17 r 1 := c
  iterate 2 refine pw_go tk_X17_goesOn rfl rfl ?_
  refine pw_get tk_X17_goesOn rfl fl_X17_276 (R.rec hr) rfl ?_
  obtain ⟨hm1, hm2⟩ := hm4
  generalize min (S 17 r 4) 20000 = m4 at *
  refine pw_icN (d) (m4) tk_X17_goesOn rfl rfl rfl (by omega) (by omega) (fun c2 => ?_) (fun c2 => ?_)
  · have c2 : m4 ≤ d := c2
    exact sw (k65 (by rw [decide_eq_false (p := d < S 17 r 4) (fun z => by have := hm2.mpr z; omega), Bool.false_and, Bool.and_false])) ⟨rfl, rfl, rfl, rfl, rfl, trivial⟩
  have c2 : ¬ m4 ≤ d := c2
  have c2 : d < S 17 r 4 := hm2.mp (by omega)
  refine pw_go tk_X17_goesOn rfl rfl ?_
  refine pw_get tk_X17_goesOn rfl fl_X17_279 (R.rec hr) rfl ?_
  by_cases c3 : 0 < S 17 r 2
  · refine pw_i (x' := nI 102) (congrArg nI (if_pos c3)) ?_
    refine pw_go tk_X17_goesOn rfl rfl ?_
    refine pw_icN (102) (115) tk_X17_goesOn rfl rfl rfl (by omega) (by omega) (fun c => absurd (show (102 : Nat) = 115 from c) (by decide)) (fun _ => ?_)
    have d1 := cl d
    have d2 := cu_mono (fun d => !sB (S 10 (S 17 r 0)) d) (show S 17 r 1 ≤ d by omega)
    iterate 2 refine pw_go tk_X17_goesOn rfl rfl ?_
    refine pw_free (k := d) tk_X17_goesOn rfl R i0 (by omega) rfl ?_
    iterate 2 refine pw_go tk_X17_goesOn rfl rfl ?_
    refine pw_get tk_X17_goesOn rfl fl_X17_275 (R.rec hr) rfl ?_
    refine pw_free (k := S 17 r 1) tk_X17_goesOn rfl R i0 (by omega) rfl ?_
    refine pw_subN (cu (fun d => !sB (S 10 (S 17 r 0)) d) d) (cu (fun d => !sB (S 10 (S 17 r 0)) d) (S 17 r 1)) tk_X17_goesOn rfl rfl rfl (by omega) ?_
    refine pw_go tk_X17_goesOn rfl rfl ?_
    refine pw_icN (cu (fun d => !sB (S 10 (S 17 r 0)) d) d - cu (fun d => !sB (S 10 (S 17 r 0)) d) (S 17 r 1)) (28) tk_X17_goesOn rfl rfl rfl (by omega) (by omega) (fun c4 => ?_) (fun c4 => ?_)
    · have c4 : 28 ≤ cu (fun d => !sB (S 10 (S 17 r 0)) d) d - cu (fun d => !sB (S 10 (S 17 r 0)) d) (S 17 r 1) := c4
      exact sw (k65 (by rw [decide_eq_true c3, decide_eq_false (p := _ < 28) (by omega)]; simp)) ⟨rfl, rfl, rfl, rfl, rfl, trivial⟩
    · have c4 : ¬ 28 ≤ cu (fun d => !sB (S 10 (S 17 r 0)) d) d - cu (fun d => !sB (S 10 (S 17 r 0)) d) (S 17 r 1) := c4
      iterate 2 refine pw_go tk_X17_goesOn rfl rfl ?_
      exact sw (k66 true (by rw [decide_eq_true c3, decide_eq_true (p := _ < 28) (by omega), decide_eq_true c2, decide_eq_true (p := S 17 r 1 ≤ d) (by omega)]; rfl)) ⟨rfl, rfl, rfl, rfl, rfl, trivial⟩
  · refine pw_i (x' := nI 115) (congrArg nI (if_neg c3)) ?_
    refine pw_go tk_X17_goesOn rfl rfl ?_
    refine pw_icN (115) (115) tk_X17_goesOn rfl rfl rfl (by omega) (by omega) (fun _ => ?_) (fun c => absurd (show (115 : Nat) = 115 from rfl) c)
    iterate 2 refine pw_go tk_X17_goesOn rfl rfl ?_
    exact sw (k66 true (by rw [decide_eq_false c3, decide_eq_true c2, decide_eq_true (p := S 17 r 1 ≤ d) (by omega)]; rfl)) ⟨rfl, rfl, rfl, rfl, rfl, trivial⟩
end REF5

