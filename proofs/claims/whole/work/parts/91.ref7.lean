/-! REFERENCE: states of days -/
def gop (S : fw_DB) (p d : Nat) : Nat → Bool := fun r => decide (S 17 r 0 = p) && gO S r d
def kip (S : fw_DB) (p d : Nat) : Nat → Bool := fun w => decide (S 13 w 1 = p) && wkeep (FD S 13 w) d
def stB (i r l a : Bool) : Nat := if (a && (i || r)) = true then 97 else if i = true then 112 else if r = true then 114 else if l = true then 108 else 111
theorem stB_lt {i r l a : Bool} : stB i r l a < 128 := by cases i <;> cases r <;> cases l <;> cases a <;> decide
theorem kip_is {S : fw_DB} {p d : Nat} : decide (0 < kpS S p d) = anyK (kip S p d) (S 99 0 13) := by
  apply Bool.eq_iff_iff.mpr
  rw [decide_eq_true_eq]
  unfold kpS
  rw [kp_pos, anyK_r]
  unfold wlS
  rw [any_f]
  exact ⟨fun z => z.resolve_left (by omega), Or.inr⟩
theorem gop_is {S : fw_DB} {p d : Nat} : decide (0 < rcS S p d) = anyK (gop S p d) (S 99 0 17) := by
  apply Bool.eq_iff_iff.mpr
  rw [decide_eq_true_eq]
  unfold rcS
  rw [rc_pos, anyK_r]
  unfold rlS
  rw [any_f]
  have e : (fun r => decide (S 17 r 0 = p) && (decide (FD S 17 r 1 ≤ d) && decide (d < FD S 17 r 5))) = gop S p d := funext fun r => by
    unfold gop gO
    rw [f17 (by decide)]
  rw [e]
theorem lct_is {S : fw_DB} {p d : Nat} : lct (FD S) d (wlS S p) = licK S p d (S 99 0 13) := by
  unfold lct wlS licK
  rw [any_f, anyK_r]
theorem st_is {S : fw_DB} {p d : Nat} : stS S p d = stB (anyK (kip S p d) (S 99 0 13)) (anyK (gop S p d) (S 99 0 17)) (licK S p d (S 99 0 13)) (sB (S 10 p) d) := by
  have e1 := kip_is (S := S) (p := p) (d := d)
  have e2 := gop_is (S := S) (p := p) (d := d)
  rw [← e1, ← e2, ← lct_is]
  unfold stS stt kpS rcS lett stB
  generalize kp (FD S) d 0 (wlS S p) = a
  generalize rc (FD S) d (rlS S p) = b
  generalize lct (FD S) d (wlS S p) = c
  generalize sB (S 10 p) d = w
  by_cases ca : 0 < a <;> by_cases cb : 0 < b <;> cases c <;> cases w <;> simp [ca, cb]
theorem pw_W {G : fw_G} {y : fw_M} {Q : fw_Q} {d kc ks : Nat} {h : fw_H} {pc : Nat} {L L' : List (Nat × Value)} {st : List Value} (k : PW G y Q d kc ks h pc L' st) (hs : fw_sL L L') : PW G y Q d kc ks h pc L st := pw_M L' hs k
section REF6
variable {G : fw_G} {n : Nat} {S D : fw_DB} {A : fw_AD} {M : fw_MP} {h : fw_H}
theorem n_endOf {r q : Nat} {ad : Nat → Nat} (R : RD G n S D A M h) (F : FA S h q ad (S 99 0 13)) (hr : r < S 99 0 17) : PM G 4 0 0 mm_X17_endOf [.ref (A 30 0), .ref (A 55 r), .ref q] h (fw_qp (nI (min (FD S 17 r 5) 20000)) h) := by
  refine pm_of (by decide +kernel) rfl rfl rfl ?_
  have hN := R.n7
  obtain ⟨i1, i3, i4, i5, i0⟩ := icr R.1 hr
  have hm4 : min (S 17 r 4) 20000 ≤ 20000 ∧ ∀ d, d < 20000 → (d < min (S 17 r 4) 20000 ↔ d < S 17 r 4) := ⟨Nat.min_le_right _ _, fun d hd => by rcases i5 with z | z; (rw [Nat.min_eq_left (by omega)]); (rw [Nat.min_eq_right (by omega)]; omega)⟩
  have cl : ∀ d, cu (fun d => !sB (S 10 (S 17 r 0)) d) d ≤ d := fun d => cu_le _ d
  have R0 := R.rec hr
  obtain ⟨hm1, hm2⟩ := hm4
  generalize min (S 17 r 4) 20000 = m4 at *
  have k82 : ∀ d, d = min (FD S 17 r 5) 20000 → PW G mm_X17_endOf (fw_qp (nI (min (FD S 17 r 5) 20000)) h) 4 0 0 h 82 [(0, .ref (A 30 0)), (1, .ref (A 55 r)), (2, .ref q), (3, .ref (A 56 (S 17 r 0))), (4, .int (nI d))] [] := by
    intro d hd
    rw [← hd]
    refine pw_go tk_X17_endOf rfl rfl ?_
    exact pw_iretp tk_X17_endOf rfl rfl
  have loop : ∀ j d, j + d = 20000 → S 17 r 1 ≤ d → d ≤ FD S 17 r 5 → PW G mm_X17_endOf (fw_qp (nI (min (FD S 17 r 5) 20000)) h) 4 0 0 h 24 [(0, .ref (A 30 0)), (1, .ref (A 55 r)), (2, .ref q), (3, .ref (A 56 (S 17 r 0))), (4, .int (nI d))] [] := by
    intro j
    induction j with
    | zero =>
      intro d hd h1 h2
      iterate 2 refine pw_go tk_X17_endOf rfl rfl ?_
      refine pw_get tk_X17_endOf rfl fl_X17_276 R0 rfl ?_
      refine pw_icN (d) (m4) tk_X17_endOf rfl rfl rfl (by omega) (by omega) (fun _ => ?_) (fun c => absurd (show m4 ≤ d by omega) c)
      refine k82 d ?_
      rw [Nat.min_eq_right (by omega)]
      omega
    | succ j ih =>
      intro d hd h1 h2
      have on := go_on R.1 hr h1 h2 (by omega)
      have out : ¬ d < FD S 17 r 5 → d = min (FD S 17 r 5) 20000 := fun z => by
        rw [Nat.min_eq_left (by omega)]
        omega
      have k58 : d < S 17 r 4 → (0 < S 17 r 2 → cu (fun d => !sB (S 10 (S 17 r 0)) d) d - cu (fun d => !sB (S 10 (S 17 r 0)) d) (S 17 r 1) < 28) → PW G mm_X17_endOf (fw_qp (nI (min (FD S 17 r 5) 20000)) h) 4 0 0 h 58 [(0, .ref (A 30 0)), (1, .ref (A 55 r)), (2, .ref q), (3, .ref (A 56 (S 17 r 0))), (4, .int (nI d))] [] := by
        intro a1 a2
        iterate 2 refine pw_go tk_X17_endOf rfl rfl ?_
        refine pw_get tk_X17_endOf rfl fl_X17_272 R0 rfl ?_
        iterate 3 refine pw_go tk_X17_endOf rfl rfl ?_
        refine pw_get tk_X17_endOf rfl fl_X17_280 R0 rfl ?_
        refine pw_cvp tk_X17_endOf rfl ca_X17_isLicensed lk_X17_282 iv_X17_isLicensed sv_X17_isLicensed R.m rfl rfl (As := [.int (nI (S 17 r 0)), .int (nI d), .ref q, .int (nI (S 17 r 3))]) (rest := []) (n_isLic R F i0 (show d < 20000 by omega) i3) rfl rfl rfl rfl ?_
        refine pw_ifeqB tk_X17_endOf rfl (fun c => ?_) (fun c => ?_)
        · exact k82 d (out (fun z => by have := (on.mp z).2.2; rw [c] at this; cases this))
        · have c2 := on.mpr ⟨a1, a2, c⟩
          refine pw_go tk_X17_endOf rfl rfl ?_
          refine pw_M [(0, .ref (A 30 0)), (1, .ref (A 55 r)), (2, .ref q), (3, .ref (A 56 (S 17 r 0))), (4, .int (nI (d + 1)))] ⟨rfl, rfl, rfl, rfl, congrArg (fun z => some (Value.int z)) (nI_1 d), trivial⟩ ?_
          refine pw_go tk_X17_endOf rfl rfl ?_
          exact ih (d + 1) (by omega) (by omega) (by omega)
      iterate 2 refine pw_go tk_X17_endOf rfl rfl ?_
      refine pw_get tk_X17_endOf rfl fl_X17_276 R0 rfl ?_
      refine pw_icN (d) (m4) tk_X17_endOf rfl rfl rfl (by omega) (by omega) (fun c => ?_) (fun c => ?_)
      · have c : m4 ≤ d := c
        exact k82 d (out (fun z => by have := (hm2 d (by omega)).mpr (on.mp z).1; omega))
      have c : ¬ m4 ≤ d := c
      have c := (hm2 d (by omega)).mp (by omega)
      refine pw_go tk_X17_endOf rfl rfl ?_
      refine pw_get tk_X17_endOf rfl fl_X17_279 R0 rfl ?_
      by_cases c3 : 0 < S 17 r 2
      · refine pw_i (x' := nI 102) (congrArg nI (if_pos c3)) ?_
        refine pw_go tk_X17_endOf rfl rfl ?_
        refine pw_icN (102) (115) tk_X17_endOf rfl rfl rfl (by omega) (by omega) (fun c => absurd (show (102 : Nat) = 115 from c) (by decide)) (fun _ => ?_)
        have d1 := cl d
        have d2 := cu_mono (fun d => !sB (S 10 (S 17 r 0)) d) h1
        iterate 2 refine pw_go tk_X17_endOf rfl rfl ?_
        refine pw_free (k := d) tk_X17_endOf rfl R i0 (by omega) rfl ?_
        iterate 2 refine pw_go tk_X17_endOf rfl rfl ?_
        refine pw_get tk_X17_endOf rfl fl_X17_275 R0 rfl ?_
        refine pw_free (k := S 17 r 1) tk_X17_endOf rfl R i0 (by omega) rfl ?_
        refine pw_subN (cu (fun d => !sB (S 10 (S 17 r 0)) d) d) (cu (fun d => !sB (S 10 (S 17 r 0)) d) (S 17 r 1)) tk_X17_endOf rfl rfl rfl (by omega) ?_
        refine pw_go tk_X17_endOf rfl rfl ?_
        refine pw_icN (cu (fun d => !sB (S 10 (S 17 r 0)) d) d - cu (fun d => !sB (S 10 (S 17 r 0)) d) (S 17 r 1)) (28) tk_X17_endOf rfl rfl rfl (by omega) (by omega) (fun c4 => ?_) (fun c4 => ?_)
        · have c4 : 28 ≤ cu (fun d => !sB (S 10 (S 17 r 0)) d) d - cu (fun d => !sB (S 10 (S 17 r 0)) d) (S 17 r 1) := c4
          exact k82 d (out (fun z => by have := (on.mp z).2.1 c3; omega))
        · have c4 : ¬ 28 ≤ cu (fun d => !sB (S 10 (S 17 r 0)) d) d - cu (fun d => !sB (S 10 (S 17 r 0)) d) (S 17 r 1) := c4
          exact k58 c (fun _ => by omega)
      · refine pw_i (x' := nI 115) (congrArg nI (if_neg c3)) ?_
        refine pw_go tk_X17_endOf rfl rfl ?_
        refine pw_icN (115) (115) tk_X17_endOf rfl rfl rfl (by omega) (by omega) (fun _ => ?_) (fun c => absurd (show (115 : Nat) = 115 from rfl) c)
        exact k58 c (fun z => absurd z c3)
  refine pw_go tk_X17_endOf rfl rfl ?_
  refine pw_get tk_X17_endOf rfl fl_X17_16 R.m rfl ?_
  refine pw_go tk_X17_endOf rfl rfl ?_
  refine pw_get tk_X17_endOf rfl fl_X17_272 R0 rfl ?_
  refine pw_lget (k := S 17 r 0) tk_X17_endOf rfl (R.l2) i0 rfl rfl rfl rfl ?_
  refine pw_cast tk_X17_endOf rfl (R.per i0) rfl cw_X17_112 ?_
  refine pw_get tk_X17_endOf rfl fl_X17_257 (R.per i0) rfl ?_
  iterate 2 refine pw_go tk_X17_endOf rfl rfl ?_
  refine pw_get tk_X17_endOf rfl fl_X17_275 R0 rfl ?_
  refine pw_go tk_X17_endOf rfl rfl ?_
  refine pw_M [(0, .ref (A 30 0)), (1, .ref (A 55 r)), (2, .ref q), (3, .ref (A 56 (S 17 r 0))), (4, .int (nI (S 17 r 1)))] ⟨rfl, rfl, rfl, rfl, rfl, trivial⟩ ?_
  exact loop (20000 - S 17 r 1) (S 17 r 1) (by omega) (Nat.le_refl _) (go_ge R.1 hr)
set_option maxRecDepth 20000 in
theorem n_stateOf {p d q : Nat} {ad : Nat → Nat} (R : RD G n S D A M h) (F : FA S h q ad (S 99 0 13)) (hp : p < S 99 0 8) (hd : d < 20000) : PM G 5 1 4 mm_X17_stateOf [.ref (A 30 0), .int (nI p), .int (nI d), .ref q] h (fw_qp (nI (stS S p d)) h) := by
  refine pm_of (by decide +kernel) rfl rfl rfl ?_
  have hN := R.n7
  rw [st_is]
  generalize hlc : licK S p d (S 99 0 13) = lc
  have k144 : PW G mm_X17_stateOf (fw_qp (nI (stB (anyK (kip S p d) (S 99 0 13)) (anyK (gop S p d) (S 99 0 17)) lc (sB (S 10 p) d))) h) 5 0 0 h 144 [(0, .ref (A 30 0)), (1, .int (nI p)), (2, .int (nI d)), (3, .ref q), (4, .int (nI (stB (anyK (kip S p d) (S 99 0 13)) (anyK (gop S p d) (S 99 0 17)) lc false)))] [] := by
    generalize anyK (kip S p d) (S 99 0 13) = bi
    generalize anyK (gop S p d) (S 99 0 17) = br
    have k188 : ∀ v L, v = stB bi br lc (sB (S 10 p) d) → PW G mm_X17_stateOf (fw_qp (nI (stB bi br lc (sB (S 10 p) d))) h) 5 0 0 h 188 L [.int (nI v)] := by
      intro v L hv
      rw [hv]
      exact pw_cretp (v := stB bi br lc (sB (S 10 p) d)) tk_X17_stateOf rfl rfl stB_lt
    have hl := stB_lt (i := bi) (r := br) (l := lc) (a := false)
    refine pw_go tk_X17_stateOf rfl rfl ?_
    refine pw_get tk_X17_stateOf rfl fl_X17_16 R.m rfl ?_
    refine pw_go tk_X17_stateOf rfl rfl ?_
    refine pw_lget (k := p) tk_X17_stateOf rfl (R.l2) hp rfl rfl rfl rfl ?_
    refine pw_cast tk_X17_stateOf rfl (R.per hp) rfl cw_X17_112 ?_
    refine pw_get tk_X17_stateOf rfl fl_X17_197 (R.per hp) rfl ?_
    refine pw_go tk_X17_stateOf rfl rfl ?_
    refine pw_zaldN tk_X17_stateOf rfl (R.away hp) rfl (by omega) (by omega) ?_
    rw [mkR_b]
    iterate 2 refine pw_go tk_X17_stateOf rfl rfl ?_
    refine pw_ifeqB tk_X17_stateOf rfl (fun c => ?_) (fun c => ?_)
    · skip
      refine pw_go tk_X17_stateOf rfl rfl ?_
      exact k188 _ _ (by rw [c])
    rw [c] at k188 ⊢
    iterate 2 refine pw_go tk_X17_stateOf rfl rfl ?_
    refine pw_icN (stB bi br lc false) (112) tk_X17_stateOf rfl rfl rfl (by omega) (by omega) (fun c2 => ?_) (fun c2 => ?_)
    · have c2 : stB bi br lc false = 112 := c2
      iterate 2 refine pw_go tk_X17_stateOf rfl rfl ?_
      refine k188 97 _ ?_
      revert c2
      cases bi <;> cases br <;> cases lc <;> decide
    have c2 : stB bi br lc false ≠ 112 := c2
    iterate 2 refine pw_go tk_X17_stateOf rfl rfl ?_
    refine pw_icN (stB bi br lc false) (114) tk_X17_stateOf rfl rfl rfl (by omega) (by omega) (fun c3 => ?_) (fun c3 => ?_)
    · have c3 : stB bi br lc false ≠ 114 := c3
      refine pw_go tk_X17_stateOf rfl rfl ?_
      refine k188 _ _ ?_
      revert c2 c3
      cases bi <;> cases br <;> cases lc <;> decide
    · have c3 : stB bi br lc false = 114 := Decidable.not_not.mp c3
      iterate 2 refine pw_go tk_X17_stateOf rfl rfl ?_
      refine k188 97 _ ?_
      revert c2 c3
      cases bi <;> cases br <;> cases lc <;> decide
  have loop2 : ∀ j k, j + k = S 99 0 13 → PW G mm_X17_stateOf (fw_qp (nI (stB (anyK (kip S p d) (S 99 0 13)) (anyK (gop S p d) (S 99 0 17)) lc (sB (S 10 p) d))) h) 5 0 0 h 92 [(0, .ref (A 30 0)), (1, .int (nI p)), (2, .int (nI d)), (3, .ref q), (4, .int (nI (stB (anyK (kip S p d) k) (anyK (gop S p d) (S 99 0 17)) lc false))), (5, .int (nI k))] [] := by
    intro j
    induction j with
    | zero =>
      intro k hk
      have hk : k = S 99 0 13 := by omega
      subst hk
      iterate 2 refine pw_go tk_X17_stateOf rfl rfl ?_
      refine pw_alen tk_X17_stateOf rfl F.1 (by decide) ?_
      refine pw_icN (S 99 0 13) (S 99 0 13) tk_X17_stateOf rfl rfl rfl (by omega) (by omega) (fun _ => ?_) (fun c => absurd (show S 99 0 13 ≤ S 99 0 13 by omega) c)
      exact pw_W (k144) ⟨rfl, rfl, rfl, rfl, rfl, trivial⟩
    | succ j ih =>
      intro k hk
      have hw : k < S 99 0 13 := by omega
      obtain ⟨B, -, -, -, h1⟩ := icw R.1 hw
      have k136 : ∀ v, v = stB (anyK (kip S p d) (k + 1)) (anyK (gop S p d) (S 99 0 17)) lc false → PW G mm_X17_stateOf (fw_qp (nI (stB (anyK (kip S p d) (S 99 0 13)) (anyK (gop S p d) (S 99 0 17)) lc (sB (S 10 p) d))) h) 5 0 0 h 136 [(0, .ref (A 30 0)), (1, .int (nI p)), (2, .int (nI d)), (3, .ref q), (4, .int (nI (stB (anyK (kip S p d) k) (anyK (gop S p d) (S 99 0 17)) lc false))), (5, .int (nI k))] [.int (nI v)] := by
        intro v hv
        subst hv
        iterate 2 refine pw_go tk_X17_stateOf rfl rfl ?_
        refine pw_M [(0, .ref (A 30 0)), (1, .int (nI p)), (2, .int (nI d)), (3, .ref q), (4, .int (nI (stB (anyK (kip S p d) (k + 1)) (anyK (gop S p d) (S 99 0 17)) lc false))), (5, .int (nI (k + 1)))] ⟨rfl, rfl, rfl, rfl, rfl, congrArg (fun z => some (Value.int z)) (nI_1 k), trivial⟩ ?_
        refine pw_go tk_X17_stateOf rfl rfl ?_
        exact ih (k + 1) (by omega)
      have e : anyK (kip S p d) (k + 1) = (anyK (kip S p d) k || kip S p d k) := rfl
      iterate 2 refine pw_go tk_X17_stateOf rfl rfl ?_
      refine pw_alen tk_X17_stateOf rfl F.1 (by decide) ?_
      refine pw_icN (k) (S 99 0 13) tk_X17_stateOf rfl rfl rfl (by omega) (by omega) (fun c => absurd (show S 99 0 13 ≤ k from c) (by omega)) (fun _ => ?_)
      refine pw_go tk_X17_stateOf rfl rfl ?_
      refine pw_get tk_X17_stateOf rfl fl_X17_19 R.m rfl ?_
      refine pw_go tk_X17_stateOf rfl rfl ?_
      refine pw_lget (k := k) tk_X17_stateOf rfl (R.l3) hw rfl rfl rfl rfl ?_
      refine pw_cast tk_X17_stateOf rfl (R.war hw) rfl cw_X17_88 ?_
      refine pw_get tk_X17_stateOf rfl fl_X17_128 (R.war hw) rfl ?_
      refine pw_go tk_X17_stateOf rfl rfl ?_
      refine pw_icN (S 13 k 1) (p) tk_X17_stateOf rfl rfl rfl (by omega) (by omega) (fun c2 => ?_) (fun c2 => ?_)
      · have c2 : S 13 k 1 ≠ p := c2
        refine pw_go tk_X17_stateOf rfl rfl ?_
        exact k136 _ (by rw [e, show kip S p d k = false by unfold kip; rw [decide_eq_false c2]; rfl, Bool.or_false])
      have c2 : S 13 k 1 = p := Decidable.not_not.mp c2
      iterate 4 refine pw_go tk_X17_stateOf rfl rfl ?_
      refine pw_cvp tk_X17_stateOf rfl ca_X17_isIn lk_X17_290 iv_X17_isIn sv_X17_isIn R.m rfl rfl (As := [.int (nI k), .int (nI d), .ref q]) (rest := []) (n_isIn R F hw hd) rfl rfl rfl rfl ?_
      refine pw_ifeqB tk_X17_stateOf rfl (fun c3 => ?_) (fun c3 => ?_)
      · skip
        refine pw_go tk_X17_stateOf rfl rfl ?_
        exact k136 _ (by rw [e, show kip S p d k = false by unfold kip; rw [c3, Bool.and_false], Bool.or_false])
      · skip
        iterate 2 refine pw_go tk_X17_stateOf rfl rfl ?_
        exact k136 112 (by rw [e, show kip S p d k = true by unfold kip; rw [c3, decide_eq_true c2]; rfl, Bool.or_true]; rfl)
  have k89 : PW G mm_X17_stateOf (fw_qp (nI (stB (anyK (kip S p d) (S 99 0 13)) (anyK (gop S p d) (S 99 0 17)) lc (sB (S 10 p) d))) h) 5 0 0 h 89 [(0, .ref (A 30 0)), (1, .int (nI p)), (2, .int (nI d)), (3, .ref q), (4, .int (nI (stB false (anyK (gop S p d) (S 99 0 17)) lc false)))] [] := by
    iterate 2 refine pw_go tk_X17_stateOf rfl rfl ?_
    exact pw_W ((loop2 (S 99 0 13) 0 (by omega))) ⟨rfl, rfl, rfl, rfl, rfl, rfl, trivial⟩
  have loop1 : ∀ it, h it = none → ∀ j k, j + k = S 99 0 17 → ∀ lst, PW G mm_X17_stateOf (fw_qp (nI (stB (anyK (kip S p d) (S 99 0 13)) (anyK (gop S p d) (S 99 0 17)) lc (sB (S 10 p) d))) h) 5 0 0 (fw_up h it (itO (A 35 0) (S 99 0 17) k lst)) 35 [(0, .ref (A 30 0)), (1, .int (nI p)), (2, .int (nI d)), (3, .ref q), (4, .int (nI (stB false (anyK (gop S p d) k) lc false))), (5, .ref it)] [] := by
    intro it hit j
    induction j with
    | zero =>
      intro k hk lst
      have hk : k = S 99 0 17 := by omega
      subst hk
      refine pw_go tk_X17_stateOf rfl rfl ?_
      refine pw_ifh tk_X17_stateOf rfl (fw_up_s) (j_hasNext (R.l5.up hit) fw_up_s (by omega)) (rest := []) rfl rfl rfl rfl ?_
      rw [decide_eq_false (fun z => z rfl)]
      refine pw_forget (up_sub hit) ?_
      refine pw_ifeqB tk_X17_stateOf rfl (fun _ => ?_) (fun c => absurd c (by decide))
      exact pw_W (k89) ⟨rfl, rfl, rfl, rfl, rfl, trivial⟩
    | succ j ih =>
      intro k hk lst
      have hr : k < S 99 0 17 := by omega
      obtain ⟨-, -, -, -, i0⟩ := icr R.1 hr
      have k84 : ∀ lst v, v = stB false (anyK (gop S p d) (k + 1)) lc false → PW G mm_X17_stateOf (fw_qp (nI (stB (anyK (kip S p d) (S 99 0 13)) (anyK (gop S p d) (S 99 0 17)) lc (sB (S 10 p) d))) h) 5 0 0 (fw_up h it (itO (A 35 0) (S 99 0 17) (k + 1) lst)) 84 [(6, .ref (A 55 k)), (0, .ref (A 30 0)), (1, .int (nI p)), (2, .int (nI d)), (3, .ref q), (4, .int (nI (stB false (anyK (gop S p d) k) lc false))), (5, .ref it)] [.int (nI v)] := by
        intro lst v hv
        subst hv
        refine pw_go tk_X17_stateOf rfl rfl ?_
        refine pw_go tk_X17_stateOf rfl rfl ?_
        exact pw_W ((ih (k + 1) (by omega) lst)) ⟨rfl, rfl, rfl, rfl, rfl, rfl, trivial⟩
      have e : anyK (gop S p d) (k + 1) = (anyK (gop S p d) k || gop S p d k) := rfl
      refine pw_go tk_X17_stateOf rfl rfl ?_
      refine pw_ifh tk_X17_stateOf rfl (fw_up_s) (j_hasNext (R.l5.up hit) fw_up_s (by omega)) (rest := []) rfl rfl rfl rfl ?_
      rw [decide_eq_true (show k ≠ S 99 0 17 by omega)]
      refine pw_ifeqB tk_X17_stateOf rfl (fun c => absurd c (by decide)) (fun _ => ?_)
      refine pw_go tk_X17_stateOf rfl rfl ?_
      refine pw_ifn tk_X17_stateOf rfl (fw_up_s) (j_next (R.l5.up hit) fw_up_s hr) (rest := []) rfl rfl rfl rfl ?_
      rw [fw_up_2]
      refine pw_cast tk_X17_stateOf rfl ((R.up hit).rec hr) rfl cw_X17_273 ?_
      iterate 2 refine pw_go tk_X17_stateOf rfl rfl ?_
      refine pw_get tk_X17_stateOf rfl fl_X17_272 ((R.up hit).rec hr) rfl ?_
      refine pw_go tk_X17_stateOf rfl rfl ?_
      refine pw_icN (S 17 k 0) (p) tk_X17_stateOf rfl rfl rfl (by omega) (by omega) (fun c2 => ?_) (fun c2 => ?_)
      · have c2 : S 17 k 0 ≠ p := c2
        refine pw_go tk_X17_stateOf rfl rfl ?_
        exact pw_W ((k84 _ _ (by rw [e, show gop S p d k = false by unfold gop; rw [decide_eq_false c2]; rfl, Bool.or_false]))) ⟨rfl, rfl, rfl, rfl, rfl, rfl, rfl, trivial⟩
      have c2 : S 17 k 0 = p := Decidable.not_not.mp c2
      iterate 4 refine pw_go tk_X17_stateOf rfl rfl ?_
      refine pw_cvp tk_X17_stateOf rfl ca_X17_goesOn lk_X17_286 iv_X17_goesOn sv_X17_goesOn ((R.up hit).m) rfl rfl (As := [.ref (A 55 k), .int (nI d), .ref q]) (rest := []) (n_goesOn (R.up hit) (F.up hit) hr hd) rfl rfl rfl rfl ?_
      refine pw_ifeqB tk_X17_stateOf rfl (fun c3 => ?_) (fun c3 => ?_)
      · skip
        refine pw_go tk_X17_stateOf rfl rfl ?_
        exact pw_W ((k84 _ _ (by rw [e, show gop S p d k = false by unfold gop; rw [c3, Bool.and_false], Bool.or_false]))) ⟨rfl, rfl, rfl, rfl, rfl, rfl, rfl, trivial⟩
      · skip
        iterate 2 refine pw_go tk_X17_stateOf rfl rfl ?_
        exact pw_W ((k84 _ 114 (by rw [e, show gop S p d k = true by unfold gop; rw [c3, decide_eq_true c2]; rfl, Bool.or_true]; rfl))) ⟨rfl, rfl, rfl, rfl, rfl, rfl, rfl, trivial⟩
  have k24 : ∀ v, v = stB false false lc false → PW G mm_X17_stateOf (fw_qp (nI (stB (anyK (kip S p d) (S 99 0 13)) (anyK (gop S p d) (S 99 0 17)) lc (sB (S 10 p) d))) h) 5 1 4 h 24 [(0, .ref (A 30 0)), (1, .int (nI p)), (2, .int (nI d)), (3, .ref q)] [.int (nI v)] := by
    intro v hv
    subst hv
    obtain ⟨e5, cap5, o5, -⟩ := R.l5
    iterate 2 refine pw_go tk_X17_stateOf rfl rfl ?_
    refine pw_get tk_X17_stateOf rfl fl_X17_25 R.m rfl ?_
    refine pw_cv tk_X17_stateOf rfl ca_Jx4a65c_iterator_32c93 lk_X17_158 iv_Jx4a65c_iterator_32c93 sv_Jx4a65c_iterator_32c93 o5 rfl rfl (As := []) (rest := []) (kc' := 0) (ks' := 0) (j_iterator R.l5) rfl rfl rfl (Nat.le_of_ble_eq_true rfl) (Nat.le_refl _) (Nat.le_refl _) ?_ ?_
    · rintro _ _ ⟨_, rfl, it, rfl, hit, rfl⟩
      refine pw_go tk_X17_stateOf rfl rfl ?_
      exact pw_W ((loop1 it hit (S 99 0 17) 0 (by omega) 0)) ⟨rfl, rfl, rfl, rfl, rfl, rfl, trivial⟩
    · exact fun _ _ z => z.elim
  iterate 5 refine pw_go tk_X17_stateOf rfl rfl ?_
  refine pw_get tk_X17_stateOf rfl fl_X17_19 R.m rfl ?_
  refine pw_lsz tk_X17_stateOf rfl (R.l3) rfl rfl rfl ?_
  refine pw_cvp tk_X17_stateOf rfl ca_X17_isLicensed lk_X17_282 iv_X17_isLicensed sv_X17_isLicensed R.m rfl rfl (As := [.int (nI p), .int (nI d), .ref q, .int (nI (S 99 0 13))]) (rest := []) (n_isLic R F hp hd (Nat.le_refl _)) rfl rfl rfl rfl ?_
  rw [hlc]
  refine pw_ifeqB tk_X17_stateOf rfl (fun c => ?_) (fun c => ?_)
  · skip
    refine pw_go tk_X17_stateOf rfl rfl ?_
    exact pw_W ((k24 111 (by rw [c]; rfl))) ⟨rfl, rfl, rfl, rfl, trivial⟩
  · skip
    iterate 2 refine pw_go tk_X17_stateOf rfl rfl ?_
    exact pw_W ((k24 108 (by rw [c]; rfl))) ⟨rfl, rfl, rfl, rfl, trivial⟩
end REF6

