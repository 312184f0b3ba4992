/-! REFERENCE: the quick state of a day -/
section REF8
variable {G : fw_G} {n : Nat} {S D : fw_DB} {A : fw_AD} {M : fw_MP} {h : fw_H}
/-- the ends of recalls -/
def EN (S : fw_DB) (h : fw_H) (q : Nat) : Prop := ∃ e : Nat → Int32, h q = some (.inl (0, S 99 0 17, .inl e)) ∧ ∀ j, j < S 99 0 17 → e j = nI (min (FD S 17 j 5) 20000)
set_option maxRecDepth 20000 in
theorem n_fast {p d q q2 : Nat} {ad : Nat → Nat} (R : RD G n S D A M h) (F : FA S h q ad (S 99 0 13)) (N2 : EN S h q2) (hp : p < S 99 0 8) (hd : d < 20000) : PM G 4 0 0 mm_X17_fast [.ref (A 30 0), .int (nI p), .int (nI d), .ref q, .ref q2] h (fw_qp (nI (stS S p d)) h) := by
  refine pm_of (by decide +kernel) rfl rfl rfl ?_
  have hN := R.n7
  obtain ⟨e2, hq2, he2⟩ := N2
  rw [st_is]
  have k140 : PW G mm_X17_fast (fw_qp (nI (stB (anyK (kip S p d) (S 99 0 13)) (anyK (gop S p d) (S 99 0 17)) (licK S p d (S 99 0 13)) (sB (S 10 p) d))) h) 4 0 0 h 140 [(0, .ref (A 30 0)), (1, .int (nI p)), (2, .int (nI d)), (3, .ref q), (4, .ref q2), (5, .int (bI (anyK (kip S p d) (S 99 0 13)))), (6, .int (bI (anyK (gop S p d) (S 99 0 17))))] [] := by
    generalize anyK (kip S p d) (S 99 0 13) = bi
    generalize anyK (gop S p d) (S 99 0 17) = br
    have k211 : ∀ v L, v = stB bi br (licK S p d (S 99 0 13)) (sB (S 10 p) d) → PW G mm_X17_fast (fw_qp (nI (stB bi br (licK S p d (S 99 0 13)) (sB (S 10 p) d))) h) 4 0 0 h 211 L [.int (nI v)] := by
      intro v L hv
      rw [hv]
      exact pw_cretp (v := stB bi br (licK S p d (S 99 0 13)) (sB (S 10 p) d)) tk_X17_fast rfl rfl stB_lt
    have k172 : (sB (S 10 p) d && (bi || br)) = false → PW G mm_X17_fast (fw_qp (nI (stB bi br (licK S p d (S 99 0 13)) (sB (S 10 p) d))) h) 4 0 0 h 172 [(0, .ref (A 30 0)), (1, .int (nI p)), (2, .int (nI d)), (3, .ref q), (4, .ref q2), (5, .int (bI bi)), (6, .int (bI br))] [] := by
      intro hf
      have e : stB bi br (licK S p d (S 99 0 13)) (sB (S 10 p) d) = if bi = true then 112 else if br = true then 114 else if licK S p d (S 99 0 13) = true then 108 else 111 := by
        unfold stB
        rw [hf]
        rfl
      refine pw_go tk_X17_fast rfl rfl ?_
      refine pw_ifeqB tk_X17_fast rfl (fun c => ?_) (fun c => ?_)
      · skip
        rw [c, if_neg (by decide)] at e
        refine pw_go tk_X17_fast rfl rfl ?_
        refine pw_ifeqB tk_X17_fast rfl (fun c2 => ?_) (fun c2 => ?_)
        · skip
          rw [c2, if_neg (by decide)] at e
          iterate 5 refine pw_go tk_X17_fast rfl rfl ?_
          refine pw_alen tk_X17_fast rfl F.1 (by decide) ?_
          refine pw_cvp tk_X17_fast rfl ca_X17_isLicensed lk_X17_282 iv_X17_isLicensed sv_X17_isLicensed R.m rfl rfl (As := [.int (nI p), .int (nI d), .ref q, .int (nI (S 99 0 13))]) (rest := []) (n_isLic R F hp hd (Nat.le_refl _)) rfl rfl rfl rfl ?_
          refine pw_ifeqB tk_X17_fast rfl (fun c3 => ?_) (fun c3 => ?_)
          · skip
            refine pw_go tk_X17_fast rfl rfl ?_
            exact k211 111 _ (by rw [c, c2, e, c3]; rfl)
          · skip
            iterate 2 refine pw_go tk_X17_fast rfl rfl ?_
            exact k211 108 _ (by rw [c, c2, e, c3]; rfl)
        · skip
          rw [c2, if_pos rfl] at e
          iterate 2 refine pw_go tk_X17_fast rfl rfl ?_
          exact k211 114 _ (by rw [c, c2, e])
      · skip
        rw [c, if_pos rfl] at e
        iterate 2 refine pw_go tk_X17_fast rfl rfl ?_
        exact k211 112 _ (by rw [c, e])
    have k150 : (bi || br) = true → PW G mm_X17_fast (fw_qp (nI (stB bi br (licK S p d (S 99 0 13)) (sB (S 10 p) d))) h) 4 0 0 h 150 [(0, .ref (A 30 0)), (1, .int (nI p)), (2, .int (nI d)), (3, .ref q), (4, .ref q2), (5, .int (bI bi)), (6, .int (bI br))] [] := by
      intro hb
      refine pw_go tk_X17_fast rfl rfl ?_
      refine pw_get tk_X17_fast rfl fl_X17_16 R.m rfl ?_
      refine pw_go tk_X17_fast rfl rfl ?_
      refine pw_lget (k := p) tk_X17_fast rfl (R.l2) hp rfl rfl rfl rfl ?_
      refine pw_cast tk_X17_fast rfl (R.per hp) rfl cw_X17_112 ?_
      refine pw_get tk_X17_fast rfl fl_X17_197 (R.per hp) rfl ?_
      refine pw_go tk_X17_fast rfl rfl ?_
      refine pw_zaldN tk_X17_fast rfl (R.away hp) rfl (by omega) (by omega) ?_
      rw [mkR_b]
      refine pw_ifeqB tk_X17_fast rfl (fun c => ?_) (fun c => ?_)
      · exact k172 (by rw [c]; rfl)
      · skip
        refine pw_go tk_X17_fast rfl rfl ?_
        have e : stB bi br (licK S p d (S 99 0 13)) (sB (S 10 p) d) = 97 := by
          unfold stB
          rw [c, hb]
          rfl
        rw [e]
        exact pw_cretp (v := 97) tk_X17_fast rfl rfl (by decide)
    refine pw_go tk_X17_fast rfl rfl ?_
    refine pw_ifneB tk_X17_fast rfl (fun c => k150 (by rw [c]; rfl)) (fun c => ?_)
    refine pw_go tk_X17_fast rfl rfl ?_
    refine pw_ifeqB tk_X17_fast rfl (fun c2 => k172 (by rw [c, c2]; simp)) (fun c2 => k150 (by rw [c2]; simp))
  have loop2 : ∀ j k, j + k = S 99 0 17 → PW G mm_X17_fast (fw_qp (nI (stB (anyK (kip S p d) (S 99 0 13)) (anyK (gop S p d) (S 99 0 17)) (licK S p d (S 99 0 13)) (sB (S 10 p) d))) h) 4 0 0 h 67 [(0, .ref (A 30 0)), (1, .int (nI p)), (2, .int (nI d)), (3, .ref q), (4, .ref q2), (5, .int (bI (anyK (kip S p d) (S 99 0 13)))), (6, .int (bI (anyK (gop S p d) k))), (7, .int (nI k))] [] := by
    intro j
    induction j with
    | zero =>
      intro k hk
      have hk : k = S 99 0 17 := by omega
      subst hk
      iterate 2 refine pw_go tk_X17_fast rfl rfl ?_
      refine pw_alen tk_X17_fast rfl hq2 (by decide) ?_
      refine pw_icN (S 99 0 17) (S 99 0 17) tk_X17_fast rfl rfl rfl (by omega) (by omega) (fun _ => ?_) (fun c => absurd (show S 99 0 17 ≤ S 99 0 17 by omega) c)
      exact pw_W k140 ⟨rfl, rfl, rfl, rfl, rfl, rfl, rfl, trivial⟩
    | succ j ih =>
      intro k hk
      have hr : k < S 99 0 17 := by omega
      obtain ⟨i1, -, -, -, i0⟩ := icr R.1 hr
      have k132 : ∀ z, z = anyK (gop S p d) (k + 1) → PW G mm_X17_fast (fw_qp (nI (stB (anyK (kip S p d) (S 99 0 13)) (anyK (gop S p d) (S 99 0 17)) (licK S p d (S 99 0 13)) (sB (S 10 p) d))) h) 4 0 0 h 132 [(0, .ref (A 30 0)), (1, .int (nI p)), (2, .int (nI d)), (3, .ref q), (4, .ref q2), (5, .int (bI (anyK (kip S p d) (S 99 0 13)))), (6, .int (bI (anyK (gop S p d) k))), (7, .int (nI k))] [.int (bI z)] := by
        intro z hz
        subst hz
        iterate 2 refine pw_go tk_X17_fast rfl rfl ?_
        refine pw_M [(0, .ref (A 30 0)), (1, .int (nI p)), (2, .int (nI d)), (3, .ref q), (4, .ref q2), (5, .int (bI (anyK (kip S p d) (S 99 0 13)))), (6, .int (bI (anyK (gop S p d) (k + 1)))), (7, .int (nI (k + 1)))] ⟨rfl, rfl, rfl, rfl, rfl, rfl, rfl, congrArg (fun z => some (Value.int z)) (nI_1 k), trivial⟩ ?_
        refine pw_go tk_X17_fast rfl rfl ?_
        exact ih (k + 1) (by omega)
      have e : anyK (gop S p d) (k + 1) = (anyK (gop S p d) k || gop S p d k) := rfl
      have k131 : anyK (gop S p d) k = false → gop S p d k = false → PW G mm_X17_fast (fw_qp (nI (stB (anyK (kip S p d) (S 99 0 13)) (anyK (gop S p d) (S 99 0 17)) (licK S p d (S 99 0 13)) (sB (S 10 p) d))) h) 4 0 0 h 131 [(0, .ref (A 30 0)), (1, .int (nI p)), (2, .int (nI d)), (3, .ref q), (4, .ref q2), (5, .int (bI (anyK (kip S p d) (S 99 0 13)))), (6, .int (bI (anyK (gop S p d) k))), (7, .int (nI k))] [] := by
        intro a1 a2
        refine pw_go tk_X17_fast rfl rfl ?_
        exact k132 false (by rw [e, a1, a2]; rfl)
      have k127 : gop S p d k = true ∨ anyK (gop S p d) k = true → PW G mm_X17_fast (fw_qp (nI (stB (anyK (kip S p d) (S 99 0 13)) (anyK (gop S p d) (S 99 0 17)) (licK S p d (S 99 0 13)) (sB (S 10 p) d))) h) 4 0 0 h 127 [(0, .ref (A 30 0)), (1, .int (nI p)), (2, .int (nI d)), (3, .ref q), (4, .ref q2), (5, .int (bI (anyK (kip S p d) (S 99 0 13)))), (6, .int (bI (anyK (gop S p d) k))), (7, .int (nI k))] [] := by
        intro a1
        iterate 2 refine pw_go tk_X17_fast rfl rfl ?_
        exact k132 true (by rw [e]; rcases a1 with z | z <;> rw [z] <;> simp)
      have ev : gop S p d k = (decide (S 17 k 0 = p) && (decide (S 17 k 1 ≤ d) && decide (d < FD S 17 k 5))) := rfl
      have hm : min (FD S 17 k 5) 20000 ≤ 20000 ∧ (d < min (FD S 17 k 5) 20000 ↔ d < FD S 17 k 5) := ⟨Nat.min_le_right _ _, ⟨fun z => Nat.lt_of_lt_of_le z (Nat.min_le_left _ _), fun z => Nat.lt_min.mpr ⟨z, hd⟩⟩⟩
      iterate 2 refine pw_go tk_X17_fast rfl rfl ?_
      refine pw_alen tk_X17_fast rfl hq2 (by decide) ?_
      refine pw_icN (k) (S 99 0 17) tk_X17_fast rfl rfl rfl (by omega) (by omega) (fun c => absurd (show S 99 0 17 ≤ k from c) (by omega)) (fun _ => ?_)
      refine pw_go tk_X17_fast rfl rfl ?_
      refine pw_ifneB tk_X17_fast rfl (fun c => k127 (Or.inr c)) (fun c => ?_)
      refine pw_go tk_X17_fast rfl rfl ?_
      refine pw_get tk_X17_fast rfl fl_X17_25 R.m rfl ?_
      refine pw_go tk_X17_fast rfl rfl ?_
      refine pw_lget (k := k) tk_X17_fast rfl (R.l5) hr rfl rfl rfl rfl ?_
      refine pw_cast tk_X17_fast rfl (R.rec hr) rfl cw_X17_273 ?_
      refine pw_get tk_X17_fast rfl fl_X17_272 (R.rec hr) rfl ?_
      refine pw_go tk_X17_fast rfl rfl ?_
      refine pw_icN (S 17 k 0) (p) tk_X17_fast rfl rfl rfl (by omega) (by omega) (fun c2 => ?_) (fun c2 => ?_)
      · have c2 : S 17 k 0 ≠ p := c2
        exact k131 c (by rw [ev, decide_eq_false c2]; rfl)
      have c2 : S 17 k 0 = p := Decidable.not_not.mp c2
      iterate 2 refine pw_go tk_X17_fast rfl rfl ?_
      refine pw_get tk_X17_fast rfl fl_X17_25 R.m rfl ?_
      refine pw_go tk_X17_fast rfl rfl ?_
      refine pw_lget (k := k) tk_X17_fast rfl (R.l5) hr rfl rfl rfl rfl ?_
      refine pw_cast tk_X17_fast rfl (R.rec hr) rfl cw_X17_273 ?_
      refine pw_get tk_X17_fast rfl fl_X17_275 (R.rec hr) rfl ?_
      refine pw_icN (d) (S 17 k 1) tk_X17_fast rfl rfl rfl (by omega) (by omega) (fun c3 => ?_) (fun c3 => ?_)
      · have c3 : d < S 17 k 1 := c3
        exact k131 c (by rw [ev, decide_eq_false (p := S 17 k 1 ≤ d) (by omega)]; simp)
      have c3 : ¬ d < S 17 k 1 := c3
      iterate 3 refine pw_go tk_X17_fast rfl rfl ?_
      refine pw_ialdN tk_X17_fast rfl hq2 rfl (by omega) (by omega) ?_
      rw [he2 k hr]
      obtain ⟨hm1, hm2⟩ := hm
      generalize min (FD S 17 k 5) 20000 = m5 at *
      refine pw_icN (d) (m5) tk_X17_fast rfl rfl rfl (by omega) (by omega) (fun c4 => ?_) (fun c4 => ?_)
      · have c4 : m5 ≤ d := c4
        exact k131 c (by rw [ev, decide_eq_false (p := d < FD S 17 k 5) (fun z => by have := hm2.mpr z; omega)]; simp)
      · have c4 : ¬ m5 ≤ d := c4
        exact k127 (Or.inl (by rw [ev, decide_eq_true (p := d < FD S 17 k 5) (hm2.mp (by omega)), decide_eq_true c2, decide_eq_true (p := S 17 k 1 ≤ d) (by omega)]; rfl))
  have loop1 : ∀ j k, j + k = S 99 0 13 → PW G mm_X17_fast (fw_qp (nI (stB (anyK (kip S p d) (S 99 0 13)) (anyK (gop S p d) (S 99 0 17)) (licK S p d (S 99 0 13)) (sB (S 10 p) d))) h) 4 0 0 h 9 [(0, .ref (A 30 0)), (1, .int (nI p)), (2, .int (nI d)), (3, .ref q), (4, .ref q2), (5, .int (bI (anyK (kip S p d) k))), (6, .int 0), (7, .int (nI k))] [] := by
    intro j
    induction j with
    | zero =>
      intro k hk
      have hk : k = S 99 0 13 := by omega
      subst hk
      iterate 2 refine pw_go tk_X17_fast rfl rfl ?_
      refine pw_alen tk_X17_fast rfl F.1 (by decide) ?_
      refine pw_icN (S 99 0 13) (S 99 0 13) tk_X17_fast rfl rfl rfl (by omega) (by omega) (fun _ => ?_) (fun c => absurd (show S 99 0 13 ≤ S 99 0 13 by omega) c)
      iterate 2 refine pw_go tk_X17_fast rfl rfl ?_
      exact pw_W (loop2 (S 99 0 17) 0 (by omega)) ⟨rfl, rfl, rfl, rfl, rfl, rfl, rfl, rfl, trivial⟩
    | succ j ih =>
      intro k hk
      have hw : k < S 99 0 13 := by omega
      obtain ⟨B, -, -, -, h1⟩ := icw R.1 hw
      have k56 : ∀ z, z = anyK (kip S p d) (k + 1) → PW G mm_X17_fast (fw_qp (nI (stB (anyK (kip S p d) (S 99 0 13)) (anyK (gop S p d) (S 99 0 17)) (licK S p d (S 99 0 13)) (sB (S 10 p) d))) h) 4 0 0 h 56 [(0, .ref (A 30 0)), (1, .int (nI p)), (2, .int (nI d)), (3, .ref q), (4, .ref q2), (5, .int (bI (anyK (kip S p d) k))), (6, .int 0), (7, .int (nI k))] [.int (bI z)] := by
        intro z hz
        subst hz
        iterate 2 refine pw_go tk_X17_fast rfl rfl ?_
        refine pw_M [(0, .ref (A 30 0)), (1, .int (nI p)), (2, .int (nI d)), (3, .ref q), (4, .ref q2), (5, .int (bI (anyK (kip S p d) (k + 1)))), (6, .int 0), (7, .int (nI (k + 1)))] ⟨rfl, rfl, rfl, rfl, rfl, rfl, rfl, congrArg (fun z => some (Value.int z)) (nI_1 k), trivial⟩ ?_
        refine pw_go tk_X17_fast rfl rfl ?_
        exact ih (k + 1) (by omega)
      have e : anyK (kip S p d) (k + 1) = (anyK (kip S p d) k || kip S p d k) := rfl
      iterate 2 refine pw_go tk_X17_fast rfl rfl ?_
      refine pw_alen tk_X17_fast rfl F.1 (by decide) ?_
      refine pw_icN (k) (S 99 0 13) tk_X17_fast rfl rfl rfl (by omega) (by omega) (fun c => absurd (show S 99 0 13 ≤ k from c) (by omega)) (fun _ => ?_)
      refine pw_go tk_X17_fast rfl rfl ?_
      refine pw_ifneB tk_X17_fast rfl (fun c => ?_) (fun c => ?_)
      · skip
        iterate 2 refine pw_go tk_X17_fast rfl rfl ?_
        exact k56 true (by rw [e, c]; rfl)
      refine pw_go tk_X17_fast rfl rfl ?_
      refine pw_get tk_X17_fast rfl fl_X17_19 R.m rfl ?_
      refine pw_go tk_X17_fast rfl rfl ?_
      refine pw_lget (k := k) tk_X17_fast rfl (R.l3) hw rfl rfl rfl rfl ?_
      refine pw_cast tk_X17_fast rfl (R.war hw) rfl cw_X17_88 ?_
      refine pw_get tk_X17_fast rfl fl_X17_128 (R.war hw) rfl ?_
      refine pw_go tk_X17_fast rfl rfl ?_
      refine pw_icN (S 13 k 1) (p) tk_X17_fast rfl rfl rfl (by omega) (by omega) (fun c2 => ?_) (fun c2 => ?_)
      · have c2 : S 13 k 1 ≠ p := c2
        refine pw_go tk_X17_fast rfl rfl ?_
        exact k56 false (by rw [e, c, show kip S p d k = false by unfold kip; rw [decide_eq_false c2]; rfl]; rfl)
      have c2 : S 13 k 1 = p := Decidable.not_not.mp c2
      iterate 4 refine pw_go tk_X17_fast rfl rfl ?_
      refine pw_cvp tk_X17_fast rfl ca_X17_isIn lk_X17_290 iv_X17_isIn sv_X17_isIn R.m rfl rfl (As := [.int (nI k), .int (nI d), .ref q]) (rest := []) (n_isIn R F hw hd) rfl rfl rfl rfl ?_
      refine pw_ifeqB tk_X17_fast rfl (fun c3 => ?_) (fun c3 => ?_)
      · skip
        refine pw_go tk_X17_fast rfl rfl ?_
        exact k56 false (by rw [e, c, show kip S p d k = false by unfold kip; rw [c3, Bool.and_false]]; rfl)
      · skip
        iterate 2 refine pw_go tk_X17_fast rfl rfl ?_
        exact k56 true (by rw [e, show kip S p d k = true by unfold kip; rw [c3, decide_eq_true c2]; rfl, Bool.or_true])
  iterate 6 refine pw_go tk_X17_fast rfl rfl ?_
  exact pw_W (loop1 (S 99 0 13) 0 (by omega)) ⟨rfl, rfl, rfl, rfl, rfl, rfl, rfl, rfl, trivial⟩
end REF8

