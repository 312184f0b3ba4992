/-! REFERENCE: what is told of added days, of suspended warrants, of recalls -/
theorem IR_54 {S D : fw_DB} {a : Nat} {g : Nat → Nat} (I : IR S D) : IR (dp S 16 a g) (dp D 54 a (adR g)) := by
  obtain ⟨-, -, -, -, a1, a2, a3, a4, a5⟩ := id I
  refine IR_put I (dp_k (by decide)) (fun k hk => funext fun j => dp_k (by omega)) (fun l hl => ?_) (fun j hj => ?_) (fun j hj => ?_) (fun r hr => ?_) (fun p hp => ?_)
  · rw [dp_k (by decide), dp_k (by decide)]
    exact a1 l hl
  · rw [dp_k (by decide), dp_k (by decide), dp_k (by decide)]
    exact a2 j hj
  · by_cases c : j = a
    · rw [c, dp_s, dp_s]
    · rw [dp_i c, dp_i c]
      exact a3 j hj
  · rw [dp_k (by decide), dp_k (by decide)]
    exact a4 r hr
  · rw [dp_k (by decide), dp_k (by decide), dp_k (by decide), dp_k (by decide), dp_k (by decide)]
    exact a5 p hp
theorem IR_55 {S D : fw_DB} {a : Nat} {g : Nat → Nat} (I : IR S D) : IR (dp S 17 a g) (dp D 55 a (rcR g)) := by
  obtain ⟨-, -, -, -, a1, a2, a3, a4, a5⟩ := id I
  refine IR_put I (dp_k (by decide)) (fun k hk => funext fun j => dp_k (by omega)) (fun l hl => ?_) (fun j hj => ?_) (fun j hj => ?_) (fun r hr => ?_) (fun p hp => ?_)
  · rw [dp_k (by decide), dp_k (by decide)]
    exact a1 l hl
  · rw [dp_k (by decide), dp_k (by decide), dp_k (by decide)]
    exact a2 j hj
  · rw [dp_k (by decide), dp_k (by decide)]
    exact a3 j hj
  · by_cases c : r = a
    · rw [c, dp_s, dp_s]
    · rw [dp_i c, dp_i c]
      exact a4 r hr
  · rw [dp_k (by decide), dp_k (by decide), dp_k (by decide), dp_k (by decide), dp_k (by decide)]
    exact a5 p hp
theorem wtn_app {D : fw_DB} {w : Nat} : ∀ {l : List Nat}, wtn D (l ++ [w]) = wtn D l + (if wwt (D 13 w) = true then 1 else 0)
  | [] => by
    show (if wwt (D 13 w) = true then 1 else 0) + 0 = 0 + _
    omega
  | v :: l => by
    show (if wwt (D 13 v) = true then 1 else 0) + wtn D (l ++ [w]) = (if wwt (D 13 v) = true then 1 else 0) + wtn D l + _
    rw [wtn_app (l := l)]
    omega
def wtN (S : fw_DB) (p k : Nat) : Nat := wtn S ((List.range k).filter (fun w => decide (S 13 w 1 = p)))
theorem wtN_s {S : fw_DB} {p k : Nat} : wtN S p (k + 1) = wtN S p k + (if S 13 k 1 = p ∧ wwt (S 13 k) = true then 1 else 0) := by
  unfold wtN
  rw [List.range_succ, List.filter_append]
  by_cases c : S 13 k 1 = p
  · rw [List.filter_cons, if_pos (by simpa using c), List.filter_nil, wtn_app]
    by_cases c2 : wwt (S 13 k) = true
    · rw [if_pos c2, if_pos ⟨c, c2⟩]
    · rw [if_neg c2, if_neg (fun z => c2 z.2)]
  · rw [List.filter_cons, if_neg (by simpa using c), List.filter_nil, List.append_nil, if_neg (fun z => c z.1)]
    rfl
def rlN (S : fw_DB) (p k : Nat) : List Nat := (List.range k).filter (fun r => decide (S 17 r 0 = p))
theorem rlN_s {S : fw_DB} {p k : Nat} : (rlN S p (k + 1)).length = (rlN S p k).length + (if S 17 k 0 = p then 1 else 0) := by
  unfold rlN
  rw [List.range_succ, List.filter_append, List.length_append]
  by_cases c : S 17 k 0 = p
  · rw [List.filter_cons, if_pos (by simpa using c), List.filter_nil, if_pos c]
    rfl
  · rw [List.filter_cons, if_neg (by simpa using c), List.filter_nil, if_neg c]
    rfl
theorem rc_app {F : fw_DB} {d w : Nat} : ∀ {l : List Nat}, rc F d (l ++ [w]) = if 0 < rc F d l then rc F d l else if F 17 w 1 ≤ d ∧ d < F 17 w 5 then w + 1 else 0
  | [] => by
    show (if F 17 w 1 ≤ d ∧ d < F 17 w 5 then w + 1 else 0) = _
    rw [if_neg (show ¬ 0 < rc F d [] from Nat.lt_irrefl 0)]
  | v :: l => by
    show (if F 17 v 1 ≤ d ∧ d < F 17 v 5 then v + 1 else rc F d (l ++ [w])) = _
    have e : rc F d (v :: l) = if F 17 v 1 ≤ d ∧ d < F 17 v 5 then v + 1 else rc F d l := rfl
    rw [e, rc_app (l := l)]
    by_cases c : F 17 v 1 ≤ d ∧ d < F 17 v 5
    · rw [if_pos c, if_pos c, if_pos (Nat.succ_pos v)]
    · rw [if_neg c, if_neg c]
def rcN (S : fw_DB) (p d k : Nat) : Nat := rc (FD S) d (rlN S p k)
theorem rcN_s {S : fw_DB} {p d k : Nat} : rcN S p d (k + 1) = if 0 < rcN S p d k then rcN S p d k else if gop S p d k = true then k + 1 else 0 := by
  unfold rcN rlN gop gO
  rw [List.range_succ, List.filter_append]
  by_cases c : S 17 k 0 = p
  · rw [List.filter_cons, if_pos (by simpa using c), List.filter_nil, rc_app, f17 (by decide)]
    simp [c]
  · rw [List.filter_cons, if_neg (by simpa using c), List.filter_nil, List.append_nil]
    simp only [c, decide_false, Bool.false_and]
    split
    · rfl
    · simp
      omega
theorem rcN_up {S : fw_DB} {p d k : Nat} (h : 0 < rcN S p d k) : ∀ {m}, k ≤ m → rcN S p d m = rcN S p d k
  | 0, hm => by
    have : k = 0 := by omega
    subst this
    rfl
  | m + 1, hm => by
    by_cases c : k = m + 1
    · rw [c]
    · have e := rcN_up h (m := m) (by omega)
      rw [rcN_s, if_pos (by omega), e]
section WRB
variable {G : fw_G} {n : Nat} {S D : fw_DB} {A : fw_AD} {M : fw_MP} {h : fw_H}
set_option maxRecDepth 20000 in
theorem m_giveBack {x y : Int32} (R : RD G n S D A M h) : PM G 4 0 0 mm_X17_giveBack [.ref (A 30 0), .int x, .int y] h (fw_qI (fun r h' => wdn S (gbS S x.toNatClampNeg y.toNatClampNeg) D A (gbK S x y) (nI (S 16 x.toNatClampNeg 1 - y.toNatClampNeg)) r h') fw_noX) := by
  refine pm_of (by decide +kernel) rfl rfl rfl ?_
  have hN := R.n7
  iterate 3 refine pw_go tk_X17_giveBack rfl rfl ?_
  refine pw_get tk_X17_giveBack rfl fl_X17_22 R.m rfl ?_
  refine pw_lsz tk_X17_giveBack rfl (R.l4) rfl rfl rfl ?_
  refine pw_go tk_X17_giveBack rfl rfl ?_
  refine pw_go tk_X17_giveBack rfl rfl ?_
  refine pw_csp tk_X17_giveBack rfl ca_X17_in lk_X17_52 sx_X17_in (As := [.int x, .int 0, .int (nI (S 99 0 16) - 1)]) (rest := []) (n_in) rfl rfl rfl rfl ?_
  refine pw_i (x' := bI (knI x (S 99 0 16))) rfl ?_
  cases hk : knI x (S 99 0 16) with
  | false =>
    have eK : gbK S x y = 1 := if_pos hk
    refine pw_ifneB tk_X17_giveBack rfl (fun c => absurd c (by decide)) (fun _ => ?_)
    iterate 2 refine pw_go tk_X17_giveBack rfl rfl ?_
    refine pw_cv tk_X17_giveBack rfl ca_X17_raises lk_X17_118 iv_X17_raises sv_X17_raises R.m rfl rfl (As := [.int (nI 1)]) (rest := [])  (n_raises (t := 1) R) rfl rfl rfl (Nat.le_of_ble_eq_true rfl) (Nat.le_of_eq (Nat.zero_add _)) (Nat.le_of_eq (Nat.zero_add _)) ?_ ?_
    · rintro _ H ⟨_, rfl, rfl, e9⟩
      rw [e9]
      exact pw_iret tk_X17_giveBack rfl rfl rfl ⟨_, rfl, wdn_1 eK (by decide) (rdn_of (R.t 1))⟩
    · exact fun _ _ z => z.elim
  | true =>
    obtain ⟨a, ha, rfl⟩ := knI_to hk (by omega)
    rw [nI_tn (by omega)]
    have ab := R.1.1.1.2.2 a ha
    have a200 := ab.2
    have eK : gbK S (nI a) y = if inI y 1 (nI (S 16 a 1)) = false then 2 else 0 := by
      unfold gbK
      rw [hk, if_neg (by decide), nI_tn (by omega)]
    have hb := R.add ha
    refine pw_ifneB tk_X17_giveBack rfl (fun _ => ?_) (fun c => absurd c (by decide))
    refine pw_go tk_X17_giveBack rfl rfl ?_
    refine pw_get tk_X17_giveBack rfl fl_X17_22 R.m rfl ?_
    refine pw_go tk_X17_giveBack rfl rfl ?_
    refine pw_lget (k := a) tk_X17_giveBack rfl (R.l4) ha rfl rfl rfl rfl ?_
    refine pw_cast tk_X17_giveBack rfl (hb) rfl cw_X17_185 ?_
    iterate 4 refine pw_go tk_X17_giveBack rfl rfl ?_
    refine pw_get tk_X17_giveBack rfl fl_X17_190 hb rfl ?_
    refine pw_csp tk_X17_giveBack rfl ca_X17_in lk_X17_52 sx_X17_in (As := [.int y, .int 1, .int (nI (S 16 a 1))]) (rest := []) (n_in) rfl rfl rfl rfl ?_
    cases hy : inI y 1 (nI (S 16 a 1)) with
    | false =>
      rw [hy, if_pos rfl] at eK
      refine pw_ifneB tk_X17_giveBack rfl (fun c => absurd c (by decide)) (fun _ => ?_)
      iterate 2 refine pw_go tk_X17_giveBack rfl rfl ?_
      refine pw_cv tk_X17_giveBack rfl ca_X17_raises lk_X17_118 iv_X17_raises sv_X17_raises R.m rfl rfl (As := [.int (nI 2)]) (rest := [])  (n_raises (t := 2) R) rfl rfl rfl (Nat.le_of_ble_eq_true rfl) (Nat.le_of_eq (Nat.zero_add _)) (Nat.le_of_eq (Nat.zero_add _)) ?_ ?_
      · rintro _ H ⟨_, rfl, rfl, e9⟩
        rw [e9]
        exact pw_iret tk_X17_giveBack rfl rfl rfl ⟨_, rfl, wdn_1 eK (by decide) (rdn_of (R.t 2))⟩
      · exact fun _ _ z => z.elim
    | true =>
      rw [hy, if_neg (by decide)] at eK
      obtain ⟨d, rfl, d1, d2⟩ := inI_N (a := 1) hy (by omega) (by omega)
      rw [nI_tn (by omega)]
      have R1 := R.t 0
      refine pw_ifneB tk_X17_giveBack rfl (fun _ => ?_) (fun c => absurd c (by decide))
      iterate 2 refine pw_go tk_X17_giveBack rfl rfl ?_
      refine pw_put tk_X17_giveBack rfl fp_X17_28 R.m rfl rfl (Nat.le_of_ble_eq_true rfl) ?_
      refine pw_h (h' := tU A D h 0) rfl ?_
      generalize tU A D h 0 = h1 at *
      have hb := R1.add ha
      iterate 2 refine pw_go tk_X17_giveBack rfl rfl ?_
      refine pw_get tk_X17_giveBack rfl fl_X17_190 hb rfl ?_
      refine pw_go tk_X17_giveBack rfl rfl ?_
      refine pw_subN (S 16 a 1) (d) tk_X17_giveBack rfl rfl rfl (by omega) ?_
      refine pw_put tk_X17_giveBack rfl fp_X17_190 hb rfl rfl (Nat.le_of_ble_eq_true rfl) ?_
      refine pw_h (h' := fw_up h1 (A 54 a) (kRow A 54 a (adR (va_up (S 16 a) 1 (S 16 a 1 - d))))) rfl ?_
      refine pw_go tk_X17_giveBack rfl rfl ?_
      refine pw_get tk_X17_giveBack rfl fl_X17_190 fw_up_s rfl ?_
      exact pw_iret tk_X17_giveBack rfl rfl rfl ⟨_, rfl, wdn_0 eK (rdn_put R1 (by rw [R1.N54]; exact ha) (by decide) trivial (IR_54 R1.2.1))⟩
set_option maxRecDepth 20000 in
theorem m_activate {x y : Int32} (R : RD G n S D A M h) : PM G 4 1 4 mm_X17_activate [.ref (A 30 0), .int x, .int y] h (fw_qI (fun r h' => wdn S (acS S x.toNatClampNeg y.toNatClampNeg) D A (acK S x y) (nI (wtn (acS S x.toNatClampNeg y.toNatClampNeg) (wlS S (S 13 x.toNatClampNeg 1)))) r h') fw_noX) := by
  refine pm_of (by decide +kernel) rfl rfl rfl ?_
  have hN := R.n7
  iterate 2 refine pw_go tk_X17_activate rfl rfl ?_
  refine pw_cv tk_X17_activate rfl ca_X17_noWarrant lk_X17_101 iv_X17_noWarrant sv_X17_noWarrant R.m rfl rfl (As := [.int x]) (rest := []) (kc' := 1) (ks' := 4) (n_noWarrant R) rfl rfl rfl (Nat.le_of_ble_eq_true rfl) (show 0 + 1 ≤ 1 by omega) (show 0 + 4 ≤ 4 by omega) ?_ ?_
  · rintro _ H ⟨_, rfl, rfl, e9⟩
    rw [e9]
    cases hk : knI x (S 99 0 13) with
    | false =>
      have e2 : nwK S x = 1 := by unfold nwK; rw [hk]; rfl
      have eK : acK S x y = 1 := if_pos hk
      rw [e2]
      refine pw_ifeqB tk_X17_activate rfl (fun c => absurd c (by decide)) (fun _ => ?_)
      refine pw_go tk_X17_activate rfl rfl ?_
      exact pw_iret tk_X17_activate rfl rfl rfl ⟨_, rfl, wdn_1 eK (by decide) (rdn_of (R.t 1))⟩
    | true =>
      obtain ⟨w, hw, rfl⟩ := knI_to hk (by omega)
      have e2 : nwK S (nI w) = 0 := by unfold nwK; rw [hk]; rfl
      rw [e2, nI_tn (by omega)]
      have eK : acK S (nI w) y = if inI y (nI (S 13 w 4)) (nI 19999) = false then 2 else if wwt (S 13 w) = false then 3 else 0 := by
        unfold acK
        rw [hk, if_neg (by decide), nI_tn (by omega)]
      have R1 := R.t 0
      generalize tU A D h 0 = h1 at *
      obtain ⟨B, -, -, -, hpr⟩ := icw R.1 hw
      obtain ⟨b2, b3, b4, b9, b10, b11, -⟩ := B
      have hb := R1.war hw
      obtain ⟨Q, hQ⟩ : ∃ Q, Q = (fw_qI (fun r h' => wdn S (acS S w y.toNatClampNeg) D A (acK S (nI w) y) (nI (wtn (acS S w y.toNatClampNeg) (wlS S (S 13 w 1)))) r h') fw_noX) := ⟨_, rfl⟩
      rw [← hQ]
      have k63 : ∀ t, t ≠ 0 → t < 10 → acK S (nI w) y = t → ∀ L, fw_sL L [(0, .ref (A 30 0))] → PW G mm_X17_activate Q 4 1 4 h1 63 L [.int (nI t), .ref (A 30 0)] := by
        intro t t0 t10 e L hL
        refine pw_M _ hL ?_
        refine pw_put tk_X17_activate rfl fp_X17_28 R1.m rfl rfl (Nat.le_of_ble_eq_true rfl) ?_
        refine pw_h (h' := tU A (sT D 0) h1 t) rfl ?_
        have R3 := R1.tt rfl t
        refine pw_go tk_X17_activate rfl rfl ?_
        refine pw_get tk_X17_activate rfl fl_X17_28 R3.m rfl ?_
        refine pw_ifN (t) tk_X17_activate rfl rfl (by omega) (fun c => absurd (show t ≤ 0 from c) (by omega)) (fun _ => ?_)
        refine pw_go tk_X17_activate rfl rfl ?_
        rw [hQ]
        exact pw_iret tk_X17_activate rfl rfl rfl ⟨_, rfl, wdn_1 e t0 (rdn_of R3)⟩
      refine pw_ifeqB tk_X17_activate rfl (fun _ => ?_) (fun c => absurd c (by decide))
      refine pw_go tk_X17_activate rfl rfl ?_
      refine pw_get tk_X17_activate rfl fl_X17_19 R1.m rfl ?_
      refine pw_go tk_X17_activate rfl rfl ?_
      refine pw_lget (k := w) tk_X17_activate rfl (R1.l3) hw rfl rfl rfl rfl ?_
      refine pw_cast tk_X17_activate rfl (hb) rfl cw_X17_88 ?_
      iterate 4 refine pw_go tk_X17_activate rfl rfl ?_
      refine pw_get tk_X17_activate rfl fl_X17_92 hb rfl ?_
      refine pw_go tk_X17_activate rfl rfl ?_
      refine pw_csp tk_X17_activate rfl ca_X17_in lk_X17_52 sx_X17_in (As := [.int y, .int (nI (S 13 w 4)), .int (nI 19999)]) (rest := [.ref (A 30 0)]) (n_in) rfl rfl rfl rfl ?_
      cases hy : inI y (nI (S 13 w 4)) (nI 19999) with
      | false =>
        rw [hy, if_pos rfl] at eK
        refine pw_ifneB tk_X17_activate rfl (fun c => absurd c (by decide)) (fun _ => ?_)
        iterate 2 refine pw_go tk_X17_activate rfl rfl ?_
        exact k63 2 (by decide) (by decide) eK _ ⟨rfl, trivial⟩
      | true =>
        rw [hy, if_neg (by decide)] at eK
        obtain ⟨d, rfl, d1, d2⟩ := inI_N hy (by omega) (by omega)
        rw [nI_tn (by omega)] at hQ
        refine pw_ifneB tk_X17_activate rfl (fun _ => ?_) (fun c => absurd c (by decide))
        refine pw_go tk_X17_activate rfl rfl ?_
        refine pw_get tk_X17_activate rfl fl_X17_152 hb rfl ?_
        refine pw_go tk_X17_activate rfl rfl ?_
        have k58 : wwt (S 13 w) = false → ∀ L, fw_sL L [(0, .ref (A 30 0))] → PW G mm_X17_activate Q 4 1 4 h1 58 L [.ref (A 30 0)] := by
          intro e L hL
          refine pw_M _ hL ?_
          iterate 2 refine pw_go tk_X17_activate rfl rfl ?_
          exact k63 3 (by decide) (by decide) (by rw [eK, if_pos e]) _ ⟨rfl, trivial⟩
        refine pw_icN (S 13 w 2) (115) tk_X17_activate rfl rfl rfl (by omega) (by omega) (fun c => ?_) (fun c => ?_)
        · have c : S 13 w 2 ≠ 115 := c
          exact k58 (by unfold wwt; rw [decide_eq_false c]; rfl) _ ⟨rfl, trivial⟩
        have c : S 13 w 2 = 115 := Decidable.not_not.mp c
        refine pw_go tk_X17_activate rfl rfl ?_
        refine pw_get tk_X17_activate rfl fl_X17_155 hb rfl ?_
        refine pw_go tk_X17_activate rfl rfl ?_
        refine pw_br tk_X17_activate rfl rfl (fun c2 => ?_) (fun c2 => ?_)
        skip
        · have c2 : S 13 w 9 = 0 := (nP_0 (by omega)).mp c2
          rw [if_neg (by unfold wwt; rw [decide_eq_true c, decide_eq_true c2]; decide)] at eK
          refine pw_go tk_X17_activate rfl rfl ?_
          refine pw_put tk_X17_activate rfl fp_X17_28 R1.m rfl rfl (Nat.le_of_ble_eq_true rfl) ?_
          refine pw_h (h' := tU A (sT D 0) h1 0) rfl ?_
          have R3 := R1.tt rfl 0
          generalize tU A (sT D 0) h1 0 = h3 at *
          have hb3 := R3.war hw
          refine pw_go tk_X17_activate rfl rfl ?_
          refine pw_get tk_X17_activate rfl fl_X17_28 R3.m rfl ?_
          refine pw_ifN (0) tk_X17_activate rfl rfl (by omega) (fun _ => ?_) (fun c => absurd (show 0 ≤ 0 by omega) c)
          iterate 2 refine pw_go tk_X17_activate rfl rfl ?_
          refine pw_i (x' := nP (d + 1)) ((nP_p (Nat.succ_pos d)).symm) ?_
          refine pw_put tk_X17_activate rfl fp_X17_155 hb3 rfl rfl (Nat.le_of_ble_eq_true rfl) ?_
          refine pw_h (h' := fw_up h3 (A 53 w) (kRow A 53 w (waR (va_up (S 13 w) 9 (d + 1)) (S 15 w)))) rfl ?_
          have hi : w < sT D 0 99 0 53 := by rw [R3.N53]; exact hw
          have R4 : RE G (acS S w d) (dp (sT D 0) 53 w (waR (va_up (S 13 w) 9 (d + 1)) (S 15 w))) A M (fw_up h3 (A 53 w) (kRow A 53 w (waR (va_up (S 13 w) 9 (d + 1)) (S 15 w)))) := RE_put R3 hi (by decide) trivial (IR_53a R3.2.1)
          have fin : rdn (acS S w d) D A 0 (fw_up h3 (A 53 w) (kRow A 53 w (waR (va_up (S 13 w) 9 (d + 1)) (S 15 w)))) := rdn_put R3 hi (by decide) trivial (IR_53a R3.2.1)
          generalize fw_up h3 (A 53 w) (kRow A 53 w (waR (va_up (S 13 w) 9 (d + 1)) (S 15 w))) = h4 at *
          have e1 : ∀ k, acS S w d 13 k 1 = S 13 k 1 := fun k => by
            unfold acS
            by_cases z : k = w
            · rw [z, dp_s]
              rfl
            · rw [dp_i z]
          have e2 : ∀ k, acS S w d 13 k 2 = S 13 k 2 := fun k => by
            unfold acS
            by_cases z : k = w
            · rw [z, dp_s]
              rfl
            · rw [dp_i z]
          have e99 : acS S w d 99 0 = S 99 0 := dp_k (by decide)
          have eb9 : ∀ k, k < S 99 0 13 → acS S w d 13 k 9 ≤ 20000 ∧ S 13 k 2 < 1000 ∧ S 13 k 1 < 100 := fun k hk => by
            have B := (icw R.1 hk).1
            have B1 := (icw R.1 hk).2.2.2.2
            refine ⟨?_, B.1, by omega⟩
            unfold acS
            by_cases z : k = w
            · rw [z, dp_s]
              show d + 1 ≤ 20000
              omega
            · rw [dp_i z]
              exact B.2.2.2.1
          have ew : wtn (acS S w d) (wlS S (S 13 w 1)) = wtN (acS S w d) (S 13 w 1) (S 99 0 13) := by
            unfold wtN wlS
            congr 2
            funext k
            rw [e1]
          rw [ew] at hQ
          have l3 := R4.l3
          rw [e99] at l3
          have hb4 := R4.war (w := w) (by rw [e99]; exact hw)
          rw [e1] at hb4
          have loop : ∀ it, h4 it = none → ∀ j k, j + k = S 99 0 13 → ∀ lst L, fw_sL L [(3, .ref (A 53 w)), (4, .int (nI (wtN (acS S w d) (S 13 w 1) k))), (5, .ref it)] → PW G mm_X17_activate Q 4 0 0 (fw_up h4 it (itO (A 33 0) (S 99 0 13) k lst)) 92 L [] := by
            intro it hit j
            induction j with
            | zero =>
              intro k hk lst L hL
              refine pw_M _ hL ?_
              have hk : k = S 99 0 13 := by omega
              subst hk
              refine pw_go tk_X17_activate rfl rfl ?_
              refine pw_ifh tk_X17_activate rfl (fw_up_s) (j_hasNext (l3.up hit) fw_up_s (by omega)) (rest := []) rfl rfl rfl rfl ?_
              rw [decide_eq_false (fun z => z rfl)]
              refine pw_forget (up_sub hit) ?_
              refine pw_ifeqB tk_X17_activate rfl (fun _ => ?_) (fun c => absurd c (by decide))
              refine pw_go tk_X17_activate rfl rfl ?_
              rw [hQ]
              exact pw_iret tk_X17_activate rfl rfl rfl ⟨_, rfl, wdn_0 eK fin⟩
            | succ j ih =>
              intro k hk lst L hL
              refine pw_M _ hL ?_
              have hr : k < S 99 0 13 := by omega
              have hr2 : k < acS S w d 99 0 13 := by rw [e99]; exact hr
              have Ru := R4.up (o := itO (A 33 0) (S 99 0 13) k lst) hit
              have es := wtN_s (S := acS S w d) (p := S 13 w 1) (k := k)
              rw [e1] at es
              obtain ⟨q9, q2, q1⟩ := eb9 k hr
              have q1w := (eb9 w hw).2.2
              have k152 : ∀ lst v L, fw_sL L [(3, .ref (A 53 w)), (4, .int (nI (wtN (acS S w d) (S 13 w 1) k))), (5, .ref it)] → wtN (acS S w d) (S 13 w 1) (k + 1) = wtN (acS S w d) (S 13 w 1) k + v → PW G mm_X17_activate Q 4 0 0 (fw_up h4 it (itO (A 33 0) (S 99 0 13) (k + 1) lst)) 152 L [.int (nI v), .int (nI (wtN (acS S w d) (S 13 w 1) k))] := by
                intro lst v L hL hv
                refine pw_M _ hL ?_
                refine pw_addN (wtN (acS S w d) (S 13 w 1) k) (v) tk_X17_activate rfl rfl rfl ?_
                rw [← hv]
                refine pw_go tk_X17_activate rfl rfl ?_
                refine pw_go tk_X17_activate rfl rfl ?_
                exact ih (k + 1) (by omega) lst _ ⟨rfl, rfl, rfl, trivial⟩
              refine pw_go tk_X17_activate rfl rfl ?_
              refine pw_ifh tk_X17_activate rfl (fw_up_s) (j_hasNext (l3.up hit) fw_up_s (by omega)) (rest := []) rfl rfl rfl rfl ?_
              rw [decide_eq_true (show k ≠ S 99 0 13 by omega)]
              refine pw_ifeqB tk_X17_activate rfl (fun c => absurd c (by decide)) (fun _ => ?_)
              refine pw_go tk_X17_activate rfl rfl ?_
              refine pw_ifn tk_X17_activate rfl (fw_up_s) (j_next (l3.up hit) fw_up_s hr) (rest := []) rfl rfl rfl rfl ?_
              rw [fw_up_2]
              have hbk := (R4.up (o := itO (A 33 0) (S 99 0 13) (k + 1) (k + 1)) hit).war hr2
              have hbw := (R4.up (o := itO (A 33 0) (S 99 0 13) (k + 1) (k + 1)) hit).war (w := w) (by rw [e99]; exact hw)
              rw [e1, e2] at hbk
              rw [e1] at hbw
              refine pw_cast tk_X17_activate rfl (hbk) rfl cw_X17_88 ?_
              iterate 3 refine pw_go tk_X17_activate rfl rfl ?_
              refine pw_get tk_X17_activate rfl fl_X17_128 hbk rfl ?_
              refine pw_go tk_X17_activate rfl rfl ?_
              refine pw_get tk_X17_activate rfl fl_X17_128 hbw rfl ?_
              refine pw_icN (S 13 k 1) (S 13 w 1) tk_X17_activate rfl rfl rfl (by omega) (by omega) (fun c2 => ?_) (fun c2 => ?_)
              · have c2 : S 13 k 1 ≠ S 13 w 1 := c2
                rw [if_neg (fun z => c2 z.1)] at es
                refine pw_go tk_X17_activate rfl rfl ?_
                exact k152 _ 0 _ ⟨rfl, rfl, rfl, trivial⟩ es
              have c2 : S 13 k 1 = S 13 w 1 := Decidable.not_not.mp c2
              refine pw_go tk_X17_activate rfl rfl ?_
              refine pw_get tk_X17_activate rfl fl_X17_152 hbk rfl ?_
              refine pw_go tk_X17_activate rfl rfl ?_
              refine pw_icN (S 13 k 2) (115) tk_X17_activate rfl rfl rfl (by omega) (by omega) (fun c3 => ?_) (fun c3 => ?_)
              · have c3 : S 13 k 2 ≠ 115 := c3
                rw [if_neg (fun z => by have := z.2; unfold wwt at this; rw [e2, decide_eq_false c3] at this; cases this)] at es
                refine pw_go tk_X17_activate rfl rfl ?_
                exact k152 _ 0 _ ⟨rfl, rfl, rfl, trivial⟩ es
              have c3 : S 13 k 2 = 115 := Decidable.not_not.mp c3
              refine pw_go tk_X17_activate rfl rfl ?_
              refine pw_get tk_X17_activate rfl fl_X17_155 hbk rfl ?_
              refine pw_go tk_X17_activate rfl rfl ?_
              refine pw_br tk_X17_activate rfl rfl (fun c4 => ?_) (fun c4 => ?_)
              · have c4 : acS S w d 13 k 9 ≠ 0 := fun z => c4 ((nP_0 (by omega)).mpr z)
                rw [if_neg (fun z => by have := z.2; unfold wwt at this; rw [decide_eq_false c4, Bool.and_false] at this; cases this)] at es
                refine pw_go tk_X17_activate rfl rfl ?_
                exact k152 _ 0 _ ⟨rfl, rfl, rfl, trivial⟩ es
              · have c4 : acS S w d 13 k 9 = 0 := (nP_0 (by omega)).mp (Decidable.not_not.mp c4)
                rw [if_pos ⟨c2, by unfold wwt; rw [e2, decide_eq_true c3, decide_eq_true c4]; rfl⟩] at es
                iterate 2 refine pw_go tk_X17_activate rfl rfl ?_
                exact k152 _ 1 _ ⟨rfl, rfl, rfl, trivial⟩ es
          obtain ⟨e5, cap5, o5, -⟩ := id l3
          iterate 3 refine pw_go tk_X17_activate rfl rfl ?_
          refine pw_get tk_X17_activate rfl fl_X17_19 R4.m rfl ?_
          refine pw_cv tk_X17_activate rfl ca_Jx4a65c_iterator_32c93 lk_X17_158 iv_Jx4a65c_iterator_32c93 sv_Jx4a65c_iterator_32c93 o5 rfl rfl (As := []) (rest := []) (kc' := 0) (ks' := 0) (j_iterator l3) rfl rfl rfl (Nat.le_of_ble_eq_true rfl) (Nat.le_refl _) (Nat.le_refl _) ?_ ?_
          · rintro _ _ ⟨_, rfl, it, rfl, hit, rfl⟩
            refine pw_go tk_X17_activate rfl rfl ?_
            exact loop it hit (S 99 0 13) 0 (by omega) 0 _ ⟨rfl, rfl, rfl, trivial⟩
          · exact fun _ _ z => z.elim
        · have c2 : S 13 w 9 ≠ 0 := fun z => c2 ((nP_0 (by omega)).mpr z)
          exact k58 (by unfold wwt; rw [decide_eq_false c2, Bool.and_false]) _ ⟨rfl, trivial⟩
  · exact fun _ _ z => z.elim
set_option maxRecDepth 20000 in
theorem m_letGo {x y : Int32} (R : RD G n S D A M h) : PM G 9 194 2356 mm_X17_letGo [.ref (A 30 0), .int x, .int y] h (fw_qI (fun r h' => wdn S (lgS S x.toNatClampNeg y.toNatClampNeg) D A (lgK S x y) (nI (S 17 (rcS S x.toNatClampNeg y.toNatClampNeg - 1) 1)) r h') fw_noX) := by
  refine pm_of (by decide +kernel) rfl rfl rfl ?_
  have hN := R.n7
  iterate 5 refine pw_go tk_X17_letGo rfl rfl ?_
  refine pw_csp tk_X17_letGo rfl ca_X17_in lk_X17_52 sx_X17_in (As := [.int y, .int 0, .int (nI 19999)]) (rest := [.int x, .ref (A 30 0)]) (n_in) rfl rfl rfl rfl ?_
  refine pw_cv tk_X17_letGo rfl ca_X17_noPerson lk_X17_181 iv_X17_noPerson sv_X17_noPerson R.m rfl rfl (As := [.int x, .int (bI (inI y 0 (nI 19999)))]) (rest := []) (kc' := 194) (ks' := 2356) (n_noPerson R) rfl rfl rfl (Nat.le_of_ble_eq_true rfl) (show 0 + 194 ≤ 194 by omega) (show 0 + 2356 ≤ 2356 by omega) ?_ ?_
  · rintro _ H ⟨_, rfl, rfl, e9⟩
    rw [e9]
    have R1 := R.t (pdK (S 99 0 8) x (inI y 0 (nI 19999)))
    by_cases hk : 0 < pdK (S 99 0 8) x (inI y 0 (nI 19999))
    · have e : lgK S x y = pdK (S 99 0 8) x (inI y 0 (nI 19999)) := if_neg (by omega)
      rw [decide_eq_true hk]
      refine pw_ifeqB tk_X17_letGo rfl (fun c => absurd c (by decide)) (fun _ => ?_)
      refine pw_go tk_X17_letGo rfl rfl ?_
      exact pw_iret tk_X17_letGo rfl rfl rfl ⟨_, rfl, wdn_1 e (by omega) (rdn_of R1)⟩
    · have hk0 : pdK (S 99 0 8) x (inI y 0 (nI 19999)) = 0 := by omega
      have eK : lgK S x y = if rcS S x.toNatClampNeg y.toNatClampNeg = 0 then 3 else 0 := if_pos hk0
      obtain ⟨h1, h2⟩ := pd0 hk0
      obtain ⟨p, hp, rfl⟩ := knI_to h1 (by omega)
      obtain ⟨d, rfl, -, hd⟩ := inI_N (a := 0) h2 (by omega) (by omega)
      rw [decide_eq_false hk]
      rw [nI_tn (by omega), nI_tn (by omega)] at eK ⊢
      rw [hk0] at R1
      rw [hk0]
      have erc : rcS S p d = rcN S p d (S 99 0 17) := rfl
      obtain ⟨Q, hQ⟩ : ∃ Q, Q = (fw_qI (fun r h' => wdn S (lgS S p d) D A (lgK S (nI p) (nI d)) (nI (S 17 (rcS S p d - 1) 1)) r h') fw_noX) := ⟨_, rfl⟩
      rw [← hQ]
      refine pw_ifeqB tk_X17_letGo rfl (fun _ => ?_) (fun c => absurd c (by decide))
      refine pw_go tk_X17_letGo rfl rfl ?_
      refine pw_cv tk_X17_letGo rfl ca_X17_facts lk_X17_294 iv_X17_facts sv_X17_facts R1.m rfl rfl (As := []) (rest := []) (kc' := 1) (ks' := 4) (n_facts R1) rfl rfl rfl (Nat.le_of_ble_eq_true rfl) (show 193 + 1 ≤ 194 by omega) (show 2352 + 4 ≤ 2356 by omega) ?_ ?_
      · rintro _ H2 ⟨_, rfl, q, ad, rfl, s1, F⟩
        have R2 := R1.mono s1
        have loop : ∀ it, H2 it = none → ∀ j k, j + k = S 99 0 17 → rcN S p d k = 0 → ∀ lst L, fw_sL L [(0, .ref (A 30 0)), (1, .int (nI p)), (2, .int (nI d)), (3, .ref q), (4, .ref it)] → PW G mm_X17_letGo Q 9 0 0 (fw_up H2 it (itO (A 35 0) (S 99 0 17) k lst)) 32 L [] := by
          intro it hit j
          induction j with
          | zero =>
            intro k hk r0 lst L hL
            refine pw_M _ hL ?_
            have hk : k = S 99 0 17 := by omega
            subst hk
            rw [erc, r0, if_pos rfl] at eK
            refine pw_go tk_X17_letGo rfl rfl ?_
            refine pw_ifh tk_X17_letGo rfl (fw_up_s) (j_hasNext (R2.l5.up hit) fw_up_s (by omega)) (rest := []) rfl rfl rfl rfl ?_
            rw [decide_eq_false (fun z => z rfl)]
            refine pw_forget (up_sub hit) ?_
            refine pw_ifeqB tk_X17_letGo rfl (fun _ => ?_) (fun c => absurd c (by decide))
            iterate 2 refine pw_go tk_X17_letGo rfl rfl ?_
            refine pw_cv tk_X17_letGo rfl ca_X17_raises lk_X17_118 iv_X17_raises sv_X17_raises R2.m rfl rfl (As := [.int (nI 3)]) (rest := [])  (n_raises (t := 3) R2) rfl rfl rfl (Nat.le_of_ble_eq_true rfl) (Nat.le_of_eq (Nat.zero_add _)) (Nat.le_of_eq (Nat.zero_add _)) ?_ ?_
            · rintro _ H ⟨_, rfl, rfl, e9⟩
              rw [e9, hQ]
              exact pw_iret tk_X17_letGo rfl rfl rfl ⟨_, rfl, wdn_1 eK (by decide) (rdn_of (R2.tt rfl 3))⟩
            · exact fun _ _ z => z.elim
          | succ j ih =>
            intro k hk r0 lst L hL
            refine pw_M _ hL ?_
            have hr : k < S 99 0 17 := by omega
            obtain ⟨i1, i3, i4, i5, i0⟩ := icr R.1 hr
            have es := rcN_s (S := S) (p := p) (d := d) (k := k)
            rw [r0, if_neg (by decide)] at es
            have k86 : ∀ lst L, fw_sL L [(0, .ref (A 30 0)), (1, .int (nI p)), (2, .int (nI d)), (3, .ref q), (4, .ref it)] → gop S p d k = false → PW G mm_X17_letGo Q 9 0 0 (fw_up H2 it (itO (A 35 0) (S 99 0 17) (k + 1) lst)) 86 L [] := by
              intro lst L hL hv
              rw [hv, if_neg (by decide)] at es
              refine pw_M _ hL ?_
              refine pw_go tk_X17_letGo rfl rfl ?_
              exact ih (k + 1) (by omega) es lst _ ⟨rfl, rfl, rfl, rfl, rfl, trivial⟩
            refine pw_go tk_X17_letGo rfl rfl ?_
            refine pw_ifh tk_X17_letGo rfl (fw_up_s) (j_hasNext (R2.l5.up hit) fw_up_s (by omega)) (rest := []) rfl rfl rfl rfl ?_
            rw [decide_eq_true (show k ≠ S 99 0 17 by omega)]
            refine pw_ifeqB tk_X17_letGo rfl (fun c => absurd c (by decide)) (fun _ => ?_)
            refine pw_go tk_X17_letGo rfl rfl ?_
            refine pw_ifn tk_X17_letGo rfl (fw_up_s) (j_next (R2.l5.up hit) fw_up_s hr) (rest := []) rfl rfl rfl rfl ?_
            rw [fw_up_2]
            refine pw_cast tk_X17_letGo rfl ((R2.up hit).rec hr) rfl cw_X17_273 ?_
            iterate 2 refine pw_go tk_X17_letGo rfl rfl ?_
            refine pw_get tk_X17_letGo rfl fl_X17_272 ((R2.up hit).rec hr) rfl ?_
            refine pw_go tk_X17_letGo rfl rfl ?_
            refine pw_icN (S 17 k 0) (p) tk_X17_letGo rfl rfl rfl (by omega) (by omega) (fun c2 => ?_) (fun c2 => ?_)
            · have c2 : S 17 k 0 ≠ p := c2
              exact k86 _ _ ⟨rfl, rfl, rfl, rfl, rfl, trivial⟩ (by unfold gop; rw [decide_eq_false c2]; rfl)
            have c2 : S 17 k 0 = p := Decidable.not_not.mp c2
            iterate 4 refine pw_go tk_X17_letGo rfl rfl ?_
            refine pw_cvp tk_X17_letGo rfl ca_X17_goesOn lk_X17_286 iv_X17_goesOn sv_X17_goesOn ((R2.up hit).m) rfl rfl (As := [.ref (A 55 k), .int (nI d), .ref q]) (rest := []) (n_goesOn (R2.up hit) (F.up hit) hr (by omega)) rfl rfl rfl rfl ?_
            refine pw_ifeqB tk_X17_letGo rfl (fun c3 => ?_) (fun c3 => ?_)
            · skip
              exact k86 _ _ ⟨rfl, rfl, rfl, rfl, rfl, trivial⟩ (by unfold gop; rw [c3, Bool.and_false])
            · have hg : gop S p d k = true := by unfold gop; rw [c3, decide_eq_true c2]; rfl
              rw [hg, if_pos rfl] at es
              have e1 : rcS S p d = k + 1 := by
                rw [erc, rcN_up (k := k + 1) (by omega) (by omega), es]
              rw [e1, if_neg (by omega)] at eK
              rw [e1, Nat.add_sub_cancel] at hQ
              have hS : lgS S p d = dp S 17 k (va_up (S 17 k) 4 d) := by
                unfold lgS
                rw [e1, Nat.add_sub_cancel]
              rw [hS] at hQ
              have hb := R2.rec hr
              refine pw_forget (up_sub hit) ?_
              iterate 2 refine pw_go tk_X17_letGo rfl rfl ?_
              refine pw_put tk_X17_letGo rfl fp_X17_276 hb rfl rfl (Nat.le_of_ble_eq_true rfl) ?_
              have ek : kRow A 55 k (rcR (va_up (S 17 k) 4 d)) = .inr (18, [.int (nI (S 17 k 0)), .int (nI (S 17 k 1)), .int (nI (if 0 < S 17 k 2 then 102 else 115)), .int (nI (S 17 k 3)), .int (nI d)]) := by
                show (.inr (18, [.int (nI (S 17 k 0)), .int (nI (S 17 k 1)), .int (nI (if 0 < S 17 k 2 then 102 else 115)), .int (nI (S 17 k 3)), .int (nI (min d 20000))]) : fw_O) = _
                rw [Nat.min_eq_left (by omega)]
              refine pw_h (h' := fw_up H2 (A 55 k) (kRow A 55 k (rcR (va_up (S 17 k) 4 d)))) (by rw [ek]; rfl) ?_
              refine pw_go tk_X17_letGo rfl rfl ?_
              refine pw_get tk_X17_letGo rfl fl_X17_275 fw_up_s rfl ?_
              rw [hQ]
              exact pw_iret tk_X17_letGo rfl rfl rfl ⟨_, rfl, wdn_0 eK (rdn_put R2 (by rw [R2.N55]; exact hr) (by decide) trivial (IR_55 R2.2.1))⟩
        obtain ⟨e5, cap5, o5, -⟩ := id R2.l5
        iterate 2 refine pw_go tk_X17_letGo rfl rfl ?_
        refine pw_get tk_X17_letGo rfl fl_X17_25 R2.m rfl ?_
        refine pw_cv tk_X17_letGo rfl ca_Jx4a65c_iterator_32c93 lk_X17_158 iv_Jx4a65c_iterator_32c93 sv_Jx4a65c_iterator_32c93 o5 rfl rfl (As := []) (rest := []) (kc' := 0) (ks' := 0) (j_iterator R2.l5) rfl rfl rfl (Nat.le_of_ble_eq_true rfl) (Nat.le_refl _) (Nat.le_refl _) ?_ ?_
        · rintro _ _ ⟨_, rfl, it, rfl, hit, rfl⟩
          refine pw_go tk_X17_letGo rfl rfl ?_
          exact loop it hit (S 99 0 17) 0 (by omega) rfl 0 _ ⟨rfl, rfl, rfl, rfl, rfl, trivial⟩
        · exact fun _ _ z => z.elim
      · exact fun _ _ z => z.elim
  · exact fun _ _ z => z.elim
end WRB

