/-! PERSON: what it takes -/
def tkW (D : fw_DB) (p w : Nat) : fw_DB := if D 8 p 3 = 0 then dp D 8 p (va_up (va_up (D 8 p) 2 (w + 1)) 3 (w + 1)) else dp (dp D 13 (D 8 p 3 - 1) (va_up (D 13 (D 8 p 3 - 1)) 18 (w + 1))) 8 p (va_up (D 8 p) 3 (w + 1))
def tkR (D : fw_DB) (p r : Nat) : fw_DB := if D 8 p 7 = 0 then dp D 8 p (va_up (va_up (va_up (D 8 p) 6 (r + 1)) 7 (r + 1)) 8 (D 8 p 8 + 1)) else dp (dp D 17 (D 8 p 7 - 1) (va_up (D 17 (D 8 p 7 - 1)) 8 (r + 1))) 8 p (va_up (va_up (D 8 p) 7 (r + 1)) 8 (D 8 p 8 + 1))
/-- the last one of a chain whose day is not later -/
def tkl (D : fw_DB) (x : Nat) : Nat → List Nat → Nat
  | b, [] => b
  | b, i :: l => if D 16 i 0 ≤ x then tkl D x (i + 1) l else b
def tkA (D : fw_DB) (p a : Nat) (l : List Nat) : fw_DB :=
  let b := tkl D (D 16 a 0) 0 l
  if b = 0 then dp (dp D 16 a (va_up (D 16 a) 2 (D 8 p 4))) 8 p (va_up (D 8 p) 4 (a + 1)) else dp (dp D 16 a (va_up (D 16 a) 2 (D 16 (b - 1) 2))) 16 (b - 1) (va_up (dp D 16 a (va_up (D 16 a) 2 (D 16 (b - 1) 2)) 16 (b - 1)) 2 (a + 1))
section CTAKE
variable {G : fw_G} {D : fw_DB} {A : fw_AD} {M : fw_MP} {p : Nat}
theorem p_takeW {w : Nat} (W : Wf D A M) (hp8 : p < D 99 0 8) (hw : w < D 99 0 13) : PM G 0 0 0 mm_X5_takeWarrant [.ref (A 8 p), .ref (A 13 w)] (hp M A D) (fw_qV (fun h' => h' = hp M A (tkW D p w)) fw_noX) := by
  refine pm_of (by decide +kernel) rfl rfl rfl ?_
  have Lp := W.lv hp8
  obtain ⟨a1, a2, a3, a4, a5, a6, a7, a8⟩ := W.ok hp8
  refine pw_go tk_X5_takeWarrant rfl rfl ?_
  refine pw_get tk_X5_takeWarrant rfl fl_X5_19 (hget Lp) rfl ?_
  refine pw_ifnonnullq tk_X5_takeWarrant rfl (fun b c => ?_) (fun c => ?_)
  · have c := (rq_s c).1
    have hl : D 8 p 3 - 1 < D 99 0 13 := by omega
    have Ll := W.lv hl
    obtain ⟨b1, b2, b3, b4, b5, b6⟩ := W.ok hl
    refine pw_go tk_X5_takeWarrant rfl rfl ?_
    refine pw_get tk_X5_takeWarrant rfl fl_X5_19 (hget Lp) rfl ?_
    refine pw_q (rq_p c) ?_
    refine pw_go tk_X5_takeWarrant rfl rfl ?_
    refine pw_put tk_X5_takeWarrant rfl fp_X5_26 (hget Ll) rfl rfl (Nat.le_of_ble_eq_true rfl) ?_
    refine pw_h (hset (va_up (D 13 (D 8 p 3 - 1)) 18 (w + 1)) W Ll) ?_
    have W2 : Wf (dp D 13 (D 8 p 3 - 1) (va_up (D 13 (D 8 p 3 - 1)) 18 (w + 1))) A M := W.put (by decide) ⟨b1, b2, b3, b4, b5, hw⟩
    iterate 2 refine pw_go tk_X5_takeWarrant rfl rfl ?_
    refine pw_put tk_X5_takeWarrant rfl fp_X5_19 (hget (D := dp D 13 (D 8 p 3 - 1) (va_up (D 13 (D 8 p 3 - 1)) 18 (w + 1))) Lp) rfl rfl (Nat.le_of_ble_eq_true rfl) ?_
    refine pw_h (hset (va_up (D 8 p) 3 (w + 1)) W2 Lp) ?_
    exact pw_vret tk_X5_takeWarrant rfl rfl ⟨rfl, by unfold tkW; rw [if_neg (by omega)]⟩
  · have c := rq_n.mp c
    iterate 2 refine pw_go tk_X5_takeWarrant rfl rfl ?_
    refine pw_put tk_X5_takeWarrant rfl fp_X5_23 (hget Lp) rfl rfl (Nat.le_of_ble_eq_true rfl) ?_
    refine pw_h (hset (va_up (D 8 p) 2 (w + 1)) W Lp) ?_
    iterate 3 refine pw_go tk_X5_takeWarrant rfl rfl ?_
    refine pw_put tk_X5_takeWarrant rfl fp_X5_19 (hgp Lp) rfl rfl (Nat.le_of_ble_eq_true rfl) ?_
    refine pw_h (hset2 (va_up (va_up (D 8 p) 2 (w + 1)) 3 (w + 1)) W Lp) ?_
    exact pw_vret tk_X5_takeWarrant rfl rfl ⟨rfl, by unfold tkW; rw [if_pos c]⟩
theorem p_takeR {w : Nat} (W : Wf D A M) (hp8 : p < D 99 0 8) (hw : w < D 99 0 17) : PM G 0 0 0 mm_X5_takeRecall [.ref (A 8 p), .ref (A 17 w)] (hp M A D) (fw_qp (nI (D 8 p 8 + 1)) (hp M A (tkR D p w))) := by
  refine pm_of (by decide +kernel) rfl rfl rfl ?_
  have Lp := W.lv hp8
  obtain ⟨a1, a2, a3, a4, a5, a6, a7, a8⟩ := W.ok hp8
  refine pw_go tk_X5_takeRecall rfl rfl ?_
  refine pw_get tk_X5_takeRecall rfl fl_X5_31 (hget Lp) rfl ?_
  refine pw_ifnonnullq tk_X5_takeRecall rfl (fun b c => ?_) (fun c => ?_)
  · have c := (rq_s c).1
    have hl : D 8 p 7 - 1 < D 99 0 17 := by omega
    have Ll := W.lv hl
    obtain ⟨b1, b2⟩ := W.ok hl
    have eR : tkR D p w = dp (dp D 17 (D 8 p 7 - 1) (va_up (D 17 (D 8 p 7 - 1)) 8 (w + 1))) 8 p (va_up (va_up (D 8 p) 7 (w + 1)) 8 (D 8 p 8 + 1)) := by unfold tkR; rw [if_neg (by omega)]
    rw [eR]
    refine pw_go tk_X5_takeRecall rfl rfl ?_
    refine pw_get tk_X5_takeRecall rfl fl_X5_31 (hget Lp) rfl ?_
    refine pw_q (rq_p c) ?_
    refine pw_go tk_X5_takeRecall rfl rfl ?_
    refine pw_put tk_X5_takeRecall rfl fp_X5_38 (hget Ll) rfl rfl (Nat.le_of_ble_eq_true rfl) ?_
    refine pw_h (hset (va_up (D 17 (D 8 p 7 - 1)) 8 (w + 1)) W Ll) ?_
    have W2 : Wf (dp D 17 (D 8 p 7 - 1) (va_up (D 17 (D 8 p 7 - 1)) 8 (w + 1))) A M := W.put (by decide) ⟨b1, hw⟩
    iterate 2 refine pw_go tk_X5_takeRecall rfl rfl ?_
    refine pw_put tk_X5_takeRecall rfl fp_X5_31 (hget (D := dp D 17 (D 8 p 7 - 1) (va_up (D 17 (D 8 p 7 - 1)) 8 (w + 1))) Lp) rfl rfl (Nat.le_of_ble_eq_true rfl) ?_
    refine pw_h (hset (va_up (D 8 p) 7 (w + 1)) W2 Lp) ?_
    iterate 2 refine pw_go tk_X5_takeRecall rfl rfl ?_
    refine pw_get tk_X5_takeRecall rfl fl_X5_42 (hgp Lp) rfl ?_
    refine pw_go tk_X5_takeRecall rfl rfl ?_
    refine pw_addN (D 8 p 8) (1) tk_X5_takeRecall rfl rfl rfl ?_
    refine pw_put tk_X5_takeRecall rfl fp_X5_42 (hgp Lp) rfl rfl (Nat.le_of_ble_eq_true rfl) ?_
    refine pw_h (hset2 (va_up (va_up (D 8 p) 7 (w + 1)) 8 (D 8 p 8 + 1)) W2 Lp) ?_
    refine pw_go tk_X5_takeRecall rfl rfl ?_
    refine pw_get tk_X5_takeRecall rfl fl_X5_42 (hgp Lp) rfl ?_
    exact pw_iretp tk_X5_takeRecall rfl rfl
  · have c := rq_n.mp c
    have eR : tkR D p w = dp D 8 p (va_up (va_up (va_up (D 8 p) 6 (w + 1)) 7 (w + 1)) 8 (D 8 p 8 + 1)) := by unfold tkR; rw [if_pos c]
    rw [eR]
    iterate 2 refine pw_go tk_X5_takeRecall rfl rfl ?_
    refine pw_put tk_X5_takeRecall rfl fp_X5_35 (hget Lp) rfl rfl (Nat.le_of_ble_eq_true rfl) ?_
    refine pw_h (hset (va_up (D 8 p) 6 (w + 1)) W Lp) ?_
    iterate 3 refine pw_go tk_X5_takeRecall rfl rfl ?_
    refine pw_put tk_X5_takeRecall rfl fp_X5_31 (hgp Lp) rfl rfl (Nat.le_of_ble_eq_true rfl) ?_
    refine pw_h (hset2 (va_up (va_up (D 8 p) 6 (w + 1)) 7 (w + 1)) W Lp) ?_
    iterate 2 refine pw_go tk_X5_takeRecall rfl rfl ?_
    refine pw_get tk_X5_takeRecall rfl fl_X5_42 (hgp Lp) rfl ?_
    refine pw_go tk_X5_takeRecall rfl rfl ?_
    refine pw_addN (D 8 p 8) (1) tk_X5_takeRecall rfl rfl rfl ?_
    refine pw_put tk_X5_takeRecall rfl fp_X5_42 (hgp Lp) rfl rfl (Nat.le_of_ble_eq_true rfl) ?_
    refine pw_h (hset2 (va_up (va_up (va_up (D 8 p) 6 (w + 1)) 7 (w + 1)) 8 (D 8 p 8 + 1)) W Lp) ?_
    refine pw_go tk_X5_takeRecall rfl rfl ?_
    refine pw_get tk_X5_takeRecall rfl fl_X5_42 (hgp Lp) rfl ?_
    exact pw_iretp tk_X5_takeRecall rfl rfl
set_option maxRecDepth 20000 in
theorem p_takeA {a : Nat} {l : List Nat} (W : Wf D A M) (C : cB D) (hp8 : p < D 99 0 8) (ha : a < D 99 0 16) (hl : ch (fun i => D 16 i 2) (D 8 p 4) l) (hin : ∀ i ∈ l, i < D 99 0 16) : PM G 0 0 0 mm_X5_takeAdded [.ref (A 8 p), .ref (A 16 a)] (hp M A D) (fw_qV (fun h' => h' = hp M A (tkA D p a l)) fw_noX) := by
  refine pm_of (by decide +kernel) rfl rfl rfl ?_
  have Lp := W.lv hp8
  have La := W.lv ha
  have ka := W.ok ha
  have Ba := (C.2.2 a ha).1
  obtain ⟨a1, a2, a3, a4, a5, a6, a7, a8⟩ := W.ok hp8
  obtain ⟨DR, hDR⟩ : ∃ DR, DR = tkA D p a l := ⟨_, rfl⟩
  rw [← hDR]
  obtain ⟨Q, hQ⟩ : ∃ Q, Q = fw_qV (fun h' => h' = hp M A DR) fw_noX := ⟨_, rfl⟩
  rw [← hQ]
  have k32 : ∀ b, b = tkl D (D 16 a 0) 0 l → b ≤ D 99 0 16 → PW G mm_X5_takeAdded Q 0 0 0 (hp M A D) 32 [(0, .ref (A 8 p)), (1, .ref (A 16 a)), (2, va_rf (rq (A 16) b))] [] := by
    intro b hb hb2
    unfold tkA at hDR
    dsimp only at hDR
    rw [← hb] at hDR
    refine pw_aloadq tk_X5_takeAdded rfl rfl rfl ?_
    refine pw_ifnonnullq tk_X5_takeAdded rfl (fun x c => ?_) (fun c => ?_)
    · have c := (rq_s c).1
      have hl : b - 1 < D 99 0 16 := by omega
      have Ll := W.lv hl
      have kl := W.ok hl
      rw [if_neg (by omega)] at hDR
      refine pw_go tk_X5_takeAdded rfl rfl ?_
      refine pw_aloadq tk_X5_takeAdded rfl rfl rfl ?_
      refine pw_q (rq_p c) ?_
      refine pw_get tk_X5_takeAdded rfl fl_X5_55 (hget Ll) rfl ?_
      refine pw_put tk_X5_takeAdded rfl fp_X5_55 (hget La) nar_rf fit_rf (Nat.le_of_ble_eq_true rfl) ?_
      refine pw_h (hset (va_up (D 16 a) 2 (D 16 (b - 1) 2)) W La) ?_
      have W2 : Wf (dp D 16 a (va_up (D 16 a) 2 (D 16 (b - 1) 2))) A M := W.put (by decide) kl
      refine pw_aloadq tk_X5_takeAdded rfl rfl rfl ?_
      refine pw_q (rq_p c) ?_
      refine pw_go tk_X5_takeAdded rfl rfl ?_
      refine pw_put tk_X5_takeAdded rfl fp_X5_55 (hget (D := dp D 16 a (va_up (D 16 a) 2 (D 16 (b - 1) 2))) Ll) rfl rfl (Nat.le_of_ble_eq_true rfl) ?_
      refine pw_h (hset (va_up (dp D 16 a (va_up (D 16 a) 2 (D 16 (b - 1) 2)) 16 (b - 1)) 2 (a + 1)) W2 Ll) ?_
      subst hQ
      exact pw_vret tk_X5_takeAdded rfl rfl ⟨rfl, by rw [hDR]⟩
    · have c := rq_n.mp c
      rw [if_pos c] at hDR
      iterate 2 refine pw_go tk_X5_takeAdded rfl rfl ?_
      refine pw_get tk_X5_takeAdded rfl fl_X5_46 (hget Lp) rfl ?_
      refine pw_put tk_X5_takeAdded rfl fp_X5_55 (hget La) nar_rf fit_rf (Nat.le_of_ble_eq_true rfl) ?_
      refine pw_h (hset (va_up (D 16 a) 2 (D 8 p 4)) W La) ?_
      have W2 : Wf (dp D 16 a (va_up (D 16 a) 2 (D 8 p 4))) A M := W.put (by decide) a5
      iterate 2 refine pw_go tk_X5_takeAdded rfl rfl ?_
      refine pw_put tk_X5_takeAdded rfl fp_X5_46 (hget (D := dp D 16 a (va_up (D 16 a) 2 (D 8 p 4))) Lp) rfl rfl (Nat.le_of_ble_eq_true rfl) ?_
      refine pw_h (hset (va_up (D 8 p) 4 (a + 1)) W2 Lp) ?_
      refine pw_go tk_X5_takeAdded rfl rfl ?_
      subst hQ
      exact pw_vret tk_X5_takeAdded rfl rfl ⟨rfl, by rw [hDR]⟩
  have loop : ∀ (l' : List Nat) (v b : Nat), ch (fun i => D 16 i 2) v l' → (∀ i ∈ l', i < D 99 0 16) → b ≤ D 99 0 16 → tkl D (D 16 a 0) b l' = tkl D (D 16 a 0) 0 l → PW G mm_X5_takeAdded Q 0 0 0 (hp M A D) 7 [(0, .ref (A 8 p)), (1, .ref (A 16 a)), (2, va_rf (rq (A 16) b)), (3, va_rf (rq (A 16) v))] [] := by
    intro l'
    induction l' with
    | nil =>
      intro v b hv hin hb he
      have hv : v = 0 := hv
      subst hv
      have he : b = tkl D (D 16 a 0) 0 l := he
      refine pw_M [(0, .ref (A 8 p)), (1, .ref (A 16 a)), (2, va_rf (rq (A 16) b)), (3, .null)] ⟨rfl, rfl, rfl, rfl, trivial⟩ ?_
      refine pw_go tk_X5_takeAdded rfl rfl ?_
      refine pw_go tk_X5_takeAdded rfl rfl ?_
      refine pw_M [(0, .ref (A 8 p)), (1, .ref (A 16 a)), (2, va_rf (rq (A 16) b))] ⟨rfl, rfl, rfl, trivial⟩ ?_
      exact k32 b he hb
    | cons i l' ih =>
      intro v b hv hin hb he
      obtain ⟨hv, hv2⟩ := hv
      subst hv
      have hi := hin i List.mem_cons_self
      have Li := W.lv hi
      have Bi := (C.2.2 i hi).1
      have he : (if D 16 i 0 ≤ D 16 a 0 then tkl D (D 16 a 0) (i + 1) l' else b) = tkl D (D 16 a 0) 0 l := he
      refine pw_M [(0, .ref (A 8 p)), (1, .ref (A 16 a)), (2, va_rf (rq (A 16) b)), (3, .ref (A 16 i))] ⟨rfl, rfl, rfl, rfl, trivial⟩ ?_
      refine pw_go tk_X5_takeAdded rfl rfl ?_
      refine pw_go tk_X5_takeAdded rfl rfl ?_
      refine pw_go tk_X5_takeAdded rfl rfl ?_
      refine pw_get tk_X5_takeAdded rfl fl_X5_50 (hget Li) rfl ?_
      refine pw_go tk_X5_takeAdded rfl rfl ?_
      refine pw_get tk_X5_takeAdded rfl fl_X5_50 (hget La) rfl ?_
      refine pw_icN (D 16 i 0) (D 16 a 0) tk_X5_takeAdded rfl rfl rfl (by omega) (by omega) (fun c => ?_) (fun c => ?_)
      · have c : D 16 a 0 < D 16 i 0 := c
        rw [if_neg (by omega)] at he
        refine pw_M [(0, .ref (A 8 p)), (1, .ref (A 16 a)), (2, va_rf (rq (A 16) b))] ⟨rfl, rfl, rfl, trivial⟩ ?_
        exact k32 b he hb
      · have c : ¬ D 16 a 0 < D 16 i 0 := c
        rw [if_pos (by omega)] at he
        iterate 3 refine pw_go tk_X5_takeAdded rfl rfl ?_
        refine pw_get tk_X5_takeAdded rfl fl_X5_55 (hget Li) rfl ?_
        refine pw_astoreq tk_X5_takeAdded rfl rfl rfl ?_
        refine pw_go tk_X5_takeAdded rfl rfl ?_
        refine pw_M [(0, .ref (A 8 p)), (1, .ref (A 16 a)), (2, va_rf (rq (A 16) (i + 1))), (3, va_rf (rq (A 16) (D 16 i 2)))] ⟨rfl, rfl, rfl, rfl, trivial⟩ ?_
        exact ih _ (i + 1) hv2 (fun j hj => hin j (List.mem_cons_of_mem _ hj)) (by omega) he
  iterate 3 refine pw_go tk_X5_takeAdded rfl rfl ?_
  refine pw_get tk_X5_takeAdded rfl fl_X5_46 (hget Lp) rfl ?_
  refine pw_astoreq tk_X5_takeAdded rfl rfl rfl ?_
  refine pw_M [(0, .ref (A 8 p)), (1, .ref (A 16 a)), (2, va_rf (rq (A 16) 0)), (3, va_rf (rq (A 16) (D 8 p 4)))] ⟨rfl, rfl, rfl, rfl, trivial⟩ ?_
  exact loop l _ 0 hl hin (by omega) rfl
end CTAKE

