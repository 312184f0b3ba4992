/-! PERSON and RECALL: what is looked up, reckoned -/
def kp (D : fw_DB) (d : Nat) : Nat → List Nat → Nat
  | k, [] => k
  | k, w :: r => kp D d (if (wkeep (D 13 w) d && (decide (k = 0) || decide (D 13 (k - 1) 16 < D 13 w 16))) = true then w + 1 else k) r
def rc (D : fw_DB) (d : Nat) : List Nat → Nat
  | [] => 0
  | i :: r => if D 17 i 1 ≤ d ∧ d < D 17 i 5 then i + 1 else rc D d r
def lct (D : fw_DB) (d : Nat) (l : List Nat) : Bool := l.any (fun w => wlic (D 13 w) d)
def wtn (D : fw_DB) : List Nat → Nat
  | [] => 0
  | w :: r => (if wwt (D 13 w) = true then 1 else 0) + wtn D r
def lett (i a : Bool) : Nat := if a = true then 97 else if i = true then 112 else 114
def stt (D : fw_DB) (aw : Nat → Bool) (d : Nat) (wl rl : List Nat) : Nat := if 0 < kp D d 0 wl ∨ 0 < rc D d rl then lett (decide (0 < kp D d 0 wl)) (aw d) else if lct D d wl = true then 108 else 111
/-- the latest end of a licence that goes on -/
def lte (D : fw_DB) (n f : Nat) : Nat → List Nat → Nat
  | m, [] => m
  | m, w :: r => if w < n then lte D n f (if wlic (D 13 w) f = true then max m (D 13 w 17 - 1000000) else m) r else m
def fdu (D : fw_DB) (n : Nat) (l : List Nat) : Nat → Nat → Nat
  | 0, f => f
  | k + 1, f => if lte D n f f l = f then f else fdu D n l k (lte D n f f l)
def rcu (D : fw_DB) (aw : Nat → Bool) (r : Nat) (l : List Nat) : Nat :=
  let u := min (D 17 r 4) (fdu D (D 17 r 3) l 24 (D 17 r 1))
  if 0 < D 17 r 2 then min u (db (fun d => !aw d) 28 (D 17 r 1) (20032 - D 17 r 1) 1000000) else u
def rB (D : fw_DB) (r : Nat) : Prop := D 17 r 1 < 20000 ∧ D 17 r 3 ≤ 24 ∧ D 17 r 4 ≤ 1000000 ∧ D 17 r 5 < 4000000 ∧ D 17 r 6 ≤ 20000
theorem nO_p {v : Nat} (h : 1000000 ≤ v) : nO v = nI (v - 1000000) := pk_sub h
theorem rq_ch {A : Nat → Nat} {i : Nat} : rq A (i + 1) = some (A i) := rq_p (by omega)
theorem lte_lt {D : fw_DB} {n f b : Nat} : ∀ {l : List Nat} {m : Nat}, m < b → (∀ w ∈ l, D 13 w 17 - 1000000 < b) → lte D n f m l < b
  | [], m, h, _ => h
  | w :: r, m, h, hl => by
    unfold lte
    split
    · refine lte_lt ?_ (fun w hw => hl w (List.mem_cons_of_mem _ hw))
      have := hl w List.mem_cons_self
      split <;> omega
    · exact h
theorem fdu_lt {D : fw_DB} {n b : Nat} {l : List Nat} : ∀ {k f : Nat}, f < b → (∀ w ∈ l, D 13 w 17 - 1000000 < b) → fdu D n l k f < b
  | 0, f, h, _ => h
  | k + 1, f, h, hl => by
    unfold fdu
    split
    · exact h
    · exact fdu_lt (lte_lt h hl) hl
theorem fw_okq (r : Option Nat) : fw_c2 (some (va_rf r)) = false := by cases r <;> rfl
theorem fw_ok1q {L : List (Nat × Value)} {j : Nat} {r : Option Nat} (h : fw_lk L j = some (va_rf r)) : fw_ok1 L (j + 1) = true := by
  show (!fw_c2 (fw_lk L j)) = true
  rw [h, fw_okq]
  rfl
theorem nar_c {v : Nat} (h : v < 128) : narrow .char (.int (nI v)) = .int (nI v) := by
  have : ∀ v : Nat, v < 128 → narrow .char (.int (nI v)) = .int (nI v) := by decide +kernel
  exact this v h
theorem pw_cretp {G : fw_G} {y : fw_M} {d kc ks : Nat} {h : fw_H} {pc nx a v : Nat} {x : Int32} {L : List (Nat × Value)} {tb : List fw_R} (hT : fw_tok y tb) (hr : fw_at tb pc = some (.ireturn, nx, a, x)) (hy : y.2.2.2.1 = some .char) (hv : v < 128) : PW G y (fw_qp (nI v) h) d kc ks h pc L [.int (nI v)] :=
  pw_iret hT hr hy (nar_c hv) ⟨_, rfl, rfl, rfl⟩
section CPER
variable {G : fw_G} {D : fw_DB} {A : fw_AD} {M : fw_MP} {p : Nat}
theorem p_letter {i a : Bool} {h : fw_H} : PM G 0 0 0 mm_X5_letter [.int (bI i), .int (bI a)] h (fw_qp (nI (lett i a)) h) := by
  refine pm_of (by decide +kernel) rfl rfl rfl ?_
  refine pw_go tk_X5_letter rfl rfl ?_
  refine pw_ifeqB tk_X5_letter rfl (fun c => ?_) (fun c => ?_)
  · skip
    subst c
    refine pw_go tk_X5_letter rfl rfl ?_
    refine pw_ifeqB tk_X5_letter rfl (fun c => ?_) (fun c => ?_)
    · skip
      subst c
      refine pw_go tk_X5_letter rfl rfl ?_
      exact pw_cretp (v := 114) tk_X5_letter rfl rfl (by decide)
    · skip
      subst c
      iterate 2 refine pw_go tk_X5_letter rfl rfl ?_
      exact pw_cretp (v := 112) tk_X5_letter rfl rfl (by decide)
  · subst c
    refine pw_go tk_X5_letter rfl rfl ?_
    exact pw_cretp (v := 97) tk_X5_letter rfl rfl (by decide)
set_option maxRecDepth 20000 in
theorem p_keeper {d : Nat} {l : List Nat} (W : Wf D A M) (C : cB D) (hp8 : p < D 99 0 8) (hl : ch (fun i => D 13 i 18) (D 8 p 2) l) (hin : ∀ i ∈ l, i < D 99 0 13) (hd : d < 1073000000) : PM G 1 0 0 mm_X5_keeperAt [.ref (A 8 p), .int (nI d)] (hp M A D) (fw_qpQ (rq (A 13) (kp D d 0 l)) (hp M A D)) := by
  refine pm_of (by decide +kernel) rfl rfl rfl ?_
  have Lp := W.lv hp8
  obtain ⟨Q, hQ⟩ : ∃ Q, Q = fw_qpQ (rq (A 13) (kp D d 0 l)) (hp M A D) := ⟨_, rfl⟩
  rw [← hQ]
  have loop : ∀ (l' : List Nat) (v k : Nat), ch (fun i => D 13 i 18) v l' → (∀ i ∈ l', i < D 99 0 13) → k ≤ D 99 0 13 → kp D d k l' = kp D d 0 l → PW G mm_X5_keeperAt Q 1 0 0 (hp M A D) 7 [(0, .ref (A 8 p)), (1, .int (nI d)), (2, va_rf (rq (A 13) k)), (3, va_rf (rq (A 13) v))] [] := by
    intro l'
    induction l' with
    | nil =>
      intro v k hv hin hk he
      have hv : v = 0 := hv
      subst hv
      refine pw_M [(0, .ref (A 8 p)), (1, .int (nI d)), (2, va_rf (rq (A 13) k)), (3, .null)] ⟨rfl, rfl, rfl, rfl, trivial⟩ ?_
      refine pw_go tk_X5_keeperAt rfl rfl ?_
      refine pw_go tk_X5_keeperAt rfl rfl ?_
      refine pw_aloadq tk_X5_keeperAt rfl rfl rfl ?_
      subst hQ
      rw [← he]
      exact pw_aretp tk_X5_keeperAt rfl rfl (Or.inl ⟨_, rfl⟩)
    | cons w l' ih =>
      intro v k hv hin hk he
      obtain ⟨hv, hv2⟩ := hv
      subst hv
      have hw := hin w List.mem_cons_self
      have Lw := W.lv hw
      have Bw := C.1 w hw
      obtain ⟨b2, b3, b4, b9, b10, b11, b15, b14, -, b16, b17⟩ := Bw
      have k36 : ∀ k', k' ≤ D 99 0 13 → k' = (if (wkeep (D 13 w) d && (decide (k = 0) || decide (D 13 (k - 1) 16 < D 13 w 16))) = true then w + 1 else k) → PW G mm_X5_keeperAt Q 1 0 0 (hp M A D) 36 [(0, .ref (A 8 p)), (1, .int (nI d)), (2, va_rf (rq (A 13) k')), (3, .ref (A 13 w))] [] := by
        intro k' hk' hke
        refine pw_go tk_X5_keeperAt rfl rfl ?_
        refine pw_get tk_X5_keeperAt rfl fl_X5_26 (hget Lw) rfl ?_
        refine pw_astoreq tk_X5_keeperAt rfl rfl (fw_ok1q rfl) ?_
        refine pw_go tk_X5_keeperAt rfl rfl ?_
        refine pw_M [(0, .ref (A 8 p)), (1, .int (nI d)), (2, va_rf (rq (A 13) k')), (3, va_rf (rq (A 13) (D 13 w 18)))] ⟨rfl, rfl, rfl, rfl, trivial⟩ ?_
        refine ih _ k' hv2 (fun j hj => hin j (List.mem_cons_of_mem _ hj)) hk' ?_
        rw [← he, hke]
        rfl
      refine pw_M [(0, .ref (A 8 p)), (1, .int (nI d)), (2, va_rf (rq (A 13) k)), (3, .ref (A 13 w))] ⟨rfl, rfl, rfl, rfl, trivial⟩ ?_
      have k34 : (wkeep (D 13 w) d && (decide (k = 0) || decide (D 13 (k - 1) 16 < D 13 w 16))) = true → PW G mm_X5_keeperAt Q 1 0 0 (hp M A D) 34 [(0, .ref (A 8 p)), (1, .int (nI d)), (2, va_rf (rq (A 13) k)), (3, .ref (A 13 w))] [] := by
        intro c
        iterate 2 refine pw_go tk_X5_keeperAt rfl rfl ?_
        refine pw_M [(0, .ref (A 8 p)), (1, .int (nI d)), (2, va_rf (rq (A 13) (w + 1))), (3, .ref (A 13 w))] ⟨rfl, rfl, rfl, rfl, trivial⟩ ?_
        exact k36 (w + 1) (by omega) (by rw [if_pos c])
      refine pw_go tk_X5_keeperAt rfl rfl ?_
      refine pw_go tk_X5_keeperAt rfl rfl ?_
      iterate 2 refine pw_go tk_X5_keeperAt rfl rfl ?_
      refine pw_cvp tk_X5_keeperAt rfl ca_X9_keepsOn lk_X5_84 iv_X9_keepsOn sv_X9_keepsOn (hget Lw) rfl rfl (As := [.int (nI d)]) (rest := []) (w_keeps Lw (by omega) (by omega) (by omega)) rfl rfl rfl rfl ?_
      refine pw_ifeqB tk_X5_keeperAt rfl (fun c => k36 k hk ?_) (fun c => ?_)
      · rw [c]
        rfl
      refine pw_aloadq tk_X5_keeperAt rfl rfl rfl ?_
      refine pw_ifnullq tk_X5_keeperAt rfl (fun c2 => ?_) (fun b c2 => ?_)
      · have c2 := rq_n.mp c2
        exact k34 (by rw [c, decide_eq_true c2]; rfl)
      have c2 := (rq_s c2).1
      have hk1 : k - 1 < D 99 0 13 := by omega
      have Bk := C.1 _ hk1
      have Bk16 := Bk.2.2.2.2.2.2.2.2.2.1
      refine pw_go tk_X5_keeperAt rfl rfl ?_
      refine pw_get tk_X5_keeperAt rfl fl_X5_87 (hget Lw) rfl ?_
      refine pw_aloadq tk_X5_keeperAt rfl rfl rfl ?_
      refine pw_q (rq_p c2) ?_
      refine pw_get tk_X5_keeperAt rfl fl_X5_87 (hget (W.lv hk1)) rfl ?_
      refine pw_icN (D 13 w 16) (D 13 (k - 1) 16) tk_X5_keeperAt rfl rfl rfl (by omega) (by omega) (fun c3 => k36 k hk ?_) (fun c3 => k34 ?_)
      · have c3 : D 13 w 16 ≤ D 13 (k - 1) 16 := c3
        rw [decide_eq_false (show ¬ k = 0 by omega), decide_eq_false (show ¬ D 13 (k - 1) 16 < D 13 w 16 by omega), Bool.or_false, Bool.and_false]
        rfl
      · have c3 : ¬ D 13 w 16 ≤ D 13 (k - 1) 16 := c3
        rw [c, decide_eq_true (show D 13 (k - 1) 16 < D 13 w 16 by omega), Bool.or_true]
        rfl
  iterate 3 refine pw_go tk_X5_keeperAt rfl rfl ?_
  refine pw_get tk_X5_keeperAt rfl fl_X5_23 (hget Lp) rfl ?_
  refine pw_astoreq tk_X5_keeperAt rfl rfl rfl ?_
  refine pw_M [(0, .ref (A 8 p)), (1, .int (nI d)), (2, va_rf (rq (A 13) 0)), (3, va_rf (rq (A 13) (D 8 p 2)))] ⟨rfl, rfl, rfl, rfl, trivial⟩ ?_
  exact loop l _ 0 hl hin (by omega) rfl
set_option maxRecDepth 20000 in
theorem p_recallAt {d : Nat} {l : List Nat} (W : Wf D A M) (C : ∀ r, r < D 99 0 17 → rB D r) (hp8 : p < D 99 0 8) (hl : ch (fun i => D 17 i 8) (D 8 p 6) l) (hin : ∀ i ∈ l, i < D 99 0 17) (hd : d < 1073000000) : PM G 1 0 0 mm_X5_recallAt [.ref (A 8 p), .int (nI d)] (hp M A D) (fw_qpQ (rq (A 17) (rc D d l)) (hp M A D)) := by
  refine pm_of (by decide +kernel) rfl rfl rfl ?_
  have Lp := W.lv hp8
  obtain ⟨Q, hQ⟩ : ∃ Q, Q = fw_qpQ (rq (A 17) (rc D d l)) (hp M A D) := ⟨_, rfl⟩
  rw [← hQ]
  have loop : ∀ (l' : List Nat) (v : Nat), ch (fun i => D 17 i 8) v l' → (∀ i ∈ l', i < D 99 0 17) → rc D d l' = rc D d l → PW G mm_X5_recallAt Q 1 0 0 (hp M A D) 5 [(0, .ref (A 8 p)), (1, .int (nI d)), (2, va_rf (rq (A 17) v))] [] := by
    intro l'
    induction l' with
    | nil =>
      intro v hv hin he
      have hv : v = 0 := hv
      subst hv
      refine pw_M [(0, .ref (A 8 p)), (1, .int (nI d)), (2, .null)] ⟨rfl, rfl, rfl, trivial⟩ ?_
      refine pw_go tk_X5_recallAt rfl rfl ?_
      refine pw_go tk_X5_recallAt rfl rfl ?_
      refine pw_go tk_X5_recallAt rfl rfl ?_
      subst hQ
      rw [← he]
      exact pw_aretp (r := none) tk_X5_recallAt rfl rfl (Or.inl ⟨_, rfl⟩)
    | cons w l' ih =>
      intro v hv hin he
      obtain ⟨hv, hv2⟩ := hv
      subst hv
      have hw := hin w List.mem_cons_self
      have Lw := W.lv hw
      obtain ⟨b1, b3, b4, b5, b6⟩ := C w hw
      have k27 : ¬ (D 17 w 1 ≤ d ∧ d < D 17 w 5) → PW G mm_X5_recallAt Q 1 0 0 (hp M A D) 27 [(0, .ref (A 8 p)), (1, .int (nI d)), (2, .ref (A 17 w))] [] := by
        intro c
        refine pw_go tk_X5_recallAt rfl rfl ?_
        refine pw_get tk_X5_recallAt rfl fl_X5_38 (hget Lw) rfl ?_
        refine pw_astoreq tk_X5_recallAt rfl rfl rfl ?_
        refine pw_go tk_X5_recallAt rfl rfl ?_
        refine pw_M [(0, .ref (A 8 p)), (1, .int (nI d)), (2, va_rf (rq (A 17) (D 17 w 8)))] ⟨rfl, rfl, rfl, trivial⟩ ?_
        refine ih _ hv2 (fun j hj => hin j (List.mem_cons_of_mem _ hj)) ?_
        rw [← he]
        show _ = rc D d (w :: l')
        unfold rc
        rw [if_neg c]
        cases l' <;> rfl
      refine pw_M [(0, .ref (A 8 p)), (1, .int (nI d)), (2, .ref (A 17 w))] ⟨rfl, rfl, rfl, trivial⟩ ?_
      refine pw_go tk_X5_recallAt rfl rfl ?_
      refine pw_go tk_X5_recallAt rfl rfl ?_
      refine pw_go tk_X5_recallAt rfl rfl ?_
      refine pw_get tk_X5_recallAt rfl fl_X5_90 (hget Lw) rfl ?_
      refine pw_go tk_X5_recallAt rfl rfl ?_
      refine pw_icN (D 17 w 1) (d) tk_X5_recallAt rfl rfl rfl (by omega) (by omega) (fun c => k27 (fun z => by have c : d < D 17 w 1 := c; omega)) (fun c => ?_)
      have c : ¬ d < D 17 w 1 := c
      iterate 2 refine pw_go tk_X5_recallAt rfl rfl ?_
      refine pw_get tk_X5_recallAt rfl fl_X5_91 (hget Lw) rfl ?_
      refine pw_icN (d) (D 17 w 5) tk_X5_recallAt rfl rfl rfl (by omega) (by omega) (fun c2 => k27 (fun z => by have c2 : D 17 w 5 ≤ d := c2; omega)) (fun c2 => ?_)
      have c2 : ¬ D 17 w 5 ≤ d := c2
      refine pw_go tk_X5_recallAt rfl rfl ?_
      subst hQ
      rw [← he]
      have e : rc D d (w :: l') = w + 1 := if_pos ⟨by omega, by omega⟩
      rw [e]
      exact pw_aretp (r := some (A 17 w)) tk_X5_recallAt rfl rfl (Or.inl ⟨_, rfl⟩)
  refine pw_go tk_X5_recallAt rfl rfl ?_
  refine pw_get tk_X5_recallAt rfl fl_X5_35 (hget Lp) rfl ?_
  refine pw_astoreq tk_X5_recallAt rfl rfl rfl ?_
  refine pw_M [(0, .ref (A 8 p)), (1, .int (nI d)), (2, va_rf (rq (A 17) (D 8 p 6)))] ⟨rfl, rfl, rfl, trivial⟩ ?_
  exact loop l _ hl hin rfl
set_option maxRecDepth 20000 in
theorem p_lic {d : Nat} {l : List Nat} (W : Wf D A M) (C : cB D) (hp8 : p < D 99 0 8) (hl : ch (fun i => D 13 i 18) (D 8 p 2) l) (hin : ∀ i ∈ l, i < D 99 0 13) (hd : d < 1073000000) : PM G 1 0 0 mm_X5_isLicensed [.ref (A 8 p), .int (nI d)] (hp M A D) (fw_qp (bI (lct D d l)) (hp M A D)) := by
  refine pm_of (by decide +kernel) rfl rfl rfl ?_
  have Lp := W.lv hp8
  obtain ⟨R, hR⟩ : ∃ R, R = lct D d l := ⟨_, rfl⟩
  rw [← hR]
  have loop : ∀ (l' : List Nat) (v : Nat), ch (fun i => D 13 i 18) v l' → (∀ i ∈ l', i < D 99 0 13) → lct D d l' = R → PW G mm_X5_isLicensed (fw_qp (bI R) (hp M A D)) 1 0 0 (hp M A D) 5 [(0, .ref (A 8 p)), (1, .int (nI d)), (2, va_rf (rq (A 13) v))] [] := by
    intro l'
    induction l' with
    | nil =>
      intro v hv hin he
      have hv : v = 0 := hv
      subst hv
      refine pw_M [(0, .ref (A 8 p)), (1, .int (nI d)), (2, .null)] ⟨rfl, rfl, rfl, trivial⟩ ?_
      refine pw_go tk_X5_isLicensed rfl rfl ?_
      refine pw_go tk_X5_isLicensed rfl rfl ?_
      refine pw_go tk_X5_isLicensed rfl rfl ?_
      rw [← he]
      exact pw_zretp (b := false) tk_X5_isLicensed rfl rfl
    | cons w l' ih =>
      intro v hv hin he
      obtain ⟨hv, hv2⟩ := hv
      subst hv
      have hw := hin w List.mem_cons_self
      have Lw := W.lv hw
      obtain ⟨b2, b3, b4, b9, b10, b11, b15, b14, -, b16, b17⟩ := C.1 w hw
      have he : (wlic (D 13 w) d || lct D d l') = R := he
      refine pw_M [(0, .ref (A 8 p)), (1, .int (nI d)), (2, .ref (A 13 w))] ⟨rfl, rfl, rfl, trivial⟩ ?_
      refine pw_go tk_X5_isLicensed rfl rfl ?_
      refine pw_go tk_X5_isLicensed rfl rfl ?_
      iterate 2 refine pw_go tk_X5_isLicensed rfl rfl ?_
      refine pw_cvp tk_X5_isLicensed rfl ca_X9_licensesOn lk_X5_94 iv_X9_licensesOn sv_X9_licensesOn (hget Lw) rfl rfl (As := [.int (nI d)]) (rest := []) (w_lic Lw (by omega) (by omega) (by omega)) rfl rfl rfl rfl ?_
      refine pw_ifeqB tk_X5_isLicensed rfl (fun c => ?_) (fun c => ?_)
      · skip
        rw [c, Bool.false_or] at he
        refine pw_go tk_X5_isLicensed rfl rfl ?_
        refine pw_get tk_X5_isLicensed rfl fl_X5_26 (hget Lw) rfl ?_
        refine pw_astoreq tk_X5_isLicensed rfl rfl rfl ?_
        refine pw_go tk_X5_isLicensed rfl rfl ?_
        refine pw_M [(0, .ref (A 8 p)), (1, .int (nI d)), (2, va_rf (rq (A 13) (D 13 w 18)))] ⟨rfl, rfl, rfl, trivial⟩ ?_
        exact ih _ hv2 (fun j hj => hin j (List.mem_cons_of_mem _ hj)) he
      · skip
        rw [c, Bool.true_or] at he
        refine pw_go tk_X5_isLicensed rfl rfl ?_
        rw [← he]
        exact pw_zretp (b := true) tk_X5_isLicensed rfl rfl
  refine pw_go tk_X5_isLicensed rfl rfl ?_
  refine pw_get tk_X5_isLicensed rfl fl_X5_23 (hget Lp) rfl ?_
  refine pw_astoreq tk_X5_isLicensed rfl rfl rfl ?_
  refine pw_M [(0, .ref (A 8 p)), (1, .int (nI d)), (2, va_rf (rq (A 13) (D 8 p 2)))] ⟨rfl, rfl, rfl, trivial⟩ ?_
  exact loop l _ hl hin hR.symm
set_option maxRecDepth 20000 in
theorem p_waiting {l : List Nat} (W : Wf D A M) (C : cB D) (hp8 : p < D 99 0 8) (hl : ch (fun i => D 13 i 18) (D 8 p 2) l) (hin : ∀ i ∈ l, i < D 99 0 13) : PM G 1 0 0 mm_X5_waitingWarrants [.ref (A 8 p)] (hp M A D) (fw_qp (nI (wtn D l)) (hp M A D)) := by
  refine pm_of (by decide +kernel) rfl rfl rfl ?_
  have Lp := W.lv hp8
  have loop : ∀ (l' : List Nat) (v n : Nat), ch (fun i => D 13 i 18) v l' → (∀ i ∈ l', i < D 99 0 13) → n + wtn D l' = wtn D l → PW G mm_X5_waitingWarrants (fw_qp (nI (wtn D l)) (hp M A D)) 1 0 0 (hp M A D) 7 [(0, .ref (A 8 p)), (1, .int (nI n)), (2, va_rf (rq (A 13) v))] [] := by
    intro l'
    induction l' with
    | nil =>
      intro v n hv hin he
      have hv : v = 0 := hv
      subst hv
      refine pw_M [(0, .ref (A 8 p)), (1, .int (nI n)), (2, .null)] ⟨rfl, rfl, rfl, trivial⟩ ?_
      refine pw_go tk_X5_waitingWarrants rfl rfl ?_
      refine pw_go tk_X5_waitingWarrants rfl rfl ?_
      refine pw_go tk_X5_waitingWarrants rfl rfl ?_
      rw [← he]
      exact pw_iretp tk_X5_waitingWarrants rfl rfl
    | cons w l' ih =>
      intro v n hv hin he
      obtain ⟨hv, hv2⟩ := hv
      subst hv
      have hw := hin w List.mem_cons_self
      have Lw := W.lv hw
      obtain ⟨b2, b3, b4, b9, b10, b11, b15, b14, -, b16, b17⟩ := C.1 w hw
      have he : n + ((if wwt (D 13 w) = true then 1 else 0) + wtn D l') = wtn D l := he
      have k21 : ∀ n', n' + wtn D l' = wtn D l → PW G mm_X5_waitingWarrants (fw_qp (nI (wtn D l)) (hp M A D)) 1 0 0 (hp M A D) 21 [(0, .ref (A 8 p)), (1, .int (nI n')), (2, .ref (A 13 w))] [] := by
        intro n' he'
        refine pw_go tk_X5_waitingWarrants rfl rfl ?_
        refine pw_get tk_X5_waitingWarrants rfl fl_X5_26 (hget Lw) rfl ?_
        refine pw_astoreq tk_X5_waitingWarrants rfl rfl rfl ?_
        refine pw_go tk_X5_waitingWarrants rfl rfl ?_
        refine pw_M [(0, .ref (A 8 p)), (1, .int (nI n')), (2, va_rf (rq (A 13) (D 13 w 18)))] ⟨rfl, rfl, rfl, trivial⟩ ?_
        exact ih _ n' hv2 (fun j hj => hin j (List.mem_cons_of_mem _ hj)) he'
      refine pw_M [(0, .ref (A 8 p)), (1, .int (nI n)), (2, .ref (A 13 w))] ⟨rfl, rfl, rfl, trivial⟩ ?_
      refine pw_go tk_X5_waitingWarrants rfl rfl ?_
      refine pw_go tk_X5_waitingWarrants rfl rfl ?_
      refine pw_go tk_X5_waitingWarrants rfl rfl ?_
      refine pw_cvp tk_X5_waitingWarrants rfl ca_X9_waits lk_X5_57 iv_X9_waits sv_X9_waits (hget Lw) rfl rfl (As := []) (rest := []) (w_waits Lw b2 (by omega)) rfl rfl rfl rfl ?_
      refine pw_ifeqB tk_X5_waitingWarrants rfl (fun c => k21 n ?_) (fun c => ?_)
      · rw [c] at he
        simpa using he
      · skip
        rw [c] at he
        refine pw_go tk_X5_waitingWarrants rfl rfl ?_
        refine pw_M [(0, .ref (A 8 p)), (1, .int (nI (n + 1))), (2, .ref (A 13 w))] ⟨rfl, congrArg (fun z => some (Value.int z)) (nI_1 n), rfl, trivial⟩ ?_
        exact k21 (n + 1) (by rw [← he, Nat.add_assoc]; rfl)
  iterate 3 refine pw_go tk_X5_waitingWarrants rfl rfl ?_
  refine pw_get tk_X5_waitingWarrants rfl fl_X5_23 (hget Lp) rfl ?_
  refine pw_astoreq tk_X5_waitingWarrants rfl rfl rfl ?_
  refine pw_M [(0, .ref (A 8 p)), (1, .int (nI 0)), (2, va_rf (rq (A 13) (D 8 p 2)))] ⟨rfl, rfl, rfl, trivial⟩ ?_
  exact loop l _ 0 hl hin (by rw [Nat.zero_add])
set_option maxRecDepth 20000 in
theorem p_state {d : Nat} {wl rl : List Nat} (W : Wf D A M) (C : cB D) (CR : ∀ r, r < D 99 0 17 → rB D r) (hp8 : p < D 99 0 8) (hl : ch (fun i => D 13 i 18) (D 8 p 2) wl) (hin : ∀ i ∈ wl, i < D 99 0 13) (hl2 : ch (fun i => D 17 i 8) (D 8 p 6) rl) (hin2 : ∀ i ∈ rl, i < D 99 0 17) (hd : d < 20000) : PM G 2 0 0 mm_X5_stateAt [.ref (A 8 p), .int (nI d)] (hp M A D) (fw_qp (nI (stt D (sB (D 10 p)) d wl rl)) (hp M A D)) := by
  refine pm_of (by decide +kernel) rfl rfl rfl ?_
  have Lp := W.lv hp8
  have hk := W.ok hp8
  obtain ⟨R, hR⟩ : ∃ R, R = stt D (sB (D 10 p)) d wl rl := ⟨_, rfl⟩
  rw [← hR]
  unfold stt at hR
  have k26 : ∀ i : Bool, i = decide (0 < kp D d 0 wl) → (0 < kp D d 0 wl ∨ 0 < rc D d rl) → PW G mm_X5_stateAt (fw_qp (nI R) (hp M A D)) 2 0 0 (hp M A D) 26 [(0, .ref (A 8 p)), (1, .int (nI d)), (2, .int (bI i))] [] := by
    intro i hi c
    rw [if_pos c, ← hi] at hR
    iterate 2 refine pw_go tk_X5_stateAt rfl rfl ?_
    refine pw_get tk_X5_stateAt rfl fl_X5_10 (hget Lp) rfl ?_
    refine pw_go tk_X5_stateAt rfl rfl ?_
    refine pw_cvp tk_X5_stateAt rfl ca_X3_has lk_X5_73 iv_X3_has sv_X3_has (hget (W.lv hk.1)) rfl rfl (As := [.int (nI d)]) (rest := [.int (bI i)]) (c_has (dy_aw W hk.1) (by omega)) rfl rfl rfl rfl ?_
    refine pw_csp tk_X5_stateAt rfl ca_X5_letter lk_X5_77 sx_X5_letter (As := [.int (bI i), .int (bI (sB (D 10 p) d))]) (rest := []) (p_letter) rfl rfl rfl rfl ?_
    rw [← hR]
    exact pw_cretp tk_X5_stateAt rfl rfl (by rw [hR]; unfold lett; split <;> first | decide | (split <;> decide))
  have k14 : ∀ i : Bool, i = decide (0 < kp D d 0 wl) → PW G mm_X5_stateAt (fw_qp (nI R) (hp M A D)) 2 0 0 (hp M A D) 14 [(0, .ref (A 8 p)), (1, .int (nI d)), (2, .int (bI i))] [] := by
    intro i hi
    refine pw_go tk_X5_stateAt rfl rfl ?_
    refine pw_ifneB tk_X5_stateAt rfl (fun c => k26 i hi (Or.inl (of_decide_eq_true (hi.symm.trans c)))) (fun c => ?_)
    have hk0 : ¬ 0 < kp D d 0 wl := of_decide_eq_false (hi.symm.trans c)
    iterate 2 refine pw_go tk_X5_stateAt rfl rfl ?_
    refine pw_cvpQ tk_X5_stateAt rfl ca_X5_recallAt lk_X5_69 iv_X5_recallAt sv_X5_recallAt (hget Lp) rfl rfl (As := [.int (nI d)]) (rest := []) (p_recallAt W CR hp8 hl2 hin2 (by omega)) rfl rfl rfl rfl ?_
    refine pw_ifnullq tk_X5_stateAt rfl (fun c2 => ?_) (fun b c2 => k26 i hi (Or.inr (rq_s c2).1))
    have c2 := rq_n.mp c2
    rw [if_neg (by omega)] at hR
    iterate 2 refine pw_go tk_X5_stateAt rfl rfl ?_
    refine pw_cvp tk_X5_stateAt rfl ca_X5_isLicensed lk_X5_81 iv_X5_isLicensed sv_X5_isLicensed (hget Lp) rfl rfl (As := [.int (nI d)]) (rest := []) (p_lic W C hp8 hl hin (by omega)) rfl rfl rfl rfl ?_
    refine pw_ifeqB tk_X5_stateAt rfl (fun c3 => ?_) (fun c3 => ?_)
    · rw [c3] at hR
      refine pw_go tk_X5_stateAt rfl rfl ?_
      rw [hR]
      exact pw_cretp (v := 111) tk_X5_stateAt rfl rfl (by decide)
    · rw [c3] at hR
      iterate 2 refine pw_go tk_X5_stateAt rfl rfl ?_
      rw [hR]
      exact pw_cretp (v := 108) tk_X5_stateAt rfl rfl (by decide)
  iterate 2 refine pw_go tk_X5_stateAt rfl rfl ?_
  refine pw_cvpQ tk_X5_stateAt rfl ca_X5_keeperAt lk_X5_65 iv_X5_keeperAt sv_X5_keeperAt (hget Lp) rfl rfl (As := [.int (nI d)]) (rest := []) (p_keeper W C hp8 hl hin (by omega)) rfl rfl rfl rfl ?_
  refine pw_ifnullq tk_X5_stateAt rfl (fun c => ?_) (fun b c => ?_)
  · have c := rq_n.mp c
    iterate 2 refine pw_go tk_X5_stateAt rfl rfl ?_
    refine pw_M [(0, .ref (A 8 p)), (1, .int (nI d)), (2, .int (bI false))] ⟨rfl, rfl, rfl, trivial⟩ ?_
    exact k14 false (decide_eq_false (by omega)).symm
  · have c := (rq_s c).1
    iterate 3 refine pw_go tk_X5_stateAt rfl rfl ?_
    refine pw_M [(0, .ref (A 8 p)), (1, .int (nI d)), (2, .int (bI true))] ⟨rfl, rfl, rfl, trivial⟩ ?_
    exact k14 true (decide_eq_true c).symm
end CPER

