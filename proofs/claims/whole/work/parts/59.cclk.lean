/-! CLERK: from day to day -/
def lcb (D : fw_DB) (n d : Nat) : List Nat → Bool
  | [] => false
  | w :: r => if w < n then (tlic (D 14 w) d || lcb D n d r) else false
def kends (D : fw_DB) (wl : List Nat) (r d : Nat) : Bool := decide (D 17 r 4 ≤ d) || (decide (0 < D 17 r 2) && decide (28 ≤ D 17 r 6)) || !lcb D (D 17 r 3) d wl
/-- whether a recall goes on, by the clerk -/
def kon (D : fw_DB) (wl : List Nat) (r d : Nat) : Bool := decide (D 17 r 1 ≤ d) && !decide (0 < D 17 r 7) && !kends D wl r d
def kr1 (wl : List Nat) (d : Nat) (a : Bool) (D : fw_DB) (r : Nat) : fw_DB := if kon D wl r d = true then dp D 17 r (va_up (D 17 r) 6 (D 17 r 6 + (if a = true then 0 else 1))) else if D 17 r 1 ≤ d ∧ ¬ 0 < D 17 r 7 then dp D 17 r (va_up (D 17 r) 7 1) else D
def krD (wl : List Nat) (d : Nat) (a : Bool) : fw_DB → List Nat → fw_DB
  | D, [] => D
  | D, r :: l => krD wl d a (kr1 wl d a D r) l
def krB (wl : List Nat) (d : Nat) (a : Bool) : fw_DB → Bool → List Nat → Bool
  | _, b, [] => b
  | D, b, r :: l => krB wl d a (kr1 wl d a D r) (b || kon D wl r d) l
def kp1 (d : Nat) (a : Bool) (D : fw_DB) (w : Nat) : fw_DB := dp D 14 w (tpd D w d a)
def kpD (d : Nat) (a : Bool) : fw_DB → List Nat → fw_DB
  | D, [] => D
  | D, w :: l => kpD d a (kp1 d a D w) l
def kpI (d : Nat) (a : Bool) : fw_DB → Bool → List Nat → Bool
  | _, i, [] => i
  | D, i, w :: l => kpI d a (kp1 d a D w) (i || trun (tpd D w d a)) l
def kpL (d : Nat) (a : Bool) : fw_DB → Bool → List Nat → Bool
  | _, i, [] => i
  | D, i, w :: l => kpL d a (kp1 d a D w) (i || tlic (tpd D w d a) d) l
def kaD (i : Nat) : fw_DB → List Nat → fw_DB
  | D, [] => D
  | D, w :: l => kaD i (dp D 14 w (tpa (D 13 w) (D 16 i) (D 14 w))) l
/-- added days read, and the place in the chain -/
def ka1 (p : Nat) (wl : List Nat) (D : fw_DB) (i : Nat) : fw_DB := dp (kaD i D wl) 8 p (va_up (kaD i D wl 8 p) 5 (D 16 i 2))
def karD (p d : Nat) (wl : List Nat) : fw_DB → List Nat → fw_DB
  | D, [] => D
  | D, i :: l => if D 16 i 0 ≤ d then karD p d wl (ka1 p wl D i) l else D
theorem gd_14 {D : fw_DB} {A : fw_AD} {M : fw_MP} {w : Nat} {t : Nat → Nat} (g : gd D A M) : gd (dp D 14 w t) A M ∧ sc D (dp D 14 w t) := ⟨⟨g.1.put (by decide) trivial, g.2.1, g.2.2.1, g.2.2.2⟩, sc_dp (fun f hf => by cases hf)⟩
theorem tpd_B {D : fw_DB} {w d : Nat} {a : Bool} (C : cB D) (hw : w < D 99 0 13) (h7 : 0 < D 13 w 7 → lB D (D 13 w 7 - 1)) (hd : d < 20000) (B : tB (D 14 w)) (h3 : D 14 w 3 ≤ d) (h4 : D 14 w 4 ≤ d) : tB (tpd D w d a) ∧ tpd D w d a 3 ≤ d + 1 ∧ tpd D w d a 4 ≤ d + 1 := by
  have B1 := tp1_B C hw h7 hd B
  have B2 := tp2_B (lw := D 7) (g := D 13 w) hd B1
  have e3 : tp2 (D 7) (D 13 w) d (tp1 D w d (D 14 w)) 3 = D 14 w 3 := by
    unfold tp2
    split
    · show tp1 D w d (D 14 w) 3 = _
      unfold tp1
      split <;> rfl
    · unfold tp1
      split <;> rfl
  have e4 : tp2 (D 7) (D 13 w) d (tp1 D w d (D 14 w)) 4 = D 14 w 4 := by
    unfold tp2
    split
    · show tp1 D w d (D 14 w) 4 = _
      unfold tp1
      split <;> rfl
    · unfold tp1
      split <;> rfl
  unfold tpd
  generalize tp2 (D 7) (D 13 w) d (tp1 D w d (D 14 w)) = T at *
  unfold tp3
  obtain ⟨b0, b1, b2, b3, b4, b5, b6⟩ := B2
  split
  · have q3 : T 3 + (if a = true then 0 else 1) ≤ d + 1 := by split <;> omega
    have q4 : T 4 + (if a = true then 1 else 0) ≤ d + 1 := by split <;> omega
    exact ⟨⟨b0, b1, b2, Nat.lt_of_le_of_lt q3 (by omega), Nat.lt_of_le_of_lt q4 (by omega), b5, b6⟩, q3, q4⟩
  · exact ⟨⟨b0, b1, b2, b3, b4, b5, b6⟩, by omega, by omega⟩
theorem tpa_B {g ag t : Nat → Nat} (B : tB t) : tB (tpa g ag t) ∧ tpa g ag t 3 = t 3 ∧ tpa g ag t 4 = t 4 := by
  unfold tpa
  split
  · obtain ⟨b0, b1, b2, b3, b4, b5, b6⟩ := B
    exact ⟨⟨b0, b1, by show min _ _ < _; unfold wmost; omega, b3, b4, b5, b6⟩, rfl, rfl⟩
  · exact ⟨B, rfl, rfl⟩
/-- the notes' bounds when so many days are past -/
def tG (D : fw_DB) (d : Nat) (wl : List Nat) : Prop := (∀ j, j < D 99 0 13 → tB (D 14 j)) ∧ ∀ j ∈ wl, D 14 j 3 ≤ d ∧ D 14 j 4 ≤ d
theorem tG_14 {D : fw_DB} {d w : Nat} {wl : List Nat} {t : Nat → Nat} (h : tG D d wl) (ht : tB t ∧ (w ∈ wl → t 3 ≤ d ∧ t 4 ≤ d)) : tG (dp D 14 w t) d wl := ⟨fun j hj => by
  by_cases c : j = w
  · subst c
    rw [dp_s]
    exact ht.1
  · rw [dp_i c]
    exact h.1 j hj, fun j hj => by
  by_cases c : j = w
  · subst c
    rw [dp_s]
    exact ht.2 hj
  · rw [dp_i c]
    exact h.2 j hj⟩
theorem tG_a {D : fw_DB} {d w i : Nat} {wl : List Nat} (h : tG D d wl) (hw : w < D 99 0 13) : tG (dp D 14 w (tpa (D 13 w) (D 16 i) (D 14 w))) d wl := by
  have hb := tpa_B (g := D 13 w) (ag := D 16 i) (h.1 w hw)
  exact tG_14 h ⟨hb.1, fun z => by rw [hb.2.1, hb.2.2]; exact h.2 w z⟩
theorem kaD_gd {A : fw_AD} {M : fw_MP} {i d : Nat} {wl : List Nat} : ∀ {l : List Nat} {D : fw_DB}, gd D A M → tG D d wl → (∀ w ∈ l, w < D 99 0 13) → gd (kaD i D l) A M ∧ sc D (kaD i D l) ∧ tG (kaD i D l) d wl
  | [], D, g, h, _ => ⟨g, sc.rf, h⟩
  | w :: l, D, g, h, hl => by
    obtain ⟨g1, s1⟩ := gd_14 (w := w) (t := tpa (D 13 w) (D 16 i) (D 14 w)) g
    obtain ⟨g2, s2, h2⟩ := kaD_gd (i := i) (l := l) g1 (tG_a (w := w) (i := i) h (hl w List.mem_cons_self)) (fun w' hw' => hl w' (List.mem_cons_of_mem _ hw'))
    exact ⟨g2, s1.tr s2, h2⟩
theorem ka1_gd {D : fw_DB} {A : fw_AD} {M : fw_MP} {i d p : Nat} {wl : List Nat} (g : gd D A M) (h : tG D d wl) (hl : ∀ w ∈ wl, w < D 99 0 13) (hp8 : p < D 99 0 8) (hi : i < D 99 0 16) : gd (ka1 p wl D i) A M ∧ sc D (ka1 p wl D i) ∧ tG (ka1 p wl D i) d wl := by
  obtain ⟨g2, s2, h2⟩ := kaD_gd (i := i) g h hl
  have hk := g2.1.ok (k := 8) (i := p) (by rw [s2.N]; exact hp8)
  have hi2 := g.1.ok hi
  refine ⟨⟨g2.1.put (by decide) ?_, g2.2.1, g2.2.2.1, g2.2.2.2⟩, s2.tr (sc_dp (fun f hf => ?_)), h2⟩
  · obtain ⟨a1, a2, a3, a4, a5, a6, a7, a8⟩ := hk
    exact ⟨a1, a2, a3, a4, a5, by rw [s2.N]; exact hi2, a7, a8⟩
  · show (if f = 5 then _ else _) = _
    rw [if_neg (fun z => by subst z; cases hf)]
theorem fit_rf {n : String} {r : Option Nat} : fits (.object n) (va_rf r) = true := by cases r <;> rfl
theorem nar_rf {n : String} {r : Option Nat} : narrow (.object n) (va_rf r) = va_rf r := by cases r <;> rfl
section CCLK
variable {G : fw_G} {D : fw_DB} {A : fw_AD} {M : fw_MP} {p : Nat} {wl al rl : List Nat}
set_option maxRecDepth 20000 in
theorem k_read {d d' : Nat} {u : List Nat} (g : gd D A M) (P : pL D p wl al rl) (h : tG D d' wl) (hu : ch (fun i => D 16 i 2) (D 8 p 5) u) (hin : ∀ i ∈ u, i < D 99 0 16) (hd : d < 20000) : PM G 4 0 0 mm_X2_readAdded [.ref (A 8 p), .int (nI d)] (hp M A D) (fw_qV (fun h' => h' = hp M A (karD p d wl D u)) fw_noX) := by
  refine pm_of (by decide +kernel) rfl rfl rfl ?_
  obtain ⟨DR, hDR⟩ : ∃ DR, DR = karD p d wl D u := ⟨_, rfl⟩
  rw [← hDR]
  obtain ⟨Q, hQ⟩ : ∃ Q, Q = fw_qV (fun h' => h' = hp M A DR) fw_noX := ⟨_, rfl⟩
  rw [← hQ]
  have loop : ∀ (l : List Nat) (v : Nat) (D1 : fw_DB), gd D1 A M → pL D1 p wl al rl → tG D1 d' wl → ch (fun i => D1 16 i 2) v l → (∀ i ∈ l, i < D1 99 0 16) → karD p d wl D1 l = DR → PW G mm_X2_readAdded Q 4 0 0 (hp M A D1) 5 [(0, .ref (A 8 p)), (1, .int (nI d)), (2, va_rf (rq (A 16) v))] [] := by
    intro l
    induction l with
    | nil =>
      intro v D1 g1 P1 h1 hv hin he
      have hv : v = 0 := hv
      subst hv
      refine pw_M [(0, .ref (A 8 p)), (1, .int (nI d)), (2, .null)] ⟨rfl, rfl, rfl, trivial⟩ ?_
      refine pw_go tk_X2_readAdded rfl rfl ?_
      refine pw_go tk_X2_readAdded rfl rfl ?_
      subst hQ
      exact pw_vret tk_X2_readAdded rfl rfl ⟨rfl, congrArg (hp M A) he⟩
    | cons i l ih =>
      intro v D1 g1 P1 h1 hv hin he
      obtain ⟨hv, hv2⟩ := hv
      subst hv
      have hi := hin i List.mem_cons_self
      have W1 := g1.1
      have Li := W1.lv hi
      have Bi := g1.2.1.2.2 i hi
      have Bi1 := Bi.1
      have Lp := W1.lv P1.2.2.2.2.2.2
      refine pw_M [(0, .ref (A 8 p)), (1, .int (nI d)), (2, .ref (A 16 i))] ⟨rfl, rfl, rfl, trivial⟩ ?_
      unfold karD at he
      refine pw_go tk_X2_readAdded rfl rfl ?_
      refine pw_go tk_X2_readAdded rfl rfl ?_
      refine pw_go tk_X2_readAdded rfl rfl ?_
      refine pw_get tk_X2_readAdded rfl fl_X2_100 (hget Li) rfl ?_
      refine pw_go tk_X2_readAdded rfl rfl ?_
      refine pw_icN (D1 16 i 0) (d) tk_X2_readAdded rfl rfl rfl (by omega) (by omega) (fun c => ?_) (fun c => ?_)
      · have c : d < D1 16 i 0 := c
        rw [if_neg (by omega)] at he
        subst hQ
        exact pw_vret tk_X2_readAdded rfl rfl ⟨rfl, congrArg (hp M A) he⟩
      have c : ¬ d < D1 16 i 0 := c
      rw [if_pos (by omega)] at he
      have inner : ∀ (m : List Nat) (v : Nat) (D2 : fw_DB), gd D2 A M → sc D1 D2 → tG D2 d' wl → ch (fun i => D2 13 i 18) v m → (∀ w ∈ m, w < D2 99 0 13) → kaD i D2 m = kaD i D1 wl → PW G mm_X2_readAdded Q 4 0 0 (hp M A D2) 22 [(0, .ref (A 8 p)), (1, .int (nI d)), (2, .ref (A 16 i)), (3, va_rf (rq (A 13) v))] [] := by
        intro m
        induction m with
        | nil =>
          intro v D2 g2 s2 h2 hv hin2 he2
          have hv : v = 0 := hv
          subst hv
          have he2 : D2 = kaD i D1 wl := he2
          obtain ⟨g3, s3, h3⟩ := ka1_gd (i := i) g1 h1 (fun w hw => (P1.2.1 w hw).1) P1.2.2.2.2.2.2 hi
          refine pw_M [(0, .ref (A 8 p)), (1, .int (nI d)), (2, .ref (A 16 i)), (3, .null)] ⟨rfl, rfl, rfl, rfl, trivial⟩ ?_
          refine pw_go tk_X2_readAdded rfl rfl ?_
          refine pw_go tk_X2_readAdded rfl rfl ?_
          iterate 2 refine pw_go tk_X2_readAdded rfl rfl ?_
          refine pw_get tk_X2_readAdded rfl fl_X2_109 (hget Li) rfl ?_
          refine pw_put tk_X2_readAdded rfl fp_X2_32 (hget Lp) nar_rf fit_rf (Nat.le_of_ble_eq_true rfl) ?_
          refine pw_h (hset (va_up (D2 8 p) 5 (D2 16 i 2)) g2.1 Lp) ?_
          refine pw_go tk_X2_readAdded rfl rfl ?_
          refine pw_get tk_X2_readAdded rfl fl_X2_109 (hget Li) rfl ?_
          refine pw_astoreq tk_X2_readAdded rfl rfl rfl ?_
          refine pw_go tk_X2_readAdded rfl rfl ?_
          have e3 : D2 16 i 2 = D1 16 i 2 := s2 16 i 2 rfl
          have e4 : dp D2 8 p (va_up (D2 8 p) 5 (D2 16 i 2)) = ka1 p wl D1 i := by
            rw [e3, he2]
            rfl
          refine pw_h (congrArg (hp M A) e4) ?_
          refine pw_M [(0, .ref (A 8 p)), (1, .int (nI d)), (2, va_rf (rq (A 16) (D1 16 i 2)))] ⟨rfl, rfl, congrArg (fun z => some (va_rf (rq (A 16) z))) e3, trivial⟩ ?_
          refine ih _ _ g3 (P1.sc s3) h3 ?_ ?_ he
          · exact ch_c (fun j _ => s3 16 j 2 rfl) hv2
          · intro j hj
            rw [s3.N]
            exact hin j (List.mem_cons_of_mem _ hj)
        | cons w m ih2 =>
          intro v D2 g2 s2 h2 hv hin2 he2
          obtain ⟨hv, hv3⟩ := hv
          subst hv
          have hw := hin2 w List.mem_cons_self
          have hi2 : i < D2 99 0 16 := by rw [s2.N]; exact hi
          have hk := g2.1.ok hw
          have h0 := h2.1 w hw
          have Lw := g2.1.lv hw
          obtain ⟨g3, s3⟩ := gd_14 (w := w) (t := tpa (D2 13 w) (D2 16 i) (D2 14 w)) g2
          refine pw_M [(0, .ref (A 8 p)), (1, .int (nI d)), (2, .ref (A 16 i)), (3, .ref (A 13 w))] ⟨rfl, rfl, rfl, rfl, trivial⟩ ?_
          refine pw_go tk_X2_readAdded rfl rfl ?_
          refine pw_go tk_X2_readAdded rfl rfl ?_
          refine pw_go tk_X2_readAdded rfl rfl ?_
          refine pw_get tk_X2_readAdded rfl fl_X2_39 (hget Lw) rfl ?_
          iterate 2 refine pw_go tk_X2_readAdded rfl rfl ?_
          refine pw_cv tk_X2_readAdded rfl ca_X7_putAdded lk_X2_105 iv_X7_putAdded sv_X7_putAdded (hget (g2.1.lv hk.2.2.1)) rfl rfl (As := [.ref (A 13 w), .ref (A 16 i)]) (rest := [])  (t_putAdded g2.1 g2.2.1 hw h0 hi2) rfl rfl rfl (Nat.le_of_ble_eq_true rfl) (Nat.le_of_eq (Nat.zero_add _)) (Nat.le_of_eq (Nat.zero_add _)) ?_ ?_
          · rintro _ _ ⟨rfl, rfl⟩
            refine pw_go tk_X2_readAdded rfl rfl ?_
            refine pw_get tk_X2_readAdded rfl fl_X2_49 (hget Lw) rfl ?_
            refine pw_astoreq tk_X2_readAdded rfl rfl rfl ?_
            refine pw_go tk_X2_readAdded rfl rfl ?_
            refine pw_M [(0, .ref (A 8 p)), (1, .int (nI d)), (2, .ref (A 16 i)), (3, va_rf (rq (A 13) (D2 13 w 18)))] ⟨rfl, rfl, rfl, rfl, trivial⟩ ?_
            exact ih2 _ _ g3 (s2.tr s3) (tG_a (w := w) (i := i) h2 hw) hv3 (fun j hj => hin2 j (List.mem_cons_of_mem _ hj)) he2
          · exact fun E h' z => z.elim
      refine pw_go tk_X2_readAdded rfl rfl ?_
      refine pw_get tk_X2_readAdded rfl fl_X2_35 (hget Lp) rfl ?_
      refine pw_astoreq tk_X2_readAdded rfl rfl rfl ?_
      refine pw_M [(0, .ref (A 8 p)), (1, .int (nI d)), (2, .ref (A 16 i)), (3, va_rf (rq (A 13) (D1 8 p 2)))] ⟨rfl, rfl, rfl, rfl, trivial⟩ ?_
      exact inner wl _ D1 g1 sc.rf h1 P1.1 (fun w hw => (P1.2.1 w hw).1) rfl
  refine pw_go tk_X2_readAdded rfl rfl ?_
  refine pw_get tk_X2_readAdded rfl fl_X2_32 (hget (g.1.lv P.2.2.2.2.2.2)) rfl ?_
  refine pw_astoreq tk_X2_readAdded rfl rfl rfl ?_
  refine pw_M [(0, .ref (A 8 p)), (1, .int (nI d)), (2, va_rf (rq (A 16) (D 8 p 5)))] ⟨rfl, rfl, rfl, trivial⟩ ?_
  exact loop u _ D g P h hu hin hDR.symm
set_option maxRecDepth 20000 in
theorem k_ends {r d : Nat} (g : gd D A M) (P : pL D p wl al rl) (h : ∀ j, j < D 99 0 13 → tB (D 14 j)) (hr : r < D 99 0 17) (hd : d < 20000) : PM G 1 0 0 mm_X2_endsOn [.ref (A 17 r), .ref (A 8 p), .int (nI d)] (hp M A D) (fw_qp (bI (kends D wl r d)) (hp M A D)) := by
  refine pm_of (by decide +kernel) rfl rfl rfl ?_
  have W := g.1
  have Lr := W.lv hr
  have Lp := W.lv P.2.2.2.2.2.2
  obtain ⟨c1, c3, c4, c5, c6⟩ := g.2.2.1 r hr
  obtain ⟨R, hR⟩ : ∃ R, R = kends D wl r d := ⟨_, rfl⟩
  rw [← hR]
  unfold kends at hR
  have k24 : R = true → PW G mm_X2_endsOn (fw_qp (bI R) (hp M A D)) 1 0 0 (hp M A D) 24 [(0, .ref (A 17 r)), (1, .ref (A 8 p)), (2, .int (nI d))] [] := by
    intro e
    rw [e]
    refine pw_go tk_X2_endsOn rfl rfl ?_
    exact pw_zretp (b := true) tk_X2_endsOn rfl rfl
  have loop : ∀ (l : List Nat) (v : Nat), ch (fun i => D 13 i 18) v l → (∀ i ∈ l, i < D 99 0 13) → R = !lcb D (D 17 r 3) d l → PW G mm_X2_endsOn (fw_qp (bI R) (hp M A D)) 1 0 0 (hp M A D) 31 [(0, .ref (A 17 r)), (1, .ref (A 8 p)), (2, .int (nI d)), (3, va_rf (rq (A 13) v))] [] := by
    intro l
    induction l with
    | nil =>
      intro v hv hin he
      have hv : v = 0 := hv
      subst hv
      refine pw_M [(0, .ref (A 17 r)), (1, .ref (A 8 p)), (2, .int (nI d)), (3, .null)] ⟨rfl, rfl, rfl, rfl, trivial⟩ ?_
      refine pw_go tk_X2_endsOn rfl rfl ?_
      refine pw_go tk_X2_endsOn rfl rfl ?_
      refine pw_go tk_X2_endsOn rfl rfl ?_
      rw [he]
      exact pw_zretp (b := true) tk_X2_endsOn rfl rfl
    | cons w l ih =>
      intro v hv hin he
      obtain ⟨hv, hv2⟩ := hv
      subst hv
      have hw := hin w List.mem_cons_self
      have Lw := W.lv hw
      have hk := W.ok hw
      have he : R = !(if w < D 17 r 3 then (tlic (D 14 w) d || lcb D (D 17 r 3) d l) else false) := he
      refine pw_M [(0, .ref (A 17 r)), (1, .ref (A 8 p)), (2, .int (nI d)), (3, .ref (A 13 w))] ⟨rfl, rfl, rfl, rfl, trivial⟩ ?_
      have hN := g.2.2.2
      refine pw_go tk_X2_endsOn rfl rfl ?_
      refine pw_go tk_X2_endsOn rfl rfl ?_
      refine pw_go tk_X2_endsOn rfl rfl ?_
      refine pw_get tk_X2_endsOn rfl fl_X2_122 (hget Lw) rfl ?_
      refine pw_go tk_X2_endsOn rfl rfl ?_
      refine pw_get tk_X2_endsOn rfl fl_X2_125 (hget Lr) rfl ?_
      refine pw_icN (w) (D 17 r 3) tk_X2_endsOn rfl rfl rfl (by omega) (by omega) (fun c => ?_) (fun c => ?_)
      · have c : D 17 r 3 ≤ w := c
        rw [if_neg (by omega)] at he
        refine pw_go tk_X2_endsOn rfl rfl ?_
        rw [he]
        exact pw_zretp (b := true) tk_X2_endsOn rfl rfl
      have c : ¬ D 17 r 3 ≤ w := c
      rw [if_pos (by omega)] at he
      refine pw_go tk_X2_endsOn rfl rfl ?_
      refine pw_get tk_X2_endsOn rfl fl_X2_39 (hget Lw) rfl ?_
      refine pw_go tk_X2_endsOn rfl rfl ?_
      refine pw_cvp tk_X2_endsOn rfl ca_X7_licenses lk_X2_85 iv_X7_licenses sv_X7_licenses (hget (W.lv hk.2.2.1)) rfl rfl (As := [.int (nI d)]) (rest := []) (t_lic (W.lv hk.2.2.1) (h w hw) (by omega)) rfl rfl rfl rfl ?_
      refine pw_ifeqB tk_X2_endsOn rfl (fun c2 => ?_) (fun c2 => ?_)
      · rw [c2, Bool.false_or] at he
        refine pw_go tk_X2_endsOn rfl rfl ?_
        refine pw_get tk_X2_endsOn rfl fl_X2_49 (hget Lw) rfl ?_
        refine pw_astoreq tk_X2_endsOn rfl rfl rfl ?_
        refine pw_go tk_X2_endsOn rfl rfl ?_
        refine pw_M [(0, .ref (A 17 r)), (1, .ref (A 8 p)), (2, .int (nI d)), (3, va_rf (rq (A 13) (D 13 w 18)))] ⟨rfl, rfl, rfl, rfl, trivial⟩ ?_
        exact ih _ hv2 (fun j hj => hin j (List.mem_cons_of_mem _ hj)) he
      · rw [c2, Bool.true_or] at he
        refine pw_go tk_X2_endsOn rfl rfl ?_
        rw [he]
        exact pw_zretp (b := false) tk_X2_endsOn rfl rfl
  have k26 : R = !lcb D (D 17 r 3) d wl → PW G mm_X2_endsOn (fw_qp (bI R) (hp M A D)) 1 0 0 (hp M A D) 26 [(0, .ref (A 17 r)), (1, .ref (A 8 p)), (2, .int (nI d))] [] := by
    intro e
    refine pw_go tk_X2_endsOn rfl rfl ?_
    refine pw_get tk_X2_endsOn rfl fl_X2_35 (hget Lp) rfl ?_
    refine pw_astoreq tk_X2_endsOn rfl rfl rfl ?_
    refine pw_M [(0, .ref (A 17 r)), (1, .ref (A 8 p)), (2, .int (nI d)), (3, va_rf (rq (A 13) (D 8 p 2)))] ⟨rfl, rfl, rfl, rfl, trivial⟩ ?_
    exact loop wl _ P.1 (fun w hw => (P.2.1 w hw).1) e
  refine pw_go tk_X2_endsOn rfl rfl ?_
  refine pw_get tk_X2_endsOn rfl fl_X2_116 (hget Lr) rfl ?_
  refine pw_go tk_X2_endsOn rfl rfl ?_
  refine pw_icN (D 17 r 4) (d) tk_X2_endsOn rfl rfl rfl (by omega) (by omega) (fun c => k24 ?_) (fun c => ?_)
  · have c : D 17 r 4 ≤ d := c
    rw [hR, decide_eq_true c]
    rfl
  have c : ¬ D 17 r 4 ≤ d := c
  rw [decide_eq_false c, Bool.false_or] at hR
  refine pw_go tk_X2_endsOn rfl rfl ?_
  refine pw_get tk_X2_endsOn rfl fl_X2_119 (hget Lr) rfl ?_
  refine pw_ifeqB tk_X2_endsOn rfl (fun c2 => k26 ?_) (fun c2 => ?_)
  · rw [hR, show decide (0 < D 17 r 2) = false from c2, Bool.false_and, Bool.false_or]
  rw [show decide (0 < D 17 r 2) = true from c2, Bool.true_and] at hR
  refine pw_go tk_X2_endsOn rfl rfl ?_
  refine pw_get tk_X2_endsOn rfl fl_X2_56 (hget Lr) rfl ?_
  refine pw_go tk_X2_endsOn rfl rfl ?_
  refine pw_icN (D 17 r 6) (28) tk_X2_endsOn rfl rfl rfl (by omega) (by omega) (fun c3 => k26 ?_) (fun c3 => k24 ?_)
  · have c3 : D 17 r 6 < 28 := c3
    rw [hR, decide_eq_false (show ¬ 28 ≤ D 17 r 6 by omega), Bool.false_or]
  · have c3 : ¬ D 17 r 6 < 28 := c3
    rw [hR, decide_eq_true (show 28 ≤ D 17 r 6 by omega)]
    rfl
end CCLK

