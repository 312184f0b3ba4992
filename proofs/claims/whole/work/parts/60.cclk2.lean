/-! CLERK: recalls, a day, all days -/
theorem gd_17 {D : fw_DB} {A : fw_AD} {M : fw_MP} {r : Nat} {t : Nat → Nat} (g : gd D A M) (hr : r < D 99 0 17) (h6 : t 6 ≤ 20000) (h5 : t 5 = D 17 r 5) (hf : ∀ f, ¬ (6 ≤ f ∧ f ≤ 7) → t f = D 17 r f) : gd (dp D 17 r t) A M ∧ sc D (dp D 17 r t) := by
  have hk := g.1.ok hr
  refine ⟨⟨g.1.put (by decide) ?_, g.2.1, fun r' hr' => ?_, g.2.2.2⟩, sc_dp (fun f e => hf f (fun z => ?_))⟩
  · show t 0 < D 99 0 8 ∧ t 8 ≤ D 99 0 17
    rw [hf 0 (by omega), hf 8 (by omega)]
    exact hk
  · by_cases c : r' = r
    · subst c
      obtain ⟨c1, c3, c4, c5, c6⟩ := g.2.2.1 _ hr
      unfold rB
      rw [dp_s, hf 1 (by omega), hf 3 (by omega), hf 4 (by omega), hf 5 (by omega)]
      exact ⟨c1, c3, c4, c5, h6⟩
    · have := g.2.2.1 r' hr'
      unfold rB at this ⊢
      rw [dp_i c]
      exact this
  · have e : (decide (5 ≤ f) && decide (f ≤ 7)) = false := e
    rw [decide_eq_true (show 5 ≤ f by omega), decide_eq_true z.2] at e
    cases e
theorem kr1_gd {D : fw_DB} {A : fw_AD} {M : fw_MP} {r d : Nat} {a : Bool} {wl : List Nat} (g : gd D A M) (hr : r < D 99 0 17) (hd : d < 20000) (h6 : D 17 r 6 ≤ d) : gd (kr1 wl d a D r) A M ∧ sc D (kr1 wl d a D r) ∧ (kr1 wl d a D r 17 r 6 ≤ d + 1) ∧ (∀ j, j ≠ r → kr1 wl d a D r 17 j = D 17 j) ∧ ∀ k, k ≠ 17 → kr1 wl d a D r k = D k := by
  unfold kr1
  split
  · have q : D 17 r 6 + (if a = true then 0 else 1) ≤ d + 1 := by split <;> omega
    generalize D 17 r 6 + (if a = true then 0 else 1) = v at q
    obtain ⟨g1, s1⟩ := gd_17 (r := r) (t := va_up (D 17 r) 6 v) g hr (by show v ≤ _; omega) rfl (fun f hf => if_neg (by omega))
    exact ⟨g1, s1, by rw [dp_s]; exact q, fun j hj => dp_i hj, fun k hk => funext fun i => dp_k hk⟩
  · split
    · obtain ⟨g1, s1⟩ := gd_17 (r := r) (t := va_up (D 17 r) 7 1) g hr (by show D 17 r 6 ≤ _; omega) rfl (fun f hf => if_neg (by omega))
      exact ⟨g1, s1, by rw [dp_s]; show D 17 r 6 ≤ _; omega, fun j hj => dp_i hj, fun k hk => funext fun i => dp_k hk⟩
    · exact ⟨g, sc.rf, by omega, fun j hj => rfl, fun k hk => rfl⟩
section CCLK2
variable {G : fw_G} {D : fw_DB} {A : fw_AD} {M : fw_MP} {p : Nat} {wl al rl : List Nat}
set_option maxRecDepth 20000 in
theorem k_recalls {d : Nat} {a : Bool} (g : gd D A M) (P : pL D p wl al rl) (hn : rl.Nodup) (h : ∀ j, j < D 99 0 13 → tB (D 14 j)) (h6 : ∀ r ∈ rl, D 17 r 6 ≤ d) (hd : d < 20000) : PM G 2 0 0 mm_X2_passRecalls [.ref (A 8 p), .int (nI d), .int (bI a)] (hp M A D) (fw_qI (fun x h' => x = bI (krB wl d a D false rl) ∧ h' = hp M A (krD wl d a D rl)) fw_noX) := by
  refine pm_of (by decide +kernel) rfl rfl rfl ?_
  obtain ⟨DR, hDR⟩ : ∃ DR, DR = krD wl d a D rl := ⟨_, rfl⟩
  obtain ⟨BR, hBR⟩ : ∃ BR, BR = krB wl d a D false rl := ⟨_, rfl⟩
  rw [← hDR, ← hBR]
  obtain ⟨Q, hQ⟩ : ∃ Q, Q = fw_qI (fun x h' => x = bI BR ∧ h' = hp M A DR) fw_noX := ⟨_, rfl⟩
  rw [← hQ]
  have loop : ∀ (l : List Nat) (v : Nat) (b : Bool) (D1 : fw_DB), gd D1 A M → pL D1 p wl al rl → (∀ j, j < D1 99 0 13 → tB (D1 14 j)) → ch (fun i => D1 17 i 8) v l → l.Nodup → (∀ r ∈ l, r < D1 99 0 17 ∧ D1 17 r 6 ≤ d) → krD wl d a D1 l = DR → krB wl d a D1 b l = BR → PW G mm_X2_passRecalls Q 2 0 0 (hp M A D1) 8 [(0, .ref (A 8 p)), (1, .int (nI d)), (2, .int (bI a)), (3, .int (bI b)), (4, va_rf (rq (A 17) v))] [] := by
    intro l
    induction l with
    | nil =>
      intro v b D1 g1 P1 h1 hv hn hin he hb
      have hv : v = 0 := hv
      subst hv
      have he : D1 = DR := he
      have hb : b = BR := hb
      refine pw_M [(0, .ref (A 8 p)), (1, .int (nI d)), (2, .int (bI a)), (3, .int (bI b)), (4, .null)] ⟨rfl, rfl, rfl, rfl, rfl, trivial⟩ ?_
      refine pw_go tk_X2_passRecalls rfl rfl ?_
      refine pw_go tk_X2_passRecalls rfl rfl ?_
      refine pw_go tk_X2_passRecalls rfl rfl ?_
      subst hQ
      exact pw_iret tk_X2_passRecalls rfl rfl (bI_z b) ⟨_, rfl, by rw [hb], by rw [he]⟩
    | cons r l ih =>
      intro v b D1 g1 P1 h1 hv hn hin he hb
      obtain ⟨hv, hv2⟩ := hv
      subst hv
      obtain ⟨hr, hr6⟩ := hin r List.mem_cons_self
      have W1 := g1.1
      have Lr := W1.lv hr
      obtain ⟨c1, c3, c4, c5, c6⟩ := g1.2.2.1 r hr
      have he : krD wl d a (kr1 wl d a D1 r) l = DR := he
      have hb : krB wl d a (kr1 wl d a D1 r) (b || kon D1 wl r d) l = BR := hb
      obtain ⟨g2, s2, h26, hoth, hk2⟩ := kr1_gd (wl := wl) (a := a) g1 hr hd hr6
      refine pw_M [(0, .ref (A 8 p)), (1, .int (nI d)), (2, .int (bI a)), (3, .int (bI b)), (4, .ref (A 17 r))] ⟨rfl, rfl, rfl, rfl, rfl, trivial⟩ ?_
      have k73 : ∀ b', b' = (b || kon D1 wl r d) → PW G mm_X2_passRecalls Q 2 0 0 (hp M A (kr1 wl d a D1 r)) 73 [(0, .ref (A 8 p)), (1, .int (nI d)), (2, .int (bI a)), (3, .int (bI b')), (4, .ref (A 17 r))] [] := by
        intro b' hb'
        subst hb'
        refine pw_go tk_X2_passRecalls rfl rfl ?_
        refine pw_get tk_X2_passRecalls rfl fl_X2_66 (hget Lr) rfl ?_
        refine pw_astoreq tk_X2_passRecalls rfl rfl rfl ?_
        refine pw_go tk_X2_passRecalls rfl rfl ?_
        refine pw_M [(0, .ref (A 8 p)), (1, .int (nI d)), (2, .int (bI a)), (3, .int (bI (b || kon D1 wl r d))), (4, va_rf (rq (A 17) (kr1 wl d a D1 r 17 r 8)))] ⟨rfl, rfl, rfl, rfl, rfl, trivial⟩ ?_
        refine ih _ _ _ g2 (P1.sc s2) ?_ ?_ (List.nodup_cons.mp hn).2 ?_ he hb
        · rw [s2.N, hk2 14 (by decide)]
          exact h1
        · rw [s2 17 r 8 rfl]
          exact ch_c (fun i _ => s2 17 i 8 rfl) hv2
        · intro j hj
          have nj : j ≠ r := fun z => (List.nodup_cons.mp hn).1 (z ▸ hj)
          rw [s2.N, hoth j nj]
          exact hin j (List.mem_cons_of_mem _ hj)
      have k73o : (¬ D1 17 r 1 ≤ d ∨ 0 < D1 17 r 7) → PW G mm_X2_passRecalls Q 2 0 0 (hp M A D1) 73 [(0, .ref (A 8 p)), (1, .int (nI d)), (2, .int (bI a)), (3, .int (bI b)), (4, .ref (A 17 r))] [] := by
        intro c
        have e1 : kon D1 wl r d = false := by
          unfold kon
          rcases c with c | c
          · rw [decide_eq_false c]
            rfl
          · rw [decide_eq_true c, Bool.not_true, Bool.and_false]
            rfl
        have e2 : kr1 wl d a D1 r = D1 := by
          unfold kr1
          rw [if_neg (by rw [e1]; decide), if_neg (fun z => c.elim (fun y => y z.1) (fun y => z.2 y))]
        have := k73 b (by rw [e1, Bool.or_false])
        rw [e2] at this
        exact this
      refine pw_go tk_X2_passRecalls rfl rfl ?_
      refine pw_go tk_X2_passRecalls rfl rfl ?_
      refine pw_go tk_X2_passRecalls rfl rfl ?_
      refine pw_get tk_X2_passRecalls rfl fl_X2_111 (hget Lr) rfl ?_
      refine pw_go tk_X2_passRecalls rfl rfl ?_
      refine pw_icN (D1 17 r 1) (d) tk_X2_passRecalls rfl rfl rfl (by omega) (by omega) (fun c => k73o (Or.inl (fun z => by have c : d < D1 17 r 1 := c; omega))) (fun c => ?_)
      have c : ¬ d < D1 17 r 1 := c
      refine pw_go tk_X2_passRecalls rfl rfl ?_
      refine pw_get tk_X2_passRecalls rfl fl_X2_62 (hget Lr) rfl ?_
      refine pw_ifeqB tk_X2_passRecalls rfl (fun c2 => ?_) (fun c2 => ?_)
      rotate_left
      · have c2 : 0 < D1 17 r 7 := of_decide_eq_true c2
        refine pw_go tk_X2_passRecalls rfl rfl ?_
        exact k73o (Or.inr c2)
      have c2 : ¬ 0 < D1 17 r 7 := of_decide_eq_false c2
      iterate 3 refine pw_go tk_X2_passRecalls rfl rfl ?_
      refine pw_csp tk_X2_passRecalls rfl ca_X2_endsOn lk_X2_112 sx_X2_endsOn (As := [.ref (A 17 r), .ref (A 8 p), .int (nI d)]) (rest := []) (k_ends g1 P1 h1 hr hd) rfl rfl rfl rfl ?_
      refine pw_ifeqB tk_X2_passRecalls rfl (fun c3 => ?_) (fun c3 => ?_)
      · have e1 : kon D1 wl r d = true := by
          unfold kon
          rw [c3, decide_eq_true (show D1 17 r 1 ≤ d by omega), decide_eq_false c2]
          rfl
        have e2 : kr1 wl d a D1 r = dp D1 17 r (va_up (D1 17 r) 6 (D1 17 r 6 + (if a = true then 0 else 1))) := if_pos e1
        have k73' := k73 true (by rw [e1, Bool.or_true])
        rw [e2] at k73'
        cases a with
        | true =>
          iterate 4 refine pw_go tk_X2_passRecalls rfl rfl ?_
          refine pw_get tk_X2_passRecalls rfl fl_X2_56 (hget Lr) rfl ?_
          refine pw_go tk_X2_passRecalls rfl rfl ?_
          refine pw_br tk_X2_passRecalls rfl rfl (fun c => absurd c (by decide)) (fun c => ?_)
          iterate 2 refine pw_go tk_X2_passRecalls rfl rfl ?_
          refine pw_addN (D1 17 r 6) (0) tk_X2_passRecalls rfl rfl rfl ?_
          refine pw_put tk_X2_passRecalls rfl fp_X2_56 (hget Lr) rfl rfl (Nat.le_of_ble_eq_true rfl) ?_
          refine pw_h (hset (va_up (D1 17 r) 6 (D1 17 r 6 + 0)) W1 Lr) ?_
          refine pw_M [(0, .ref (A 8 p)), (1, .int (nI d)), (2, .int (bI true)), (3, .int (bI true)), (4, .ref (A 17 r))] ⟨rfl, rfl, rfl, rfl, rfl, trivial⟩ ?_
          exact k73'
        | false =>
          iterate 4 refine pw_go tk_X2_passRecalls rfl rfl ?_
          refine pw_get tk_X2_passRecalls rfl fl_X2_56 (hget Lr) rfl ?_
          refine pw_go tk_X2_passRecalls rfl rfl ?_
          refine pw_br tk_X2_passRecalls rfl rfl (fun c => ?_) (fun c => absurd rfl c)
          refine pw_go tk_X2_passRecalls rfl rfl ?_
          refine pw_addN (D1 17 r 6) (1) tk_X2_passRecalls rfl rfl rfl ?_
          refine pw_put tk_X2_passRecalls rfl fp_X2_56 (hget Lr) rfl rfl (Nat.le_of_ble_eq_true rfl) ?_
          refine pw_h (hset (va_up (D1 17 r) 6 (D1 17 r 6 + 1)) W1 Lr) ?_
          refine pw_M [(0, .ref (A 8 p)), (1, .int (nI d)), (2, .int (bI false)), (3, .int (bI true)), (4, .ref (A 17 r))] ⟨rfl, rfl, rfl, rfl, rfl, trivial⟩ ?_
          exact k73'
      · have e1 : kon D1 wl r d = false := by
          unfold kon
          rw [c3, Bool.not_true, Bool.and_false]
        have e2 : kr1 wl d a D1 r = dp D1 17 r (va_up (D1 17 r) 7 1) := by
          unfold kr1
          rw [if_neg (by rw [e1]; decide), if_pos ⟨by omega, c2⟩]
        have k73' := k73 b (by rw [e1, Bool.or_false])
        rw [e2] at k73'
        iterate 2 refine pw_go tk_X2_passRecalls rfl rfl ?_
        refine pw_put tk_X2_passRecalls rfl fp_X2_62 (hget Lr) rfl rfl (Nat.le_of_ble_eq_true rfl) ?_
        refine pw_h (hset (va_up (D1 17 r) 7 1) W1 Lr) ?_
        refine pw_go tk_X2_passRecalls rfl rfl ?_
        exact k73'
  iterate 3 refine pw_go tk_X2_passRecalls rfl rfl ?_
  refine pw_get tk_X2_passRecalls rfl fl_X2_52 (hget (g.1.lv P.2.2.2.2.2.2)) rfl ?_
  refine pw_astoreq tk_X2_passRecalls rfl rfl rfl ?_
  refine pw_M [(0, .ref (A 8 p)), (1, .int (nI d)), (2, .int (bI a)), (3, .int (bI false)), (4, va_rf (rq (A 17) (D 8 p 6)))] ⟨rfl, rfl, rfl, rfl, rfl, trivial⟩ ?_
  exact loop rl _ false D g P h P.2.2.2.2.1 hn (fun r hr => ⟨(P.2.2.2.2.2.1 r hr).1, h6 r hr⟩) hDR.symm hBR.symm
/-- all that a day changes; u: what was not read of the added days -/
def cpD (p d : Nat) (wl u rl : List Nat) (D : fw_DB) : fw_DB := krD wl d (sB (D 10 p) d) (karD p d wl (kpD d (sB (D 10 p) d) D wl) u) rl
def cpS (p d : Nat) (wl u rl : List Nat) (D : fw_DB) : Nat :=
  let i := kpI d (sB (D 10 p) d) D false wl
  let b := krB wl d (sB (D 10 p) d) (karD p d wl (kpD d (sB (D 10 p) d) D wl) u) false rl
  if i = true ∨ b = true then lett i (sB (D 10 p) d) else if kpL d (sB (D 10 p) d) D false wl = true then 108 else 111
/-- what is left unread -/
def cun (D : fw_DB) (d : Nat) (u : List Nat) : List Nat := u.dropWhile (fun i => decide (D 16 i 0 ≤ d))
theorem lett_lt {i a : Bool} : lett i a < 128 := by unfold lett; split <;> first | decide | (split <;> decide)
/-- amid a day: some notes are made, those of l not yet -/
def tM (D : fw_DB) (d : Nat) (wl l : List Nat) : Prop := (∀ j, j < D 99 0 13 → tB (D 14 j)) ∧ (∀ j ∈ l, D 14 j 3 ≤ d ∧ D 14 j 4 ≤ d) ∧ ∀ j ∈ wl, D 14 j 3 ≤ d + 1 ∧ D 14 j 4 ≤ d + 1
theorem kp1_gd {D : fw_DB} {A : fw_AD} {M : fw_MP} {w d : Nat} {a : Bool} {wl l : List Nat} (g : gd D A M) (h : tM D d wl (w :: l)) (hw : w < D 99 0 13) (hn : w ∉ l) (hd : d < 20000) : gd (kp1 d a D w) A M ∧ sc D (kp1 d a D w) ∧ tM (kp1 d a D w) d wl l := by
  have hk := g.1.ok hw
  have h3 := h.2.1 w List.mem_cons_self
  obtain ⟨hb, hb3, hb4⟩ := tpd_B (a := a) g.2.1 hw (fun z => g.2.1.2.1 _ (by have := hk.2.2.2.1; omega)) hd (h.1 w hw) h3.1 h3.2
  obtain ⟨g1, s1⟩ := gd_14 (w := w) (t := tpd D w d a) g
  refine ⟨g1, s1, fun j hj => ?_, fun j hj => ?_, fun j hj => ?_⟩
  · show tB (dp D 14 w (tpd D w d a) 14 j)
    by_cases c : j = w
    · subst c
      rw [dp_s]
      exact hb
    · rw [dp_i c]
      exact h.1 j hj
  · show dp D 14 w (tpd D w d a) 14 j 3 ≤ d ∧ dp D 14 w (tpd D w d a) 14 j 4 ≤ d
    have nj : j ≠ w := fun z => by
      subst z
      exact hn hj
    rw [dp_i nj]
    exact h.2.1 j (List.mem_cons_of_mem _ hj)
  · show dp D 14 w (tpd D w d a) 14 j 3 ≤ d + 1 ∧ dp D 14 w (tpd D w d a) 14 j 4 ≤ d + 1
    by_cases c : j = w
    · subst c
      rw [dp_s]
      exact ⟨hb3, hb4⟩
    · rw [dp_i c]
      exact h.2.2 j hj
theorem kpD_gd {A : fw_AD} {M : fw_MP} {d : Nat} {a : Bool} {wl : List Nat} : ∀ {l : List Nat} {D : fw_DB}, gd D A M → tM D d wl l → (∀ w ∈ l, w < D 99 0 13) → l.Nodup → d < 20000 → gd (kpD d a D l) A M ∧ sc D (kpD d a D l) ∧ tM (kpD d a D l) d wl [] ∧ ∀ k, k ≠ 14 → kpD d a D l k = D k
  | [], D, g, h, _, _, _ => ⟨g, sc.rf, h, fun k _ => rfl⟩
  | w :: l, D, g, h, hl, hn, hd => by
    obtain ⟨g1, s1, h1⟩ := kp1_gd (a := a) g h (hl w List.mem_cons_self) (List.nodup_cons.mp hn).1 hd
    obtain ⟨g2, s2, h2, h3⟩ := kpD_gd (a := a) (l := l) g1 h1 (fun w' hw' => by rw [s1.N]; exact hl w' (List.mem_cons_of_mem _ hw')) (List.nodup_cons.mp hn).2 hd
    exact ⟨g2, s1.tr s2, h2, fun k hk => (h3 k hk).trans (funext fun i => dp_k hk)⟩
theorem kaD_k {i : Nat} : ∀ {l : List Nat} {D : fw_DB} {k : Nat}, k ≠ 14 → kaD i D l k = D k
  | [], D, k, _ => rfl
  | w :: l, D, k, hk => (kaD_k (l := l) hk).trans (funext fun i => dp_k hk)
theorem karD_gd {A : fw_AD} {M : fw_MP} {d d' p : Nat} {wl : List Nat} : ∀ {l : List Nat} {D : fw_DB}, gd D A M → tG D d' wl → (∀ w ∈ wl, w < D 99 0 13) → p < D 99 0 8 → (∀ i ∈ l, i < D 99 0 16) → gd (karD p d wl D l) A M ∧ sc D (karD p d wl D l) ∧ tG (karD p d wl D l) d' wl ∧ ∀ k, k ≠ 14 → k ≠ 8 → karD p d wl D l k = D k
  | [], D, g, h, _, _, _ => ⟨g, sc.rf, h, fun k _ _ => rfl⟩
  | i :: l, D, g, h, hl, hp8, hin => by
    unfold karD
    split
    · obtain ⟨g1, s1, h1⟩ := ka1_gd (i := i) g h hl hp8 (hin i List.mem_cons_self)
      obtain ⟨g2, s2, h2, h3⟩ := karD_gd (d := d) (l := l) g1 h1 (fun w hw => by rw [s1.N]; exact hl w hw) (by rw [s1.N]; exact hp8) (fun j hj => by rw [s1.N]; exact hin j (List.mem_cons_of_mem _ hj))
      exact ⟨g2, s1.tr s2, h2, fun k hk hk8 => (h3 k hk hk8).trans ((funext fun i => dp_k hk8).trans (kaD_k hk))⟩
    · exact ⟨g, sc.rf, h, fun k _ _ => rfl⟩
set_option maxRecDepth 20000 in
theorem k_pass {d : Nat} {u : List Nat} (g : gd D A M) (P : pL D p wl al rl) (hnw : wl.Nodup) (hnr : rl.Nodup) (h : tG D d wl) (h6 : ∀ r ∈ rl, D 17 r 6 ≤ d) (hu : ch (fun i => D 16 i 2) (D 8 p 5) u) (hiu : ∀ i ∈ u, i < D 99 0 16) (hd : d < 20000) : PM G 5 0 0 mm_X2_passDay [.ref (A 8 p), .int (nI d)] (hp M A D) (fw_qp (nI (cpS p d wl u rl D)) (hp M A (cpD p d wl u rl D))) := by
  refine pm_of (by decide +kernel) rfl rfl rfl ?_
  have hk := g.1.ok P.2.2.2.2.2.2
  obtain ⟨a, ha⟩ : ∃ a, a = sB (D 10 p) d := ⟨_, rfl⟩
  obtain ⟨DR, hDR⟩ : ∃ DR, DR = cpD p d wl u rl D := ⟨_, rfl⟩
  obtain ⟨SR, hSR⟩ : ∃ SR, SR = cpS p d wl u rl D := ⟨_, rfl⟩
  rw [← hDR, ← hSR]
  unfold cpD at hDR
  unfold cpS at hSR
  rw [← ha] at hDR hSR
  obtain ⟨D1, hD1⟩ : ∃ D1, D1 = kpD d a D wl := ⟨_, rfl⟩
  obtain ⟨D2, hD2⟩ : ∃ D2, D2 = karD p d wl D1 u := ⟨_, rfl⟩
  obtain ⟨I, hI⟩ : ∃ I, I = kpI d a D false wl := ⟨_, rfl⟩
  obtain ⟨LL, hLL⟩ : ∃ LL, LL = kpL d a D false wl := ⟨_, rfl⟩
  obtain ⟨B, hB⟩ : ∃ B, B = krB wl d a D2 false rl := ⟨_, rfl⟩
  dsimp only at hSR
  rw [← hD1, ← hD2] at hDR hSR
  rw [← hI, ← hLL, ← hB] at hSR
  obtain ⟨g1, s1, h1, q1⟩ := kpD_gd (a := a) (wl := wl) g ⟨h.1, h.2, fun j hj => by have := h.2 j hj; omega⟩ (fun w hw => (P.2.1 w hw).1) hnw hd
  rw [← hD1] at g1 s1 h1 q1
  have P1 := P.sc s1
  obtain ⟨g2, s2, h2, q2⟩ := karD_gd (d := d) (l := u) g1 ⟨h1.1, h1.2.2⟩ (fun w hw => (P1.2.1 w hw).1) P1.2.2.2.2.2.2 (fun i hi => by rw [s1.N]; exact hiu i hi)
  rw [← hD2] at g2 s2 h2 q2
  have P2 := P1.sc s2
  obtain ⟨Q, hQ⟩ : ∃ Q, Q = fw_qp (nI SR) (hp M A DR) := ⟨_, rfl⟩
  rw [← hQ]
  have k92 : PW G mm_X2_passDay Q 5 0 0 (hp M A D1) 92 [(0, .ref (A 8 p)), (1, .int (nI d)), (2, .int (bI a)), (3, .int (bI I)), (4, .int (bI LL))] [] := by
    iterate 2 refine pw_go tk_X2_passDay rfl rfl ?_
    refine pw_cs tk_X2_passDay rfl ca_X2_readAdded lk_X2_88 sx_X2_readAdded (As := [.ref (A 8 p), .int (nI d)]) (rest := [])  (k_read g1 P1 ⟨h1.1, h1.2.2⟩ (u := u) (by rw [q1 8 (by decide), q1 16 (by decide)]; exact hu) (fun i hi => by rw [s1.N]; exact hiu i hi) hd) rfl rfl rfl (Nat.le_of_ble_eq_true rfl) (Nat.le_of_eq (Nat.zero_add _)) (Nat.le_of_eq (Nat.zero_add _)) ?_ ?_
    · rintro _ _ ⟨rfl, rfl⟩
      refine pw_h (h' := hp M A D2) (by rw [hD2]) ?_
      iterate 3 refine pw_go tk_X2_passDay rfl rfl ?_
      refine pw_cs tk_X2_passDay rfl ca_X2_passRecalls lk_X2_92 sx_X2_passRecalls (As := [.ref (A 8 p), .int (nI d), .int (bI a)]) (rest := [])  (k_recalls (a := a) g2 P2 hnr h2.1 (fun r hr => by rw [q2 17 (by decide) (by decide), q1 17 (by decide)]; exact h6 r hr) hd) rfl rfl rfl (Nat.le_of_ble_eq_true rfl) (Nat.le_of_eq (Nat.zero_add _)) (Nat.le_of_eq (Nat.zero_add _)) ?_ ?_
      · rintro _ _ ⟨_, rfl, rfl, rfl⟩
        refine pw_h (h' := hp M A DR) (by rw [hDR]) ?_
        show PW G mm_X2_passDay Q 5 0 0 (hp M A DR) 103 _ [.int (bI (krB wl d a D2 false rl))]
        rw [← hB]
        iterate 2 refine pw_go tk_X2_passDay rfl rfl ?_
        have k114 : (I = true ∨ B = true) → PW G mm_X2_passDay Q 5 0 0 (hp M A DR) 114 [(2, .int (bI a)), (3, .int (bI I))] [] := by
          intro c
          rw [if_pos c] at hSR
          iterate 2 refine pw_go tk_X2_passDay rfl rfl ?_
          refine pw_csp tk_X2_passDay rfl ca_X5_letter lk_X2_96 sx_X5_letter (As := [.int (bI I), .int (bI a)]) (rest := []) (p_letter) rfl rfl rfl rfl ?_
          subst hQ
          rw [← hSR]
          exact pw_cretp tk_X2_passDay rfl rfl (by rw [hSR]; exact lett_lt)
        refine pw_ifneB tk_X2_passDay rfl (fun c => ?_) (fun c => ?_)
        · refine pw_M [(2, .int (bI a)), (3, .int (bI I))] ⟨rfl, rfl, trivial⟩ ?_
          exact k114 (Or.inl c)
        refine pw_go tk_X2_passDay rfl rfl ?_
        refine pw_ifeqB tk_X2_passDay rfl (fun c2 => ?_) (fun c2 => ?_)
        rotate_left
        · refine pw_M [(2, .int (bI a)), (3, .int (bI I))] ⟨rfl, rfl, trivial⟩ ?_
          exact k114 (Or.inr c2)
        rw [if_neg (fun z => z.elim (fun y => by rw [c] at y; cases y) (fun y => by rw [c2] at y; cases y))] at hSR
        refine pw_go tk_X2_passDay rfl rfl ?_
        refine pw_ifeqB tk_X2_passDay rfl (fun c3 => ?_) (fun c3 => ?_)
        · rw [c3, if_neg (by decide)] at hSR
          refine pw_go tk_X2_passDay rfl rfl ?_
          subst hQ
          rw [hSR]
          exact pw_cretp (v := 111) tk_X2_passDay rfl rfl (by decide)
        · rw [c3, if_pos rfl] at hSR
          iterate 2 refine pw_go tk_X2_passDay rfl rfl ?_
          subst hQ
          rw [hSR]
          exact pw_cretp (v := 108) tk_X2_passDay rfl rfl (by decide)
      · exact fun E h' z => z.elim
    · exact fun E h' z => z.elim
  have loop : ∀ (l : List Nat) (v : Nat) (i li : Bool) (D3 : fw_DB), gd D3 A M → sc D D3 → tM D3 d wl l → ch (fun i => D3 13 i 18) v l → l.Nodup → (∀ w ∈ l, w < D3 99 0 13) → kpD d a D3 l = D1 → kpI d a D3 i l = I → kpL d a D3 li l = LL → PW G mm_X2_passDay Q 5 0 0 (hp M A D3) 20 [(0, .ref (A 8 p)), (1, .int (nI d)), (2, .int (bI a)), (3, .int (bI i)), (4, .int (bI li)), (5, va_rf (rq (A 13) v))] [] := by
    intro l
    induction l with
    | nil =>
      intro v i li D3 g3 s3 h3 hv hn hin e1 e2 e3
      have hv : v = 0 := hv
      subst hv
      have e1 : D3 = D1 := e1
      have e2 : i = I := e2
      have e3 : li = LL := e3
      refine pw_M [(0, .ref (A 8 p)), (1, .int (nI d)), (2, .int (bI a)), (3, .int (bI i)), (4, .int (bI li)), (5, .null)] ⟨rfl, rfl, rfl, rfl, rfl, rfl, trivial⟩ ?_
      refine pw_go tk_X2_passDay rfl rfl ?_
      refine pw_go tk_X2_passDay rfl rfl ?_
      rw [e1, e2, e3]
      refine pw_M [(0, .ref (A 8 p)), (1, .int (nI d)), (2, .int (bI a)), (3, .int (bI I)), (4, .int (bI LL))] ⟨rfl, rfl, rfl, rfl, rfl, trivial⟩ ?_
      exact k92
    | cons w l ih =>
      intro v i li D3 g3 s3 h3 hv hn hin e1 e2 e3
      obtain ⟨hv, hv2⟩ := hv
      subst hv
      have hw := hin w List.mem_cons_self
      have Lw := g3.1.lv hw
      have hkw := g3.1.ok hw
      have Lt := g3.1.lv hkw.2.2.1
      obtain ⟨g4, s4, h4⟩ := kp1_gd (a := a) g3 h3 hw (List.nodup_cons.mp hn).1 hd
      have e1 : kpD d a (kp1 d a D3 w) l = D1 := e1
      have e2 : kpI d a (kp1 d a D3 w) (i || trun (tpd D3 w d a)) l = I := e2
      have e3 : kpL d a (kp1 d a D3 w) (li || tlic (tpd D3 w d a) d) l = LL := e3
      have Bt : tB (tpd D3 w d a) := by
        have := h4.1 w (by rw [s4.N]; exact hw)
        unfold kp1 at this
        rw [dp_s] at this
        exact this
      refine pw_M [(0, .ref (A 8 p)), (1, .int (nI d)), (2, .int (bI a)), (3, .int (bI i)), (4, .int (bI li)), (5, .ref (A 13 w))] ⟨rfl, rfl, rfl, rfl, rfl, rfl, trivial⟩ ?_
      have runC := t_runs (G := G) (D := kp1 d a D3 w) (w := w) Lt (by unfold kp1; rw [dp_s]; exact Bt)
      have licC := t_lic (G := G) (D := kp1 d a D3 w) (w := w) (d := d) Lt (by unfold kp1; rw [dp_s]; exact Bt) (by omega)
      have et : kp1 d a D3 w 14 w = tpd D3 w d a := dp_s
      rw [et] at runC licC
      have k80 : ∀ li', li' = (li || tlic (tpd D3 w d a) d) → PW G mm_X2_passDay Q 5 0 0 (hp M A (kp1 d a D3 w)) 80 [(0, .ref (A 8 p)), (1, .int (nI d)), (2, .int (bI a)), (3, .int (bI (i || trun (tpd D3 w d a)))), (4, .int (bI li)), (5, .ref (A 13 w))] [.int (bI li')] := by
        intro li' hli
        subst hli
        iterate 2 refine pw_go tk_X2_passDay rfl rfl ?_
        refine pw_get tk_X2_passDay rfl fl_X2_49 (hget Lw) rfl ?_
        refine pw_astoreq tk_X2_passDay rfl rfl rfl ?_
        refine pw_go tk_X2_passDay rfl rfl ?_
        refine pw_M [(0, .ref (A 8 p)), (1, .int (nI d)), (2, .int (bI a)), (3, .int (bI (i || trun (tpd D3 w d a)))), (4, .int (bI (li || tlic (tpd D3 w d a) d))), (5, va_rf (rq (A 13) (kp1 d a D3 w 13 w 18)))] ⟨rfl, rfl, rfl, rfl, rfl, rfl, trivial⟩ ?_
        refine ih _ _ _ _ g4 (s3.tr s4) h4 ?_ (List.nodup_cons.mp hn).2 ?_ e1 e2 e3
        · rw [s4 13 w 18 rfl]
          exact ch_c (fun i _ => s4 13 i 18 rfl) hv2
        · intro j hj
          rw [s4.N]
          exact hin j (List.mem_cons_of_mem _ hj)
      have k57 : ∀ i', i' = (i || trun (tpd D3 w d a)) → PW G mm_X2_passDay Q 5 0 0 (hp M A (kp1 d a D3 w)) 57 [(0, .ref (A 8 p)), (1, .int (nI d)), (2, .int (bI a)), (3, .int (bI i)), (4, .int (bI li)), (5, .ref (A 13 w))] [.int (bI i')] := by
        intro i' hi
        subst hi
        iterate 2 refine pw_go tk_X2_passDay rfl rfl ?_
        refine pw_M [(0, .ref (A 8 p)), (1, .int (nI d)), (2, .int (bI a)), (3, .int (bI (i || trun (tpd D3 w d a)))), (4, .int (bI li)), (5, .ref (A 13 w))] ⟨rfl, rfl, rfl, rfl, rfl, rfl, trivial⟩ ?_
        refine pw_ifneB tk_X2_passDay rfl (fun c => ?_) (fun c => ?_)
        · skip
          iterate 2 refine pw_go tk_X2_passDay rfl rfl ?_
          exact k80 true (by rw [c]; rfl)
        · skip
          refine pw_go tk_X2_passDay rfl rfl ?_
          refine pw_get tk_X2_passDay rfl fl_X2_39 (hget Lw) rfl ?_
          refine pw_go tk_X2_passDay rfl rfl ?_
          refine pw_cvp tk_X2_passDay rfl ca_X7_licenses lk_X2_85 iv_X7_licenses sv_X7_licenses (hget Lt) rfl rfl (As := [.int (nI d)]) (rest := []) (licC) rfl rfl rfl rfl ?_
          refine pw_ifeqB tk_X2_passDay rfl (fun c2 => ?_) (fun c2 => ?_)
          · skip
            refine pw_go tk_X2_passDay rfl rfl ?_
            exact k80 false (by rw [c, c2]; rfl)
          · skip
            iterate 2 refine pw_go tk_X2_passDay rfl rfl ?_
            exact k80 true (by rw [c2, Bool.or_true])
      refine pw_go tk_X2_passDay rfl rfl ?_
      refine pw_go tk_X2_passDay rfl rfl ?_
      refine pw_go tk_X2_passDay rfl rfl ?_
      refine pw_get tk_X2_passDay rfl fl_X2_39 (hget Lw) rfl ?_
      iterate 3 refine pw_go tk_X2_passDay rfl rfl ?_
      refine pw_cv tk_X2_passDay rfl ca_X7_passDay lk_X2_78 iv_X7_passDay sv_X7_passDay (hget Lt) rfl rfl (As := [.ref (A 13 w), .int (nI d), .int (bI a)]) (rest := [])  (t_pass g3.1 g3.2.1 hw h3.1 hd) rfl rfl rfl (Nat.le_of_ble_eq_true rfl) (Nat.le_of_eq (Nat.zero_add _)) (Nat.le_of_eq (Nat.zero_add _)) ?_ ?_
      · rintro _ _ ⟨rfl, rfl⟩
        refine pw_h (h' := hp M A (kp1 d a D3 w)) rfl ?_
        refine pw_go tk_X2_passDay rfl rfl ?_
        refine pw_ifneB tk_X2_passDay rfl (fun c => ?_) (fun c => ?_)
        · skip
          iterate 2 refine pw_go tk_X2_passDay rfl rfl ?_
          exact k57 true (by rw [c]; rfl)
        · skip
          refine pw_go tk_X2_passDay rfl rfl ?_
          refine pw_get tk_X2_passDay rfl fl_X2_39 (hget Lw) rfl ?_
          refine pw_cvp tk_X2_passDay rfl ca_X7_runs lk_X2_81 iv_X7_runs sv_X7_runs (hget Lt) rfl rfl (As := []) (rest := []) (runC) rfl rfl rfl rfl ?_
          refine pw_ifeqB tk_X2_passDay rfl (fun c2 => ?_) (fun c2 => ?_)
          · skip
            refine pw_go tk_X2_passDay rfl rfl ?_
            exact k57 false (by rw [c, c2]; rfl)
          · skip
            iterate 2 refine pw_go tk_X2_passDay rfl rfl ?_
            exact k57 true (by rw [c2, Bool.or_true])
      · exact fun E h' z => z.elim
  refine pw_go tk_X2_passDay rfl rfl ?_
  refine pw_get tk_X2_passDay rfl fl_X2_68 (hget (g.1.lv P.2.2.2.2.2.2)) rfl ?_
  refine pw_go tk_X2_passDay rfl rfl ?_
  refine pw_cvp tk_X2_passDay rfl ca_X3_has lk_X2_72 iv_X3_has sv_X3_has (hget (g.1.lv hk.1)) rfl rfl (As := [.int (nI d)]) (rest := []) (c_has (dy_aw g.1 hk.1) (by omega)) rfl rfl rfl rfl ?_
  rw [← ha]
  iterate 6 refine pw_go tk_X2_passDay rfl rfl ?_
  refine pw_get tk_X2_passDay rfl fl_X2_35 (hget (g.1.lv P.2.2.2.2.2.2)) rfl ?_
  refine pw_astoreq tk_X2_passDay rfl rfl rfl ?_
  refine pw_M [(0, .ref (A 8 p)), (1, .int (nI d)), (2, .int (bI a)), (3, .int (bI false)), (4, .int (bI false)), (5, va_rf (rq (A 13) (D 8 p 2)))] ⟨rfl, rfl, rfl, rfl, rfl, rfl, trivial⟩ ?_
  exact loop wl _ false false D g sc.rf ⟨h.1, h.2, fun j hj => by have := h.2 j hj; omega⟩ P.1 hnw (fun w hw => (P.2.1 w hw).1) hD1.symm hI.symm hLL.symm
end CCLK2

