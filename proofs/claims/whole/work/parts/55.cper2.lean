/-! PERSON: reckoning, due days -/
def scr (k f : Nat) : Bool := match k with
  | 13 => decide (14 ≤ f) && decide (f ≤ 17)
  | 14 => true
  | 17 => decide (5 ≤ f) && decide (f ≤ 7)
  | 8 => decide (f = 5)
  | 6 => true
  | _ => false
/-- the same but for what is only scratched down -/
def sc (D D' : fw_DB) : Prop := ∀ k i f, scr k f = false → D' k i f = D k i f
theorem sc.rf {D : fw_DB} : sc D D := fun _ _ _ _ => rfl
theorem sc.tr {D D' D2 : fw_DB} (h : sc D D') (h2 : sc D' D2) : sc D D2 := fun k i f e => (h2 k i f e).trans (h k i f e)
theorem sc.sy {D D' : fw_DB} (h : sc D D') : sc D' D := fun k i f e => (h k i f e).symm
theorem sc.N {D D' : fw_DB} (h : sc D D') : D' 99 0 = D 99 0 := funext fun f => h 99 0 f rfl
theorem sc.row {D D' : fw_DB} (h : sc D D') {k i : Nat} (e : ∀ f, scr k f = false) : D' k i = D k i := funext fun f => h k i f (e f)
theorem sc.kind {D D' : fw_DB} (h : sc D D') {k : Nat} (e : ∀ f, scr k f = false) : D' k = D k := funext fun i => h.row e
theorem ch_c {nx nx' : Nat → Nat} : ∀ {l : List Nat} {v : Nat}, (∀ i ∈ l, nx' i = nx i) → ch nx v l → ch nx' v l
  | [], v, _, h => h
  | i :: r, v, e, h => ⟨h.1, by rw [e i List.mem_cons_self]; exact ch_c (fun j hj => e j (List.mem_cons_of_mem _ hj)) h.2⟩
/-- the chains of a person -/
def pL (D : fw_DB) (p : Nat) (wl al rl : List Nat) : Prop := ch (fun i => D 13 i 18) (D 8 p 2) wl ∧ (∀ i ∈ wl, i < D 99 0 13 ∧ D 13 i 1 = p) ∧ ch (fun i => D 16 i 2) (D 8 p 4) al ∧ (∀ i ∈ al, i < D 99 0 16) ∧ ch (fun i => D 17 i 8) (D 8 p 6) rl ∧ (∀ i ∈ rl, i < D 99 0 17 ∧ D 17 i 0 = p) ∧ p < D 99 0 8
theorem pL.sc {D D' : fw_DB} {p : Nat} {wl al rl : List Nat} (h : pL D p wl al rl) (s : sc D D') : pL D' p wl al rl := by
  obtain ⟨h1, h2, h3, h4, h5, h6, h7⟩ := h
  have e16 : D' 16 = D 16 := s.kind (fun f => rfl)
  refine ⟨?_, ?_, ?_, ?_, ?_, ?_, ?_⟩
  · rw [s 8 p 2 rfl]
    exact ch_c (fun i _ => s 13 i 18 rfl) h1
  · intro i hi
    rw [s.N, s 13 i 1 rfl]
    exact h2 i hi
  · rw [s 8 p 4 rfl, e16]
    exact h3
  · intro i hi
    rw [s.N]
    exact h4 i hi
  · rw [s 8 p 6 rfl]
    exact ch_c (fun i _ => s 17 i 8 rfl) h5
  · intro i hi
    rw [s.N, s 17 i 0 rfl]
    exact h6 i hi
  · rw [s.N]
    exact h7
def gd (D : fw_DB) (A : fw_AD) (M : fw_MP) : Prop := Wf D A M ∧ cB D ∧ (∀ r, r < D 99 0 17 → rB D r) ∧ D 99 0 13 ≤ 24
theorem rk_is {D : fw_DB} {w : Nat} {al : List Nat} (C : cB D) (B : wB D w) (h5 : 0 < D 13 w 5 → wB D (D 13 w 5 - 1)) (h7 : 0 < D 13 w 7 → lB D (D 13 w 7 - 1)) : ∃ b n r e, rkRow D w al = rset (D 13 w) b n r e ∧ (b < 20000 ∨ b = 1000000) ∧ n < 1000000 ∧ (r < 20000 ∨ r = 1000000) ∧ e < 4000000 := by
  have hbo := wbeg_ok B h5
  unfold rkRow
  dsimp only
  by_cases c : wbeg D w = 1000000
  · rw [if_pos c]
    exact ⟨_, _, _, _, rfl, Or.inr rfl, by omega, Or.inr rfl, by omega⟩
  · rw [if_neg c]
    have hb : wbeg D w < 20000 := by omega
    obtain ⟨h2, h3, h4, h9, h10, h11, ⟨hy, hm, hdd⟩, h14, h15, h16, h17⟩ := B
    have B : wB D w := ⟨h2, h3, h4, h9, h10, h11, ⟨hy, hm, hdd⟩, h14, h15, h16, h17⟩
    have hs := sp_len_up hb hy hm hdd
    have hmm : wmost (D 13 w) (sp_len (wbeg D w) (D 15 w 0) (D 15 w 1) (D 15 w 2)) < 50000 := by unfold wmost; omega
    have hn : rkN D w al (wbeg D w) < 1000000 := Nat.lt_of_le_of_lt (wadd_le (wneed_le B h7)) (by omega)
    refine ⟨_, _, _, _, rfl, Or.inl hb, hn, wrel_ok, ?_⟩
    unfold wlend
    split
    · omega
    · split
      · omega
      · have := cu_le (fun d => sB (D 10 (D 13 w 1)) d && iv (wbeg D w) (wrel (D 7) (sB (D 10 (D 13 w 1))) (D 13 w) (wbeg D w) (rkN D w al (wbeg D w))) d) 20032
        omega
def rk1 (al : List Nat) (D : fw_DB) (w : Nat) : fw_DB := dp D 13 w (rkRow D w al)
def rkAll (al : List Nat) : fw_DB → List Nat → fw_DB
  | D, [] => D
  | D, w :: l => rkAll al (rk1 al D w) l
def rc1 (wl : List Nat) (D : fw_DB) (r : Nat) : fw_DB := dp D 17 r (va_up (D 17 r) 5 (rcu D (sB (D 10 (D 17 r 0))) r wl))
def rcAll (wl : List Nat) : fw_DB → List Nat → fw_DB
  | D, [] => D
  | D, r :: l => rcAll wl (rc1 wl D r) l
theorem dp_at {D : fw_DB} {k i k' j : Nat} {g : Nat → Nat} : dp D k i g k' j = if k' = k ∧ j = i then g else D k' j := by
  unfold dp
  by_cases h1 : k' = k
  · by_cases h2 : j = i
    · rw [if_pos h1, if_pos h2, if_pos ⟨h1, h2⟩]
    · rw [if_pos h1, if_neg h2, if_neg (fun z => h2 z.2)]
  · rw [if_neg h1, if_neg (fun z => h1 z.1)]
theorem sc_dp {D : fw_DB} {k i : Nat} {g : Nat → Nat} (h : ∀ f, scr k f = false → g f = D k i f) : sc D (dp D k i g) := fun k' i' f e => by
  rw [dp_at]
  split
  · rename_i c
    obtain ⟨c1, c2⟩ := c
    subst c1
    subst c2
    exact h f e
  · rfl
theorem rset_f {g : Nat → Nat} {b n r e f : Nat} (h : scr 13 f = false) : rset g b n r e f = g f := by
  have h : (decide (14 ≤ f) && decide (f ≤ 17)) = false := h
  have h : ¬ (14 ≤ f ∧ f ≤ 17) := fun z => by
    rw [decide_eq_true z.1, decide_eq_true z.2] at h
    cases h
  unfold rset
  rw [if_neg (by omega), if_neg (by omega), if_neg (by omega), if_neg (by omega)]
/-- bounds of rows that were not put -/
theorem wB_c {D D' : fw_DB} {w : Nat} (e : D' 13 w = D 13 w) (e2 : D' 15 w = D 15 w) (h : wB D w) : wB D' w := by
  unfold wB
  rw [e, e2]
  exact h
theorem rk1_gd {D : fw_DB} {A : fw_AD} {M : fw_MP} {w : Nat} {al : List Nat} (g : gd D A M) (hw : w < D 99 0 13) : gd (rk1 al D w) A M ∧ sc D (rk1 al D w) := by
  obtain ⟨W, C, CR, hN⟩ := g
  have hk := W.ok hw
  obtain ⟨b, n, r, e, h0, h1, h2, h3, h4⟩ := rk_is (al := al) C (C.1 w hw) (fun z => C.1 _ (by have := hk.2.1; omega)) (fun z => C.2.1 _ (by have := hk.2.2.2.1; omega))
  unfold rk1
  rw [h0]
  refine ⟨⟨rset_W W hk, ⟨fun w' hw' => ?_, C.2.1, C.2.2⟩, CR, hN⟩, sc_dp (fun f hf => rset_f hf)⟩
  by_cases c : w' = w
  · subst c
    exact rset_B (C.1 _ hw) h1 h2 h3 h4
  · exact wB_c (dp_i c) rfl (C.1 w' hw')
theorem rkAll_gd {A : fw_AD} {M : fw_MP} {al : List Nat} : ∀ {l : List Nat} {D : fw_DB}, gd D A M → (∀ w ∈ l, w < D 99 0 13) → gd (rkAll al D l) A M ∧ sc D (rkAll al D l)
  | [], D, g, _ => ⟨g, sc.rf⟩
  | w :: l, D, g, h => by
    obtain ⟨h1, h2⟩ := rk1_gd (al := al) g (h w List.mem_cons_self)
    obtain ⟨h3, h4⟩ := rkAll_gd (al := al) (l := l) h1 (fun w' hw' => by rw [h2.N]; exact h w' (List.mem_cons_of_mem _ hw'))
    exact ⟨h3, h2.tr h4⟩
theorem rcu_le {D : fw_DB} {aw : Nat → Bool} {r : Nat} {l : List Nat} (B : rB D r) : rcu D aw r l ≤ 1000000 := by
  unfold rcu
  dsimp only
  have := B.2.2.1
  split <;> omega
theorem rc1_gd {D : fw_DB} {A : fw_AD} {M : fw_MP} {r : Nat} {wl : List Nat} (g : gd D A M) (hr : r < D 99 0 17) : gd (rc1 wl D r) A M ∧ sc D (rc1 wl D r) := by
  obtain ⟨W, C, CR, hN⟩ := g
  have hk := W.ok hr
  unfold rc1
  have hu := rcu_le (aw := sB (D 10 (D 17 r 0))) (l := wl) (CR r hr)
  generalize rcu D (sB (D 10 (D 17 r 0))) r wl = u at *
  refine ⟨⟨W.put (by decide) hk, C, fun r' hr' => ?_, hN⟩, sc_dp (fun f hf => ?_)⟩
  · by_cases c : r' = r
    · subst c
      obtain ⟨c1, c3, c4, c5, c6⟩ := CR _ hr
      unfold rB
      rw [dp_s]
      exact ⟨c1, c3, c4, by show u < _; omega, c6⟩
    · have := CR r' hr'
      unfold rB at this ⊢
      rw [dp_i c]
      exact this
  · show (if f = 5 then u else D 17 r f) = _
    rw [if_neg (fun z => by subst z; cases hf)]
theorem rcAll_gd {A : fw_AD} {M : fw_MP} {wl : List Nat} : ∀ {l : List Nat} {D : fw_DB}, gd D A M → (∀ w ∈ l, w < D 99 0 17) → gd (rcAll wl D l) A M ∧ sc D (rcAll wl D l)
  | [], D, g, _ => ⟨g, sc.rf⟩
  | w :: l, D, g, h => by
    obtain ⟨h1, h2⟩ := rc1_gd (wl := wl) g (h w List.mem_cons_self)
    obtain ⟨h3, h4⟩ := rcAll_gd (wl := wl) (l := l) h1 (fun w' hw' => by rw [h2.N]; exact h w' (List.mem_cons_of_mem _ hw'))
    exact ⟨h3, h2.tr h4⟩
/-- all of a person reckoned -/
def prk (D : fw_DB) (wl al rl : List Nat) : fw_DB := rcAll wl (rkAll al D wl) rl
theorem prk_gd {A : fw_AD} {M : fw_MP} {D : fw_DB} {p : Nat} {wl al rl : List Nat} (g : gd D A M) (P : pL D p wl al rl) : gd (prk D wl al rl) A M ∧ sc D (prk D wl al rl) := by
  obtain ⟨h1, h2⟩ := rkAll_gd (al := al) g (fun w hw => (P.2.1 w hw).1)
  obtain ⟨h3, h4⟩ := rcAll_gd (wl := wl) (l := rl) h1 (fun w hw => by rw [h2.N]; exact (P.2.2.2.2.2.1 w hw).1)
  exact ⟨h3, h2.tr h4⟩
section CPER2
variable {G : fw_G} {D : fw_DB} {A : fw_AD} {M : fw_MP} {p : Nat} {wl al rl : List Nat}
set_option maxRecDepth 20000 in
theorem p_reckon (g : gd D A M) (P : pL D p wl al rl) : PM G 4 0 0 mm_X5_reckon [.ref (A 8 p)] (hp M A D) (fw_qV (fun h' => h' = hp M A (prk D wl al rl)) fw_noX) := by
  refine pm_of (by decide +kernel) rfl rfl rfl ?_
  obtain ⟨Q, hQ⟩ : ∃ Q, Q = fw_qV (fun h' => h' = hp M A (prk D wl al rl)) fw_noX := ⟨_, rfl⟩
  rw [← hQ]
  have Lp := g.1.lv P.2.2.2.2.2.2
  have loop2 : ∀ (l : List Nat) (v : Nat) (D1 : fw_DB), gd D1 A M → pL D1 p wl al rl → ch (fun i => D1 17 i 8) v l → (∀ i ∈ l, i < D1 99 0 17 ∧ D1 17 i 0 = p) → rcAll wl D1 l = prk D wl al rl → PW G mm_X5_reckon Q 4 0 0 (hp M A D1) 26 [(0, .ref (A 8 p)), (1, va_rf (rq (A 17) v))] [] := by
    intro l
    induction l with
    | nil =>
      intro v D1 g1 P1 hv hin he
      have hv : v = 0 := hv
      subst hv
      refine pw_M [(0, .ref (A 8 p)), (1, .null)] ⟨rfl, rfl, trivial⟩ ?_
      refine pw_go tk_X5_reckon rfl rfl ?_
      refine pw_go tk_X5_reckon rfl rfl ?_
      subst hQ
      exact pw_vret tk_X5_reckon rfl rfl ⟨rfl, congrArg (hp M A) he⟩
    | cons r l ih =>
      intro v D1 g1 P1 hv hin he
      obtain ⟨hv, hv2⟩ := hv
      subst hv
      have hr := hin r List.mem_cons_self
      have Lr := g1.1.lv hr.1
      obtain ⟨g2, s2⟩ := rc1_gd (wl := wl) g1 hr.1
      refine pw_M [(0, .ref (A 8 p)), (1, .ref (A 17 r))] ⟨rfl, rfl, trivial⟩ ?_
      refine pw_go tk_X5_reckon rfl rfl ?_
      refine pw_go tk_X5_reckon rfl rfl ?_
      refine pw_go tk_X5_reckon rfl rfl ?_
      refine pw_cv tk_X5_reckon rfl ca_X6_reckon lk_X5_64 iv_X6_reckon sv_X6_reckon (hget Lr) rfl rfl (As := []) (rest := [])  (r_reckon g1.1 g1.2.1 g1.2.2.1 hr.1 (l := wl) (by rw [hr.2]; exact P1.1) (fun i hi => (P1.2.1 i hi).1) g1.2.2.2) rfl rfl rfl (Nat.le_of_ble_eq_true rfl) (Nat.le_of_eq (Nat.zero_add _)) (Nat.le_of_eq (Nat.zero_add _)) ?_ ?_
      · rintro _ _ ⟨rfl, rfl⟩
        refine pw_h (h' := hp M A (rc1 wl D1 r)) rfl ?_
        refine pw_go tk_X5_reckon rfl rfl ?_
        refine pw_get tk_X5_reckon rfl fl_X5_38 (hget Lr) rfl ?_
        refine pw_astoreq tk_X5_reckon rfl rfl rfl ?_
        refine pw_go tk_X5_reckon rfl rfl ?_
        refine pw_M [(0, .ref (A 8 p)), (1, va_rf (rq (A 17) (rc1 wl D1 r 17 r 8)))] ⟨rfl, rfl, trivial⟩ ?_
        refine ih _ _ g2 (P1.sc s2) ?_ ?_ he
        · rw [s2 17 r 8 rfl]
          exact ch_c (fun i _ => s2 17 i 8 rfl) hv2
        · intro i hi
          rw [s2.N, s2 17 i 0 rfl]
          exact hin i (List.mem_cons_of_mem _ hi)
      · exact fun E h' z => z.elim
  have loop : ∀ (l : List Nat) (v : Nat) (D1 : fw_DB), gd D1 A M → pL D1 p wl al rl → ch (fun i => D1 13 i 18) v l → (∀ i ∈ l, i < D1 99 0 13 ∧ D1 13 i 1 = p) → rcAll wl (rkAll al D1 l) rl = prk D wl al rl → PW G mm_X5_reckon Q 4 0 0 (hp M A D1) 5 [(0, .ref (A 8 p)), (1, va_rf (rq (A 13) v))] [] := by
    intro l
    induction l with
    | nil =>
      intro v D1 g1 P1 hv hin he
      have hv : v = 0 := hv
      subst hv
      refine pw_M [(0, .ref (A 8 p)), (1, .null)] ⟨rfl, rfl, trivial⟩ ?_
      refine pw_go tk_X5_reckon rfl rfl ?_
      refine pw_go tk_X5_reckon rfl rfl ?_
      refine pw_go tk_X5_reckon rfl rfl ?_
      refine pw_get tk_X5_reckon rfl fl_X5_35 (hget (g1.1.lv P1.2.2.2.2.2.2)) rfl ?_
      refine pw_astoreq tk_X5_reckon rfl rfl rfl ?_
      refine pw_M [(0, .ref (A 8 p)), (1, va_rf (rq (A 17) (D1 8 p 6)))] ⟨rfl, rfl, trivial⟩ ?_
      exact loop2 rl _ D1 g1 P1 P1.2.2.2.2.1 P1.2.2.2.2.2.1 he
    | cons w l ih =>
      intro v D1 g1 P1 hv hin he
      obtain ⟨hv, hv2⟩ := hv
      subst hv
      have hw := hin w List.mem_cons_self
      have Lw := g1.1.lv hw.1
      obtain ⟨g2, s2⟩ := rk1_gd (al := al) g1 hw.1
      refine pw_M [(0, .ref (A 8 p)), (1, .ref (A 13 w))] ⟨rfl, rfl, trivial⟩ ?_
      refine pw_go tk_X5_reckon rfl rfl ?_
      refine pw_go tk_X5_reckon rfl rfl ?_
      refine pw_go tk_X5_reckon rfl rfl ?_
      refine pw_cv tk_X5_reckon rfl ca_X9_reckon lk_X5_61 iv_X9_reckon sv_X9_reckon (hget Lw) rfl rfl (As := []) (rest := [])  (w_reckon g1.1 g1.2.1 hw.1 (al := al) (by rw [hw.2]; exact P1.2.2.1) P1.2.2.2.1) rfl rfl rfl (Nat.le_of_ble_eq_true rfl) (Nat.le_of_eq (Nat.zero_add _)) (Nat.le_of_eq (Nat.zero_add _)) ?_ ?_
      · rintro _ _ ⟨rfl, rfl⟩
        refine pw_h (h' := hp M A (rk1 al D1 w)) rfl ?_
        refine pw_go tk_X5_reckon rfl rfl ?_
        refine pw_get tk_X5_reckon rfl fl_X5_26 (hget Lw) rfl ?_
        refine pw_astoreq tk_X5_reckon rfl rfl rfl ?_
        refine pw_go tk_X5_reckon rfl rfl ?_
        refine pw_M [(0, .ref (A 8 p)), (1, va_rf (rq (A 13) (rk1 al D1 w 13 w 18)))] ⟨rfl, rfl, trivial⟩ ?_
        refine ih _ _ g2 (P1.sc s2) ?_ ?_ he
        · rw [s2 13 w 18 rfl]
          exact ch_c (fun i _ => s2 13 i 18 rfl) hv2
        · intro i hi
          rw [s2.N, s2 13 i 1 rfl]
          exact hin i (List.mem_cons_of_mem _ hi)
      · exact fun E h' z => z.elim
  refine pw_go tk_X5_reckon rfl rfl ?_
  refine pw_get tk_X5_reckon rfl fl_X5_23 (hget Lp) rfl ?_
  refine pw_astoreq tk_X5_reckon rfl rfl rfl ?_
  refine pw_M [(0, .ref (A 8 p)), (1, va_rf (rq (A 13) (D 8 p 2)))] ⟨rfl, rfl, trivial⟩ ?_
  exact loop wl _ D g P P.1 P.2.1 rfl
end CPER2

