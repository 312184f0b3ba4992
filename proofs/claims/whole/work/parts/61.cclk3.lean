/-! CLERK: opened, gone through -/
def topn (t : Nat → Nat) : Nat → Nat := fun f => if f ≤ 6 then tnew f else t f
def opW : fw_DB → List Nat → fw_DB
  | D, [] => D
  | D, w :: l => opW (dp D 14 w (topn (D 14 w))) l
def opR : fw_DB → List Nat → fw_DB
  | D, [] => D
  | D, r :: l => opR (dp D 17 r (va_up (va_up (D 17 r) 6 0) 7 0)) l
def opD (p : Nat) (wl rl : List Nat) (D : fw_DB) : fw_DB := opR (opW (dp D 8 p (va_up (D 8 p) 5 (D 8 p 4))) wl) rl
theorem tnew_B {t : Nat → Nat} : tB (topn t) ∧ topn t 3 = 0 ∧ topn t 4 = 0 := ⟨⟨Or.inr rfl, by show (0 : Nat) < _; omega, by show (0 : Nat) < _; omega, by show (0 : Nat) < _; omega, by show (0 : Nat) < _; omega, by show (1000000 : Nat) ≤ _; omega, by show (1000000 : Nat) < _; omega⟩, rfl, rfl⟩
/-- the notes that are open: those of l are to be opened yet -/
def tO (D : fw_DB) (wl l : List Nat) : Prop := (∀ j, j < D 99 0 13 → tB (D 14 j)) ∧ ∀ j ∈ wl, j ∉ l → D 14 j 3 = 0 ∧ D 14 j 4 = 0
theorem tO_14 {D : fw_DB} {w : Nat} {wl l : List Nat} (h : tO D wl (w :: l)) : tO (dp D 14 w (topn (D 14 w))) wl l := ⟨fun j hj => by
  by_cases c : j = w
  · subst c
    rw [dp_s]
    exact tnew_B.1
  · rw [dp_i c]
    exact h.1 j hj, fun j hj hn => by
  by_cases c : j = w
  · subst c
    rw [dp_s]
    exact tnew_B.2
  · rw [dp_i c]
    exact h.2 j hj (fun z => (List.mem_cons.mp z).elim c hn)⟩
theorem opW_gd {A : fw_AD} {M : fw_MP} {wl : List Nat} : ∀ {l : List Nat} {D : fw_DB}, gd D A M → tO D wl l → gd (opW D l) A M ∧ sc D (opW D l) ∧ tO (opW D l) wl [] ∧ ∀ k, k ≠ 14 → opW D l k = D k
  | [], D, g, h => ⟨g, sc.rf, h, fun k _ => rfl⟩
  | w :: l, D, g, h => by
    obtain ⟨g1, s1⟩ := gd_14 (w := w) (t := topn (D 14 w)) g
    obtain ⟨g2, s2, h2, q2⟩ := opW_gd (l := l) g1 (tO_14 h)
    exact ⟨g2, s1.tr s2, h2, fun k hk => (q2 k hk).trans (funext fun i => dp_k hk)⟩
theorem opR_gd {A : fw_AD} {M : fw_MP} : ∀ {l : List Nat} {D : fw_DB}, gd D A M → (∀ r ∈ l, r < D 99 0 17) → gd (opR D l) A M ∧ sc D (opR D l) ∧ (∀ k, k ≠ 17 → opR D l k = D k) ∧ ∀ r, (r ∈ l ∨ (D 17 r 6 = 0 ∧ D 17 r 7 = 0)) → opR D l 17 r 6 = 0 ∧ opR D l 17 r 7 = 0
  | [], D, g, h => ⟨g, sc.rf, fun k _ => rfl, fun r h => h.elim (fun z => nomatch z) id⟩
  | r :: l, D, g, h => by
    obtain ⟨g1, s1⟩ := gd_17 (r := r) (t := va_up (va_up (D 17 r) 6 0) 7 0) g (h r List.mem_cons_self) (by show (0 : Nat) ≤ _; omega) rfl (fun f hf => by
      unfold va_up
      rw [if_neg (by omega), if_neg (by omega)])
    obtain ⟨g2, s2, q2, z2⟩ := opR_gd (l := l) g1 (fun j hj => by rw [s1.N]; exact h j (List.mem_cons_of_mem _ hj))
    refine ⟨g2, s1.tr s2, fun k hk => (q2 k hk).trans (funext fun i => dp_k hk), fun j hj => z2 j ?_⟩
    by_cases c : j = r
    · subst c
      rw [dp_s]
      exact Or.inr ⟨rfl, rfl⟩
    · rw [dp_i c]
      exact hj.imp (fun z => (List.mem_cons.mp z).elim (fun y => absurd y c) id) id
theorem gd_85 {D : fw_DB} {A : fw_AD} {M : fw_MP} {p v : Nat} (g : gd D A M) (hp8 : p < D 99 0 8) (hv : v ≤ D 99 0 16) : gd (dp D 8 p (va_up (D 8 p) 5 v)) A M ∧ sc D (dp D 8 p (va_up (D 8 p) 5 v)) := by
  obtain ⟨a1, a2, a3, a4, a5, a6, a7, a8⟩ := g.1.ok hp8
  refine ⟨⟨g.1.put (by decide) ⟨a1, a2, a3, a4, a5, hv, a7, a8⟩, g.2.1, g.2.2.1, g.2.2.2⟩, sc_dp (fun f hf => ?_)⟩
  show (if f = 5 then _ else _) = _
  rw [if_neg (fun z => by subst z; cases hf)]
theorem karD_ch {d p : Nat} {wl : List Nat} : ∀ {u : List Nat} {D : fw_DB}, ch (fun i => D 16 i 2) (D 8 p 5) u → ch (fun i => karD p d wl D u 16 i 2) (karD p d wl D u 8 p 5) (cun D d u)
  | [], D, h => h
  | i :: u, D, h => by
    have e16 : ka1 p wl D i 16 = D 16 := (funext fun j => dp_k (by decide)).trans (kaD_k (by decide))
    unfold karD cun
    rw [List.dropWhile_cons]
    by_cases c : D 16 i 0 ≤ d
    · rw [if_pos c, if_pos (decide_eq_true c)]
      have := karD_ch (d := d) (p := p) (wl := wl) (u := u) (D := ka1 p wl D i) (by
        rw [e16, show ka1 p wl D i 8 p = va_up (kaD i D wl 8 p) 5 (D 16 i 2) from dp_s]
        exact h.2)
      unfold cun at this
      rw [e16] at this
      exact this
    · rw [if_neg c, if_neg (by rw [decide_eq_false c]; decide)]
      exact h
theorem krD_gd {A : fw_AD} {M : fw_MP} {wl : List Nat} {d : Nat} {a : Bool} : ∀ {l : List Nat} {D : fw_DB}, gd D A M → (∀ r ∈ l, r < D 99 0 17) → l.Nodup → (∀ r ∈ l, D 17 r 6 ≤ d) → d < 20000 → gd (krD wl d a D l) A M ∧ sc D (krD wl d a D l) ∧ (∀ k, k ≠ 17 → krD wl d a D l k = D k) ∧ (∀ r ∈ l, krD wl d a D l 17 r 6 ≤ d + 1) ∧ ∀ r, r ∉ l → krD wl d a D l 17 r = D 17 r
  | [], D, g, _, _, _, _ => ⟨g, sc.rf, fun k _ => rfl, (fun r h => nomatch h), fun r _ => rfl⟩
  | r :: l, D, g, hin, hn, h6, hd => by
    obtain ⟨g1, s1, q6, qo, qk⟩ := kr1_gd (wl := wl) (a := a) g (hin r List.mem_cons_self) hd (h6 r List.mem_cons_self)
    have nj : ∀ j ∈ l, j ≠ r := fun j hj z => (List.nodup_cons.mp hn).1 (z ▸ hj)
    obtain ⟨g2, s2, q2, z2, o2⟩ := krD_gd (wl := wl) (a := a) (l := l) g1 (fun j hj => by rw [s1.N]; exact hin j (List.mem_cons_of_mem _ hj)) (List.nodup_cons.mp hn).2 (fun j hj => by rw [qo j (nj j hj)]; exact h6 j (List.mem_cons_of_mem _ hj)) hd
    refine ⟨g2, s1.tr s2, fun k hk => (q2 k hk).trans (qk k hk), fun j hj => ?_, fun j hj => ?_⟩
    · rcases List.mem_cons.mp hj with e | e
      · subst e
        show krD wl d a (kr1 wl d a D j) l 17 j 6 ≤ d + 1
        rw [o2 j (List.nodup_cons.mp hn).1]
        exact q6
      · exact z2 j e
    · have h1 : j ≠ r := fun z => hj (z ▸ List.mem_cons_self)
      have h2 : j ∉ l := fun z => hj (List.mem_cons_of_mem _ z)
      exact (o2 j h2).trans (qo j h1)
/-- what stands ahead of the day d -/
def cE (p : Nat) (wl rl : List Nat) (D0 : fw_DB) (al : List Nat) : Nat → fw_DB × List Nat
  | 0 => (D0, al)
  | d + 1 => (cpD p d wl (cE p wl rl D0 al d).2 rl (cE p wl rl D0 al d).1, cun (cE p wl rl D0 al d).1 d (cE p wl rl D0 al d).2)
/-- what holds ahead of the day d -/
def cI (D : fw_DB) (A : fw_AD) (M : fw_MP) (p d : Nat) (wl al rl u : List Nat) : Prop := gd D A M ∧ pL D p wl al rl ∧ tG D d wl ∧ (∀ r ∈ rl, D 17 r 6 ≤ d) ∧ ch (fun i => D 16 i 2) (D 8 p 5) u ∧ ∀ i ∈ u, i < D 99 0 16
theorem cI_s {D : fw_DB} {A : fw_AD} {M : fw_MP} {p d : Nat} {wl al rl u : List Nat} (h : cI D A M p d wl al rl u) (hnw : wl.Nodup) (hnr : rl.Nodup) (hd : d < 20000) : cI (cpD p d wl u rl D) A M p (d + 1) wl al rl (cun D d u) ∧ sc D (cpD p d wl u rl D) := by
  obtain ⟨g, P, h, h6, hu, hiu⟩ := h
  unfold cpD
  generalize sB (D 10 p) d = a
  obtain ⟨g1, s1, h1, q1⟩ := kpD_gd (a := a) (wl := wl) g ⟨h.1, h.2, fun j hj => by have := h.2 j hj; omega⟩ (fun w hw => (P.2.1 w hw).1) hnw hd
  have P1 := P.sc s1
  obtain ⟨g2, s2, h2, q2⟩ := karD_gd (d := d) (l := u) g1 ⟨h1.1, h1.2.2⟩ (fun w hw => (P1.2.1 w hw).1) P1.2.2.2.2.2.2 (fun i hi => by rw [s1.N]; exact hiu i hi)
  have P2 := P1.sc s2
  have hc := karD_ch (d := d) (wl := wl) (p := p) (D := kpD d a D wl) (u := u) (by rw [q1 8 (by decide), q1 16 (by decide)]; exact hu)
  obtain ⟨g3, s3, q3, z3, -⟩ := krD_gd (wl := wl) (a := a) (d := d) (l := rl) g2 (fun r hr => (P2.2.2.2.2.2.1 r hr).1) hnr (fun r hr => by rw [q2 17 (by decide) (by decide), q1 17 (by decide)]; exact h6 r hr) hd
  refine ⟨⟨g3, P2.sc s3, ⟨fun j hj => ?_, fun j hj => ?_⟩, z3, ?_, fun i hi => ?_⟩, (s1.tr s2).tr s3⟩
  · rw [q3 14 (by decide)]
    exact h2.1 j (by rw [← s3.N]; exact hj)
  · rw [q3 14 (by decide)]
    exact h2.2 j hj
  · rw [q3 16 (by decide), q3 8 (by decide)]
    unfold cun at hc ⊢
    rw [q1 16 (by decide)] at hc
    exact hc
  · rw [((s1.tr s2).tr s3).N]
    exact hiu i ((List.dropWhile_sublist _).subset hi)
theorem opD_I {D : fw_DB} {A : fw_AD} {M : fw_MP} {p : Nat} {wl al rl : List Nat} (g : gd D A M) (P : pL D p wl al rl) (hT : ∀ j, j < D 99 0 13 → tB (D 14 j)) : cI (opD p wl rl D) A M p 0 wl al rl al ∧ sc D (opD p wl rl D) := by
  have hk := g.1.ok P.2.2.2.2.2.2
  obtain ⟨g1, s1⟩ := gd_85 (v := D 8 p 4) g P.2.2.2.2.2.2 hk.2.2.2.2.1
  obtain ⟨g2, s2, h2, q2⟩ := opW_gd (l := wl) (wl := wl) g1 ⟨hT, fun j hj hn => absurd hj hn⟩
  have P2 := (P.sc s1).sc s2
  obtain ⟨g3, s3, q3, z3⟩ := opR_gd (l := rl) g2 (fun r hr => (P2.2.2.2.2.2.1 r hr).1)
  refine ⟨⟨g3, P2.sc s3, ⟨fun j hj => ?_, fun j hj => ?_⟩, fun r hr => ?_, ?_, fun i hi => ?_⟩, (s1.tr s2).tr s3⟩
  · show tB (opR _ rl 14 j)
    rw [q3 14 (by decide)]
    exact h2.1 j (by rw [← s3.N]; exact hj)
  · show opR _ rl 14 j 3 ≤ 0 ∧ opR _ rl 14 j 4 ≤ 0
    rw [q3 14 (by decide)]
    have := h2.2 j hj (fun z => nomatch z)
    omega
  · have := (z3 r (Or.inl hr)).1
    show opR _ rl 17 r 6 ≤ 0
    omega
  · show ch (fun i => opR _ rl 16 i 2) (opR _ rl 8 p 5) al
    rw [q3 16 (by decide), q3 8 (by decide), q2 16 (by decide), q2 8 (by decide), dp_s]
    exact P.2.2.1
  · show i < opR _ rl 99 0 16
    rw [((s1.tr s2).tr s3).N]
    exact P.2.2.2.1 i hi
theorem cpS_lt {p d : Nat} {wl u rl : List Nat} {D : fw_DB} : cpS p d wl u rl D < 128 := by
  unfold cpS
  dsimp only
  split
  · exact lett_lt
  · split <;> decide
/-- ahead of each day -/
def cEE (p : Nat) (wl al rl : List Nat) (D : fw_DB) (d : Nat) : fw_DB × List Nat := cE p wl rl (opD p wl rl D) al d
theorem cEE_I {D : fw_DB} {A : fw_AD} {M : fw_MP} {p : Nat} {wl al rl : List Nat} (g : gd D A M) (P : pL D p wl al rl) (hT : ∀ j, j < D 99 0 13 → tB (D 14 j)) (hnw : wl.Nodup) (hnr : rl.Nodup) : ∀ d, d ≤ 20000 → cI (cEE p wl al rl D d).1 A M p d wl al rl (cEE p wl al rl D d).2 ∧ sc D (cEE p wl al rl D d).1
  | 0, _ => opD_I g P hT
  | d + 1, h => by
    obtain ⟨h1, s1⟩ := cEE_I g P hT hnw hnr d (by omega)
    obtain ⟨h2, s2⟩ := cI_s h1 hnw hnr (by omega)
    exact ⟨h2, s1.tr s2⟩
theorem rkAll_k {al : List Nat} {k : Nat} (h : k ≠ 13) : ∀ {l : List Nat} {D : fw_DB}, rkAll al D l k = D k
  | [], D => rfl
  | w :: l, D => (rkAll_k h (l := l)).trans (funext fun i => dp_k h)
theorem rcAll_k {wl : List Nat} {k : Nat} (h : k ≠ 17) : ∀ {l : List Nat} {D : fw_DB}, rcAll wl D l k = D k
  | [], D => rfl
  | w :: l, D => (rcAll_k h (l := l)).trans (funext fun i => dp_k h)
theorem prk_k {D : fw_DB} {wl al rl : List Nat} {k : Nat} (h : k ≠ 13) (h2 : k ≠ 17) : prk D wl al rl k = D k := (rcAll_k h2).trans (rkAll_k h)
section CCLK3
variable {G : fw_G} {D : fw_DB} {A : fw_AD} {M : fw_MP} {p : Nat} {wl al rl : List Nat}
set_option maxRecDepth 20000 in
theorem k_open (g : gd D A M) (P : pL D p wl al rl) (hT : ∀ j, j < D 99 0 13 → tB (D 14 j)) : PM G 1 0 0 mm_X2_open [.ref (A 8 p)] (hp M A D) (fw_qV (fun h' => h' = hp M A (opD p wl rl D)) fw_noX) := by
  refine pm_of (by decide +kernel) rfl rfl rfl ?_
  have hk := g.1.ok P.2.2.2.2.2.2
  have Lp := g.1.lv P.2.2.2.2.2.2
  obtain ⟨DR, hDR⟩ : ∃ DR, DR = opD p wl rl D := ⟨_, rfl⟩
  rw [← hDR]
  obtain ⟨Q, hQ⟩ : ∃ Q, Q = fw_qV (fun h' => h' = hp M A DR) fw_noX := ⟨_, rfl⟩
  rw [← hQ]
  have loop2 : ∀ (l : List Nat) (v : Nat) (D1 : fw_DB), gd D1 A M → ch (fun i => D1 17 i 8) v l → (∀ i ∈ l, i < D1 99 0 17) → opR D1 l = DR → PW G mm_X2_open Q 1 0 0 (hp M A D1) 37 [(0, .ref (A 8 p)), (1, va_rf (rq (A 17) v))] [] := by
    intro l
    induction l with
    | nil =>
      intro v D1 g1 hv hin he
      have hv : v = 0 := hv
      subst hv
      refine pw_M [(0, .ref (A 8 p)), (1, .null)] ⟨rfl, rfl, trivial⟩ ?_
      refine pw_go tk_X2_open rfl rfl ?_
      refine pw_go tk_X2_open rfl rfl ?_
      subst hQ
      exact pw_vret tk_X2_open rfl rfl ⟨rfl, congrArg (hp M A) he⟩
    | cons r l ih =>
      intro v D1 g1 hv hin he
      obtain ⟨hv, hv2⟩ := hv
      subst hv
      have hr := hin r List.mem_cons_self
      have Lr := g1.1.lv hr
      obtain ⟨g2, s2⟩ := gd_17 (r := r) (t := va_up (va_up (D1 17 r) 6 0) 7 0) g1 hr (by show (0 : Nat) ≤ _; omega) rfl (fun f hf => by
        unfold va_up
        rw [if_neg (by omega), if_neg (by omega)])
      refine pw_M [(0, .ref (A 8 p)), (1, .ref (A 17 r))] ⟨rfl, rfl, trivial⟩ ?_
      refine pw_go tk_X2_open rfl rfl ?_
      refine pw_go tk_X2_open rfl rfl ?_
      iterate 2 refine pw_go tk_X2_open rfl rfl ?_
      refine pw_put tk_X2_open rfl fp_X2_56 (hget Lr) rfl rfl (Nat.le_of_ble_eq_true rfl) ?_
      refine pw_h (hset (va_up (D1 17 r) 6 0) g1.1 Lr) ?_
      iterate 2 refine pw_go tk_X2_open rfl rfl ?_
      refine pw_put tk_X2_open rfl fp_X2_62 (hgp Lr) rfl rfl (Nat.le_of_ble_eq_true rfl) ?_
      refine pw_h (hset2 (va_up (va_up (D1 17 r) 6 0) 7 0) g1.1 Lr) ?_
      refine pw_go tk_X2_open rfl rfl ?_
      refine pw_get tk_X2_open rfl fl_X2_66 (hgp Lr) rfl ?_
      refine pw_astoreq tk_X2_open rfl rfl rfl ?_
      refine pw_go tk_X2_open rfl rfl ?_
      refine pw_M [(0, .ref (A 8 p)), (1, va_rf (rq (A 17) (D1 17 r 8)))] ⟨rfl, rfl, trivial⟩ ?_
      refine ih _ _ g2 ?_ ?_ he
      · exact ch_c (fun i _ => s2 17 i 8 rfl) hv2
      · intro i hi
        rw [s2.N]
        exact hin i (List.mem_cons_of_mem _ hi)
  have loop : ∀ (l : List Nat) (v : Nat) (D1 : fw_DB), gd D1 A M → pL D1 p wl al rl → tO D1 wl l → ch (fun i => D1 13 i 18) v l → (∀ i ∈ l, i < D1 99 0 13) → opR (opW D1 l) rl = DR → PW G mm_X2_open Q 1 0 0 (hp M A D1) 13 [(0, .ref (A 8 p)), (1, va_rf (rq (A 13) v))] [] := by
    intro l
    induction l with
    | nil =>
      intro v D1 g1 P1 h1 hv hin he
      have hv : v = 0 := hv
      subst hv
      refine pw_M [(0, .ref (A 8 p)), (1, .null)] ⟨rfl, rfl, trivial⟩ ?_
      refine pw_go tk_X2_open rfl rfl ?_
      refine pw_go tk_X2_open rfl rfl ?_
      refine pw_go tk_X2_open rfl rfl ?_
      refine pw_get tk_X2_open rfl fl_X2_52 (hget (g1.1.lv P1.2.2.2.2.2.2)) rfl ?_
      refine pw_astoreq tk_X2_open rfl rfl rfl ?_
      refine pw_M [(0, .ref (A 8 p)), (1, va_rf (rq (A 17) (D1 8 p 6)))] ⟨rfl, rfl, trivial⟩ ?_
      exact loop2 rl _ D1 g1 P1.2.2.2.2.1 (fun r hr => (P1.2.2.2.2.2.1 r hr).1) he
    | cons w l ih =>
      intro v D1 g1 P1 h1 hv hin he
      obtain ⟨hv, hv2⟩ := hv
      subst hv
      have hw := hin w List.mem_cons_self
      have Lw := g1.1.lv hw
      have hkw := g1.1.ok hw
      obtain ⟨g2, s2⟩ := gd_14 (w := w) (t := topn (D1 14 w)) g1
      refine pw_M [(0, .ref (A 8 p)), (1, .ref (A 13 w))] ⟨rfl, rfl, trivial⟩ ?_
      refine pw_go tk_X2_open rfl rfl ?_
      refine pw_go tk_X2_open rfl rfl ?_
      refine pw_go tk_X2_open rfl rfl ?_
      refine pw_get tk_X2_open rfl fl_X2_39 (hget Lw) rfl ?_
      refine pw_cv tk_X2_open rfl ca_X7_open lk_X2_45 iv_X7_open sv_X7_open (hget (g1.1.lv hkw.2.2.1)) rfl rfl (As := []) (rest := [])  (t_open g1.1 hkw.2.2.1) rfl rfl rfl (Nat.le_of_ble_eq_true rfl) (Nat.le_of_eq (Nat.zero_add _)) (Nat.le_of_eq (Nat.zero_add _)) ?_ ?_
      · rintro _ _ ⟨rfl, rfl⟩
        refine pw_go tk_X2_open rfl rfl ?_
        refine pw_get tk_X2_open rfl fl_X2_49 (hget Lw) rfl ?_
        refine pw_astoreq tk_X2_open rfl rfl rfl ?_
        refine pw_go tk_X2_open rfl rfl ?_
        refine pw_M [(0, .ref (A 8 p)), (1, va_rf (rq (A 13) (D1 13 w 18)))] ⟨rfl, rfl, trivial⟩ ?_
        exact ih _ _ g2 (P1.sc s2) (tO_14 h1) hv2 (fun j hj => hin j (List.mem_cons_of_mem _ hj)) he
      · exact fun E h' z => z.elim
  obtain ⟨g1, s1⟩ := gd_85 (v := D 8 p 4) g P.2.2.2.2.2.2 hk.2.2.2.2.1
  iterate 2 refine pw_go tk_X2_open rfl rfl ?_
  refine pw_get tk_X2_open rfl fl_X2_28 (hget Lp) rfl ?_
  refine pw_put tk_X2_open rfl fp_X2_32 (hget Lp) nar_rf fit_rf (Nat.le_of_ble_eq_true rfl) ?_
  refine pw_h (hset (va_up (D 8 p) 5 (D 8 p 4)) g.1 Lp) ?_
  refine pw_go tk_X2_open rfl rfl ?_
  refine pw_get tk_X2_open rfl fl_X2_35 (hgp Lp) rfl ?_
  refine pw_astoreq tk_X2_open rfl rfl rfl ?_
  refine pw_M [(0, .ref (A 8 p)), (1, va_rf (rq (A 13) (D 8 p 2)))] ⟨rfl, rfl, trivial⟩ ?_
  exact loop wl _ _ g1 (P.sc s1) ⟨hT, fun j hj hn => absurd hj hn⟩ P.1 (fun w hw => (P.2.1 w hw).1) hDR.symm
set_option maxRecDepth 20000 in
theorem k_state {d : Nat} (g : gd D A M) (P : pL D p wl al rl) (hnw : wl.Nodup) (hnr : rl.Nodup) (hT : ∀ j, j < D 99 0 13 → tB (D 14 j)) (hd : d < 20000) : PM G 6 0 0 mm_X2_stateAfterDays [.ref (A 8 p), .int (nI d)] (hp M A D) (fw_qp (nI (cpS p d wl (cEE p wl al rl D d).2 rl (cEE p wl al rl D d).1)) (hp M A (cEE p wl al rl D (d + 1)).1)) := by
  refine pm_of (by decide +kernel) rfl rfl rfl ?_
  obtain ⟨SR, hSR⟩ : ∃ SR : Nat → Nat, SR = fun d => cpS p d wl (cEE p wl al rl D d).2 rl (cEE p wl al rl D d).1 := ⟨_, rfl⟩
  have hS : ∀ d, cpS p d wl (cEE p wl al rl D d).2 rl (cEE p wl al rl D d).1 = SR d := fun d => by rw [hSR]
  rw [hS]
  have loop : ∀ (n k s : Nat), k + n = d + 1 → s < 128 → (k = d + 1 → s = SR d) → PW G mm_X2_stateAfterDays (fw_qp (nI (SR d)) (hp M A (cEE p wl al rl D (d + 1)).1)) 6 0 0 (hp M A (cEE p wl al rl D k).1) 9 [(0, .ref (A 8 p)), (1, .int (nI d)), (2, .int (nI s)), (3, .int (nI k))] [] := by
    intro n
    induction n with
    | zero =>
      intro k s hk hs he
      have hk : k = d + 1 := by omega
      subst hk
      iterate 2 refine pw_go tk_X2_stateAfterDays rfl rfl ?_
      refine pw_icN (d + 1) (d) tk_X2_stateAfterDays rfl rfl rfl (by omega) (by omega) (fun c => ?_) (fun c => absurd (show d < d + 1 by omega) c)
      refine pw_go tk_X2_stateAfterDays rfl rfl ?_
      rw [he rfl]
      exact pw_cretp tk_X2_stateAfterDays rfl rfl (by rw [← he rfl]; exact hs)
    | succ n ih =>
      intro k s hk hs he
      obtain ⟨⟨g1, P1, h1, h6, hu, hiu⟩, s1⟩ := cEE_I g P hT hnw hnr k (by omega)
      iterate 2 refine pw_go tk_X2_stateAfterDays rfl rfl ?_
      refine pw_icN (k) (d) tk_X2_stateAfterDays rfl rfl rfl (by omega) (by omega) (fun c => absurd (show d < k from c) (by omega)) (fun c => ?_)
      iterate 2 refine pw_go tk_X2_stateAfterDays rfl rfl ?_
      refine pw_cs tk_X2_stateAfterDays rfl ca_X2_passDay lk_X2_15 sx_X2_passDay (As := [.ref (A 8 p), .int (nI k)]) (rest := [])  (k_pass g1 P1 hnw hnr h1 h6 hu hiu (by omega)) rfl rfl rfl (Nat.le_of_ble_eq_true rfl) (Nat.le_of_eq (Nat.zero_add _)) (Nat.le_of_eq (Nat.zero_add _)) ?_ ?_
      · rintro _ _ ⟨_, rfl, rfl, rfl⟩
        refine pw_h (h' := hp M A (cEE p wl al rl D (k + 1)).1) rfl ?_
        iterate 3 refine pw_go tk_X2_stateAfterDays rfl rfl ?_
        refine pw_M [(0, .ref (A 8 p)), (1, .int (nI d)), (2, .int (nI (SR k))), (3, .int (nI (k + 1)))] ⟨rfl, rfl, by rw [hSR]; rfl, congrArg (fun z => some (Value.int z)) (nI_1 k), trivial⟩ ?_
        exact ih (k + 1) (SR k) (by omega) (by rw [hSR]; exact cpS_lt) (fun z => by rw [show k = d by omega])
      · exact fun E h' z => z.elim
  refine pw_go tk_X2_stateAfterDays rfl rfl ?_
  refine pw_cs tk_X2_stateAfterDays rfl ca_X2_open lk_X2_9 sx_X2_open (As := [.ref (A 8 p)]) (rest := [])  (k_open g P hT) rfl rfl rfl (Nat.le_of_ble_eq_true rfl) (Nat.le_of_eq (Nat.zero_add _)) (Nat.le_of_eq (Nat.zero_add _)) ?_ ?_
  · rintro _ _ ⟨rfl, rfl⟩
    refine pw_h (h' := hp M A (cEE p wl al rl D 0).1) rfl ?_
    iterate 4 refine pw_go tk_X2_stateAfterDays rfl rfl ?_
    refine pw_M [(0, .ref (A 8 p)), (1, .int (nI d)), (2, .int (nI 111)), (3, .int (nI 0))] ⟨rfl, rfl, rfl, rfl, trivial⟩ ?_
    exact loop (d + 1) 0 111 (by omega) (by omega) (fun z => by omega)
  · exact fun E h' z => z.elim
set_option maxRecDepth 20000 in
theorem k_agrees (g : gd D A M) (P : pL D p wl al rl) (hnw : wl.Nodup) (hnr : rl.Nodup) (hT : ∀ j, j < D 99 0 13 → tB (D 14 j)) (hag : ∀ d, d ≤ 3880 → cpS p d wl (cEE p wl al rl (prk D wl al rl) d).2 rl (cEE p wl al rl (prk D wl al rl) d).1 = stt (cEE p wl al rl (prk D wl al rl) (d + 1)).1 (sB ((cEE p wl al rl (prk D wl al rl) (d + 1)).1 10 p)) d wl rl) : PM G 6 0 0 mm_X2_agrees [.ref (A 8 p)] (hp M A D) (fw_qp (bI true) (hp M A (cEE p wl al rl (prk D wl al rl) 3881).1)) := by
  refine pm_of (by decide +kernel) rfl rfl rfl ?_
  obtain ⟨g0, s0⟩ := prk_gd g P
  obtain ⟨D0, hD0⟩ : ∃ D0, D0 = prk D wl al rl := ⟨_, rfl⟩
  rw [← hD0] at hag g0 s0 ⊢
  have P0 := P.sc s0
  have hT0 : ∀ j, j < D0 99 0 13 → tB (D0 14 j) := by
    intro j hj
    rw [hD0, prk_k (by decide) (by decide)]
    exact hT j (by rw [← s0.N]; exact hj)
  have loop : ∀ (n k : Nat), k + n = 3881 → PW G mm_X2_agrees (fw_qp (bI true) (hp M A (cEE p wl al rl D0 3881).1)) 6 0 0 (hp M A (cEE p wl al rl D0 k).1) 10 [(0, .ref (A 8 p)), (1, .int (nI k))] [] := by
    intro n
    induction n with
    | zero =>
      intro k hk
      have hk : k = 3881 := by omega
      subst hk
      iterate 2 refine pw_go tk_X2_agrees rfl rfl ?_
      refine pw_icN (3881) (3880) tk_X2_agrees rfl rfl rfl (by omega) (by omega) (fun c => ?_) (fun c => absurd (show 3880 < 3881 by omega) c)
      refine pw_go tk_X2_agrees rfl rfl ?_
      exact pw_zretp (b := true) tk_X2_agrees rfl rfl
    | succ n ih =>
      intro k hk
      obtain ⟨⟨g1, P1, h1, h6, hu, hiu⟩, s1⟩ := cEE_I g0 P0 hT0 hnw hnr k (by omega)
      obtain ⟨⟨g2, P2, -, -, -, -⟩, s2⟩ := cEE_I g0 P0 hT0 hnw hnr (k + 1) (by omega)
      have k41 : PW G mm_X2_agrees (fw_qp (bI true) (hp M A (cEE p wl al rl D0 3881).1)) 6 0 0 (hp M A (cEE p wl al rl D0 (k + 1)).1) 41 [(0, .ref (A 8 p)), (1, .int (nI k))] [] := by
        iterate 2 refine pw_go tk_X2_agrees rfl rfl ?_
        refine pw_M [(0, .ref (A 8 p)), (1, .int (nI (k + 1)))] ⟨rfl, congrArg (fun z => some (Value.int z)) (nI_1 k), trivial⟩ ?_
        exact ih (k + 1) (by omega)
      iterate 2 refine pw_go tk_X2_agrees rfl rfl ?_
      refine pw_icN (k) (3880) tk_X2_agrees rfl rfl rfl (by omega) (by omega) (fun c => absurd (show 3880 < k from c) (by omega)) (fun c => ?_)
      iterate 2 refine pw_go tk_X2_agrees rfl rfl ?_
      refine pw_cs tk_X2_agrees rfl ca_X2_passDay lk_X2_15 sx_X2_passDay (As := [.ref (A 8 p), .int (nI k)]) (rest := [])  (k_pass g1 P1 hnw hnr h1 h6 hu hiu (by omega)) rfl rfl rfl (Nat.le_of_ble_eq_true rfl) (Nat.le_of_eq (Nat.zero_add _)) (Nat.le_of_eq (Nat.zero_add _)) ?_ ?_
      · rintro _ _ ⟨_, rfl, rfl, rfl⟩
        refine pw_h (h' := hp M A (cEE p wl al rl D0 (k + 1)).1) rfl ?_
        refine pw_M [(0, .ref (A 8 p)), (1, .int (nI k))] ⟨rfl, rfl, trivial⟩ ?_
        iterate 3 refine pw_go tk_X2_agrees rfl rfl ?_
        refine pw_remN (k) (97) tk_X2_agrees rfl rfl rfl (by omega) (by omega) (by omega) ?_
        refine pw_ifN (k % 97) tk_X2_agrees rfl rfl (by omega) (fun c => ?_) (fun c => ?_)
        · refine pw_M [(0, .ref (A 8 p)), (1, .int (nI k))] ⟨rfl, rfl, trivial⟩ ?_
          exact k41
        · skip
          iterate 3 refine pw_go tk_X2_agrees rfl rfl ?_
          refine pw_cvp tk_X2_agrees rfl ca_X5_stateAt lk_X2_24 iv_X5_stateAt sv_X5_stateAt (hget (g2.1.lv P2.2.2.2.2.2.2)) rfl rfl (As := [.int (nI k)]) (rest := [.int (nI (cpS p k wl (cEE p wl al rl D0 k).2 rl (cEE p wl al rl D0 k).1))]) (p_state g2.1 g2.2.1 g2.2.2.1 P2.2.2.2.2.2.2 P2.1 (fun w hw => (P2.2.1 w hw).1) P2.2.2.2.2.1 (fun r hr => (P2.2.2.2.2.2.1 r hr).1) (by omega)) rfl rfl rfl rfl ?_
          rw [hag k (by omega)]
          refine pw_br tk_X2_agrees rfl rfl (fun c => ?_) (fun c => absurd rfl c)
          refine pw_M [(0, .ref (A 8 p)), (1, .int (nI k))] ⟨rfl, rfl, trivial⟩ ?_
          exact k41
      · exact fun E h' z => z.elim
  refine pw_go tk_X2_agrees rfl rfl ?_
  refine pw_cv tk_X2_agrees rfl ca_X5_reckon lk_X2_19 iv_X5_reckon sv_X5_reckon (hget (g.1.lv P.2.2.2.2.2.2)) rfl rfl (As := []) (rest := [])  (p_reckon g P) rfl rfl rfl (Nat.le_of_ble_eq_true rfl) (Nat.le_of_eq (Nat.zero_add _)) (Nat.le_of_eq (Nat.zero_add _)) ?_ ?_
  · rintro _ _ ⟨rfl, rfl⟩
    refine pw_h (h' := hp M A D0) (by rw [hD0]) ?_
    refine pw_go tk_X2_agrees rfl rfl ?_
    refine pw_cs tk_X2_agrees rfl ca_X2_open lk_X2_9 sx_X2_open (As := [.ref (A 8 p)]) (rest := [])  (k_open g0 P0 hT0) rfl rfl rfl (Nat.le_of_ble_eq_true rfl) (Nat.le_of_eq (Nat.zero_add _)) (Nat.le_of_eq (Nat.zero_add _)) ?_ ?_
    · rintro _ _ ⟨rfl, rfl⟩
      refine pw_h (h' := hp M A (cEE p wl al rl D0 0).1) rfl ?_
      iterate 2 refine pw_go tk_X2_agrees rfl rfl ?_
      refine pw_M [(0, .ref (A 8 p)), (1, .int (nI 0))] ⟨rfl, rfl, trivial⟩ ?_
      exact loop 3881 0 (by omega)
    · exact fun E h' z => z.elim
  · exact fun E h' z => z.elim
end CCLK3

