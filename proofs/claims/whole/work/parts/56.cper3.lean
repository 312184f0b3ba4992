/-! PERSON: due days; what it takes -/
def oB (f : Nat → Bool) : Nat → Nat := fun d => if f d = true then 1 else 0
theorem sB_oB (f : Nat → Bool) : sB (oB f) = f := funext fun d => by
  unfold sB oB
  cases f d <;> rfl
def dB (D : fw_DB) : Prop := (∀ d, 20000 ≤ d → D 6 0 d = 0) ∧ ∀ p d, 20000 ≤ d → D 10 p d = 0 ∧ D 12 p d = 0
def duW (D : fw_DB) : (Nat → Bool) → List Nat → Nat → Bool
  | f, [] => f
  | f, w :: l => duW D (fun d => f d || iv (D 13 w 14) (min (D 13 w 16) 20000) d) l
def duR (D : fw_DB) : (Nat → Bool) → List Nat → Nat → Bool
  | f, [] => f
  | f, w :: l => duR D (fun d => f d || iv (D 17 w 1) (min (D 17 w 5) 20000) d) l
/-- the days due of a person -/
def duF (D : fw_DB) (wl rl : List Nat) : Nat → Bool := duR D (duW D (fun _ => false) wl) rl
section CPER3
variable {G : fw_G} {D : fw_DB} {A : fw_AD} {M : fw_MP} {p : Nat} {wl al rl : List Nat}
theorem dy_due {D : fw_DB} {A : fw_AD} {M : fw_MP} {f : Nat → Bool} (L5 : M (A 5 0) = some (5, 0)) (L6 : M (A 6 0) = some (6, 0)) : dyAt (hp M A (dp D 6 0 (oB f))) (A 5 0) (A 6 0) f := ⟨hget (D := dp D 6 0 (oB f)) L5, by
  have := hgp (D := D) (g := oB f) L6
  rw [show kRow A 6 0 (oB f) = .inl (1, 313, .inr (.inl (wd (sB (oB f))))) from rfl, sB_oB] at this
  exact this⟩
theorem due_set {f f' : Nat → Bool} (W : Wf D A M) (L6 : M (A 6 0) = some (6, 0)) : fw_up (hp M A (dp D 6 0 (oB f))) (A 6 0) (.inl (1, 313, .inr (.inl (wd f')))) = hp M A (dp D 6 0 (oB f')) := by
  rw [← hset2 (oB f') W L6, show kRow A 6 0 (oB f') = .inl (1, 313, .inr (.inl (wd (sB (oB f'))))) from rfl, sB_oB]
set_option maxRecDepth 20000 in
theorem p_putDue (g : gd D A M) (P : pL D p wl al rl) (h5 : 0 < D 99 0 5) (h6 : 0 < D 99 0 6) (hB : dB D) : PM G 2 0 0 mm_X5_putDue [.ref (A 8 p), .ref (A 5 0)] (hp M A D) (fw_qV (fun h' => h' = hp M A (dp D 6 0 (oB (duF D wl rl)))) fw_noX) := by
  refine pm_of (by decide +kernel) rfl rfl rfl ?_
  obtain ⟨Q, hQ⟩ : ∃ Q, Q = fw_qV (fun h' => h' = hp M A (dp D 6 0 (oB (duF D wl rl)))) fw_noX := ⟨_, rfl⟩
  rw [← hQ]
  have W := g.1
  have Lp := W.lv P.2.2.2.2.2.2
  have L5 := W.lv h5
  have L6 := W.lv h6
  have loop2 : ∀ (l : List Nat) (v : Nat) (f : Nat → Bool), ch (fun i => D 17 i 8) v l → (∀ i ∈ l, i < D 99 0 17 ∧ D 17 i 0 = p) → duR D f l = duF D wl rl → PW G mm_X5_putDue Q 2 0 0 (hp M A (dp D 6 0 (oB f))) 38 [(0, .ref (A 8 p)), (1, .ref (A 5 0)), (2, va_rf (rq (A 17) v))] [] := by
    intro l
    induction l with
    | nil =>
      intro v f hv hin he
      have hv : v = 0 := hv
      subst hv
      refine pw_M [(0, .ref (A 8 p)), (1, .ref (A 5 0)), (2, .null)] ⟨rfl, rfl, rfl, trivial⟩ ?_
      refine pw_go tk_X5_putDue rfl rfl ?_
      refine pw_go tk_X5_putDue rfl rfl ?_
      subst hQ
      exact pw_vret tk_X5_putDue rfl rfl ⟨rfl, by rw [← he]; rfl⟩
    | cons r l ih =>
      intro v f hv hin he
      obtain ⟨hv, hv2⟩ := hv
      subst hv
      have hr := hin r List.mem_cons_self
      have Lr := W.lv hr.1
      obtain ⟨c1, c3, c4, c5, c6⟩ := g.2.2.1 r hr.1
      refine pw_M [(0, .ref (A 8 p)), (1, .ref (A 5 0)), (2, .ref (A 17 r))] ⟨rfl, rfl, rfl, trivial⟩ ?_
      refine pw_go tk_X5_putDue rfl rfl ?_
      refine pw_go tk_X5_putDue rfl rfl ?_
      iterate 2 refine pw_go tk_X5_putDue rfl rfl ?_
      refine pw_get tk_X5_putDue rfl fl_X5_90 (hget Lr) rfl ?_
      refine pw_go tk_X5_putDue rfl rfl ?_
      refine pw_get tk_X5_putDue rfl fl_X5_91 (hget Lr) rfl ?_
      refine pw_cv tk_X5_putDue rfl ca_X3_put lk_X5_103 iv_X3_put sv_X3_put ((dy_due L5 L6).1) rfl rfl (As := [.int (nI (D 17 r 1)), .int (nI (D 17 r 5))]) (rest := [])  (c_put (dy_due L5 L6) (x := D 17 r 1) (z := D 17 r 5) (by omega) (by omega)) rfl rfl rfl (Nat.le_of_ble_eq_true rfl) (Nat.le_of_eq (Nat.zero_add _)) (Nat.le_of_eq (Nat.zero_add _)) ?_ ?_
      · rintro _ _ ⟨rfl, rfl⟩
        refine pw_h (due_set W L6) ?_
        refine pw_go tk_X5_putDue rfl rfl ?_
        refine pw_get tk_X5_putDue rfl fl_X5_38 (hget Lr) rfl ?_
        refine pw_astoreq tk_X5_putDue rfl rfl rfl ?_
        refine pw_go tk_X5_putDue rfl rfl ?_
        refine pw_M [(0, .ref (A 8 p)), (1, .ref (A 5 0)), (2, va_rf (rq (A 17) (D 17 r 8)))] ⟨rfl, rfl, rfl, trivial⟩ ?_
        exact ih _ _ hv2 (fun j hj => hin j (List.mem_cons_of_mem _ hj)) he
      · exact fun E h' z => z.elim
  have loop : ∀ (l : List Nat) (v : Nat) (f : Nat → Bool), ch (fun i => D 13 i 18) v l → (∀ i ∈ l, i < D 99 0 13 ∧ D 13 i 1 = p) → duR D (duW D f l) rl = duF D wl rl → PW G mm_X5_putDue Q 2 0 0 (hp M A (dp D 6 0 (oB f))) 9 [(0, .ref (A 8 p)), (1, .ref (A 5 0)), (2, va_rf (rq (A 13) v))] [] := by
    intro l
    induction l with
    | nil =>
      intro v f hv hin he
      have hv : v = 0 := hv
      subst hv
      refine pw_M [(0, .ref (A 8 p)), (1, .ref (A 5 0)), (2, .null)] ⟨rfl, rfl, rfl, trivial⟩ ?_
      refine pw_go tk_X5_putDue rfl rfl ?_
      refine pw_go tk_X5_putDue rfl rfl ?_
      refine pw_go tk_X5_putDue rfl rfl ?_
      refine pw_get tk_X5_putDue rfl fl_X5_35 (hget Lp) rfl ?_
      refine pw_astoreq tk_X5_putDue rfl rfl rfl ?_
      refine pw_M [(0, .ref (A 8 p)), (1, .ref (A 5 0)), (2, va_rf (rq (A 17) (D 8 p 6)))] ⟨rfl, rfl, rfl, trivial⟩ ?_
      exact loop2 rl _ f P.2.2.2.2.1 P.2.2.2.2.2.1 he
    | cons w l ih =>
      intro v f hv hin he
      obtain ⟨hv, hv2⟩ := hv
      subst hv
      have hw := hin w List.mem_cons_self
      have Lw := W.lv hw.1
      obtain ⟨b2, b3, b4, b9, b10, b11, b15, b14, -, b16, b17⟩ := g.2.1.1 w hw.1
      refine pw_M [(0, .ref (A 8 p)), (1, .ref (A 5 0)), (2, .ref (A 13 w))] ⟨rfl, rfl, rfl, trivial⟩ ?_
      refine pw_go tk_X5_putDue rfl rfl ?_
      refine pw_go tk_X5_putDue rfl rfl ?_
      iterate 2 refine pw_go tk_X5_putDue rfl rfl ?_
      refine pw_get tk_X5_putDue rfl fl_X5_100 (hget Lw) rfl ?_
      refine pw_go tk_X5_putDue rfl rfl ?_
      refine pw_get tk_X5_putDue rfl fl_X5_87 (hget Lw) rfl ?_
      refine pw_cv tk_X5_putDue rfl ca_X3_put lk_X5_103 iv_X3_put sv_X3_put ((dy_due L5 L6).1) rfl rfl (As := [.int (nI (D 13 w 14)), .int (nI (D 13 w 16))]) (rest := [])  (c_put (dy_due L5 L6) (x := D 13 w 14) (z := D 13 w 16) (by omega) (by omega)) rfl rfl rfl (Nat.le_of_ble_eq_true rfl) (Nat.le_of_eq (Nat.zero_add _)) (Nat.le_of_eq (Nat.zero_add _)) ?_ ?_
      · rintro _ _ ⟨rfl, rfl⟩
        refine pw_h (due_set W L6) ?_
        refine pw_go tk_X5_putDue rfl rfl ?_
        refine pw_get tk_X5_putDue rfl fl_X5_26 (hget Lw) rfl ?_
        refine pw_astoreq tk_X5_putDue rfl rfl rfl ?_
        refine pw_go tk_X5_putDue rfl rfl ?_
        refine pw_M [(0, .ref (A 8 p)), (1, .ref (A 5 0)), (2, va_rf (rq (A 13) (D 13 w 18)))] ⟨rfl, rfl, rfl, trivial⟩ ?_
        exact ih _ _ hv2 (fun j hj => hin j (List.mem_cons_of_mem _ hj)) he
      · exact fun E h' z => z.elim
  refine pw_go tk_X5_putDue rfl rfl ?_
  refine pw_cv tk_X5_putDue rfl ca_X3_clear lk_X5_97 iv_X3_clear sv_X3_clear (hget L5) rfl rfl (As := []) (rest := [])  (c_clear (b := A 5 0) (wa := A 6 0) (p := sB (D 6 0)) ⟨hget L5, hget L6⟩ (fun d hd => by show decide (0 < D 6 0 d) = false; rw [hB.1 d hd]; rfl)) rfl rfl rfl (Nat.le_of_ble_eq_true rfl) (Nat.le_of_eq (Nat.zero_add _)) (Nat.le_of_eq (Nat.zero_add _)) ?_ ?_
  · rintro _ _ ⟨rfl, rfl⟩
    refine pw_h (h' := hp M A (dp D 6 0 (oB (fun _ => false)))) ?_ ?_
    · rw [← hset (oB fun _ => false) W L6, show kRow A 6 0 (oB fun _ => false) = .inl (1, 313, .inr (.inl (wd (sB (oB fun _ => false))))) from rfl, sB_oB]
    · refine pw_go tk_X5_putDue rfl rfl ?_
      refine pw_get tk_X5_putDue rfl fl_X5_23 (hget Lp) rfl ?_
      refine pw_astoreq tk_X5_putDue rfl rfl rfl ?_
      refine pw_M [(0, .ref (A 8 p)), (1, .ref (A 5 0)), (2, va_rf (rq (A 13) (D 8 p 2)))] ⟨rfl, rfl, rfl, trivial⟩ ?_
      exact loop wl _ _ P.1 P.2.1 rfl
  · exact fun E h' z => z.elim
end CPER3

