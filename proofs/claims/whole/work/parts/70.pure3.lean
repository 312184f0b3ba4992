/-! PURE: how long a recall goes on -/
/-- whether one of the first n of a list licenses a day -/
def lcF (F : fw_DB) (n : Nat) (l : List Nat) (d : Nat) : Bool := (l.takeWhile (fun w => decide (w < n))).any (fun w => wlic (F 13 w) d)
theorem lcb_is {F E : fw_DB} {n d : Nat} : ∀ {l : List Nat}, (∀ w ∈ l, tlic (E 14 w) d = wlic (F 13 w) d) → lcb E n d l = lcF F n l d
  | [], _ => rfl
  | w :: l, h => by
    have ih := lcb_is (n := n) (fun v hv => h v (List.mem_cons_of_mem _ hv))
    unfold lcb lcF
    by_cases c : w < n
    · rw [if_pos c, List.takeWhile_cons_of_pos (by simpa using c), List.any_cons, h w List.mem_cons_self, ih]
      rfl
    · rw [if_neg c, List.takeWhile_cons_of_neg (by simpa using c)]
      rfl
/-- those that end later than a day -/
def cnE (F : fw_DB) (f : Nat) (l : List Nat) : Nat := (l.filter (fun w => decide (f + 1000000 < F 13 w 17))).length
theorem lte_tw {F : fw_DB} {n f : Nat} : ∀ {l : List Nat} {m : Nat}, lte F n f m l = lte F n f m (l.takeWhile (fun w => decide (w < n)))
  | [], _ => rfl
  | w :: l, m => by
    by_cases c : w < n
    · rw [List.takeWhile_cons_of_pos (by simpa using c)]
      unfold lte
      rw [if_pos c, if_pos c]
      exact lte_tw
    · rw [List.takeWhile_cons_of_neg (by simpa using c)]
      unfold lte
      rw [if_neg c]
theorem lte_spec {F : fw_DB} {n f : Nat} : ∀ {l : List Nat} {m : Nat}, (∀ w ∈ l, w < n) → m ≤ lte F n f m l ∧ (∀ w ∈ l, wlic (F 13 w) f = true → F 13 w 17 ≤ lte F n f m l + 1000000) ∧ (lte F n f m l = m ∨ ∃ w ∈ l, wlic (F 13 w) f = true ∧ F 13 w 17 = lte F n f m l + 1000000)
  | [], m, _ => ⟨Nat.le_refl _, fun w hw => (nomatch hw), Or.inl rfl⟩
  | w :: l, m, h => by
    have hw := h w List.mem_cons_self
    have ih := fun m => lte_spec (F := F) (f := f) (m := m) (fun v hv => h v (List.mem_cons_of_mem _ hv))
    unfold lte
    rw [if_pos hw]
    by_cases c : wlic (F 13 w) f = true
    · rw [if_pos c]
      have he : f + 1000000 < F 13 w 17 := by
        unfold wlic at c
        rw [Bool.and_eq_true, decide_eq_true_eq, decide_eq_true_eq] at c
        exact c.2
      obtain ⟨h1, h2, h3⟩ := ih (max m (F 13 w 17 - 1000000))
      have hm1 := Nat.le_max_left m (F 13 w 17 - 1000000)
      have hm2 := Nat.le_max_right m (F 13 w 17 - 1000000)
      refine ⟨by omega, fun v hv hc => ?_, ?_⟩
      · rcases List.mem_cons.mp hv with e | hv
        · subst e
          omega
        · exact h2 v hv hc
      · rcases h3 with h3 | ⟨v, hv, hc, e⟩
        · by_cases c2 : m ≤ F 13 w 17 - 1000000
          · right
            refine ⟨w, List.mem_cons_self, c, ?_⟩
            rw [h3, Nat.max_eq_right c2]
            omega
          · left
            rw [h3, Nat.max_eq_left (by omega)]
        · exact Or.inr ⟨v, List.mem_cons_of_mem _ hv, hc, e⟩
    · rw [if_neg c]
      obtain ⟨h1, h2, h3⟩ := ih m
      refine ⟨h1, fun v hv hc => ?_, ?_⟩
      · rcases List.mem_cons.mp hv with e | hv
        · subst e
          exact absurd hc c
        · exact h2 v hv hc
      · rcases h3 with h3 | ⟨v, hv, hc, e⟩
        · exact Or.inl h3
        · exact Or.inr ⟨v, List.mem_cons_of_mem _ hv, hc, e⟩
theorem tw_lt {n : Nat} {l : List Nat} : ∀ w ∈ l.takeWhile (fun w => decide (w < n)), w < n := by
  induction l with
  | nil => intro w hw; cases hw
  | cons v l ih =>
    intro w hw
    by_cases c : v < n
    · rw [List.takeWhile_cons_of_pos (by simpa using c)] at hw
      rcases List.mem_cons.mp hw with e | hw
      · rw [e]; exact c
      · exact ih w hw
    · rw [List.takeWhile_cons_of_neg (by simpa using c)] at hw
      cases hw
theorem wlic_i {g : Nat → Nat} {d : Nat} : wlic g d = true ↔ g 16 ≤ d ∧ d + 1000000 < g 17 := by
  unfold wlic
  rw [Bool.and_eq_true, decide_eq_true_eq, decide_eq_true_eq]
theorem cnE_le {F : fw_DB} {f : Nat} {l : List Nat} : cnE F f l ≤ l.length := List.length_filter_le _ _
theorem fil_le {p q : Nat → Bool} (h : ∀ w, q w = true → p w = true) : ∀ l : List Nat, (l.filter q).length ≤ (l.filter p).length
  | [] => Nat.le_refl _
  | v :: l => by
    have ih := fil_le h l
    rw [List.filter_cons, List.filter_cons]
    by_cases c : q v = true
    · rw [if_pos c, if_pos (h v c), List.length_cons, List.length_cons]
      omega
    · rw [if_neg c]
      split
      · rw [List.length_cons]
        omega
      · exact ih
theorem fil_lt {p q : Nat → Bool} (h : ∀ w, q w = true → p w = true) : ∀ {l : List Nat}, (∃ w ∈ l, p w = true ∧ q w = false) → (l.filter q).length < (l.filter p).length
  | [], ⟨w, hw, _⟩ => nomatch hw
  | v :: l, ⟨w, hw, h1, h2⟩ => by
    have hv := fil_le h l
    rw [List.filter_cons, List.filter_cons]
    rcases List.mem_cons.mp hw with e | hw
    · rw [← e, h1, h2, if_pos rfl, if_neg (by decide), List.length_cons]
      omega
    · have ih := fil_lt h ⟨w, hw, h1, h2⟩
      by_cases c : q v = true
      · rw [if_pos c, if_pos (h v c), List.length_cons, List.length_cons]
        omega
      · rw [if_neg c]
        split
        · rw [List.length_cons]
          omega
        · exact ih
theorem cnE_lt {F : fw_DB} {f f' : Nat} {l : List Nat} (hf : f ≤ f') (h : ∃ w ∈ l, f + 1000000 < F 13 w 17 ∧ ¬ f' + 1000000 < F 13 w 17) : cnE F f' l < cnE F f l := by
  obtain ⟨w, hw, h1, h2⟩ := h
  exact fil_lt (fun v hv => decide_eq_true (Nat.lt_of_le_of_lt (Nat.add_le_add_right hf _) (of_decide_eq_true hv))) ⟨w, hw, decide_eq_true h1, decide_eq_false h2⟩
/-- the first day from f on that no licence reaches -/
theorem fdu_spec {F : fw_DB} {n : Nat} {l : List Nat} : ∀ {k f : Nat}, cnE F f (l.takeWhile (fun w => decide (w < n))) ≤ k → f ≤ fdu F n l k f ∧ (∀ x, f ≤ x → x < fdu F n l k f → lcF F n l x = true) ∧ lcF F n l (fdu F n l k f) = false := by
  have hno : ∀ {f : Nat}, (∀ w ∈ l.takeWhile (fun w => decide (w < n)), ¬ f + 1000000 < F 13 w 17) → lcF F n l f = false := by
    intro f h
    unfold lcF
    cases hq : (l.takeWhile (fun w => decide (w < n))).any (fun w => wlic (F 13 w) f) with
    | false => rfl
    | true =>
      obtain ⟨w, hw, hl⟩ := List.any_eq_true.mp hq
      exact absurd (wlic_i.mp hl).2 (h w hw)
  intro k
  induction k with
  | zero =>
    intro f h
    refine ⟨Nat.le_refl _, fun x h1 h2 => ?_, hno (fun w hw hc => ?_)⟩
    · have : x < f := h2
      omega
    · have hc : f + 1000000 < F 13 w 17 := hc
      have h0 : cnE F f (l.takeWhile (fun w => decide (w < n))) = 0 := Nat.le_zero.mp h
      unfold cnE at h0
      have h1 := List.eq_nil_of_length_eq_zero h0
      have : w ∈ (l.takeWhile (fun w => decide (w < n))).filter (fun w => decide (f + 1000000 < F 13 w 17)) := List.mem_filter.mpr ⟨hw, decide_eq_true hc⟩
      rw [h1] at this
      cases this
  | succ k ih =>
    intro f h
    obtain ⟨s1, s2, s3⟩ := lte_spec (F := F) (f := f) (m := f) (tw_lt (n := n) (l := l))
    have e : lte F n f f l = lte F n f f (l.takeWhile (fun w => decide (w < n))) := lte_tw
    rw [← e] at s1 s2 s3
    unfold fdu
    by_cases c : lte F n f f l = f
    · rw [if_pos c]
      refine ⟨Nat.le_refl _, fun x h1 h2 => by omega, ?_⟩
      unfold lcF
      cases hq : (l.takeWhile (fun w => decide (w < n))).any (fun w => wlic (F 13 w) f) with
      | false => rfl
      | true =>
        obtain ⟨w, hw, hl⟩ := List.any_eq_true.mp hq
        have := s2 w hw hl
        have := (wlic_i.mp hl).2
        omega
    · rw [if_neg c]
      obtain ⟨w, hw, hl, he⟩ := s3.resolve_left c
      have hl2 := wlic_i.mp hl
      obtain ⟨i1, i2, i3⟩ := ih (f := lte F n f f l) (by
        have := cnE_lt (F := F) (f := f) (f' := lte F n f f l) (l := l.takeWhile (fun w => decide (w < n))) s1 ⟨w, hw, hl2.2, by omega⟩
        omega)
      refine ⟨by omega, fun x h1 h2 => ?_, i3⟩
      by_cases c2 : x < lte F n f f l
      · unfold lcF
        refine List.any_eq_true.mpr ⟨w, hw, wlic_i.mpr ⟨by omega, by omega⟩⟩
      · exact i2 x (by omega) h2
/-- a recall whose end is reckoned -/
def fxR (F : fw_DB) (aw : Nat → Bool) (wl : List Nat) (r : Nat) : Prop := F 17 r 5 = rcu F aw r wl ∧ F 17 r 1 < 20000 ∧ F 17 r 1 ≤ F 17 r 4 ∧ wl.length ≤ 24
theorem db_ge {f : Nat → Bool} {n t k : Nat} (h : t + k ≤ 1000000) : t ≤ db f n t k 1000000 := by
  rcases db_spec (f := f) (e := 1000000) k n t with ⟨h1, -⟩ | ⟨h1, -⟩ <;> omega
theorem db_le {f : Nat → Bool} {n b d : Nat} (hb : b ≤ d) (hd : d < 20000) : db f n b (20032 - b) 1000000 ≤ d ↔ n ≤ cu f d - cu f b := by
  rcases db_spec (f := f) (e := 1000000) (20032 - b) n b with ⟨h1, h2, h3, h4⟩ | ⟨h1, h2⟩
  · constructor
    · intro h
      have := cu_mono f h
      omega
    · intro h
      rcases Nat.lt_or_ge d (db f n b (20032 - b) 1000000) with c | c
      · have := h4 d hb c
        omega
      · exact c
  · rw [h1]
    constructor
    · intro h
      omega
    · intro h
      have := cu_mono f (by omega : d ≤ b + (20032 - b))
      omega
theorem fd_s {F : fw_DB} {n : Nat} {wl : List Nat} {f : Nat} (h : wl.length ≤ 24) : f ≤ fdu F n wl 24 f ∧ (∀ x, f ≤ x → x < fdu F n wl 24 f → lcF F n wl x = true) ∧ lcF F n wl (fdu F n wl 24 f) = false := by
  refine fdu_spec (Nat.le_trans cnE_le (Nat.le_trans ?_ h))
  exact (List.takeWhile_sublist _).length_le
theorem fxR_ge {F : fw_DB} {aw : Nat → Bool} {wl : List Nat} {r : Nat} (h : fxR F aw wl r) : F 17 r 1 ≤ F 17 r 5 := by
  obtain ⟨h1, h2, h3, h4⟩ := h
  rw [h1]
  unfold rcu
  dsimp only
  have hf := (fd_s (F := F) (n := F 17 r 3) (f := F 17 r 1) h4).1
  have hd := db_ge (f := fun d => !aw d) (n := 28) (t := F 17 r 1) (k := 20032 - F 17 r 1) (by omega)
  have hm : F 17 r 1 ≤ min (F 17 r 4) (fdu F (F 17 r 3) wl 24 (F 17 r 1)) := Nat.le_min.mpr ⟨h3, hf⟩
  split
  · exact Nat.le_min.mpr ⟨hm, hd⟩
  · exact hm
/-- on a day up to its end, it goes on if nothing ends it -/
theorem fxR_on {F : fw_DB} {aw : Nat → Bool} {wl : List Nat} {r d : Nat} (h : fxR F aw wl r) (h1 : F 17 r 1 ≤ d) (h2 : d ≤ F 17 r 5) (hd : d < 20000) : d < F 17 r 5 ↔ (d < F 17 r 4 ∧ (0 < F 17 r 2 → cu (fun d => !aw d) d - cu (fun d => !aw d) (F 17 r 1) < 28) ∧ lcF F (F 17 r 3) wl d = true) := by
  obtain ⟨e, q2, q3, q4⟩ := h
  obtain ⟨f1, f2, f3⟩ := fd_s (F := F) (n := F 17 r 3) (f := F 17 r 1) q4
  have hdb := db_le (f := fun d => !aw d) (n := 28) h1 hd
  rw [e] at h2 ⊢
  unfold rcu at h2 ⊢
  dsimp only at h2 ⊢
  generalize fdu F (F 17 r 3) wl 24 (F 17 r 1) = u at *
  generalize db (fun d => !aw d) 28 (F 17 r 1) (20032 - F 17 r 1) 1000000 = b at *
  have hu : d ≤ u → (d < u ↔ lcF F (F 17 r 3) wl d = true) := by
    intro hdu
    constructor
    · exact f2 d h1
    · intro hl
      rcases Nat.lt_or_ge d u with c | c
      · exact c
      · have : d = u := by omega
        subst this
        rw [f3] at hl
        cases hl
  by_cases c : 0 < F 17 r 2
  · rw [if_pos c] at h2 ⊢
    obtain ⟨h5, h6⟩ := Nat.le_min.mp h2
    obtain ⟨h7, h8⟩ := Nat.le_min.mp h5
    rw [Nat.lt_min, Nat.lt_min, hu h8]
    constructor
    · rintro ⟨⟨z1, z2⟩, z3⟩
      exact ⟨z1, fun _ => by omega, z2⟩
    · rintro ⟨z1, z2, z3⟩
      have := z2 c
      exact ⟨⟨z1, z3⟩, by omega⟩
  · rw [if_neg c] at h2 ⊢
    obtain ⟨h7, h8⟩ := Nat.le_min.mp h2
    rw [Nat.lt_min, hu h8]
    constructor
    · rintro ⟨z1, z2⟩
      exact ⟨z1, fun z => absurd z c, z2⟩
    · rintro ⟨z1, z2, z3⟩
      exact ⟨z1, z3⟩
