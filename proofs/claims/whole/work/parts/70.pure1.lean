/-! PURE: the release day, and days added -/
theorem cu_iv {f : Nat → Bool} {a b : Nat} : ∀ {n : Nat}, b ≤ n → cu (fun d => f d && iv a b d) n = cu f b - cu f a := by
  intro n
  induction n with
  | zero =>
    intro h
    have : b = 0 := by omega
    subst this
    show 0 = 0 - _
    omega
  | succ n ih =>
    intro h
    by_cases c : b ≤ n
    · show cu _ n + _ = _
      rw [ih c]
      have : iv a b n = false := by
        unfold iv
        rw [decide_eq_false (by omega : ¬ n < b), Bool.and_false]
      have e9 : (fun d => f d && iv a b d) n = false := by
        show (f n && iv a b n) = false
        rw [this, Bool.and_false]
      rw [e9]
      rfl
    · have e : b = n + 1 := by omega
      subst e
      clear ih h c
      have gen : ∀ m, m ≤ n + 1 → cu (fun d => f d && iv a (n + 1) d) m = cu f m - cu f a := by
        intro m
        induction m with
        | zero =>
          intro _
          show 0 = 0 - _
          omega
        | succ m ih2 =>
          intro hm
          show cu _ m + (if (f m && iv a (n + 1) m) = true then 1 else 0) = (cu f m + (if f m = true then 1 else 0)) - cu f a
          rw [ih2 (by omega)]
          by_cases c2 : a ≤ m
          · have : iv a (n + 1) m = true := by
              unfold iv
              rw [decide_eq_true c2, decide_eq_true (by omega : m < n + 1)]
              rfl
            rw [this, Bool.and_true]
            have := cu_mono f c2
            omega
          · have : iv a (n + 1) m = false := by
              unfold iv
              rw [decide_eq_false c2]
              rfl
            rw [this, Bool.and_false]
            have h1 := cu_mono f (by omega : m + 1 ≤ a)
            have h2 : cu f (m + 1) = cu f m + (if f m = true then 1 else 0) := rfl
            simp only [Bool.false_eq_true, if_false]
            omega
      exact gen (n + 1) (Nat.le_refl _)
/-- whether it may be left on a day: as many days, and the yes -/
theorem wrel_le {lw : Nat → Nat → Nat} {aw : Nat → Bool} {g : Nat → Nat} {b n d : Nat} (hb : b ≤ d) (hd : d < 20000) : wrel lw aw g b n ≤ d ↔ (n ≤ cu (fun d => !aw d) d - cu (fun d => !aw d) b ∧ tml lw g d = true) := by
  have hs := db_spec (f := fun d => !aw d) (e := 1000000) (20032 - b) n b
  have hq : db (fun d => !aw d) n b (20032 - b) 1000000 ≤ d ↔ n ≤ cu (fun d => !aw d) d - cu (fun d => !aw d) b := by
    rcases hs with ⟨h1, h2, h3, h4⟩ | ⟨h1, h2⟩
    · constructor
      · intro h
        have := cu_mono (fun d => !aw d) h
        omega
      · intro h
        rcases Nat.lt_or_ge d (db (fun d => !aw d) n b (20032 - b) 1000000) with c | c
        · have := h4 d hb c
          omega
        · exact c
    · rw [h1]
      constructor
      · intro h
        omega
      · intro h
        have := cu_mono (fun d => !aw d) (by omega : d ≤ b + (20032 - b))
        omega
  unfold wrel tml
  dsimp only
  generalize db (fun d => !aw d) n b (20032 - b) 1000000 = t at *
  rw [← hq]
  by_cases cy : wyes lw g = true
  · rw [if_pos cy, cy]
    by_cases c0 : g 10 = 0
    · rw [if_pos c0, if_pos (by omega : 19999 < 1000000), decide_eq_false (by omega : ¬ 0 < g 10)]
      simp
      omega
    · rw [if_neg c0, decide_eq_true (by omega : 0 < g 10)]
      by_cases c1 : 19999 < max t (g 10 - 1)
      · rw [if_pos c1]
        simp
        omega
      · rw [if_neg c1]
        simp
        omega
  · rw [if_neg cy]
    have cy : wyes lw g = false := by simpa using cy
    rw [cy]
    by_cases c1 : 19999 < t
    · rw [if_pos c1]
      simp
      omega
    · rw [if_neg c1]
      simp
theorem wrel_ge {lw : Nat → Nat → Nat} {aw : Nat → Bool} {g : Nat → Nat} {b n : Nat} (hb : b < 20000) : b ≤ wrel lw aw g b n := by
  have hs := db_spec (f := fun d => !aw d) (e := 1000000) (20032 - b) n b
  have hq : b ≤ db (fun d => !aw d) n b (20032 - b) 1000000 := by
    rcases hs with ⟨h1, -⟩ | ⟨h1, -⟩ <;> omega
  unfold wrel
  dsimp only
  generalize db (fun d => !aw d) n b (20032 - b) 1000000 = t at hq
  have hu : b ≤ (if wyes lw g = true then (if g 10 = 0 then 1000000 else max t (g 10 - 1)) else t) := by
    split
    · split
      · omega
      · exact Nat.le_trans hq (Nat.le_max_left _ _)
    · exact hq
  generalize (if wyes lw g = true then (if g 10 = 0 then 1000000 else max t (g 10 - 1)) else t) = u at hu
  split <;> omega
theorem wrel_mono {lw : Nat → Nat → Nat} {aw : Nat → Bool} {g : Nat → Nat} {b n n' : Nat} (hb : b < 20000) (h : n ≤ n') : wrel lw aw g b n ≤ wrel lw aw g b n' := by
  rcases wrel_ok (lw := lw) (aw := aw) (g := g) (b := b) (n := n') with c | c
  · have h1 := wrel_ge (lw := lw) (aw := aw) (g := g) (n := n') hb
    have h2 := (wrel_le (n := n') h1 c).mp (Nat.le_refl _)
    exact (wrel_le h1 c).mpr ⟨by omega, h2.2⟩
  · rw [c]
    rcases wrel_ok (lw := lw) (aw := aw) (g := g) (b := b) (n := n) with c2 | c2 <;> omega
theorem wadd_app {ad lw : Nat → Nat → Nat} {aw : Nat → Bool} {g : Nat → Nat} {b s : Nat} : ∀ {l l' : List Nat} {n : Nat}, wadd ad lw aw g b s n (l ++ l') = wadd ad lw aw g b s (wadd ad lw aw g b s n l) l'
  | [], _, _ => rfl
  | i :: l, l', n => by
    show wadd ad lw aw g b s _ (l ++ l') = _
    rw [wadd_app]
    rfl
theorem wadd_ge {ad lw : Nat → Nat → Nat} {aw : Nat → Bool} {g : Nat → Nat} {b s : Nat} : ∀ {l : List Nat} {n : Nat}, n ≤ wmost g s → n ≤ wadd ad lw aw g b s n l
  | [], _, _ => Nat.le_refl _
  | i :: l, n, h => by
    show n ≤ wadd ad lw aw g b s (if _ then min (n + ad i 1) (wmost g s) else n) l
    split
    · exact Nat.le_trans (Nat.le_min.mpr ⟨Nat.le_add_right _ _, h⟩) (wadd_ge (Nat.min_le_right _ _))
    · exact wadd_ge h
/-- days added on the day of the release or later put nothing off -/
theorem wadd_end {ad lw : Nat → Nat → Nat} {aw : Nat → Bool} {g : Nat → Nat} {b s d n : Nat} (h : wrel lw aw g b n ≤ d) : ∀ {l : List Nat}, (∀ i ∈ l, d ≤ ad i 0) → wadd ad lw aw g b s n l = n
  | [], _ => rfl
  | i :: l, hl => by
    have := hl i List.mem_cons_self
    show wadd ad lw aw g b s (if (wfx g && (decide (b ≤ ad i 0) && decide (ad i 0 < wrel lw aw g b n))) = true then _ else n) l = n
    rw [decide_eq_false (by omega : ¬ ad i 0 < wrel lw aw g b n), Bool.and_false, Bool.and_false, if_neg (by decide)]
    exact wadd_end h (fun j hj => hl j (List.mem_cons_of_mem _ hj))
/-- days added ahead of the begin count for nothing -/
theorem wadd_pre {ad lw : Nat → Nat → Nat} {aw : Nat → Bool} {g : Nat → Nat} {b s n : Nat} : ∀ {l : List Nat}, (∀ i ∈ l, ad i 0 < b) → wadd ad lw aw g b s n l = n
  | [], _ => rfl
  | i :: l, hl => by
    have := hl i List.mem_cons_self
    show wadd ad lw aw g b s (if (wfx g && (decide (b ≤ ad i 0) && decide (ad i 0 < wrel lw aw g b n))) = true then _ else n) l = n
    rw [decide_eq_false (by omega : ¬ b ≤ ad i 0), Bool.false_and, Bool.and_false, if_neg (by decide)]
    exact wadd_pre (fun j hj => hl j (List.mem_cons_of_mem _ hj))
/-- whether the last release is ahead of a day, by what was added until then -/
theorem wrel_now {ad lw : Nat → Nat → Nat} {aw : Nat → Bool} {g : Nat → Nat} {b s d n : Nat} {l : List Nat} (hb : b < 20000) (hn : n ≤ wmost g s) (hl : ∀ i ∈ l, d ≤ ad i 0) : wrel lw aw g b (wadd ad lw aw g b s n l) ≤ d ↔ wrel lw aw g b n ≤ d := by
  constructor
  · intro h
    exact Nat.le_trans (wrel_mono hb (wadd_ge hn)) h
  · intro h
    rw [wadd_end h hl]
    exact h
