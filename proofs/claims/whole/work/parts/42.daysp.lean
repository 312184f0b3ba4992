/-! DAYS, the numbers: intervals, counting by words, the first day behind so many -/
theorem max0 {a b : Nat} (ha : a < 1073741824) (hb : b < 1073741824) : (if (0 : Int32) < nI a - nI b then nI a - nI b else 0) = nI (a - b) := by
  by_cases h : b < a
  · have q : (0 : Int32) < nI (a - b) := (nI_ltI (a := 0) (b := a - b) (by decide) (by omega)).mpr (by omega)
    rw [pk_sub (show b ≤ a by omega), if_pos q]
  · have e : ¬ (0 : Int32) < nI a - nI b := by
      rw [Int32.lt_iff_toInt_lt]
      have h1 := nI_toInt (n := a) (by omega)
      have h2 := nI_toInt (n := b) (by omega)
      rw [Int32.toInt_sub, h1, h2]
      rw [Int.bmod_eq_of_le (by omega) (by omega)]
      show ¬ (0 : Int) < _
      omega
    rw [if_neg e, show a - b = 0 by omega]
    rfl
theorem min64 {a b : Nat} (ha : a < 1073741824) (hb : b < 1073741824) (h : b ≤ a) : (if nI a - nI b < (64 : Int32) then nI a - nI b else 64) = nI (min 64 (a - b)) := by
  rw [pk_sub h]
  by_cases c : a - b < 64
  · have q : nI (a - b) < (64 : Int32) := (nI_ltI (b := 64) (by omega) (by decide)).mpr c
    rw [if_pos q, Nat.min_eq_right (by omega)]
  · have q : ¬ nI (a - b) < (64 : Int32) := fun z => c ((nI_ltI (b := 64) (by omega) (by decide)).mp z)
    rw [if_neg q, Nat.min_eq_left (by omega)]
    rfl
theorem min64n {a b : Nat} (ha : a < 1073741824) (hb : b < 1073741824) (h : a < b) : nI a - nI b < (64 : Int32) ∧ ∀ k : Nat, k < 1073741824 → ¬ nI k < nI a - nI b := by
  have h1 := nI_toInt (n := a) (by omega)
  have h2 := nI_toInt (n := b) (by omega)
  constructor
  · rw [Int32.lt_iff_toInt_lt, Int32.toInt_sub, h1, h2, Int.bmod_eq_of_le (by omega) (by omega)]
    show _ < (64 : Int)
    omega
  · intro k hk
    have h3 := nI_toInt (n := k) (by omega)
    rw [Int32.lt_iff_toInt_lt, Int32.toInt_sub, h1, h2, h3, Int.bmod_eq_of_le (by omega) (by omega)]
    omega
/-- the days from a on, ahead of b -/
def iv (a b : Nat) : Nat → Bool := fun d => decide (a ≤ d) && decide (d < b)
theorem wd_iv {a b w : Nat} (hb : b < 64 * w + 64) (hlt : a < b) (hw : 64 * w ≤ b) : ((((1 : Int64) <<< ((nI (b - 64 * w)).toInt64 &&& 63)) - 1) &&& ((-1 : Int64) <<< ((nI (a - 64 * w)).toInt64 &&& 63))) = wd (iv a b) w := by
  apply wd_of
  intro i hi
  rw [gb_and, gb_dn _ (by omega) _ hi, gb_up _ (by omega) _ hi]
  unfold iv
  rw [Bool.and_comm]
  congr 1
  · exact decide_eq_decide.mpr (by omega)
  · exact decide_eq_decide.mpr (by omega)
theorem wd_iv64 {a b w : Nat} (hb : 64 * w + 64 ≤ b) (hlt : a < 64 * w + 64) : ((-1 : Int64) &&& ((-1 : Int64) <<< ((nI (a - 64 * w)).toInt64 &&& 63))) = wd (iv a b) w := by
  apply wd_of
  intro i hi
  rw [gb_and, gb_m1 hi, gb_up _ (by omega) _ hi]
  unfold iv
  rw [Bool.true_and, show decide (64 * w + i < b) = true from decide_eq_true (by omega), Bool.and_true]
  exact decide_eq_decide.mpr (by omega)
theorem wd_iv0 {a b w : Nat} (h : 64 * w + 64 ≤ a ∨ b ≤ a ∨ b ≤ 64 * w) : (0 : Int64) = wd (iv a b) w := by
  apply wd_of
  intro i hi
  rw [gb_0]
  unfold iv
  rcases Nat.lt_or_ge (64 * w + i) a with c | c
  · rw [show decide (a ≤ 64 * w + i) = false from decide_eq_false (by omega)]
    rfl
  · rw [show decide (64 * w + i < b) = false from decide_eq_false (by omega), Bool.and_false]
theorem cu_word {p : Nat → Bool} {x : Int64} {w : Nat} (h : ∀ i, i < 64 → gb x i = p (64 * w + i)) : cu (gb x) 64 + cu p (64 * w) = cu p (64 * (w + 1)) := by
  rw [show 64 * (w + 1) = 64 * w + 64 by omega, cu_add, Nat.add_comm, cu_congr h]
/-- the first day behind so many of f's, from t on; k days more are looked at, else e -/
def db (f : Nat → Bool) : Nat → Nat → Nat → Nat → Nat
  | 0, t, _, _ => t
  | _ + 1, _, 0, e => e
  | n + 1, t, k + 1, e => db f (n + 1 - (if f t = true then 1 else 0)) (t + 1) k e
theorem db_0 {f : Nat → Bool} {t k e : Nat} : db f 0 t k e = t := by cases k <;> rfl
theorem db_e {f : Nat → Bool} {n t e : Nat} (h : 0 < n) : db f n t 0 e = e := by
  cases n with
  | zero => omega
  | succ n => rfl
theorem db_s {f : Nat → Bool} {n t k e : Nat} (h : 0 < n) : db f n t (k + 1) e = db f (n - (if f t = true then 1 else 0)) (t + 1) k e := by
  cases n with
  | zero => omega
  | succ n => rfl
/-- past so many days that are too few -/
theorem db_skip {f : Nat → Bool} {e : Nat} : ∀ (a n t k : Nat), cu (fun i => f (t + i)) a < n → db f n t (a + k) e = db f (n - cu (fun i => f (t + i)) a) (t + a) k e
  | 0, n, t, k, h => by rw [Nat.zero_add]; rfl
  | a + 1, n, t, k, h => by
    have e1 : cu (fun i => f (t + i)) (a + 1) = (if f t = true then 1 else 0) + cu (fun i => f (t + 1 + i)) a := by
      rw [Nat.add_comm a 1, cu_add]
      have e2 : cu (fun i => f (t + i)) 1 = if f t = true then 1 else 0 := by
        show 0 + (if f (t + 0) = true then 1 else 0) = _
        rw [Nat.zero_add, Nat.add_zero]
      have e3 : cu (fun i => (fun i => f (t + i)) (1 + i)) a = cu (fun i => f (t + 1 + i)) a := cu_congr (fun i _ => by show f _ = f _; rw [Nat.add_assoc])
      rw [e2, e3]
    rw [show a + 1 + k = (a + k) + 1 by omega, db_s (by omega), db_skip a _ (t + 1) k (by omega), e1]
    congr 1
    · omega
    · omega
/-- found within the first days -/
theorem db_found {f : Nat → Bool} {e e' : Nat} : ∀ (a n t k : Nat), n ≤ cu (fun i => f (t + i)) a → db f n t (a + k) e = db f n t a e'
  | 0, n, t, k, h => by
    have : n = 0 := Nat.le_zero.mp h
    subst this
    rw [db_0, db_0]
  | a + 1, n, t, k, h => by
    cases n with
    | zero => rw [db_0, db_0]
    | succ n =>
      have e1 : cu (fun i => f (t + i)) (a + 1) = (if f t = true then 1 else 0) + cu (fun i => f (t + 1 + i)) a := by
        rw [Nat.add_comm a 1, cu_add]
        have e2 : cu (fun i => f (t + i)) 1 = if f t = true then 1 else 0 := by
          show 0 + (if f (t + 0) = true then 1 else 0) = _
          rw [Nat.zero_add, Nat.add_zero]
        have e3 : cu (fun i => (fun i => f (t + i)) (1 + i)) a = cu (fun i => f (t + 1 + i)) a := cu_congr (fun i _ => by show f _ = f _; rw [Nat.add_assoc])
        rw [e2, e3]
      rw [show a + 1 + k = (a + k) + 1 by omega, db_s (by omega), db_s (by omega), db_found (e' := e') a _ (t + 1) k (by omega)]
theorem db_shift {f g : Nat → Bool} {s : Nat} (h : ∀ i, f i = g (s + i)) : ∀ (k n t e : Nat), db g n (s + t) k (s + e) = s + db f n t k e
  | k, 0, t, e => by rw [db_0, db_0]
  | 0, n + 1, t, e => rfl
  | k + 1, n + 1, t, e => by
    rw [db_s (by omega), db_s (by omega), h t, Nat.add_assoc s t 1, db_shift h k]
theorem db_congr {f g : Nat → Bool} : ∀ (k n t e : Nat), (∀ i, t ≤ i → i < t + k → f i = g i) → db f n t k e = db g n t k e
  | k, 0, t, e, _ => by rw [db_0, db_0]
  | 0, n + 1, t, e, _ => rfl
  | k + 1, n + 1, t, e, h => by
    rw [db_s (by omega), db_s (by omega), h t (Nat.le_refl _) (by omega), db_congr k _ (t + 1) e (fun i h1 h2 => h i (by omega) (by omega))]
/-- what it is: the least day behind so many, or there is none -/
theorem db_spec {f : Nat → Bool} {e : Nat} : ∀ (k n t : Nat), (t ≤ db f n t k e ∧ db f n t k e ≤ t + k ∧ n ≤ cu f (db f n t k e) - cu f t ∧ ∀ i, t ≤ i → i < db f n t k e → cu f i - cu f t < n) ∨ (db f n t k e = e ∧ cu f (t + k) - cu f t < n)
  | k, 0, t => Or.inl (by
      rw [db_0]
      exact ⟨Nat.le_refl _, by omega, by omega, fun i h1 h2 => by omega⟩)
  | 0, n + 1, t => Or.inr ⟨rfl, by rw [Nat.add_zero, Nat.sub_self]; omega⟩
  | k + 1, n + 1, t => by
    rw [db_s (by omega)]
    have hu : cu f (t + 1) = cu f t + (if f t = true then 1 else 0) := rfl
    generalize hc : (if f t = true then 1 else 0) = c at *
    have hc1 : c ≤ 1 := by subst hc; split <;> omega
    have hm : ∀ i, t + 1 ≤ i → cu f (t + 1) ≤ cu f i := fun i hi => cu_mono f hi
    rcases db_spec (f := f) (e := e) k (n + 1 - c) (t + 1) with ⟨h1, h2, h3, h4⟩ | ⟨h1, h2⟩
    · left
      have h5 := hm _ h1
      refine ⟨by omega, by omega, by omega, fun i hi1 hi2 => ?_⟩
      by_cases e9 : i = t
      · subst e9
        omega
      · have h6 := hm i (by omega)
        have h7 := h4 i (by omega) hi2
        omega
    · right
      have h5 := hm (t + 1 + k) (by omega)
      rw [show t + (k + 1) = t + 1 + k by omega]
      exact ⟨h1, by omega⟩
