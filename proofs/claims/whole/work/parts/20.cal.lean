/-! CALENDAR: the numbers alone -/
def cal_lp (y : Nat) : Bool := (y % 4 == 0 && y % 100 != 0) || y % 400 == 0
def cal_dm (lp : Bool) (m : Nat) : Nat := if m = 2 then (if lp then 29 else 28) else if m = 4 ∨ m = 6 ∨ m = 9 ∨ m = 11 then 30 else 31
def cal_d (t : Nat) : Nat := cal_dm (cal_lp (2000 + t / 12)) (t % 12 + 1)
def cal_y (p : Nat) : Nat := 365 * p + (p + 3) / 4 - (p + 99) / 100 + (p + 399) / 400
def cal_s (lp : Bool) : Nat → Nat
  | 0 => 0
  | k + 1 => cal_s lp k + cal_dm lp (k + 1)
/-- the first day of the month t, months from January 2000 on -/
def cal_f (t : Nat) : Nat := cal_y (t / 12) + cal_s (cal_lp (2000 + t / 12)) (t % 12)
theorem cal_f_succ : ∀ t, t < 1320 → cal_f (t + 1) = cal_f t + cal_d t := by decide +kernel
theorem cal_y_succ : ∀ p, p < 110 → cal_y (p + 1) = cal_y p + (if cal_lp (2000 + p) then 366 else 365) := by decide +kernel
theorem cal_dm_lo (lp : Bool) (m : Nat) : 28 ≤ cal_dm lp m ∧ cal_dm lp m ≤ 31 := by
  unfold cal_dm
  cases lp <;> (simp only [Bool.false_eq_true, if_false, if_true]; split; omega; split <;> omega)
theorem cal_d_lo (t : Nat) : 28 ≤ cal_d t ∧ cal_d t ≤ 31 := cal_dm_lo _ _
theorem cal_f_0 : cal_f 0 = 0 := by decide +kernel
theorem cal_f_step (a : Nat) : ∀ n, a + n ≤ 1320 → cal_f a + 28 * n ≤ cal_f (a + n)
  | 0, _ => Nat.le_refl _
  | n + 1, h => by
    have h1 := cal_f_step a n (by omega)
    have h2 := cal_f_succ (a + n) (by omega)
    have h3 := (cal_d_lo (a + n)).1
    have e : a + (n + 1) = a + n + 1 := by omega
    rw [e, h2]
    omega
theorem cal_f_up (n : Nat) : n ≤ 1320 → cal_f n ≤ 31 * n := by
  induction n with
  | zero => intro _; rw [cal_f_0]; omega
  | succ n ih =>
    intro h
    have h1 := ih (by omega)
    have h2 := cal_f_succ n (by omega)
    have h3 := (cal_d_lo n).2
    omega
theorem cal_f_lt {a b : Nat} (h : a < b) (hb : b ≤ 1320) : cal_f a < cal_f b := by
  have h1 := cal_f_step a (b - a) (by omega)
  rw [show a + (b - a) = b by omega] at h1
  omega
theorem cal_f_le {a b : Nat} (h : a ≤ b) (hb : b ≤ 1320) : cal_f a ≤ cal_f b := by
  rcases Nat.lt_or_ge a b with q | q
  · exact Nat.le_of_lt (cal_f_lt q hb)
  · rw [show a = b by omega]; exact Nat.le_refl _
theorem cal_uniq {a b d : Nat} (ha : a < 1320) (hb : b < 1320) (h1 : cal_f a ≤ d) (h2 : d < cal_f (a + 1)) (h3 : cal_f b ≤ d) (h4 : d < cal_f (b + 1)) : a = b := by
  rcases Nat.lt_trichotomy a b with q | q | q
  · have := cal_f_le (a := a + 1) (b := b) q (by omega); omega
  · exact q
  · have := cal_f_le (a := b + 1) (b := a) q (by omega); omega
def cal_go : Nat → Nat → Nat → Nat
  | 0, m, _ => m
  | n + 1, m, d => if cal_f (m + 1) ≤ d then cal_go n (m + 1) d else m
/-- the month of a day -/
def cal_m (d : Nat) : Nat := cal_go 1300 0 d
theorem cal_go_spec (d : Nat) : ∀ n m, m + n = 1300 → cal_f m ≤ d → d < cal_f 1300 → cal_f (cal_go n m d) ≤ d ∧ d < cal_f (cal_go n m d + 1) ∧ cal_go n m d < 1300
  | 0, m, hm, h1, h2 => by
    have e : m = 1300 := by omega
    subst e
    omega
  | n + 1, m, hm, h1, h2 => by
    unfold cal_go
    by_cases h : cal_f (m + 1) ≤ d
    · rw [if_pos h]
      exact cal_go_spec d n (m + 1) (by omega) h h2
    · rw [if_neg h]
      exact ⟨h1, by omega, by omega⟩
theorem cal_f_1300 : cal_f 1300 = 39567 := by decide +kernel
theorem cal_f_660 : cal_f 660 = 20089 := by decide +kernel
theorem cal_m_spec {d : Nat} (h : d < 39567) : cal_f (cal_m d) ≤ d ∧ d < cal_f (cal_m d + 1) ∧ cal_m d < 1300 := cal_go_spec d 1300 0 rfl (by rw [cal_f_0]; omega) (by rw [cal_f_1300]; exact h)
theorem cal_m_is {d t : Nat} (ht : t < 1300) (h1 : cal_f t ≤ d) (h2 : d < cal_f (t + 1)) : cal_m d = t := by
  have hd : d < 39567 := by
    have := cal_f_le (a := t + 1) (b := 1300) (by omega) (by omega)
    rw [cal_f_1300] at this
    omega
  obtain ⟨a1, a2, a3⟩ := cal_m_spec hd
  exact cal_uniq (by omega) (by omega) a1 a2 h1 h2
theorem cal_m_lt {d : Nat} (h : d < 20089) : cal_m d < 660 := by
  obtain ⟨a1, a2, a3⟩ := cal_m_spec (d := d) (by omega)
  rcases Nat.lt_or_ge (cal_m d) 660 with q | q
  · exact q
  · have := cal_f_le (a := 660) (b := cal_m d) q (by omega)
    rw [cal_f_660] at this
    omega
/-- the day of the month, from 0 -/
def cal_o (d : Nat) : Nat := d - cal_f (cal_m d)
theorem cal_o_lt {d : Nat} (h : d < 39567) : cal_o d < cal_d (cal_m d) := by
  obtain ⟨a1, a2, a3⟩ := cal_m_spec h
  have := cal_f_succ (cal_m d) (by omega)
  unfold cal_o
  omega
def sp_date (d : Nat) : Nat := 10000 * (2000 + cal_m d / 12) + 100 * (cal_m d % 12 + 1) + cal_o d + 1
/-- where a term of years, months and days leads -/
def sp_to (d y m n : Nat) : Nat := cal_f (cal_m d + 12 * y + m) + min (cal_o d) (cal_d (cal_m d + 12 * y + m) - 1) + n
def sp_len (d y m n : Nat) : Nat := sp_to d y m n - d
theorem sp_to_ge {d y m n : Nat} (h : d < 20089) (hy : y ≤ 40) (hm : m ≤ 11) : d ≤ sp_to d y m n := by
  obtain ⟨a1, a2, a3⟩ := cal_m_spec (d := d) (by omega)
  have b1 := cal_m_lt h
  have b2 := cal_o_lt (d := d) (by omega)
  unfold sp_to
  rcases Nat.eq_zero_or_pos (12 * y + m) with q | q
  · rw [show cal_m d + 12 * y + m = cal_m d by omega]
    unfold cal_o at b2 ⊢
    omega
  · have := cal_f_le (a := cal_m d + 1) (b := cal_m d + 12 * y + m) (by omega) (by omega)
    omega
theorem sp_to_up {d y m n : Nat} (h : d < 20089) (hy : y ≤ 40) (hm : m ≤ 11) : sp_to d y m n ≤ 35060 + n := by
  have b1 := cal_m_lt h
  have b2 := cal_o_lt (d := d) (by omega)
  have b3 := (cal_d_lo (cal_m d)).2
  have b4 := cal_f_le (a := cal_m d + 12 * y + m) (b := 1150) (by omega) (by omega)
  have b5 : cal_f 1150 = 35003 := by decide +kernel
  unfold sp_to
  omega
theorem cal_y_f (p : Nat) : cal_y p = cal_f (12 * p) := by
  unfold cal_f
  rw [show 12 * p / 12 = p by omega, show 12 * p % 12 = 0 by omega]
  rfl
theorem cal_fs {p k : Nat} (hk : k < 12) : cal_f (12 * p + k) = cal_y p + cal_s (cal_lp (2000 + p)) k := by
  unfold cal_f
  rw [show (12 * p + k) / 12 = p by omega, show (12 * p + k) % 12 = k by omega]
