/-! PURE: added days in a list of their own -/
/-- the days added of a person that are not given back whole -/
def alP (S : fw_DB) (p n : Nat) : List Nat := (alN S p n).filter (fun i => decide (0 < S 16 i 1))
theorem tw_app {q : Nat → Bool} : ∀ {l1 l2 : List Nat}, (∀ x ∈ l1, q x = true) → (∀ x ∈ l2, q x = false) → (l1 ++ l2).takeWhile q = l1 ∧ (l1 ++ l2).dropWhile q = l2
  | [], [], _, _ => ⟨rfl, rfl⟩
  | [], y :: l2, _, h => by
    have := h y List.mem_cons_self
    constructor
    · exact List.takeWhile_cons_of_neg (by rw [this]; decide)
    · exact List.dropWhile_cons_of_neg (by rw [this]; decide)
  | x :: l1, l2, h1, h2 => by
    have hx := h1 x List.mem_cons_self
    obtain ⟨a, b⟩ := tw_app (l1 := l1) (l2 := l2) (fun y hy => h1 y (List.mem_cons_of_mem _ hy)) h2
    constructor
    · rw [List.cons_append, List.takeWhile_cons_of_pos hx, a]
    · rw [List.cons_append, List.dropWhile_cons_of_pos hx, b]
theorem tw_fil {S : fw_DB} {x : Nat} {P : Nat → Bool} {l : List Nat} (h : soA S l) : (l.filter P).takeWhile (fun i => decide (S 16 i 0 ≤ x)) = (l.takeWhile (fun i => decide (S 16 i 0 ≤ x))).filter P ∧ (l.filter P).dropWhile (fun i => decide (S 16 i 0 ≤ x)) = (l.dropWhile (fun i => decide (S 16 i 0 ≤ x))).filter P := by
  have e : l.filter P = (l.takeWhile (fun i => decide (S 16 i 0 ≤ x))).filter P ++ (l.dropWhile (fun i => decide (S 16 i 0 ≤ x))).filter P := by
    rw [← List.filter_append, List.takeWhile_append_dropWhile]
  rw [e]
  exact tw_app (q := fun i => decide (S 16 i 0 ≤ x)) (fun y hy => tw_all (q := fun i => decide (S 16 i 0 ≤ x)) _ (List.mem_filter.mp hy).1) (fun y hy => decide_eq_false (dw_all h _ (List.mem_filter.mp hy).1))
theorem insA_fil {S : fw_DB} {a : Nat} {P : Nat → Bool} {l : List Nat} (h : soA S l) : (insA S a l).filter P = if P a = true then insA S a (l.filter P) else l.filter P := by
  unfold insA
  obtain ⟨e1, e2⟩ := tw_fil (x := S 16 a 0) (P := P) h
  rw [e1, e2, List.filter_append, List.filter_cons]
  split
  · rfl
  · rw [← List.filter_append, List.takeWhile_append_dropWhile]
theorem alP_so {S : fw_DB} {p n : Nat} : soA S (alP S p n) := (alN_so n).filter _
theorem alP_s {S : fw_DB} {p n : Nat} : alP S p (n + 1) = if S 16 n 3 = p ∧ 0 < S 16 n 1 then insA S n (alP S p n) else alP S p n := by
  unfold alP
  show List.filter _ (if S 16 n 3 = p then insA S n (alN S p n) else alN S p n) = _
  by_cases c : S 16 n 3 = p
  · rw [if_pos c, insA_fil (alN_so n)]
    by_cases c2 : 0 < S 16 n 1
    · rw [if_pos (decide_eq_true c2), if_pos ⟨c, c2⟩]
    · rw [if_neg (by rw [decide_eq_false c2]; decide), if_neg (fun z => c2 z.2)]
  · rw [if_neg c, if_neg (fun z => c z.1)]
/-- where the search ends -/
theorem insA_at {S : fw_DB} {a t : Nat} {l : List Nat} (h : soA S l) (ht : t ≤ l.length) (h1 : 0 < t → S 16 (l.getD (t - 1) 0) 0 ≤ S 16 a 0) (h2 : ∀ j, t ≤ j → j < l.length → S 16 a 0 < S 16 (l.getD j 0) 0) : insA S a l = l.take t ++ a :: l.drop t := by
  have e : l = l.take t ++ l.drop t := (List.take_append_drop t l).symm
  have pw := List.pairwise_iff_getElem.mp h
  have gd : ∀ j (hj : j < l.length), l.getD j 0 = l[j] := fun j hj => by
    rw [List.getD_eq_getElem?_getD, List.getElem?_eq_getElem hj]
    rfl
  obtain ⟨e1, e2⟩ := tw_app (q := fun i => decide (S 16 i 0 ≤ S 16 a 0)) (l1 := l.take t) (l2 := l.drop t) (fun x hx => by
    obtain ⟨i, hi, rfl⟩ := List.mem_take_iff_getElem.mp hx
    have hi2 : i < t ∧ i < l.length := ⟨Nat.lt_of_lt_of_le hi (Nat.min_le_left _ _), Nat.lt_of_lt_of_le hi (Nat.min_le_right _ _)⟩
    have h3 := h1 (by omega)
    rw [gd (t - 1) (by omega)] at h3
    refine decide_eq_true ?_
    by_cases c : i = t - 1
    · subst c
      exact h3
    · exact Nat.le_trans (pw i (t - 1) hi2.2 (by omega) (by omega)) h3) (fun x hx => by
    obtain ⟨i, hi, rfl⟩ := List.mem_drop_iff_getElem.mp hx
    have := h2 (t + i) (by omega) (by omega)
    rw [gd (t + i) (by omega)] at this
    exact decide_eq_false (by omega))
  rw [← e] at e1 e2
  unfold insA
  rw [e1, e2]
def lfn (F : Nat → Nat) (l : List Nat) : Nat → Option Nat := fun j => (l[j]?).map F
theorem insF_is {F : Nat → Nat} {l : List Nat} {i k : Nat} (hi : i ≤ l.length) : insF i l.length (F k) (lfn F l) = lfn F (l.take i ++ k :: l.drop i) := funext fun j => by
  unfold insF va_up va_cpy lfn
  have hl : (l.take i).length = i := by rw [List.length_take]; exact Nat.min_eq_left hi
  rcases Nat.lt_trichotomy j i with c | c | c
  · rw [if_neg (by omega), List.getElem?_append_left (by omega), List.getElem?_take_of_lt c]
    split
    · omega
    · rfl
  · subst c
    rw [if_pos rfl, List.getElem?_append_right (by omega), hl, Nat.sub_self]
    rfl
  · rw [if_neg (by omega), List.getElem?_append_right (by omega), hl]
    obtain ⟨m, rfl⟩ : ∃ m, j = i + 1 + m := ⟨j - i - 1, by omega⟩
    have e1 : i + 1 + m - i = m + 1 := by omega
    rw [e1, List.getElem?_cons_succ, List.getElem?_drop]
    split
    · have : i + (i + 1 + m - (i + 1)) = i + m := by omega
      rw [this]
    · rw [List.getElem?_eq_none (by omega), List.getElem?_eq_none (by omega)]
theorem lfn_cut {F : Nat → Nat} {l : List Nat} : cut l.length (lfn F l) = lfn F l := funext fun j => by
  unfold cut lfn
  split
  · rfl
  · rw [List.getElem?_eq_none (by omega)]
    rfl
theorem lfn_at {F : Nat → Nat} {l : List Nat} {j : Nat} (h : j < l.length) : lfn F l j = some (F (l.getD j 0)) := by
  unfold lfn
  rw [List.getD_eq_getElem?_getD, List.getElem?_eq_getElem h]
  rfl
