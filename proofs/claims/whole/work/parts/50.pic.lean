/-! PICTURE: objects by kind and number; their fields in one database of small numbers -/
abbrev fw_DB : Type := Nat → Nat → Nat → Nat
abbrev fw_AD : Type := Nat → Nat → Nat
abbrev fw_MP : Type := Nat → Option (Nat × Nat)
/-- a number coded with one more, 0 for -1 -/
def nP (v : Nat) : Int32 := if v = 0 then -1 else nI (v - 1)
/-- a number shifted, for it may be below 0 -/
def nO (v : Nat) : Int32 := nI v - 1000000
def bN (v : Nat) : Int32 := bI (decide (0 < v))
def rq (f : Nat → Nat) (v : Nat) : Option Nat := if v = 0 then none else some (f (v - 1))
def sB (g : Nat → Nat) : Nat → Bool := fun d => decide (0 < g d)
def rfs (n : Nat) (f : Nat → Nat) : Nat → Option Nat := fun j => if j < n then some (f j) else none
/-- the object of the kind k and the number i, its fields being g -/
def kRow (A : fw_AD) (k i : Nat) (g : Nat → Nat) : fw_O := match k with
  | 0 => .inr (13, [.ref (A 1 0), .ref (A 2 0), .ref (A 3 0), .ref (A 4 0), .ref (A 5 0), .int (nI (g 5)), .int (nI (g 6)), .int (nI (g 7)), .int (nI (g 8)), .int (nI (g 9))])
  | 1 => .inl (5, 8, .inr (.inr (.inr (.inr (rfs (g 0) (A 7))))))
  | 2 => .inl (6, 6, .inr (.inr (.inr (.inr (rfs (g 0) (A 8))))))
  | 3 => .inl (7, 24, .inr (.inr (.inr (.inr (rfs (g 0) (A 13))))))
  | 4 => .inl (8, 30, .inr (.inr (.inr (.inr (rfs (g 0) (A 16))))))
  | 5 => .inr (6, [.ref (A 6 i)])
  | 6 => .inl (1, 313, .inr (.inl (wd (sB g))))
  | 7 => .inr (7, [.int (nI i), .int (bN (g 1)), .int (nI (g 2)), .int (nI (g 3)), .int (bN (g 4))])
  | 8 => .inr (8, [.ref (A 9 i), .ref (A 11 i), va_rf (rq (A 13) (g 2)), va_rf (rq (A 13) (g 3)), va_rf (rq (A 16) (g 4)), va_rf (rq (A 16) (g 5)), va_rf (rq (A 17) (g 6)), va_rf (rq (A 17) (g 7)), .int (nI (g 8))])
  | 9 => .inr (6, [.ref (A 10 i)])
  | 10 => .inl (1, 313, .inr (.inl (wd (sB g))))
  | 11 => .inr (6, [.ref (A 12 i)])
  | 12 => .inl (1, 313, .inr (.inl (wd (sB g))))
  | 13 => .inr (12, [.int (nI i), .ref (A 8 (g 1)), .int (nI (g 2)), .int (nI (g 3)), .int (nI (g 4)), va_rf (rq (A 13) (g 5)), .ref (A 14 i), va_rf (rq (A 7) (g 7)), .ref (A 15 i), .int (nP (g 9)), .int (nP (g 10)), .int (nI (g 11)), .int (nI (g 12)), .int (bN (g 13)), .int (nI (g 14)), .int (nI (g 15)), .int (nI (g 16)), .int (nO (g 17)), va_rf (rq (A 13) (g 18))])
  | 14 => .inr (10, [.int (nI (g 0)), .int (nI (g 1)), .int (nI (g 2)), .int (nI (g 3)), .int (nI (g 4)), .int (nI (g 5)), .int (nO (g 6))])
  | 15 => .inr (11, [.int (nI (g 0)), .int (nI (g 1)), .int (nI (g 2))])
  | 16 => .inr (5, [.int (nI (g 0)), .int (nI (g 1)), va_rf (rq (A 16) (g 2))])
  | 17 => .inr (9, [.ref (A 8 (g 0)), .int (nI (g 1)), .int (bN (g 2)), .int (nI (g 3)), .int (nI (g 4)), .int (nI (g 5)), .int (nI (g 6)), .int (bN (g 7)), va_rf (rq (A 17) (g 8))])
  | 30 => .inr (20, [.int (nI (g 0)), .ref (A 31 0), .ref (A 32 0), .ref (A 33 0), .ref (A 34 0), .ref (A 35 0)])
  | 31 => .inr (4, [.int (nI (g 0)), .ref (if g 2 = 0 then A 46 0 else A 41 0), .int (nI (g 1))])
  | 32 => .inr (4, [.int (nI (g 0)), .ref (if g 2 = 0 then A 46 0 else A 42 0), .int (nI (g 1))])
  | 33 => .inr (4, [.int (nI (g 0)), .ref (if g 2 = 0 then A 46 0 else A 43 0), .int (nI (g 1))])
  | 34 => .inr (4, [.int (nI (g 0)), .ref (if g 2 = 0 then A 46 0 else A 44 0), .int (nI (g 1))])
  | 35 => .inr (4, [.int (nI (g 0)), .ref (if g 2 = 0 then A 46 0 else A 45 0), .int (nI (g 1))])
  | 41 => .inl (10, g 0, .inr (.inr (.inr (.inr (rfs (g 1) (A 51))))))
  | 42 => .inl (10, g 0, .inr (.inr (.inr (.inr (rfs (g 1) (A 52))))))
  | 43 => .inl (10, g 0, .inr (.inr (.inr (.inr (rfs (g 1) (A 53))))))
  | 44 => .inl (10, g 0, .inr (.inr (.inr (.inr (rfs (g 1) (A 54))))))
  | 45 => .inl (10, g 0, .inr (.inr (.inr (.inr (rfs (g 1) (A 55))))))
  | 51 => .inr (16, [.int (nI (g 0)), .int (nI (g 1)), .int (nI (g 2)), .int (bN (g 3))])
  | 52 => .inr (17, [.ref (A 56 i), .ref (A 57 i), .ref (A 58 i)])
  | 53 => .inr (19, [.int (nI (g 0)), .int (nI (g 1)), .int (nI (g 2)), .int (nI (g 3)), .int (nP (g 4)), .int (nI (g 5)), .int (nI (g 6)), .int (nI (g 7)), .int (nI (g 8)), .int (nI (g 9)), .int (nP (g 10)), .int (bN (g 11)), .int (nP (g 12))])
  | 54 => .inr (14, [.int (nI (g 0)), .int (nI (g 1)), .int (nI (g 2))])
  | 55 => .inr (18, [.int (nI (g 0)), .int (nI (g 1)), .int (nI (g 2)), .int (nI (g 3)), .int (nI (g 4))])
  | 56 => .inl (0, 20001, .inl (fun j => nI (g j)))
  | 57 => .inl (2, 20000, .inl (fun j => bN (g j)))
  | 58 => .inl (2, 20000, .inl (fun j => bN (g j)))
  | 60 => .inl (9, g 0, .inr (.inr (.inr (.inr (rfs (g 1) (A 61))))))
  | 61 => .inr (15, [.int (bN (g 0)), .int (nI (g 1)), .int (nI (g 2)), .int (nI (g 3)), .int (nI (g 4)), .int (nO (g 5))])
  | 62 => .inl (0, g 0, .inl (fun j => nI (g (j + 1))))
  | 63 => .inr (4, [.int (nI (g 0)), .ref (if g 2 = 0 then A 46 0 else A 64 0), .int (nI (g 1))])
  | 64 => .inl (10, g 0, .inr (.inr (.inr (.inr (fun j => rq (A 54) (g (j + 1)))))))
  | 66 => .inr (3, [.int (nI (g 0)), .int (nP (g 1)), .int (nI (g 2)), .ref (A (g 3) 0)])
  | 70 => .inl (1, 1, .inr (.inl (fun j => if j = 0 then lN (g 0) else 0)))
  | 71 => .inl (3, 1, .inr (.inr (.inr (.inl (fun j => if j = 0 then UInt64.ofNat (g 0) else 0)))))
  | _ => .inl (0, 0, .inl (fun _ => 0))
/-- what it refers to lives -/
def rOk (N : Nat → Nat) (k i : Nat) (g : Nat → Nat) : Prop := match k with
  | 0 => 0 < N 1 ∧ 0 < N 2 ∧ 0 < N 3 ∧ 0 < N 4 ∧ 0 < N 5
  | 1 => g 0 ≤ N 7
  | 2 => g 0 ≤ N 8
  | 3 => g 0 ≤ N 13
  | 4 => g 0 ≤ N 16
  | 5 => i < N 6
  | 8 => i < N 9 ∧ i < N 11 ∧ g 2 ≤ N 13 ∧ g 3 ≤ N 13 ∧ g 4 ≤ N 16 ∧ g 5 ≤ N 16 ∧ g 6 ≤ N 17 ∧ g 7 ≤ N 17
  | 9 => i < N 10
  | 11 => i < N 12
  | 13 => g 1 < N 8 ∧ g 5 ≤ N 13 ∧ i < N 14 ∧ g 7 ≤ N 7 ∧ i < N 15 ∧ g 18 ≤ N 13
  | 16 => g 2 ≤ N 16
  | 17 => g 0 < N 8 ∧ g 8 ≤ N 17
  | 30 => 0 < N 31 ∧ 0 < N 32 ∧ 0 < N 33 ∧ 0 < N 34 ∧ 0 < N 35
  | 31 => (0 < g 2 → 0 < N 41) ∧ 0 < N 46
  | 32 => (0 < g 2 → 0 < N 42) ∧ 0 < N 46
  | 33 => (0 < g 2 → 0 < N 43) ∧ 0 < N 46
  | 34 => (0 < g 2 → 0 < N 44) ∧ 0 < N 46
  | 35 => (0 < g 2 → 0 < N 45) ∧ 0 < N 46
  | 41 => g 1 ≤ N 51
  | 42 => g 1 ≤ N 52
  | 43 => g 1 ≤ N 53
  | 44 => g 1 ≤ N 54
  | 45 => g 1 ≤ N 55
  | 52 => i < N 56 ∧ i < N 57 ∧ i < N 58
  | 60 => g 1 ≤ N 61
  | 63 => (0 < g 2 → 0 < N 64) ∧ 0 < N 46
  | 64 => ∀ j, g (j + 1) ≤ N 54
  | 66 => 0 < N (g 3)
  | _ => True
theorem rq_c {f f' : Nat → Nat} {v n : Nat} (h : v ≤ n) (e : ∀ j, j < n → f' j = f j) : rq f' v = rq f v := by
  unfold rq
  by_cases c : v = 0
  · rw [if_pos c, if_pos c]
  · rw [if_neg c, if_neg c, e _ (by omega)]
theorem rfs_c {f f' : Nat → Nat} {v n : Nat} (h : v ≤ n) (e : ∀ j, j < n → f' j = f j) : rfs v f' = rfs v f := by
  funext j
  unfold rfs
  by_cases c : j < v
  · rw [if_pos c, if_pos c, e _ (by omega)]
  · rw [if_neg c, if_neg c]
theorem il_c {A A' : fw_AD} {N : Nat → Nat} {k v : Nat} (h : (0 < v → 0 < N k) ∧ 0 < N 46) (e : ∀ k j, j < N k → A' k j = A k j) : (if v = 0 then A' 46 0 else A' k 0) = (if v = 0 then A 46 0 else A k 0) := by
  by_cases c : v = 0
  · rw [if_pos c, if_pos c, e _ _ h.2]
  · rw [if_neg c, if_neg c, e _ _ (h.1 (by omega))]
theorem kRow_c {A A' : fw_AD} {N : Nat → Nat} {k i : Nat} {g : Nat → Nat} (h : rOk N k i g) (e : ∀ k j, j < N k → A' k j = A k j) : kRow A' k i g = kRow A k i g := by
  unfold rOk at h
  unfold kRow
  split at h <;> first
    | rfl
    | (simp only [e _ _ h]; done)
    | (simp only [rfs_c h (e _)]; done)
    | (simp only [rq_c h (e _)]; done)
    | (obtain ⟨h1, h2, h3, h4, h5⟩ := h; simp only [e _ _ h1, e _ _ h2, e _ _ h3, e _ _ h4, e _ _ h5]; done)
    | (obtain ⟨h1, h2, h3, h4, h5, h6, h7, h8⟩ := h; simp only [e _ _ h1, e _ _ h2, rq_c h3 (e _), rq_c h4 (e _), rq_c h5 (e _), rq_c h6 (e _), rq_c h7 (e _), rq_c h8 (e _)]; done)
    | (obtain ⟨h1, h2, h3, h4, h5, h6⟩ := h; simp only [e _ _ h1, rq_c h2 (e _), e _ _ h3, rq_c h4 (e _), e _ _ h5, rq_c h6 (e _)]; done)
    | (obtain ⟨h1, h2⟩ := h; simp only [e _ _ h1, rq_c h2 (e _)]; done)
    | (obtain ⟨h1, h2, h3⟩ := h; simp only [e _ _ h1, e _ _ h2, e _ _ h3]; done)
    | (simp only [il_c h e]; done)
    | (simp only [rq_c (h _) (e _)]; done)
    | (split <;> first | rfl | (exfalso; simp_all; done))
theorem rOk_mono {N N' : Nat → Nat} {k i : Nat} {g : Nat → Nat} (h : rOk N k i g) (e : ∀ k, N k ≤ N' k) : rOk N' k i g := by
  unfold rOk at h ⊢
  split at h <;> first
    | exact trivial
    | exact Nat.lt_of_lt_of_le h (e _)
    | exact Nat.le_trans h (e _)
    | exact fun j => Nat.le_trans (h j) (e _)
    | exact ⟨fun z => Nat.lt_of_lt_of_le (h.1 z) (e _), Nat.lt_of_lt_of_le h.2 (e _)⟩
    | (obtain ⟨h1, h2, h3, h4, h5⟩ := h; exact ⟨Nat.lt_of_lt_of_le h1 (e _), Nat.lt_of_lt_of_le h2 (e _), Nat.lt_of_lt_of_le h3 (e _), Nat.lt_of_lt_of_le h4 (e _), Nat.lt_of_lt_of_le h5 (e _)⟩)
    | (obtain ⟨h1, h2, h3, h4, h5, h6, h7, h8⟩ := h; exact ⟨Nat.lt_of_lt_of_le h1 (e _), Nat.lt_of_lt_of_le h2 (e _), Nat.le_trans h3 (e _), Nat.le_trans h4 (e _), Nat.le_trans h5 (e _), Nat.le_trans h6 (e _), Nat.le_trans h7 (e _), Nat.le_trans h8 (e _)⟩)
    | (obtain ⟨h1, h2, h3, h4, h5, h6⟩ := h; exact ⟨Nat.lt_of_lt_of_le h1 (e _), Nat.le_trans h2 (e _), Nat.lt_of_lt_of_le h3 (e _), Nat.le_trans h4 (e _), Nat.lt_of_lt_of_le h5 (e _), Nat.le_trans h6 (e _)⟩)
    | (obtain ⟨h1, h2⟩ := h; exact ⟨Nat.lt_of_lt_of_le h1 (e _), Nat.le_trans h2 (e _)⟩)
    | (obtain ⟨h1, h2, h3⟩ := h; exact ⟨Nat.lt_of_lt_of_le h1 (e _), Nat.lt_of_lt_of_le h2 (e _), Nat.lt_of_lt_of_le h3 (e _)⟩)
    | (split <;> first | exact trivial | (exfalso; simp_all; done))
/-- the heap of a database -/
def hp (M : fw_MP) (A : fw_AD) (D : fw_DB) : fw_H := fun a => match M a with
  | none => none
  | some t => some (kRow A t.1 t.2 (D t.1 t.2))
/-- the objects named have their places, nothing else has one -/
def Wf (D : fw_DB) (A : fw_AD) (M : fw_MP) : Prop := (∀ a k i, M a = some (k, i) → a = A k i) ∧ (∀ k i, k ≠ 46 → i < D 99 0 k → M (A k i) = some (k, i)) ∧ (∀ a k i, M a = some (k, i) → i < D 99 0 k) ∧ (∀ k i, i < D 99 0 k → rOk (D 99 0) k i (D k i))
theorem Wf.lv {D : fw_DB} {A : fw_AD} {M : fw_MP} (W : Wf D A M) {k i : Nat} (h : i < D 99 0 k) (h46 : k ≠ 46 := by decide) : M (A k i) = some (k, i) := W.2.1 k i h46 h
theorem Wf.ok {D : fw_DB} {A : fw_AD} {M : fw_MP} (W : Wf D A M) {k i : Nat} (h : i < D 99 0 k) : rOk (D 99 0) k i (D k i) := W.2.2.2 k i h
theorem hget {D : fw_DB} {A : fw_AD} {M : fw_MP} {k i : Nat} (L : M (A k i) = some (k, i)) : hp M A D (A k i) = some (kRow A k i (D k i)) := by
  unfold hp
  rw [L]
/-- the row (k, i) put anew -/
def dp (D : fw_DB) (k i : Nat) (g : Nat → Nat) : fw_DB := fun k' i' => if k' = k then (if i' = i then g else D k' i') else D k' i'
theorem dp_s {D : fw_DB} {k i : Nat} {g : Nat → Nat} : dp D k i g k i = g := by
  unfold dp
  rw [if_pos rfl, if_pos rfl]
theorem dp_i {D : fw_DB} {k i j : Nat} {g : Nat → Nat} (h : j ≠ i) : dp D k i g k j = D k j := by
  unfold dp
  rw [if_pos rfl, if_neg h]
theorem dp_k {D : fw_DB} {k i k' j : Nat} {g : Nat → Nat} (h : k' ≠ k) : dp D k i g k' j = D k' j := by
  unfold dp
  rw [if_neg h]
theorem dp_2 {D : fw_DB} {k i : Nat} {g g' : Nat → Nat} : dp (dp D k i g) k i g' = dp D k i g' := funext fun k' => funext fun i' => by
  unfold dp
  by_cases h : k' = k
  · rw [if_pos h, if_pos h]
    by_cases h2 : i' = i
    · rw [if_pos h2, if_pos h2, if_pos h]
    · rw [if_neg h2, if_neg h2, if_pos h, if_neg h2]
  · rw [if_neg h, if_neg h, if_neg h]
theorem dp_self {D : fw_DB} {k i : Nat} : dp D k i (D k i) = D := funext fun k' => funext fun i' => by
  unfold dp
  by_cases h : k' = k
  · rw [if_pos h]
    by_cases h2 : i' = i
    · rw [if_pos h2, h, h2]
    · rw [if_neg h2]
  · rw [if_neg h]
theorem hgp {D : fw_DB} {A : fw_AD} {M : fw_MP} {k i : Nat} {g : Nat → Nat} (L : M (A k i) = some (k, i)) : hp M A (dp D k i g) (A k i) = some (kRow A k i g) := by
  rw [hget L, dp_s]
theorem hput {D : fw_DB} {A : fw_AD} {M : fw_MP} {k i : Nat} (g : Nat → Nat) (W : Wf D A M) : fw_up (hp M A D) (A k i) (kRow A k i g) = if M (A k i) = some (k, i) then hp M A (dp D k i g) else fw_up (hp M A D) (A k i) (kRow A k i g) := by
  by_cases L : M (A k i) = some (k, i)
  · rw [if_pos L]
    funext b
    by_cases e : b = A k i
    · subst e
      rw [fw_up_s, hgp L]
    · rw [fw_up_n e]
      unfold hp
      cases hb : M b with
      | none => rfl
      | some t =>
        obtain ⟨k', i'⟩ := t
        have := W.1 b k' i' hb
        show some _ = some _
        congr 2
        unfold dp
        by_cases h1 : k' = k
        · by_cases h2 : i' = i
          · subst h1
            subst h2
            exact absurd this e
          · show _ = if k' = k then (if i' = i then g else D k' i') else D k' i'
            rw [if_pos h1, if_neg h2]
        · show _ = if k' = k then (if i' = i then g else D k' i') else D k' i'
          rw [if_neg h1]
  · rw [if_neg L]
theorem hset {D : fw_DB} {A : fw_AD} {M : fw_MP} {k i : Nat} (g : Nat → Nat) (W : Wf D A M) (L : M (A k i) = some (k, i)) : fw_up (hp M A D) (A k i) (kRow A k i g) = hp M A (dp D k i g) := by
  rw [hput g W, if_pos L]
theorem hset2 {D : fw_DB} {A : fw_AD} {M : fw_MP} {k i : Nat} {g0 : Nat → Nat} (g : Nat → Nat) (W : Wf D A M) (L : M (A k i) = some (k, i)) : fw_up (hp M A (dp D k i g0)) (A k i) (kRow A k i g) = hp M A (dp D k i g) := by
  rw [← hset g0 W L, fw_up_2, hset g W L]
theorem Wf.put {D : fw_DB} {A : fw_AD} {M : fw_MP} {k i : Nat} {g : Nat → Nat} (W : Wf D A M) (hk : k ≠ 99) (h : rOk (D 99 0) k i g) : Wf (dp D k i g) A M := by
  have e : dp D k i g 99 0 = D 99 0 := dp_k (fun z => hk z.symm)
  refine ⟨W.1, fun k' i' h46 h' => W.2.1 k' i' h46 (e ▸ h'), fun a k' i' h' => by rw [e]; exact W.2.2.1 a k' i' h', fun k' i' h' => ?_⟩
  rw [e] at h' ⊢
  by_cases h1 : k' = k
  · subst h1
    by_cases h2 : i' = i
    · subst h2
      rw [dp_s]
      exact h
    · rw [dp_i h2]
      exact W.2.2.2 k' i' h'
  · rw [dp_k h1]
    exact W.2.2.2 k' i' h'
/-- one more object -/
def an (A : fw_AD) (k n q : Nat) : fw_AD := fun k' i' => if k' = k then (if i' = n then q else A k' i') else A k' i'
def mn (M : fw_MP) (k n q : Nat) : fw_MP := fun a => if a = q then some (k, n) else M a
def dn (D : fw_DB) (k n : Nat) (g : Nat → Nat) : fw_DB := dp (dp D k n g) 99 0 (va_up (D 99 0) k (n + 1))
theorem an_s {A : fw_AD} {k n q : Nat} : an A k n q k n = q := by
  unfold an
  rw [if_pos rfl, if_pos rfl]
theorem an_n {A : fw_AD} {k n q j : Nat} (h : j ≠ n) : an A k n q k j = A k j := by
  unfold an
  rw [if_pos rfl, if_neg h]
theorem an_lv {D : fw_DB} {A : fw_AD} {k q k' j : Nat} (h : j < D 99 0 k') : an A k (D 99 0 k) q k' j = A k' j := by
  unfold an
  by_cases c : k' = k
  · subst c
    rw [if_pos rfl, if_neg (by omega)]
  · rw [if_neg c]
theorem dn_N {D : fw_DB} {k n : Nat} {g : Nat → Nat} (k' : Nat) : dn D k n g 99 0 k' = if k' = k then n + 1 else D 99 0 k' := by
  unfold dn
  rw [dp_s]
  rfl
theorem hnew {D : fw_DB} {A : fw_AD} {M : fw_MP} {k n q : Nat} {g : Nat → Nat} (W : Wf D A M) (hq : hp M A D q = none) (hn : n = D 99 0 k) (hk : k ≠ 99) (hr : rOk (dn D k n g 99 0) k n g) : fw_up (hp M A D) q (kRow (an A k n q) k n g) = hp (mn M k n q) (an A k n q) (dn D k n g) ∧ Wf (dn D k n g) (an A k n q) (mn M k n q) := by
  have hM : M q = none := by
    unfold hp at hq
    cases h : M q with
    | none => rfl
    | some t => rw [h] at hq; cases hq
  have hD : ∀ k' i', k' ≠ 99 → ¬ (k' = k ∧ i' = n) → dn D k n g k' i' = D k' i' := by
    intro k' i' h1 h2
    unfold dn
    rw [dp_k h1]
    by_cases c : k' = k
    · subst c
      exact dp_i (fun z => h2 ⟨rfl, z⟩)
    · exact dp_k c
  have hDn : dn D k n g k n = g := by
    unfold dn
    rw [dp_k hk, dp_s]
  have hN : ∀ k', D 99 0 k' ≤ dn D k n g 99 0 k' := by
    intro k'
    rw [dn_N]
    split
    · rename_i c
      rw [c]
      omega
    · exact Nat.le_refl _
  have hA : ∀ k' j, j < D 99 0 k' → an A k n q k' j = A k' j := fun k' j h => by
    subst hn
    exact an_lv h
  have hr99 : ∀ (N : Nat → Nat) (i : Nat) (g : Nat → Nat), rOk N 99 i g := fun N i g => trivial
  have hk99 : ∀ (A : fw_AD) (i : Nat) (g g' : Nat → Nat), kRow A 99 i g = kRow A 99 i g' := fun A i g g' => rfl
  constructor
  · funext b
    unfold hp mn
    by_cases e : b = q
    · subst e
      rw [fw_up_s, if_pos rfl]
      show _ = some (kRow _ k n (dn D k n g k n))
      rw [hDn]
    · rw [fw_up_n e, if_neg e]
      cases hb : M b with
      | none => rfl
      | some t =>
        obtain ⟨k', i'⟩ := t
        have l := W.2.2.1 b k' i' hb
        show some (kRow A k' i' (D k' i')) = some (kRow (an A k n q) k' i' (dn D k n g k' i'))
        rw [kRow_c (W.2.2.2 k' i' l) hA |>.symm]
        by_cases c : k' = 99
        · subst c
          rw [hk99]
        · rw [hD k' i' c (fun z => by obtain ⟨z1, z2⟩ := z; subst z1; omega)]
  · refine ⟨fun a k' i' h => ?_, fun k' i' h46 h => ?_, fun a k' i' h => ?_, fun k' i' h => ?_⟩
    · unfold mn at h
      by_cases e : a = q
      · rw [if_pos e] at h
        cases h
        rw [an_s, e]
      · rw [if_neg e] at h
        rw [hA _ _ (W.2.2.1 a k' i' h)]
        exact W.1 a k' i' h
    · rw [dn_N] at h
      unfold mn
      by_cases c : k' = k ∧ i' = n
      · obtain ⟨c1, c2⟩ := c
        subst c1
        subst c2
        rw [an_s, if_pos rfl]
      · have l : i' < D 99 0 k' := by
          by_cases c1 : k' = k
          · rw [if_pos c1] at h
            have : i' ≠ n := fun z => c ⟨c1, z⟩
            subst c1
            omega
          · rw [if_neg c1] at h
            exact h
        rw [hA _ _ l]
        have l2 := W.2.1 k' i' h46 l
        rw [if_neg (fun z => by rw [z, hM] at l2; cases l2)]
        exact l2
    · rw [dn_N]
      unfold mn at h
      by_cases e : a = q
      · rw [if_pos e] at h
        cases h
        rw [if_pos rfl]
        omega
      · rw [if_neg e] at h
        have l := W.2.2.1 a k' i' h
        split
        · rename_i c
          rw [c] at l
          omega
        · exact l
    · by_cases c9 : k' = 99
      · subst c9
        exact hr99 _ _ _
      · by_cases c : k' = k ∧ i' = n
        · obtain ⟨c1, c2⟩ := c
          subst c1
          subst c2
          rw [hDn]
          exact hr
        · rw [hD k' i' c9 c]
          have l : i' < D 99 0 k' := by
            rw [dn_N] at h
            by_cases c1 : k' = k
            · rw [if_pos c1] at h
              have : i' ≠ n := fun z => c ⟨c1, z⟩
              subst c1
              omega
            · rw [if_neg c1] at h
              exact h
          exact rOk_mono (W.2.2.2 k' i' l) hN
