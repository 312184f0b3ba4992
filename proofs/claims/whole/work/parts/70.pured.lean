/-! PURE: chains put together -/
theorem ch_u {nx : Nat → Nat} : ∀ {l : List Nat} {v : Nat}, ch nx v l → (l = [] ↔ v = 0)
  | [], v, h => ⟨fun _ => h, fun _ => rfl⟩
  | i :: l, v, h => by
    have := h.1
    refine ⟨fun z => (nomatch z), fun z => (by omega)⟩
/-- a new one ahead of all -/
theorem ch_0 {nx nx' : Nat → Nat} {v a : Nat} {l : List Nat} (h : ch nx v l) (ha : nx' a = v) (ho : ∀ i ∈ l, nx' i = nx i) : ch nx' (a + 1) (a :: l) := ⟨rfl, by
  rw [ha]
  exact ch_c ho h⟩
/-- a new one behind b -/
theorem ch_in {nx nx' : Nat → Nat} {a b : Nat} {l2 : List Nat} : ∀ {l0 : List Nat} {v : Nat}, ch nx v (l0 ++ b :: l2) → (l0 ++ b :: l2).Nodup → nx' b = a + 1 → nx' a = nx b → (∀ i ∈ l0 ++ b :: l2, i ≠ b → nx' i = nx i) → ch nx' v (l0 ++ b :: a :: l2)
  | [], v, h, hn, hb, ha, ho => by
    obtain ⟨h1, h2⟩ := h
    have hn2 := (List.nodup_cons.mp hn).1
    refine ⟨h1, ?_⟩
    rw [hb]
    refine ⟨rfl, ?_⟩
    rw [ha]
    exact ch_c (fun i hi => ho i (List.mem_cons_of_mem _ hi) (fun z => hn2 (z ▸ hi))) h2
  | c :: l0, v, h, hn, hb, ha, ho => by
    obtain ⟨h1, h2⟩ := h
    obtain ⟨n1, n2⟩ := List.nodup_cons.mp hn
    have hc : c ≠ b := fun z => n1 (by rw [z]; exact List.mem_append_right _ List.mem_cons_self)
    refine ⟨h1, ?_⟩
    rw [ho c List.mem_cons_self hc]
    exact ch_in h2 n2 hb ha (fun i hi hib => ho i (List.mem_cons_of_mem _ hi) hib)
theorem lastc_app {b : Nat} : ∀ {l : List Nat}, lastc (l ++ [b]) = b + 1
  | [] => rfl
  | [a] => rfl
  | a :: c :: l => by
    show lastc (c :: (l ++ [b])) = _
    have := lastc_app (b := b) (l := c :: l)
    exact this
theorem lastc_sp : ∀ {l : List Nat}, (lastc l = 0 ∧ l = []) ∨ ∃ l0, 0 < lastc l ∧ l = l0 ++ [lastc l - 1]
  | [] => Or.inl ⟨rfl, rfl⟩
  | a :: l => by
    right
    rcases lastc_sp (l := l) with ⟨h1, h2⟩ | ⟨l0, h1, h2⟩
    · subst h2
      exact ⟨[], Nat.succ_pos _, rfl⟩
    · refine ⟨a :: l0, ?_, ?_⟩
      · rw [h2]
        show 0 < lastc (a :: l0 ++ [lastc l - 1])
        rw [lastc_app]
        omega
      · have e : lastc (a :: l) = lastc l := by
          have q : a :: l = (a :: l0) ++ [lastc l - 1] := by
            show a :: l = a :: (l0 ++ [lastc l - 1])
            rw [← h2]
          rw [q, lastc_app]
          omega
        rw [e]
        show a :: l = a :: (l0 ++ [lastc l - 1])
        rw [← h2]
/-- one more at the end -/
theorem ch_end {nx nx' : Nat → Nat} {v v' a : Nat} {l : List Nat} (h : ch nx v l) (hn : l.Nodup) (h0 : nx' a = 0) (hv : v' = if l = [] then a + 1 else v) (hb : 0 < lastc l → nx' (lastc l - 1) = a + 1) (ho : ∀ i ∈ l, i + 1 ≠ lastc l → nx' i = nx i) : ch nx' v' (l ++ [a]) := by
  rcases lastc_sp (l := l) with ⟨h1, h2⟩ | ⟨l0, h1, h2⟩
  · subst h2
    rw [if_pos rfl] at hv
    subst hv
    exact ⟨rfl, h0⟩
  · have hne : l ≠ [] := fun z => by rw [z] at h1; exact absurd h1 (by decide)
    rw [if_neg hne] at hv
    subst hv
    have hb := hb h1
    generalize lastc l = c at *
    subst h2
    have hnb : nx (c - 1) = 0 := by
      clear hb ho hn h1 h0 hne
      have gen : ∀ (l0 : List Nat) (v : Nat), ch nx v (l0 ++ [c - 1]) → nx (c - 1) = 0 := by
        intro l0
        induction l0 with
        | nil => intro v h; exact h.2
        | cons x l0 ih => intro v h; exact ih _ h.2
      exact gen l0 _ h
    rw [List.append_assoc]
    exact ch_in (b := c - 1) (l2 := []) h hn hb (by rw [h0, hnb]) (fun i hi hib => ho i hi (by omega))
/-- where the days added go in -/
theorem tkl_sp {D : fw_DB} {x : Nat} : ∀ {l : List Nat} {b : Nat}, (l.takeWhile (fun i => decide (D 16 i 0 ≤ x)) = [] ∧ tkl D x b l = b) ∨ (∃ l0, l.takeWhile (fun i => decide (D 16 i 0 ≤ x)) = l0 ++ [tkl D x b l - 1] ∧ 0 < tkl D x b l)
  | [], b => Or.inl ⟨rfl, rfl⟩
  | i :: l, b => by
    by_cases c : D 16 i 0 ≤ x
    · rw [List.takeWhile_cons_of_pos (by simpa using c)]
      have e : tkl D x b (i :: l) = tkl D x (i + 1) l := by
        show (if D 16 i 0 ≤ x then _ else _) = _
        rw [if_pos c]
      rw [e]
      right
      rcases tkl_sp (D := D) (x := x) (l := l) (b := i + 1) with ⟨h1, h2⟩ | ⟨l0, h1, h2⟩
      · rw [h1, h2]
        exact ⟨[], rfl, Nat.succ_pos _⟩
      · rw [h1]
        exact ⟨i :: l0, rfl, h2⟩
    · left
      rw [List.takeWhile_cons_of_neg (by simpa using c)]
      refine ⟨rfl, ?_⟩
      show (if D 16 i 0 ≤ x then _ else _) = _
      rw [if_neg c]
theorem tkA_ch {D : fw_DB} {p a : Nat} {l : List Nat} (h : ch (fun i => D 16 i 2) (D 8 p 4) l) (hn : l.Nodup) (ha : a ∉ l) : ch (fun i => tkA D p a l 16 i 2) (tkA D p a l 8 p 4) (insA D a l) := by
  have e := List.takeWhile_append_dropWhile (p := fun i => decide (D 16 i 0 ≤ D 16 a 0)) (l := l)
  unfold insA tkA
  rcases tkl_sp (D := D) (x := D 16 a 0) (l := l) (b := 0) with ⟨h1, h2⟩ | ⟨l0, h1, h2⟩
  · rw [h2, if_pos rfl, h1]
    rw [h1] at e
    have e : l.dropWhile (fun i => decide (D 16 i 0 ≤ D 16 a 0)) = l := e
    rw [e, dp_s]
    refine ch_0 (nx := fun i => D 16 i 2) h ?_ (fun i hi => ?_)
    · show dp (dp D 16 a _) 8 p _ 16 a 2 = _
      rw [dp_k (by decide), dp_s]
      rfl
    · show dp (dp D 16 a _) 8 p _ 16 i 2 = _
      rw [dp_k (by decide), dp_i (fun z : i = a => ha (by rw [← z]; exact hi))]
  · rw [if_neg (by omega)]
    rw [h1] at e ⊢
    generalize tkl D (D 16 a 0) 0 l = b at *
    generalize l.dropWhile (fun i => decide (D 16 i 0 ≤ D 16 a 0)) = l2 at *
    rw [List.append_assoc] at e ⊢
    have hba : b - 1 ≠ a := fun z => ha (by rw [← e, ← z]; exact List.mem_append_right _ List.mem_cons_self)
    rw [← e] at h hn
    show ch _ (D 8 p 4) _
    refine ch_in (nx := fun i => D 16 i 2) h hn ?_ ?_ (fun i hi hib => ?_)
    · show dp (dp D 16 a _) 16 (b - 1) _ 16 (b - 1) 2 = _
      rw [dp_s]
      rfl
    · show dp (dp D 16 a _) 16 (b - 1) _ 16 a 2 = _
      rw [dp_i (fun z => hba z.symm), dp_s]
      rfl
    · show dp (dp D 16 a _) 16 (b - 1) _ 16 i 2 = _
      rw [dp_i hib, dp_i (fun z => ha (by rw [← e, ← z]; exact hi))]
/-- what else that changes -/
theorem tkA_o {D : fw_DB} {p a : Nat} {l : List Nat} : (∀ k, k ≠ 16 → k ≠ 8 → tkA D p a l k = D k) ∧ (∀ q f, ¬ (q = p ∧ f = 4) → tkA D p a l 8 q f = D 8 q f) ∧ (∀ i f, ¬ (f = 2 ∧ (i = a ∨ i ∈ l)) → tkA D p a l 16 i f = D 16 i f) := by
  unfold tkA
  have e := List.takeWhile_append_dropWhile (p := fun i => decide (D 16 i 0 ≤ D 16 a 0)) (l := l)
  by_cases c : tkl D (D 16 a 0) 0 l = 0
  · rw [if_pos c]
    refine ⟨fun k h1 h2 => funext fun j => by rw [dp_k h2, dp_k h1], fun q f h => ?_, fun i f h => ?_⟩
    · by_cases c2 : q = p
      · subst c2
        rw [dp_s]
        exact if_neg (fun z => h ⟨rfl, z⟩)
      · rw [dp_i c2, dp_k (by decide)]
    · rw [dp_k (by decide)]
      by_cases c2 : i = a
      · subst c2
        rw [dp_s]
        exact if_neg (fun z => h ⟨z, Or.inl rfl⟩)
      · rw [dp_i c2]
  · rw [if_neg c]
    have hb : tkl D (D 16 a 0) 0 l - 1 ∈ l := by
      rcases tkl_sp (D := D) (x := D 16 a 0) (l := l) (b := 0) with ⟨h1, h2⟩ | ⟨l0, h1, h2⟩
      · exact absurd h2 c
      · have q : tkl D (D 16 a 0) 0 l - 1 ∈ l.takeWhile (fun i => decide (D 16 i 0 ≤ D 16 a 0)) := by
          rw [h1]
          exact List.mem_append_right _ List.mem_cons_self
        have q2 := List.mem_append_left (l.dropWhile (fun i => decide (D 16 i 0 ≤ D 16 a 0))) q
        rw [e] at q2
        exact q2
    refine ⟨fun k h1 h2 => funext fun j => by rw [dp_k h1, dp_k h1], fun q f h => by rw [dp_k (by decide), dp_k (by decide)], fun i f h => ?_⟩
    have k1 : ∀ g, dp D 16 a (va_up (D 16 a) 2 g) 16 i f = D 16 i f := fun g => by
      by_cases c2 : i = a
      · subst c2
        rw [dp_s]
        exact if_neg (fun z => h ⟨z, Or.inl rfl⟩)
      · rw [dp_i c2]
    by_cases c3 : i = tkl D (D 16 a 0) 0 l - 1
    · rw [c3, dp_s]
      refine (if_neg (fun z => h ⟨z, Or.inr (c3 ▸ hb)⟩)).trans ?_
      rw [← c3]
      exact k1 _
    · rw [dp_i c3]
      exact k1 _
