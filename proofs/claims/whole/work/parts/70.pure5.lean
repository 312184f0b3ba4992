/-! PURE: the clerk, from the first day on -/
def scr2 (k f : Nat) : Bool := match k with
  | 14 => true
  | 17 => decide (6 ≤ f) && decide (f ≤ 7)
  | 8 => decide (f = 5)
  | _ => false
/-- the same but the clerk's notes -/
def sc2 (D D' : fw_DB) : Prop := ∀ k i f, scr2 k f = false → D' k i f = D k i f
theorem sc2.rf {D : fw_DB} : sc2 D D := fun _ _ _ _ => rfl
theorem sc2.tr {D D' D2 : fw_DB} (h : sc2 D D') (h2 : sc2 D' D2) : sc2 D D2 := fun k i f e => (h2 k i f e).trans (h k i f e)
theorem sc2_dp {D : fw_DB} {k i : Nat} {g : Nat → Nat} (h : ∀ f, scr2 k f = false → g f = D k i f) : sc2 D (dp D k i g) := fun k' i' f e => by
  rw [dp_at]
  by_cases c : k' = k ∧ i' = i
  · rw [if_pos c]
    obtain ⟨c1, c2⟩ := c
    subst c1
    subst c2
    exact h f e
  · rw [if_neg c]
theorem sc2.sc {D D' : fw_DB} (h : sc2 D D') : sc D D' := fun k i f e => h k i f (by
  unfold scr2
  unfold scr at e
  split
  · cases e
  · have e : (decide (5 ≤ f) && decide (f ≤ 7)) = false := e
    show (decide (6 ≤ f) && decide (f ≤ 7)) = false
    rw [Bool.and_eq_false_iff, decide_eq_false_iff_not, decide_eq_false_iff_not] at e ⊢
    omega
  · exact e
  · rfl)
theorem kpD_2 {d : Nat} {a : Bool} : ∀ {l : List Nat} {D : fw_DB}, sc2 D (kpD d a D l)
  | [], _ => sc2.rf
  | w :: l, D => (sc2_dp (fun f hf => by cases hf)).tr (kpD_2 (l := l) (D := kp1 d a D w))
theorem kaD_2 {i : Nat} : ∀ {l : List Nat} {D : fw_DB}, sc2 D (kaD i D l)
  | [], _ => sc2.rf
  | w :: l, D => (sc2_dp (fun f hf => by cases hf)).tr (kaD_2 (l := l))
theorem karD_2 {p d : Nat} {wl : List Nat} : ∀ {l : List Nat} {D : fw_DB}, sc2 D (karD p d wl D l)
  | [], _ => sc2.rf
  | i :: l, D => by
    unfold karD
    split
    · refine (kaD_2 (i := i) (l := wl)).tr ((sc2_dp (k := 8) (i := p) (fun f hf => ?_)).tr (karD_2 (l := l) (D := ka1 p wl D i)))
      show (if f = 5 then _ else kaD i D wl 8 p f) = _
      rw [if_neg (fun z => by subst z; cases hf)]
    · exact sc2.rf
theorem krD_2 {wl : List Nat} {d : Nat} {a : Bool} : ∀ {l : List Nat} {D : fw_DB}, sc2 D (krD wl d a D l)
  | [], _ => sc2.rf
  | r :: l, D => by
    have h : sc2 D (kr1 wl d a D r) := by
      unfold kr1
      split
      · refine sc2_dp (fun f hf => ?_)
        show (if f = 6 then _ else D 17 r f) = _
        rw [if_neg (fun z => by subst z; cases hf)]
      · split
        · refine sc2_dp (fun f hf => ?_)
          show (if f = 7 then _ else D 17 r f) = _
          rw [if_neg (fun z => by subst z; cases hf)]
        · exact sc2.rf
    exact h.tr (krD_2 (l := l))
theorem cpD_2 {p d : Nat} {wl u rl : List Nat} {D : fw_DB} : sc2 D (cpD p d wl u rl D) := (kpD_2.tr karD_2).tr krD_2
theorem opW_2 : ∀ {l : List Nat} {D : fw_DB}, sc2 D (opW D l)
  | [], _ => sc2.rf
  | w :: l, D => (sc2_dp (fun f hf => by cases hf)).tr (opW_2 (l := l))
theorem opR_2 : ∀ {l : List Nat} {D : fw_DB}, sc2 D (opR D l)
  | [], _ => sc2.rf
  | r :: l, D => by
    refine (sc2_dp (fun f hf => ?_)).tr (opR_2 (l := l) (D := dp D 17 r (va_up (va_up (D 17 r) 6 0) 7 0)))
    show (if f = 7 then _ else if f = 6 then _ else D 17 r f) = _
    rw [if_neg (fun z => by subst z; cases hf), if_neg (fun z => by subst z; cases hf)]
theorem opD_2 {p : Nat} {wl rl : List Nat} {D : fw_DB} : sc2 D (opD p wl rl D) := by
  unfold opD
  refine ((sc2_dp (fun f hf => ?_)).tr opW_2).tr opR_2
  show (if f = 5 then _ else D 8 p f) = _
  rw [if_neg (fun z => by subst z; cases hf)]
theorem cEE_2 {p : Nat} {wl al rl : List Nat} {D : fw_DB} : ∀ d, sc2 D (cEE p wl al rl D d).1
  | 0 => opD_2
  | d + 1 => (cEE_2 d).tr cpD_2
theorem opW_k : ∀ {l : List Nat} {D : fw_DB} {k : Nat}, k ≠ 14 → opW D l k = D k
  | [], _, _, _ => rfl
  | w :: l, D, k, h => (opW_k (l := l) h).trans (funext fun j => dp_k h)
theorem opR_k : ∀ {l : List Nat} {D : fw_DB} {k : Nat}, k ≠ 17 → opR D l k = D k
  | [], _, _, _ => rfl
  | w :: l, D, k, h => (opR_k (l := l) h).trans (funext fun j => dp_k h)
theorem opW_at : ∀ {l : List Nat} {D : fw_DB} {w : Nat}, (w ∈ l ∨ ∃ t, D 14 w = topn t) → ∃ t, opW D l 14 w = topn t
  | [], D, w, h => h.resolve_left (fun z => nomatch z)
  | v :: l, D, w, h => by
    refine opW_at (l := l) (D := dp D 14 v (topn (D 14 v))) ?_
    by_cases c : w = v
    · subst c
      exact Or.inr ⟨_, dp_s⟩
    · rcases h with h | h
      · rcases List.mem_cons.mp h with h | h
        · exact absurd h c
        · exact Or.inl h
      · rw [dp_i c]
        exact Or.inr h
theorem opR_at : ∀ {l : List Nat} {D : fw_DB} {r : Nat}, (r ∈ l ∨ (D 17 r 6 = 0 ∧ D 17 r 7 = 0)) → opR D l 17 r 6 = 0 ∧ opR D l 17 r 7 = 0
  | [], D, w, h => h.resolve_left (fun z => nomatch z)
  | v :: l, D, w, h => by
    refine opR_at (l := l) (D := dp D 17 v (va_up (va_up (D 17 v) 6 0) 7 0)) ?_
    by_cases c : w = v
    · subst c
      rw [dp_s]
      exact Or.inr ⟨rfl, rfl⟩
    · rcases h with h | h
      · rcases List.mem_cons.mp h with h | h
        · exact absurd h c
        · exact Or.inl h
      · rw [dp_i c]
        exact Or.inr h
theorem clerk_DI {F D : fw_DB} {p : Nat} {wl al rl : List Nat} (hX : fxP F p wl al rl) (hs : sc D F) : ∀ d, d ≤ 20000 → DI F p wl al rl d (cEE p wl al rl D d).1 (cEE p wl al rl D d).2
  | 0, _ => by
    refine day_0 (E := opD p wl rl D) ((opD_2.sc).sy.tr hs) (fun w hw => ?_) (fun r hr => opR_at (Or.inl hr))
    have h14 : opD p wl rl D 14 w = opW (dp D 8 p (va_up (D 8 p) 5 (D 8 p 4))) wl 14 w := congrFun (opR_k (by decide)) w
    obtain ⟨t, ht⟩ := opW_at (D := dp D 8 p (va_up (D 8 p) 5 (D 8 p 4))) (w := w) (Or.inl hw)
    rw [h14, ht]
    exact ⟨⟨rfl, rfl, rfl⟩, rfl, rfl⟩
  | d + 1, h => (day_is hX (by omega) (clerk_DI hX hs d (by omega))).1
/-- what the clerk says is what is reckoned -/
theorem clerk_is {F D : fw_DB} {p d : Nat} {wl al rl : List Nat} (hX : fxP F p wl al rl) (hs : sc D F) (hd : d < 20000) : cpS p d wl (cEE p wl al rl D d).2 rl (cEE p wl al rl D d).1 = stt F (sB (F 10 p)) d wl rl := (day_is hX hd (clerk_DI hX hs d (by omega))).2
/-- a state speaks of these alone -/
theorem kp_c {F E : fw_DB} {d : Nat} : ∀ {l : List Nat} {k : Nat}, (∀ w ∈ l, F 13 w = E 13 w) → (0 < k → F 13 (k - 1) = E 13 (k - 1)) → kp F d k l = kp E d k l
  | [], _, _, _ => rfl
  | w :: l, k, h, h0 => by
    have hw := h w List.mem_cons_self
    unfold kp
    rw [hw]
    have e : (wkeep (E 13 w) d && (decide (k = 0) || decide (F 13 (k - 1) 16 < E 13 w 16))) = (wkeep (E 13 w) d && (decide (k = 0) || decide (E 13 (k - 1) 16 < E 13 w 16))) := by
      by_cases c : k = 0
      · rw [decide_eq_true c]
        rfl
      · rw [h0 (by omega)]
    rw [e]
    refine kp_c (fun v hv => h v (List.mem_cons_of_mem _ hv)) (fun z => ?_)
    split
    · exact hw
    · rename_i c
      rw [if_neg c] at z
      exact h0 z
theorem rc_c {F E : fw_DB} {d : Nat} : ∀ {l : List Nat}, (∀ r ∈ l, F 17 r 1 = E 17 r 1 ∧ F 17 r 5 = E 17 r 5) → rc F d l = rc E d l
  | [], _ => rfl
  | r :: l, h => by
    obtain ⟨h1, h2⟩ := h r List.mem_cons_self
    unfold rc
    rw [h1, h2, rc_c (fun v hv => h v (List.mem_cons_of_mem _ hv))]
theorem lct_c {F E : fw_DB} {d : Nat} : ∀ {l : List Nat}, (∀ w ∈ l, F 13 w = E 13 w) → lct F d l = lct E d l
  | [], _ => rfl
  | w :: l, h => by
    have ih := lct_c (F := F) (E := E) (d := d) (fun v hv => h v (List.mem_cons_of_mem _ hv))
    unfold lct at ih ⊢
    rw [List.any_cons, List.any_cons, h w List.mem_cons_self, ih]
theorem stt_c {F E : fw_DB} {aw : Nat → Bool} {d : Nat} {wl rl : List Nat} (h : ∀ w ∈ wl, F 13 w = E 13 w) (h2 : ∀ r ∈ rl, F 17 r 1 = E 17 r 1 ∧ F 17 r 5 = E 17 r 5) : stt F aw d wl rl = stt E aw d wl rl := by
  unfold stt
  rw [kp_c h (fun z => absurd z (by omega)), rc_c h2, lct_c h]
