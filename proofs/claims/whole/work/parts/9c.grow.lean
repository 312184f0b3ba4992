/-! REFERENCE: a heap that holds the reference's, whatever the class makes of it; lists that grow -/
def RE (G : fw_G) (S D : fw_DB) (A : fw_AD) (M : fw_MP) (h : fw_H) : Prop := True ∧ IR S D ∧ Wf D A M ∧ (∀ (b : Nat) (o : fw_O), hp M A D b = some o → h b = some o) ∧ A 46 0 = tE G
section RES
variable {G : fw_G} {n : Nat} {S D : fw_DB} {A : fw_AD} {M : fw_MP} {h : fw_H}
theorem RD.e (R : RD G n S D A M h) : RE G S D A M h := ⟨trivial, R.2⟩
theorem RE.mono {h' : fw_H} (R : RE G S D A M h) (s : ∀ (b : Nat) (o : fw_O), h b = some o → h' b = some o) : RE G S D A M h' := ⟨trivial, R.2.1, R.2.2.1, fun b o hb => s _ _ (R.2.2.2.1 b o hb), R.2.2.2.2⟩
theorem RE.obj (R : RE G S D A M h) {k i : Nat} (hi : i < D 99 0 k) (h46 : k ≠ 46 := by decide) : h (A k i) = some (kRow A k i (D k i)) := R.2.2.2.1 _ _ (hget (R.2.2.1.lv hi h46))
theorem RE.up (R : RE G S D A M h) {q : Nat} {o : fw_O} (hq : h q = none) : RE G S D A M (fw_up h q o) := ⟨R.1, R.2.1, R.2.2.1, fun b x hb => up_sub hq _ _ (R.2.2.2.1 b x hb), R.2.2.2.2⟩
theorem RE.m (R : RE G S D A M h) : h (A 30 0) = some (.inr (20, [.int (nI (D 30 0 0)), .ref (A 31 0), .ref (A 32 0), .ref (A 33 0), .ref (A 34 0), .ref (A 35 0)])) := R.obj (k := 30) (i := 0) (by rw [R.2.1.1.1]; decide)
theorem RE.l1 (R : RE G S D A M h) : LV h (A 31 0) (S 99 0 7) (A 51) := R.2.1.2.1.1.lv (R.obj (k := 31) (i := 0) (by rw [R.2.1.2.1.1.2.2.1]; decide)) rfl (fun z => R.obj (k := 41) (i := 0) z)
theorem RE.l2 (R : RE G S D A M h) : LV h (A 32 0) (S 99 0 8) (A 52) := R.2.1.2.1.2.1.lv (R.obj (k := 32) (i := 0) (by rw [R.2.1.2.1.2.1.2.2.1]; decide)) rfl (fun z => R.obj (k := 42) (i := 0) z)
theorem RE.l3 (R : RE G S D A M h) : LV h (A 33 0) (S 99 0 13) (A 53) := R.2.1.2.1.2.2.1.lv (R.obj (k := 33) (i := 0) (by rw [R.2.1.2.1.2.2.1.2.2.1]; decide)) rfl (fun z => R.obj (k := 43) (i := 0) z)
theorem RE.l4 (R : RE G S D A M h) : LV h (A 34 0) (S 99 0 16) (A 54) := R.2.1.2.1.2.2.2.1.lv (R.obj (k := 34) (i := 0) (by rw [R.2.1.2.1.2.2.2.1.2.2.1]; decide)) rfl (fun z => R.obj (k := 44) (i := 0) z)
theorem RE.l5 (R : RE G S D A M h) : LV h (A 35 0) (S 99 0 17) (A 55) := R.2.1.2.1.2.2.2.2.lv (R.obj (k := 35) (i := 0) (by rw [R.2.1.2.1.2.2.2.2.2.2.1]; decide)) rfl (fun z => R.obj (k := 45) (i := 0) z)
theorem RE.law (R : RE G S D A M h) {l : Nat} (hl : l < S 99 0 7) : h (A 51 l) = some (.inr (16, [.int (nI (if 0 < S 7 l 1 then 111 else 112)), .int (nI (S 7 l 2)), .int (nI (S 7 l 3)), .int (bN (S 7 l 4))])) := by
  have := R.obj (k := 51) (i := l) (by rw [R.2.1.2.1.1.2.2.2.1]; exact hl)
  rw [R.2.1.2.2.2.2.1 l hl] at this
  exact this
theorem RE.per (R : RE G S D A M h) {p : Nat} (hp : p < S 99 0 8) : h (A 52 p) = some (.inr (17, [.ref (A 56 p), .ref (A 57 p), .ref (A 58 p)])) := R.obj (k := 52) (i := p) (by rw [R.2.1.2.1.2.1.2.2.2.1]; exact hp)
theorem RE.war (R : RE G S D A M h) {w : Nat} (hw : w < S 99 0 13) : h (A 53 w) = some (.inr (19, [.int (nI (S 13 w 1)), .int (nI (S 13 w 2)), .int (nI (S 13 w 3)), .int (nI (S 13 w 4)), .int (nP (S 13 w 5)), .int (nI (S 15 w 0)), .int (nI (S 15 w 1)), .int (nI (S 15 w 2)), .int (nI (S 13 w 11)), .int (nI (S 13 w 12)), .int (nP (S 13 w 9)), .int (bN (S 13 w 13)), .int (nP (S 13 w 10))])) := by
  have := R.obj (k := 53) (i := w) (by rw [R.2.1.2.1.2.2.1.2.2.2.1]; exact hw)
  rw [R.2.1.2.2.2.2.2.1 w hw] at this
  exact this
theorem RE.add (R : RE G S D A M h) {a : Nat} (ha : a < S 99 0 16) : h (A 54 a) = some (.inr (14, [.int (nI (S 16 a 3)), .int (nI (S 16 a 0)), .int (nI (S 16 a 1))])) := by
  have := R.obj (k := 54) (i := a) (by rw [R.2.1.2.1.2.2.2.1.2.2.2.1]; exact ha)
  rw [R.2.1.2.2.2.2.2.2.1 a ha] at this
  exact this
theorem RE.rec (R : RE G S D A M h) {r : Nat} (hr : r < S 99 0 17) : h (A 55 r) = some (.inr (18, [.int (nI (S 17 r 0)), .int (nI (S 17 r 1)), .int (nI (if 0 < S 17 r 2 then 102 else 115)), .int (nI (S 17 r 3)), .int (nI (min (S 17 r 4) 20000))])) := by
  have := R.obj (k := 55) (i := r) (by rw [R.2.1.2.1.2.2.2.2.2.2.2.1]; exact hr)
  rw [R.2.1.2.2.2.2.2.2.2.1 r hr] at this
  exact this
theorem RE.free (R : RE G S D A M h) {p : Nat} (hp : p < S 99 0 8) : h (A 56 p) = some (.inl (0, 20001, .inl (fun j => nI (frR (S 10 p) j)))) := by
  have := R.obj (k := 56) (i := p) (by rw [R.2.1.2.2.1.1]; exact hp)
  rw [(R.2.1.2.2.2.2.2.2.2.2 p hp).1] at this
  exact this
theorem RE.away (R : RE G S D A M h) {p : Nat} (hp : p < S 99 0 8) : h (A 57 p) = some (.inl (2, 20000, .inl (fun j => bN (mkR (S 10 p) j)))) := by
  have := R.obj (k := 57) (i := p) (by rw [R.2.1.2.2.1.2.1]; exact hp)
  rw [(R.2.1.2.2.2.2.2.2.2.2 p hp).2.1] at this
  exact this
theorem RE.held (R : RE G S D A M h) {p : Nat} (hp : p < S 99 0 8) : h (A 58 p) = some (.inl (2, 20000, .inl (fun j => bN (mkR (S 12 p) j)))) := by
  have := R.obj (k := 58) (i := p) (by rw [R.2.1.2.2.1.2.2]; exact hp)
  rw [(R.2.1.2.2.2.2.2.2.2.2 p hp).2.2] at this
  exact this
end RES
section GRW
variable {G : fw_G} {D : fw_DB} {A : fw_AD} {M : fw_MP} {h : fw_H}
abbrev fw_ss (D : fw_DB) (A : fw_AD) (M : fw_MP) (h : fw_H) : Prop := ∀ (b : Nat) (o : fw_O), hp M A D b = some o → h b = some o
theorem hp_none (s : fw_ss D A M h) {q : Nat} (hq : h q = none) : hp M A D q = none := by
  cases e : hp M A D q with
  | none => rfl
  | some o =>
    have := s _ _ e
    rw [hq] at this
    cases this
theorem M_none (s : fw_ss D A M h) {q : Nat} (hq : h q = none) : M q = none := by
  have := hp_none s hq
  unfold hp at this
  cases e : M q with
  | none => rfl
  | some t => rw [e] at this; cases this
theorem sub_new {k q m : Nat} {g : Nat → Nat} {o : fw_O} (W : Wf D A M) (s : fw_ss D A M h) (hq : h q = none) (hn : m = D 99 0 k) (hk : k ≠ 99) (hr : rOk (dn D k m g 99 0) k m g) (ho : ∀ A' : fw_AD, A' k m = q → (∀ k' j, k' ≠ k → A' k' j = A k' j) → o = kRow A' k m g) : ∃ A' M', Wf (dn D k m g) A' M' ∧ fw_ss (dn D k m g) A' M' (fw_up h q o) ∧ A' k m = q ∧ (∀ k' j, k' ≠ k → A' k' j = A k' j) ∧ ∀ j, j ≠ m → A' k j = A k j := by
  obtain ⟨A', M', h1, h2, h3, h4, h5⟩ := hnew3 W (hp_none s hq) hn hk hr (fun A' a b _ => ho A' a b)
  refine ⟨A', M', h2, fun b x hb => ?_, h3, h4, h5⟩
  rw [← h1] at hb
  by_cases c : b = q
  · rw [c, fw_up_s] at hb ⊢
    exact hb
  · rw [fw_up_n c] at hb ⊢
    exact s _ _ hb
theorem kR31 {t i : Nat} {g : Nat → Nat} (ht : t < 5) : kRow A (31 + t) i g = lsO (g 0) (if g 2 = 0 then A 46 0 else A (41 + t) 0) (g 1) := by
  rcases (show t = 0 ∨ t = 1 ∨ t = 2 ∨ t = 3 ∨ t = 4 by omega) with rfl | rfl | rfl | rfl | rfl <;> rfl
theorem kR41 {t i : Nat} {g : Nat → Nat} (ht : t < 5) : kRow A (41 + t) i g = oA (g 0) (rfs (g 1) (A (51 + t))) := by
  rcases (show t = 0 ∨ t = 1 ∨ t = 2 ∨ t = 3 ∨ t = 4 by omega) with rfl | rfl | rfl | rfl | rfl <;> rfl
theorem rO31 {N : Nat → Nat} {t i : Nat} {g : Nat → Nat} (ht : t < 5) (h : 0 < N (41 + t)) (h46 : 0 < N 46) : rOk N (31 + t) i g := by
  rcases (show t = 0 ∨ t = 1 ∨ t = 2 ∨ t = 3 ∨ t = 4 by omega) with rfl | rfl | rfl | rfl | rfl <;> exact ⟨fun _ => h, h46⟩
theorem rO41 {N : Nat → Nat} {t i : Nat} {g : Nat → Nat} (ht : t < 5) (h : g 1 ≤ N (51 + t)) : rOk N (41 + t) i g := by
  rcases (show t = 0 ∨ t = 1 ∨ t = 2 ∨ t = 3 ∨ t = 4 by omega) with rfl | rfl | rfl | rfl | rfl <;> exact h
theorem kR_l {t q : Nat} (ht : t < 5) : ∀ k i g, k ≠ 31 + t → k ≠ 66 → kRow (an A (41 + t) 0 q) k i g = kRow A k i g := by
  intro k i g hk h66
  rcases (show t = 0 ∨ t = 1 ∨ t = 2 ∨ t = 3 ∨ t = 4 by omega) with rfl | rfl | rfl | rfl | rfl <;> (unfold kRow; split <;> first | rfl | (exact absurd rfl hk) | (exact absurd rfl h66))
def laG (cap n : Nat) : Nat → Nat := fun f => if f = 0 then cap else if f = 1 then n else 0
def llG (n : Nat) : Nat → Nat := fun f => if f = 0 then n else if f = 1 then n else if f = 2 then 1 else 0
/-- a list of n elements, its array cap long -/
def lsD (D : fw_DB) (t cap n : Nat) : fw_DB := dp (dp (dp D (41 + t) 0 (laG cap n)) 99 0 (va_up (D 99 0) (41 + t) 1)) (31 + t) 0 (llG n)
theorem lsD_k {t cap n k : Nat} (h1 : k ≠ 31 + t) (h2 : k ≠ 41 + t) (h3 : k ≠ 99) : lsD D t cap n k = D k := funext fun j => by
  unfold lsD
  rw [dp_k h1, dp_k h3, dp_k h2]
theorem lsD_l {t cap n : Nat} : lsD D t cap n (31 + t) 0 = llG n := dp_s
theorem lsD_a {t cap n : Nat} (ht : t < 5) : lsD D t cap n (41 + t) 0 = laG cap n := by
  unfold lsD
  rw [dp_k (by omega), dp_k (by omega), dp_s]
theorem lsD_N {t cap n k : Nat} (ht : t < 5) : lsD D t cap n 99 0 k = if k = 41 + t then 1 else D 99 0 k := by
  unfold lsD
  rw [dp_k (by omega), dp_s]
  rfl
theorem lsD_i {t cap n k i : Nat} (ht : t < 5) (h1 : ¬ (k = 31 + t ∧ i = 0)) (h2 : ¬ (k = 41 + t ∧ i = 0)) (h3 : k ≠ 99) : lsD D t cap n k i = D k i := by
  unfold lsD
  have e1 : ∀ (E : fw_DB) g, dp E (31 + t) 0 g k i = E k i := fun E g => by
    by_cases c : k = 31 + t
    · rw [c, dp_i (fun z => h1 ⟨c, z⟩)]
    · exact dp_k c
  have e2 : ∀ (E : fw_DB) g, dp E (41 + t) 0 g k i = E k i := fun E g => by
    by_cases c : k = 41 + t
    · rw [c, dp_i (fun z => h2 ⟨c, z⟩)]
    · exact dp_k c
  rw [e1, dp_k h3, e2]
theorem list_step {H : fw_H} {t cap n e : Nat} (ht : t < 5) (W : Wf D A M) (s : fw_ss D A M h) (hl : D 99 0 (31 + t) = 1) (ha : D 99 0 (41 + t) ≤ 1) (h46 : 0 < D 99 0 46) (h66 : D 99 0 66 = 0) (he : M e = some (41 + t, 0) ∨ M e = none) (hn : n ≤ D 99 0 (51 + t)) (H1 : H e = some (oA cap (rfs n (A (51 + t))))) (H2 : H (A (31 + t) 0) = some (lsO n e n)) (H3 : ∀ b, b ≠ e → b ≠ A (31 + t) 0 → ∀ o, h b = some o → H b = some o) : ∃ A' M', Wf (lsD D t cap n) A' M' ∧ fw_ss (lsD D t cap n) A' M' H ∧ ∀ k i, ¬ (k = 41 + t ∧ i = 0) → A' k i = A k i := by
  have L := W.lv (k := 31 + t) (i := 0) (by omega) (by omega)
  have hel : e ≠ A (31 + t) 0 := fun z => by
    rw [← z] at L
    rcases he with x | x
    · rw [x] at L
      have := congrArg (fun o => Option.map Prod.fst o) L
      simp at this
    · rw [x] at L
      cases L
  have hA : ∀ k i, ¬ (k = 41 + t ∧ i = 0) → an A (41 + t) 0 e k i = A k i := fun k i hk => by
    unfold an
    by_cases c : k = 41 + t
    · rw [if_pos c, if_neg (fun z => hk ⟨c, z⟩)]
    · rw [if_neg c]
  obtain ⟨M', hM⟩ : ∃ M' : fw_MP, M' = fun x => if x = e then some (41 + t, 0) else if M x = some (41 + t, 0) then none else M x := ⟨_, rfl⟩
  have M1 : M' e = some (41 + t, 0) := by rw [hM]; exact if_pos rfl
  have M2 : ∀ x k i, x ≠ e → M' x = some (k, i) → M x = some (k, i) ∧ ¬ (k = 41 + t ∧ i = 0) := fun x k i hx h' => by
    rw [hM] at h'
    have h' : (if x = e then some (41 + t, 0) else if M x = some (41 + t, 0) then none else M x) = some (k, i) := h'
    rw [if_neg hx] at h'
    by_cases c : M x = some (41 + t, 0)
    · rw [if_pos c] at h'
      cases h'
    · rw [if_neg c] at h'
      exact ⟨h', fun z => c (by rw [h', z.1, z.2])⟩
  have M3 : ∀ x k i, x ≠ e → M x = some (k, i) → ¬ (k = 41 + t ∧ i = 0) → M' x = some (k, i) := fun x k i hx h' hk => by
    rw [hM]
    show (if x = e then some (41 + t, 0) else if M x = some (41 + t, 0) then none else M x) = some (k, i)
    rw [if_neg hx, if_neg (fun z => by rw [z] at h'; cases h'; exact hk ⟨rfl, rfl⟩)]
    exact h'
  have MA : ∀ k i, k ≠ 46 → i < D 99 0 k → ¬ (k = 41 + t ∧ i = 0) → A k i ≠ e := fun k i h46 hi hk z => by
    have l := W.lv hi h46
    rw [z] at l
    rcases he with x | x
    · rw [x] at l
      cases l
      exact hk ⟨rfl, rfl⟩
    · rw [x] at l
      cases l
  refine ⟨an A (41 + t) 0 e, M', ⟨fun x k i hx => ?_, fun k i k46 hi => ?_, fun x k i hx => ?_, fun k i hi => ?_⟩, fun b o hb => ?_, hA⟩
  · by_cases c : x = e
    · rw [c, M1] at hx
      cases hx
      rw [an_s, c]
    · obtain ⟨m1, m2⟩ := M2 x k i c hx
      rw [hA k i m2]
      exact W.1 x k i m1
  · rw [lsD_N ht] at hi
    by_cases c : k = 41 + t
    · rw [if_pos c] at hi
      have hi : i = 0 := by omega
      rw [c, hi, an_s]
      exact M1
    · rw [if_neg c] at hi
      have hk : ¬ (k = 41 + t ∧ i = 0) := fun z => c z.1
      rw [hA k i hk]
      exact M3 _ _ _ (MA k i k46 hi hk) (W.lv hi k46) hk
  · rw [lsD_N ht]
    by_cases c : x = e
    · rw [c, M1] at hx
      cases hx
      rw [if_pos rfl]
      omega
    · obtain ⟨m1, m2⟩ := M2 x k i c hx
      have := W.2.2.1 x k i m1
      split
      · rename_i z
        subst z
        omega
      · exact this
  · rw [lsD_N ht] at hi
    have hmono : ∀ k, D 99 0 k ≤ lsD D t cap n 99 0 k := fun k => by
      rw [lsD_N ht]
      split
      · rename_i z
        subst z
        exact ha
      · exact Nat.le_refl _
    by_cases c : k = 41 + t
    · rw [if_pos c] at hi
      have hi : i = 0 := by omega
      rw [c, hi, lsD_a ht]
      exact rO41 ht (Nat.le_trans (show n ≤ _ from hn) (hmono _))
    · rw [if_neg c] at hi
      by_cases c2 : k = 31 + t
      · rw [c2]
        refine rO31 ht ?_ (Nat.lt_of_lt_of_le h46 (hmono _))
        rw [lsD_N ht, if_pos rfl]
        omega
      · by_cases c3 : k = 99
        · rw [c3]
          trivial
        · rw [lsD_i ht (fun z => c2 z.1) (fun z => c z.1) c3]
          exact rOk_mono (W.ok hi) hmono
  · unfold hp at hb
    by_cases c : b = e
    · rw [c, M1] at hb
      have hb : some (kRow (an A (41 + t) 0 e) (41 + t) 0 (lsD D t cap n (41 + t) 0)) = some o := hb
      rw [lsD_a ht, kR41 ht, show an A (41 + t) 0 e (51 + t) = A (51 + t) from funext fun j => hA _ _ (by omega)] at hb
      rw [c, H1]
      exact hb
    · cases hm : M' b with
      | none => rw [hm] at hb; cases hb
      | some ki =>
        obtain ⟨k, i⟩ := ki
        rw [hm] at hb
        have hb : some (kRow (an A (41 + t) 0 e) k i (lsD D t cap n k i)) = some o := hb
        obtain ⟨m1, m2⟩ := M2 b k i c hm
        have hbA := W.1 b k i m1
        have hi := W.2.2.1 b k i m1
        by_cases c2 : k = 31 + t
        · have i0 : i = 0 := by
            rw [c2] at hi
            omega
          rw [c2, i0, lsD_l, kR31 ht] at hb
          rw [hbA, c2, i0, H2, ← hb]
          show some (lsO n e n) = some (lsO n (if (1 : Nat) = 0 then an A (41 + t) 0 e 46 0 else an A (41 + t) 0 e (41 + t) 0) n)
          rw [if_neg (by decide), an_s]
        · have c66 : k ≠ 66 := fun z => by
            rw [z] at hi
            omega
          have hbl : b ≠ A (31 + t) 0 := fun z => by
            rw [z] at m1
            rw [L] at m1
            cases m1
            exact c2 rfl
          refine H3 b c hbl o (s b o ?_)
          unfold hp
          rw [m1]
          show some (kRow A k i (D k i)) = some o
          rw [← hb, kR_l ht k i _ c2 c66]
          by_cases c99 : k = 99
          · rw [c99]
            rfl
          · rw [lsD_i ht (fun z => c2 z.1) m2 c99]
/-- an element of a list -/
theorem pw_lsadd {y : fw_M} {Q : fw_Q} {d kc ks kc' ks' pc nx tg : Nat} {v : Int32} {L : List (Nat × Value)} {rest : List Value} {tb : List fw_R} {t n ci : Nat} {r : vw_C} (ht : t < 5) (hT : fw_tok y tb) (hr : fw_at tb pc = some (.invokevirtual 75, nx, tg, v)) (hy : y.1.cls = RX17) (W : Wf D A M) (s : fw_ss D A M h) (hl : D (31 + t) 0 0 = n ∧ D (31 + t) 0 1 = n ∧ D 99 0 (31 + t) = 1 ∧ ((D (31 + t) 0 2 = 0 ∧ n = 0 ∧ D 99 0 (41 + t) = 0) ∨ (D (31 + t) 0 2 = 1 ∧ D 99 0 (41 + t) = 1 ∧ D (41 + t) 0 1 = n ∧ n ≤ D (41 + t) 0 0 ∧ 0 < D (41 + t) 0 0 ∧ D (41 + t) 0 0 ≤ 48)) ∧ n ≤ 31) (hN : D 99 0 (51 + t) = n + 1) (h46 : D 99 0 46 = 1) (h66 : D 99 0 66 = 0) (htE : A 46 0 = tE G) (hc : vwCl[ci]? = some r) (h4 : ci ≠ 4) (hca : Cond.castable r.1 "java/lang/Object" ∈ fw_NW) (hcl : ∀ i g, ∃ fs, kRow A (51 + t) i g = .inr (ci, fs)) (h8 : Nat.ble ((rest.map fun v => v.category).sum) 8 = true) (hd : Nat.blt 5 d = true) (hkc : 1 + kc' ≤ kc) (hks : 48 + ks' ≤ ks) (kk : ∀ h' A' M' cap, Wf (lsD D t cap (n + 1)) A' M' → fw_ss (lsD D t cap (n + 1)) A' M' h' → (∀ k i, ¬ (k = 41 + t ∧ i = 0) → A' k i = A k i) → n + 1 ≤ cap → cap ≤ 48 → PW G y Q d kc' ks' h' nx L (.int 1 :: rest)) : PW G y Q d kc ks h pc L (.ref (A (51 + t) n) :: .ref (A (31 + t) 0) :: rest) := by
  obtain ⟨l0, l1, l3, l5, l6⟩ := hl
  have ob : ∀ {k i : Nat}, i < D 99 0 k → k ≠ 46 → h (A k i) = some (kRow A k i (D k i)) := fun hi hk => s _ _ (hget (W.lv hi hk))
  have hA := ob (k := 31 + t) (i := 0) (by omega) (by omega)
  rw [kR31 ht, l0, l1] at hA
  obtain ⟨fw, hfw⟩ := hcl n (D (51 + t) n)
  have hw := ob (k := 51 + t) (i := n) (by omega) (by omega)
  rw [hfw] at hw
  have hel : ∀ i, i < n → ∃ fs, h (A (51 + t) i) = some (.inr (ci, fs)) := fun i hi => by
    obtain ⟨fs, hfs⟩ := hcl i (D (51 + t) i)
    have := ob (k := 51 + t) (i := i) (by omega) (by omega)
    rw [hfs] at this
    exact ⟨fs, this⟩
  have L0 := W.lv (k := 31 + t) (i := 0) (by omega) (by omega)
  have fin : ∀ (cap e : Nat) (h1 : fw_H) (f1 : Nat → Option Nat) (e1 cap1 : Nat), cap ≤ 48 → n ≤ cap → gw h n e cap (rfs n (A (51 + t))) h1 e1 cap1 f1 → (n < cap → M e = some (41 + t, 0)) → ∃ A' M' cap', Wf (lsD D t cap' (n + 1)) A' M' ∧ fw_ss (lsD D t cap' (n + 1)) A' M' (fw_up (fw_up h1 e1 (oA cap1 (va_up f1 n (some (A (51 + t) n))))) (A (31 + t) 0) (lsO (n + 1) e1 (n + 1))) ∧ (∀ k i, ¬ (k = 41 + t ∧ i = 0) → A' k i = A k i) ∧ n + 1 ≤ cap' ∧ cap' ≤ 48 := by
    intro cap e h1 f1 e1 cap1 hcap hnc hg hM
    have hf1 : f1 = rfs n (A (51 + t)) := by
      rcases hg with ⟨-, -, -, -, rfl⟩ | ⟨-, -, -, rfl, -⟩
      · rfl
      · funext j
        unfold cut rfs
        split <;> rfl
    have hup : va_up f1 n (some (A (51 + t) n)) = rfs (n + 1) (A (51 + t)) := by
      rw [hf1, rfs_s]
      congr 1
      funext j
      split
      · rename_i z
        rw [z]
      · rfl
    have hMe : M e1 = some (41 + t, 0) ∨ M e1 = none := by
      rcases hg with ⟨g1, -, rfl, -, -⟩ | ⟨-, g2, -, -, -⟩
      · exact Or.inl (hM g1)
      · exact Or.inr (M_none s g2)
    have hcap1 : n + 1 ≤ cap1 ∧ cap1 ≤ 48 := by
      rcases hg with ⟨g1, -, -, rfl, -⟩ | ⟨g1, -, rfl, -, -⟩
      · omega
      · unfold ncap
        split
        · omega
        · have : max 1 (cap / 2) ≤ 15 ∧ 1 ≤ max 1 (cap / 2) := by omega
          omega
    have hne : e1 ≠ A (31 + t) 0 := fun z => by
      rw [← z] at L0
      rcases hMe with x | x
      · rw [x] at L0
        have := congrArg (fun o => Option.map Prod.fst o) L0
        simp at this
      · rw [x] at L0
        cases L0
    rw [hup]
    obtain ⟨A', M', a1, a2, a3⟩ := list_step (H := fw_up (fw_up h1 e1 (oA cap1 (rfs (n + 1) (A (51 + t))))) (A (31 + t) 0) (lsO (n + 1) e1 (n + 1))) (cap := cap1) ht W s l3 (by rcases l5 with z | z <;> omega) (by omega) h66 hMe (by omega) (by rw [fw_up_n hne, fw_up_s]) fw_up_s (fun b b1 b2 o ho => by
      rw [fw_up_n b2, fw_up_n b1]
      rcases hg with ⟨-, rfl, -, -, -⟩ | ⟨-, -, -, -, rfl⟩
      · exact ho
      · rw [fw_up_n b1]
        exact ho)
    exact ⟨A', M', cap1, a1, a2, a3, hcap1⟩
  have call : ∀ (cap e : Nat), h (A (31 + t) 0) = some (lsO n e n) → ar G h n e cap (rfs n (A (51 + t))) → n ≤ cap → cap ≤ 48 → (n = cap → cap ≤ 31) → (n < cap → M e = some (41 + t, 0)) → PW G y Q d kc ks h pc L (.ref (A (51 + t) n) :: .ref (A (31 + t) 0) :: rest) := by
    intro cap e hA hE hn hcap hc31 hM
    have hgC : gC n cap ≤ 1 := by unfold gC; split <;> omega
    have hgS : gS n cap ≤ 48 := by
      unfold gS
      split
      · rename_i z
        have := hc31 z
        unfold ncap
        split
        · omega
        · have : max 1 (cap / 2) ≤ 15 := by omega
          omega
      · omega
    refine pw_cv hT hr ca_Jx4a65c_add_9ea2d (hy ▸ lk_X17_75) iv_Jx4a65c_add_9ea2d sv_Jx4a65c_add_9ea2d hA rfl rfl (As := [.ref (A (51 + t) n)]) (rest := rest) (kc' := kc') (ks' := ks') (j_add1 (cap := cap) (f := rfs n (A (51 + t))) hA hE hn (by omega) hcap hc h4 hca (fun i hi q hq => ?_) hw) rfl rfl h8 (Nat.le_of_ble_eq_true hd) (by omega) (by omega) ?_ (fun _ _ z => z.elim)
    · unfold rfs at hq
      rw [if_pos hi] at hq
      cases hq
      exact hel i hi
    · rintro r1 h' ⟨x, rfl, rfl, h1, e1, cap1, f1, hg, rfl⟩
      obtain ⟨A', M', cap', a1, a2, a3, a4, a5⟩ := fin cap e h1 f1 e1 cap1 hcap hn hg hM
      exact kk _ A' M' cap' a1 a2 a3 a4 a5
  rcases l5 with ⟨z1, z2, z3⟩ | ⟨z1, z2, z3, z4, z5, z6⟩
  · rw [if_pos z1, htE] at hA
    exact call 0 _ hA (Or.inl ⟨rfl, rfl, z2⟩) (by omega) (by omega) (fun _ => by omega) (fun z => absurd z (by omega))
  · rw [if_neg (by omega)] at hA
    have hE := ob (k := 41 + t) (i := 0) (by omega) (by omega)
    rw [kR41 ht, z3] at hE
    exact call _ _ hA (Or.inr ⟨hE, z5⟩) z4 (by omega) (fun z => by omega) (fun z => W.lv (by omega) (by omega))
end GRW

