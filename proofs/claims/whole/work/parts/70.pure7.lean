/-! PURE: a person's days are as the clerk's laws want them -/
theorem tw_all {α : Type} {q : α → Bool} : ∀ {l : List α}, ∀ x ∈ l.takeWhile q, q x = true
  | [], x, hx => nomatch hx
  | a :: l, x, hx => by
    by_cases c : q a = true
    · rw [List.takeWhile_cons_of_pos c] at hx
      rcases List.mem_cons.mp hx with e | hx
      · rw [e]; exact c
      · exact tw_all (l := l) x hx
    · rw [List.takeWhile_cons_of_neg c] at hx
      cases hx
theorem insA_mem {S : fw_DB} {a x : Nat} {l : List Nat} : x ∈ insA S a l ↔ x = a ∨ x ∈ l := by
  unfold insA
  rw [List.mem_append, List.mem_cons]
  have h := List.takeWhile_append_dropWhile (p := fun i => decide (S 16 i 0 ≤ S 16 a 0)) (l := l)
  constructor
  · rintro (h1 | h1 | h1)
    · exact Or.inr (h ▸ List.mem_append_left _ h1)
    · exact Or.inl h1
    · exact Or.inr (h ▸ List.mem_append_right _ h1)
  · rintro (h1 | h1)
    · exact Or.inr (Or.inl h1)
    · rw [← h] at h1
      rcases List.mem_append.mp h1 with h2 | h2
      · exact Or.inl h2
      · exact Or.inr (Or.inr h2)
def soA (S : fw_DB) (l : List Nat) : Prop := List.Pairwise (fun a b => S 16 a 0 ≤ S 16 b 0) l
theorem dw_all {S : fw_DB} {x : Nat} : ∀ {l : List Nat}, soA S l → ∀ i ∈ l.dropWhile (fun i => decide (S 16 i 0 ≤ x)), ¬ S 16 i 0 ≤ x
  | [], _, i, hi => nomatch hi
  | a :: l, h, i, hi => by
    obtain ⟨h1, h2⟩ := List.pairwise_cons.mp h
    by_cases c : S 16 a 0 ≤ x
    · rw [List.dropWhile_cons_of_pos (by simpa using c)] at hi
      exact dw_all (l := l) h2 i hi
    · rw [List.dropWhile_cons_of_neg (by simpa using c)] at hi
      rcases List.mem_cons.mp hi with e | hi
      · rw [e]; exact c
      · have := h1 i hi
        omega
theorem insA_so {S : fw_DB} {a : Nat} {l : List Nat} (h : soA S l) : soA S (insA S a l) := by
  unfold insA
  have e := List.takeWhile_append_dropWhile (p := fun i => decide (S 16 i 0 ≤ S 16 a 0)) (l := l)
  have h0 := h
  unfold soA at h
  rw [← e] at h
  obtain ⟨h1, h2, h3⟩ := List.pairwise_append.mp h
  refine List.pairwise_append.mpr ⟨h1, List.pairwise_cons.mpr ⟨fun i hi => ?_, h2⟩, fun i hi j hj => ?_⟩
  · have := dw_all h0 i hi
    omega
  · rcases List.mem_cons.mp hj with c | hj
    · rw [c]
      exact of_decide_eq_true (tw_all i hi)
    · exact h3 i hi j hj
theorem alN_so {S : fw_DB} {p : Nat} : ∀ n, soA S (alN S p n)
  | 0 => List.Pairwise.nil
  | n + 1 => by
    unfold alN
    split
    · exact insA_so (alN_so n)
    · exact alN_so n
theorem alN_mem {S : fw_DB} {p x : Nat} : ∀ {n}, x ∈ alN S p n ↔ x < n ∧ S 16 x 3 = p
  | 0 => by
    unfold alN
    simp
  | n + 1 => by
    unfold alN
    by_cases c : S 16 n 3 = p
    · rw [if_pos c, insA_mem, alN_mem]
      constructor
      · rintro (h | h)
        · subst h
          exact ⟨by omega, c⟩
        · exact ⟨by omega, h.2⟩
      · rintro ⟨h1, h2⟩
        by_cases c2 : x = n
        · exact Or.inl c2
        · exact Or.inr ⟨by omega, h2⟩
    · rw [if_neg c, alN_mem]
      constructor
      · rintro ⟨h1, h2⟩
        exact ⟨by omega, h2⟩
      · rintro ⟨h1, h2⟩
        refine ⟨?_, h2⟩
        have : x ≠ n := fun z => c (z ▸ h2)
        omega
theorem mem_alS {S : fw_DB} {p x : Nat} : x ∈ alS S p ↔ x < S 99 0 16 ∧ S 16 x 3 = p := alN_mem
theorem rk1_cB {D : fw_DB} {w : Nat} {al : List Nat} (C : cB D) (hw : w < D 99 0 13) (h5 : D 13 w 5 ≤ D 99 0 13) (h7 : D 13 w 7 ≤ D 99 0 7) : cB (rk1 al D w) := by
  have hB := C.1 w hw
  obtain ⟨b, n, r, e, he, q1, q2, q3, q4⟩ := rk_is (al := al) C hB (fun z => C.1 _ (by omega)) (fun z => C.2.1 _ (by omega))
  have hN : rk1 al D w 99 0 = D 99 0 := rk1_sc.N
  unfold cB
  rw [hN]
  refine ⟨fun v hv => ?_, fun l hl => ?_, fun i hi => ?_⟩
  · by_cases c : v = w
    · subst c
      unfold rk1
      rw [he]
      exact rset_B hB q1 q2 q3 q4
    · exact wB_c (dp_i c) (dp_k (by decide)) (C.1 v hv)
  · have : rk1 al D w 7 = D 7 := rk1_sc.kind (fun f => rfl)
    unfold lB
    rw [this]
    exact C.2.1 l hl
  · have : rk1 al D w 16 = D 16 := rk1_sc.kind (fun f => rfl)
    unfold aB
    rw [this]
    exact C.2.2 i hi
theorem rkA_cB {alf : Nat → List Nat} : ∀ {l : List Nat} {D : fw_DB}, cB D → (∀ w ∈ l, w < D 99 0 13 ∧ D 13 w 5 ≤ D 99 0 13 ∧ D 13 w 7 ≤ D 99 0 7) → cB (rkA alf D l)
  | [], _, C, _ => C
  | w :: l, D, C, h => by
    obtain ⟨h1, h2, h3⟩ := h w List.mem_cons_self
    refine rkA_cB (l := l) (rk1_cB C h1 h2 h3) (fun v hv => ?_)
    have hs : sc D (rk1 (alf w) D w) := rk1_sc
    rw [hs.N, hs 13 v 5 rfl, hs 13 v 7 rfl]
    exact h v (List.mem_cons_of_mem _ hv)
/-- what is told is sound -/
def okS (S : fw_DB) : Prop := cB S ∧ S 99 0 13 ≤ 24 ∧ okW S ∧ (∀ w, w < S 99 0 13 → S 13 w 5 ≤ S 99 0 13 ∧ S 13 w 7 ≤ S 99 0 7) ∧ ∀ r, r < S 99 0 17 → S 17 r 1 < 20000 ∧ S 17 r 1 ≤ S 17 r 4
theorem FD_cB {S : fw_DB} (h : okS S) : cB (FD S) := by
  have C : cB (FW S) := rkA_cB h.1 (fun w hw => by
    have hw := List.mem_range.mp hw
    exact ⟨hw, h.2.2.2.1 w hw⟩)
  have hN : FD S 99 0 = FW S 99 0 := (FW_sc.sy.tr FD_sc).N
  have e7 : FD S 7 = FW S 7 := (FW_sc.sy.tr FD_sc).kind (fun f => rfl)
  have e16 : FD S 16 = FW S 16 := (FW_sc.sy.tr FD_sc).kind (fun f => rfl)
  have e15 : FD S 15 = FW S 15 := (FW_sc.sy.tr FD_sc).kind (fun f => rfl)
  unfold cB
  rw [hN]
  refine ⟨fun v hv => wB_c (congrFun FD_13 v) (congrFun e15 v) (C.1 v hv), fun l hl => ?_, fun i hi => ?_⟩
  · unfold lB
    rw [e7]
    exact C.2.1 l hl
  · unfold aB
    rw [e16]
    exact C.2.2 i hi
theorem FD_fxW {S : fw_DB} {w : Nat} (h : okS S) (hw : w < S 99 0 13) : fxW (FD S) (alS S (S 13 w 1)) w := by
  have C := FD_cB h
  have hN : FD S 99 0 = S 99 0 := FD_sc.N
  have e5 : FD S 13 w 5 = S 13 w 5 := FD_sc 13 w 5 rfl
  have e7 : FD S 13 w 7 = S 13 w 7 := FD_sc 13 w 7 rfl
  have q := h.2.2.2.1 w hw
  have hB : wB (FD S) w := C.1 w (by rw [hN]; exact hw)
  refine ⟨?_, wbeg_ok hB (fun z => C.1 _ (by rw [hN]; omega)), wneed_le hB (fun z => C.2.1 _ (by rw [hN]; omega)), ?_⟩
  · rw [FD_13, FW_fix h.2.2.1 hw]
    exact rkRow_c (FW_sc.sy.tr FD_sc) (fun _ => by rw [FD_13])
  · rw [FD_sc 13 w 2 rfl]
    exact (h.2.2.1 w hw).1
theorem FD_fxR {S : fw_DB} {r : Nat} (h : okS S) (hr : r < S 99 0 17) : fxR (FD S) (sB (FD S 10 (S 17 r 0))) (wlS S (S 17 r 0)) r := by
  have q := h.2.2.2.2 r hr
  refine ⟨?_, ?_, ?_, Nat.le_trans wlS_len h.2.1⟩
  · have e2 : FD S 17 r 5 = rcu (FW S) (sB (FW S 10 (FW S 17 r 0))) r (wlS S (S 17 r 0)) := by
      unfold FD
      exact rcA_fix (wf := fun r => wlS S (S 17 r 0)) (pw_nd List.pairwise_lt_range) r (List.mem_range.mpr hr)
    rw [e2, FW_sc 17 r 0 rfl, show FW S 10 = S 10 from FW_sc.kind (fun f => rfl), show FD S 10 = S 10 from FD_sc.kind (fun f => rfl)]
    exact rcu_c (fun w _ => by rw [FD_13]) (FW_sc.sy.tr FD_sc)
  · rw [FD_sc 17 r 1 rfl]
    exact q.1
  · rw [FD_sc 17 r 1 rfl, FD_sc 17 r 4 rfl]
    exact q.2
theorem fxP_FD {S : fw_DB} {p : Nat} (h : okS S) : fxP (FD S) p (wlS S p) (alS S p) (rlS S p) := by
  refine ⟨fun w hw => ?_, wlS_pw, ?_, fun r hr => ?_, rlS_nd⟩
  · obtain ⟨h1, h2⟩ := mem_wlS.mp hw
    have e := FD_fxW h h1
    rw [h2] at e
    refine ⟨e, by rw [FD_sc 13 w 1 rfl]; exact h2, fun z => ?_⟩
    rw [FD_sc 13 w 5 rfl] at z ⊢
    obtain ⟨q1, q2⟩ := (h.2.2.1 w h1).2 z
    exact ⟨mem_wlS.mpr ⟨by omega, q2.trans h2⟩, q1⟩
  · have e16 : FD S 16 = S 16 := FD_sc.kind (fun f => rfl)
    rw [e16]
    exact alN_so _
  · obtain ⟨h1, h2⟩ := mem_rlS.mp hr
    have e := FD_fxR h h1
    rw [h2] at e
    exact e
/-- the state of a person on a day -/
def stS (S : fw_DB) (p d : Nat) : Nat := stt (FD S) (sB (S 10 p)) d (wlS S p) (rlS S p)
/-- by the days reckoned for the person alone -/
theorem stS_prk {S D : fw_DB} {p d : Nat} (h : okS S) (hs : sc S D) : stt (prk D (wlS S p) (alS S p) (rlS S p)) (sB (prk D (wlS S p) (alS S p) (rlS S p) 10 p)) d (wlS S p) (rlS S p) = stS S p d := by
  have hp : sc S (prk D (wlS S p) (alS S p) (rlS S p)) := by
    unfold prk
    rw [rkAll_A, rcAll_A]
    exact (hs.tr rkA_sc).tr rcA_sc
  obtain ⟨h1, h2⟩ := prk_FD (p := p) h.2.2.1 hs
  unfold stS
  rw [show prk D (wlS S p) (alS S p) (rlS S p) 10 = S 10 from hp.kind (fun f => rfl)]
  exact stt_c h1 (fun r hr => ⟨by rw [hp 17 r 1 rfl, FD_sc 17 r 1 rfl], h2 r hr⟩)
/-- by the clerk -/
theorem stS_clerk {S D : fw_DB} {p d : Nat} (h : okS S) (hs : sc S D) (hd : d < 20000) : cpS p d (wlS S p) (cEE p (wlS S p) (alS S p) (rlS S p) D d).2 (rlS S p) (cEE p (wlS S p) (alS S p) (rlS S p) D d).1 = stS S p d := by
  rw [clerk_is (fxP_FD h) (hs.sy.tr FD_sc) hd, show FD S 10 = S 10 from FD_sc.kind (fun f => rfl)]
  rfl
/-- the clerk's test holds -/
theorem agree_is {S D : fw_DB} {p d : Nat} (h : okS S) (hs : sc S D) (hd : d < 20000) :
    cpS p d (wlS S p) (cEE p (wlS S p) (alS S p) (rlS S p) (prk D (wlS S p) (alS S p) (rlS S p)) d).2 (rlS S p) (cEE p (wlS S p) (alS S p) (rlS S p) (prk D (wlS S p) (alS S p) (rlS S p)) d).1 = stt (cEE p (wlS S p) (alS S p) (rlS S p) (prk D (wlS S p) (alS S p) (rlS S p)) (d + 1)).1 (sB ((cEE p (wlS S p) (alS S p) (rlS S p) (prk D (wlS S p) (alS S p) (rlS S p)) (d + 1)).1 10 p)) d (wlS S p) (rlS S p) := by
  have hp : sc S (prk D (wlS S p) (alS S p) (rlS S p)) := by
    unfold prk
    rw [rkAll_A, rcAll_A]
    exact (hs.tr rkA_sc).tr rcA_sc
  rw [stS_clerk h hp hd, ← stS_prk (D := D) h hs]
  generalize prk D (wlS S p) (alS S p) (rlS S p) = P
  have h2 := cEE_2 (p := p) (wl := wlS S p) (al := alS S p) (rl := rlS S p) (D := P) (d + 1)
  generalize (cEE p (wlS S p) (alS S p) (rlS S p) P (d + 1)).1 = E at *
  rw [show E 10 = P 10 from funext fun j => funext fun f => h2 10 j f rfl]
  exact stt_c (fun w _ => funext fun f => (h2 13 w f rfl).symm) (fun r _ => ⟨(h2 17 r 1 rfl).symm, (h2 17 r 5 rfl).symm⟩)
