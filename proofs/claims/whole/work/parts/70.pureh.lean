/-! PURE: persons, one more -/
def zz : Nat → Nat := fun _ => 0
/-- a person told -/
def peS (D : fw_DB) : fw_DB := dp (dp (dp D 10 (D 99 0 8) zz) 12 (D 99 0 8) zz) 99 0 (va_up (D 99 0) 8 (D 99 0 8 + 1))
def pe5 (D : fw_DB) (p : Nat) : fw_DB := dn (dn (dn (dn (dn D 10 p zz) 9 p zz) 12 p zz) 11 p zz) 8 p zz
def peT (D : fw_DB) : fw_DB := dp (pe5 D (D 99 0 8)) 2 0 (va_up (pe5 D (D 99 0 8) 2 0) 0 (D 99 0 8 + 1))
def peD (D : fw_DB) : fw_DB := dp (peT D) 0 0 (va_up (peT D 0 0) 6 (D 99 0 8 + 1))
theorem pe5_k {D : fw_DB} {p k : Nat} (h : k ≠ 8 ∧ k ≠ 9 ∧ k ≠ 10 ∧ k ≠ 11 ∧ k ≠ 12 ∧ k ≠ 99) : pe5 D p k = D k := by
  obtain ⟨h8, h9, h10, h11, h12, h99⟩ := h
  unfold pe5
  rw [dn_k h8 h99, dn_k h11 h99, dn_k h12 h99, dn_k h9 h99, dn_k h10 h99]
theorem pe5_N {D : fw_DB} {p : Nat} (f : Nat) : pe5 D p 99 0 f = if f = 8 ∨ f = 9 ∨ f = 10 ∨ f = 11 ∨ f = 12 then p + 1 else D 99 0 f := by
  unfold pe5
  rw [dn_N, dn_N, dn_N, dn_N, dn_N]
  by_cases h8 : f = 8
  · rw [if_pos h8, if_pos (Or.inl h8)]
  · rw [if_neg h8]
    by_cases h11 : f = 11
    · rw [if_pos h11, if_pos (by omega)]
    · rw [if_neg h11]
      by_cases h12 : f = 12
      · rw [if_pos h12, if_pos (by omega)]
      · rw [if_neg h12]
        by_cases h9 : f = 9
        · rw [if_pos h9, if_pos (by omega)]
        · rw [if_neg h9]
          by_cases h10 : f = 10
          · rw [if_pos h10, if_pos (by omega)]
          · rw [if_neg h10, if_neg (by omega)]
theorem pe5_p {D : fw_DB} {p k j : Nat} (h : k = 8 ∨ k = 10 ∨ k = 12) : pe5 D p k j = if j = p then zz else D k j := by
  unfold pe5
  by_cases c : j = p
  · subst c
    rw [if_pos rfl]
    rcases h with h | h | h
    · subst h
      exact dn_s (by decide)
    · subst h
      rw [dn_k (by decide) (by decide), dn_k (by decide) (by decide), dn_k (by decide) (by decide), dn_k (by decide) (by decide)]
      exact dn_s (by decide)
    · subst h
      rw [dn_k (by decide) (by decide), dn_k (by decide) (by decide)]
      exact dn_s (by decide)
  · rw [if_neg c]
    rcases h with h | h | h
    · subst h
      rw [dn_i c (by decide), dn_k (by decide) (by decide), dn_k (by decide) (by decide), dn_k (by decide) (by decide), dn_k (by decide) (by decide)]
    · subst h
      rw [dn_k (by decide) (by decide), dn_k (by decide) (by decide), dn_k (by decide) (by decide), dn_k (by decide) (by decide), dn_i c (by decide)]
    · subst h
      rw [dn_k (by decide) (by decide), dn_k (by decide) (by decide), dn_i c (by decide), dn_k (by decide) (by decide), dn_k (by decide) (by decide)]
theorem peD_5 {D : fw_DB} {k : Nat} (h : k ≠ 0 ∧ k ≠ 2) : peD D k = pe5 D (D 99 0 8) k := funext fun j => by
  unfold peD peT
  rw [dp_k h.1, dp_k h.2]
theorem peD_k {D : fw_DB} {k : Nat} (h : k ≠ 0 ∧ k ≠ 2 ∧ k ≠ 8 ∧ k ≠ 9 ∧ k ≠ 10 ∧ k ≠ 11 ∧ k ≠ 12 ∧ k ≠ 99) : peD D k = D k := (peD_5 ⟨h.1, h.2.1⟩).trans (pe5_k h.2.2)
theorem fil_nil {l : List Nat} {q : Nat → Bool} (h : ∀ w ∈ l, q w = false) : l.filter q = [] := List.filter_eq_nil_iff.mpr (fun a ha => by rw [h a ha]; decide)
theorem icd_per {n : Nat} {D : fw_DB} (h : ICd n D) (hP : D 99 0 8 < 6) : ICd (n + 1) (peD D) := by
  obtain ⟨⟨C, R, h24⟩, m, ⟨hb, ht⟩, nn, pp, okw, okx⟩ := h
  have eN : ∀ f, peD D 99 0 f = if f = 8 ∨ f = 9 ∨ f = 10 ∨ f = 11 ∨ f = 12 then D 99 0 8 + 1 else D 99 0 f := fun f => by
    rw [peD_5 (by decide)]
    exact pe5_N f
  have kk : ∀ q, q ≠ 0 ∧ q ≠ 2 ∧ q ≠ 8 ∧ q ≠ 9 ∧ q ≠ 10 ∧ q ≠ 11 ∧ q ≠ 12 ∧ q ≠ 99 → peD D q = D q := fun q hq => peD_k hq
  have e13 := kk 13 (by decide)
  have e14 := kk 14 (by decide)
  have e15 := kk 15 (by decide)
  have e16 := kk 16 (by decide)
  have e17 := kk 17 (by decide)
  have e7 := kk 7 (by decide)
  have e6 := kk 6 (by decide)
  have e1 := kk 1 (by decide)
  have e3 := kk 3 (by decide)
  have e4 := kk 4 (by decide)
  have eP : ∀ k j, k = 8 ∨ k = 10 ∨ k = 12 → peD D k j = if j = D 99 0 8 then zz else D k j := fun k j hk => by
    rw [peD_5 (by omega)]
    exact pe5_p hk
  have b13 : peD D 99 0 13 = D 99 0 13 := by rw [eN]; rfl
  have b7 : peD D 99 0 7 = D 99 0 7 := by rw [eN]; rfl
  have b8 : peD D 99 0 8 = D 99 0 8 + 1 := by rw [eN]; rfl
  have b16 : peD D 99 0 16 = D 99 0 16 := by rw [eN]; rfl
  have b17 : peD D 99 0 17 = D 99 0 17 := by rw [eN]; rfl
  have ew : ∀ q, wlS (peD D) q = wlS D q := fun q => wlS_c b13 (fun w _ => by rw [e13])
  have er : ∀ q, rlS (peD D) q = rlS D q := fun q => rlS_c b17 (fun w _ => by rw [e17])
  have ea : ∀ q, alS (peD D) q = alS D q := fun q => by
    unfold alS
    rw [b16]
    exact alN_c2 (fun i _ => by rw [e16]; exact ⟨rfl, rfl⟩)
  refine ⟨⟨⟨fun v hv => ?_, fun l hl => ?_, fun i hi => ?_⟩, fun r hr => ?_, by rw [b13]; exact h24⟩, ?_, ⟨⟨fun d hd => by rw [e6]; exact hb.1 d hd, fun q d hd => ?_⟩, fun j hj => ?_⟩, ?_, fun q hq => ?_, fun v hv => ?_, fun v hv => ?_, fun a ha => ?_, fun r hr => ?_⟩
  · rw [b13] at hv
    exact wB_c (congrFun e13 v) (congrFun e15 v) (C.1 v hv)
  · rw [b7] at hl
    unfold lB
    rw [e7]
    exact C.2.1 l hl
  · rw [b16] at hi
    unfold aB
    rw [e16]
    exact C.2.2 i hi
  · rw [b17] at hr
    unfold rB
    rw [e17]
    exact R r hr
  · obtain ⟨⟨m0, m1, m2, m3, m4, m5, m6⟩, ⟨m7, m8, m9, m10⟩, ⟨m11, m12, m13, m14, m15⟩, n7, n8, n13, n16, n17⟩ := m
    have e0 : ∀ f, peD D 0 0 f = if f = 6 then D 99 0 8 + 1 else D 0 0 f := fun f => by
      have q : peT D 0 0 = D 0 0 := by
        unfold peT
        rw [dp_k (by decide)]
        exact congrFun (pe5_k (by decide)) 0
      unfold peD
      rw [dp_s, q]
      rfl
    have e2 : peD D 2 0 0 = D 99 0 8 + 1 := by
      unfold peD peT
      rw [dp_k (by decide), dp_s]
      rfl
    unfold mI
    rw [e1, e2, e3, e4, e0, e0, e0, e0, e0, b7, b8, b13, b16, b17]
    simp only [eN]
    exact ⟨⟨m0, m1, m2, m3, m4, m5, m6⟩, ⟨m7, by trivial, m9, m10⟩, ⟨m11, by trivial, m13, m14, m15⟩, n7, hP, n13, n16, n17⟩
  · rw [eP 10 q (by omega), eP 12 q (by omega)]
    by_cases c : q = D 99 0 8
    · rw [if_pos c, if_pos c]
      exact ⟨rfl, rfl⟩
    · rw [if_neg c, if_neg c]
      exact hb.2 q d hd
  · rw [b13] at hj
    rw [e14]
    exact ht j hj
  · unfold nN at nn ⊢
    simp only [eN]
    exact ⟨by trivial, by trivial, by trivial, by trivial, nn.2.2.2.2⟩
  · rw [b8] at hq
    unfold pO pL
    rw [ew, er, ea, b13, b16, b17, b8, e13, e16, e17, eP 8 q (by omega)]
    by_cases c : q = D 99 0 8
    · rw [if_pos c]
      have w0 : wlS D q = [] := fil_nil (fun w hw => by
        have := (okx.1 w (List.mem_range.mp hw)).2.2.2.2.1
        rw [decide_eq_false (by omega)])
      have r0 : rlS D q = [] := fil_nil (fun r hr => by
        have := (okx.2.2 r (List.mem_range.mp hr)).2.2.2
        rw [decide_eq_false (by omega)])
      have a0 : alS D q = [] := by
        cases ha : alS D q with
        | nil => rfl
        | cons x l =>
          have hx : x ∈ alS D q := by rw [ha]; exact List.mem_cons_self
          obtain ⟨x1, x2⟩ := mem_alS.mp hx
          have := okx.2.1 x x1
          omega
      rw [w0, r0, a0]
      exact ⟨⟨rfl, fun i hi => (nomatch hi), rfl, fun i hi => (nomatch hi), rfl, fun i hi => (nomatch hi), hq⟩, rfl, rfl, rfl⟩
    · rw [if_neg c]
      obtain ⟨⟨p1, p2, p3, p4, p5, p6, p7⟩, p8⟩ := pp q (by omega)
      exact ⟨⟨p1, p2, p3, p4, p5, p6, hq⟩, p8⟩
  · rw [b13] at hv
    rw [e13]
    exact okw v hv
  · rw [b13] at hv
    have q1 : ∀ n, lwN (peD D) v n = lwN D v n := fun n => by
      induction n with
      | zero => rfl
      | succ n ih =>
        unfold lwN
        rw [ih, e13, e7]
    have x := (okX_up okx).1 v hv
    rw [e13, b7, b8, b13, q1]
    exact ⟨x.1, x.2.1, x.2.2.1, x.2.2.2.1, by have := x.2.2.2.2.1; omega, x.2.2.2.2.2⟩
  · rw [b16] at ha
    rw [b8, e16]
    have := okx.2.1 a ha
    omega
  · rw [b17] at hr
    rw [b13, b8, e17]
    have x := okx.2.2 r hr
    exact ⟨x.1, x.2.1, x.2.2.1, by have := x.2.2.2; omega⟩
theorem pe_es {D : fw_DB} : esq (peS D) (peD D) := fun q i f hf => by
  have hq : q ≠ 0 ∧ q ≠ 2 ∧ q ≠ 8 ∧ q ≠ 9 ∧ q ≠ 11 := ⟨fun z => (by subst z; cases hf), fun z => (by subst z; cases hf), fun z => (by subst z; cases hf), fun z => (by subst z; cases hf), fun z => (by subst z; cases hf)⟩
  rw [peD_5 ⟨hq.1, hq.2.1⟩]
  unfold peS
  by_cases c9 : q = 99
  · subst c9
    by_cases c2 : i = 0
    · subst c2
      rw [pe5_N, dp_s]
      have hf : (decide (f = 7) || decide (f = 8) || decide (f = 13) || decide (f = 16) || decide (f = 17)) = true := hf
      show _ = if f = 8 then _ else _
      by_cases c8 : f = 8
      · rw [if_pos (Or.inl c8), if_pos c8]
      · have : ¬ (f = 8 ∨ f = 9 ∨ f = 10 ∨ f = 11 ∨ f = 12) := by
          simp only [Bool.or_eq_true, decide_eq_true_eq] at hf
          omega
        rw [if_neg this, if_neg c8]
    · rw [dp_i c2, dp_k (by decide), dp_k (by decide)]
      unfold pe5
      rw [dn_i9 c2 (by decide), dn_i9 c2 (by decide), dn_i9 c2 (by decide), dn_i9 c2 (by decide), dn_i9 c2 (by decide)]
  · rw [dp_k c9]
    by_cases c12 : q = 12
    · subst c12
      rw [pe5_p (by omega)]
      by_cases c : i = D 99 0 8
      · rw [if_pos c, c, dp_s]
      · rw [if_neg c, dp_i c, dp_k (by decide)]
    · rw [dp_k c12]
      by_cases c10 : q = 10
      · subst c10
        rw [pe5_p (by omega)]
        by_cases c : i = D 99 0 8
        · rw [if_pos c, c, dp_s]
        · rw [if_neg c, dp_i c]
      · rw [dp_k c10, pe5_k ⟨hq.2.2.1, hq.2.2.2.1, c10, hq.2.2.2.2, c12, c9⟩]
theorem pe_hi {D : fw_DB} : hik D (peD D) := ⟨fun q hq h9 => peD_k (by omega), fun f hf => by
  rw [peD_5 (by decide), pe5_N, if_neg (by omega)]⟩
