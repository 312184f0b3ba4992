/-! PURE: terms told anew, laws, one more -/
theorem icd_15 {n w : Nat} {D : fw_DB} {g : Nat → Nat} (h : ICd n D) (hg : g 0 ≤ 40 ∧ g 1 ≤ 11 ∧ g 2 ≤ 9999) : ICd (n + 1) (dp D 15 w g) := by
  obtain ⟨⟨C, R, h24⟩, m, ⟨hb, ht⟩, nn, pp, okw, okx⟩ := h
  have e : ∀ q, q ≠ 15 → dp D 15 w g q = D q := fun q hq => funext fun j => dp_k hq
  have s : st D (dp D 15 w g) → False ∨ True := fun _ => Or.inr trivial
  have ew : ∀ q, wlS (dp D 15 w g) q = wlS D q := fun q => wlS_c (by rw [e 99 (by decide)]) (fun w _ => by rw [e 13 (by decide)])
  have er : ∀ q, rlS (dp D 15 w g) q = rlS D q := fun q => rlS_c (by rw [e 99 (by decide)]) (fun w _ => by rw [e 17 (by decide)])
  have ea : ∀ q, alS (dp D 15 w g) q = alS D q := fun q => by
    unfold alS
    rw [e 99 (by decide)]
    exact alN_c2 (fun i _ => by rw [e 16 (by decide)]; exact ⟨rfl, rfl⟩)
  refine ⟨⟨⟨fun v hv => ?_, fun l hl => ?_, fun i hi => ?_⟩, fun r hr => ?_, by rw [e 99 (by decide)]; exact h24⟩, ?_, ⟨⟨fun d hd => by rw [e 6 (by decide)]; exact hb.1 d hd, fun q d hd => by rw [e 10 (by decide), e 12 (by decide)]; exact hb.2 q d hd⟩, fun j hj => ?_⟩, ?_, fun q hq => ?_, fun v hv => ?_, fun v hv => ?_, fun a ha => ?_, fun r hr => ?_⟩
  · rw [e 99 (by decide)] at hv
    have B := C.1 v hv
    unfold wB at B ⊢
    rw [e 13 (by decide)]
    refine ⟨B.1, B.2.1, B.2.2.1, B.2.2.2.1, B.2.2.2.2.1, B.2.2.2.2.2.1, ?_, B.2.2.2.2.2.2.2⟩
    by_cases c : v = w
    · subst c
      rw [dp_s]
      exact hg
    · rw [dp_i c]
      exact B.2.2.2.2.2.2.1
  · rw [e 99 (by decide)] at hl
    unfold lB
    rw [e 7 (by decide)]
    exact C.2.1 l hl
  · rw [e 99 (by decide)] at hi
    unfold aB
    rw [e 16 (by decide)]
    exact C.2.2 i hi
  · rw [e 99 (by decide)] at hr
    unfold rB
    rw [e 17 (by decide)]
    exact R r hr
  · unfold mI at m ⊢
    rw [e 99 (by decide), e 1 (by decide), e 2 (by decide), e 3 (by decide), e 4 (by decide), e 0 (by decide)]
    exact m
  · rw [e 99 (by decide)] at hj
    rw [e 14 (by decide)]
    exact ht j hj
  · unfold nN at nn ⊢
    rw [e 99 (by decide)]
    exact nn
  · rw [e 99 (by decide)] at hq
    have p := pp q hq
    unfold pO pL at p ⊢
    rw [ew, er, ea, e 99 (by decide), e 13 (by decide), e 8 (by decide), e 16 (by decide), e 17 (by decide)]
    exact p
  · rw [e 99 (by decide)] at hv
    rw [e 13 (by decide)]
    exact okw v hv
  · rw [e 99 (by decide)] at hv
    have q1 : ∀ n, lwN (dp D 15 w g) v n = lwN D v n := fun n => by
      induction n with
      | zero => rfl
      | succ n ih =>
        unfold lwN
        rw [ih, e 13 (by decide), e 7 (by decide)]
    rw [e 13 (by decide), e 99 (by decide), q1]
    exact (okX_up okx).1 v hv
  · rw [e 99 (by decide)] at ha
    rw [e 99 (by decide), e 16 (by decide)]
    exact okx.2.1 a ha
  · rw [e 99 (by decide)] at hr
    rw [e 99 (by decide), e 17 (by decide)]
    exact okx.2.2 r hr
/-- warrants that a law comes to -/
def lwA (D : fw_DB) (l : Nat) : Nat → fw_DB
  | 0 => D
  | i + 1 => if i < D 99 0 13 then dp (lwA D l i) 13 i (if wapp (lwA D l i 13 i) (lwA D l i 7 l) = true then va_up (lwA D l i 13 i) 7 (l + 1) else lwA D l i 13 i) else lwA D l i
theorem lwA_k {D : fw_DB} {l k : Nat} (h : k ≠ 13) : ∀ i, lwA D l i k = D k
  | 0 => rfl
  | i + 1 => by
    unfold lwA
    split
    · exact (funext fun j => dp_k h).trans (lwA_k h i)
    · exact lwA_k h i
theorem lwA_f {D : fw_DB} {l : Nat} : ∀ i w f, f ≠ 7 → lwA D l i 13 w f = D 13 w f
  | 0, _, _, _ => rfl
  | i + 1, w, f, h => by
    unfold lwA
    split
    · by_cases c : w = i
      · subst c
        rw [dp_s]
        split
        · exact (if_neg h).trans (lwA_f w w f h)
        · exact lwA_f w w f h
      · rw [dp_i c]
        exact lwA_f i w f h
    · exact lwA_f i w f h
theorem wapp_f {g g' lg : Nat → Nat} (h : ∀ f, f ≠ 7 → g' f = g f) : wapp g' lg = wapp g lg := by
  unfold wapp wfx
  rw [h 2 (by decide), h 3 (by decide), h 4 (by decide)]
theorem lwA_7 {D : fw_DB} {l : Nat} : ∀ i w, w < D 99 0 13 → lwA D l i 13 w 7 = if w < i ∧ wapp (D 13 w) (D 7 l) = true then l + 1 else D 13 w 7
  | 0, w, _ => by rw [if_neg (fun z => absurd z.1 (by omega))]; rfl
  | i + 1, w, hw => by
    have ih := lwA_7 (D := D) (l := l) i w hw
    have ew : wapp (lwA D l i 13 i) (lwA D l i 7 l) = wapp (D 13 i) (D 7 l) := by
      rw [show lwA D l i 7 = D 7 from lwA_k (by decide) i]
      exact wapp_f (g := D 13 i) (g' := lwA D l i 13 i) (fun f hf => lwA_f i i f hf)
    unfold lwA
    by_cases c : i < D 99 0 13
    · rw [if_pos c]
      by_cases c2 : w = i
      · subst c2
        rw [dp_s, ew]
        by_cases c3 : wapp (D 13 w) (D 7 l) = true
        · rw [if_pos c3, if_pos ⟨by omega, c3⟩]
          rfl
        · rw [if_neg c3, if_neg (fun z => c3 z.2), ih, if_neg (fun z => c3 z.2)]
      · rw [dp_i c2, ih]
        by_cases c3 : wapp (D 13 w) (D 7 l) = true
        · by_cases c4 : w < i
          · rw [if_pos ⟨c4, c3⟩, if_pos ⟨by omega, c3⟩]
          · rw [if_neg (fun z => c4 z.1), if_neg (fun z => c4 (by have := z.1; omega))]
        · rw [if_neg (fun z => c3 z.2), if_neg (fun z => c3 z.2)]
    · rw [if_neg c, ih]
      by_cases c3 : wapp (D 13 w) (D 7 l) = true
      · rw [if_pos ⟨by omega, c3⟩, if_pos ⟨by omega, c3⟩]
      · rw [if_neg (fun z => c3 z.2), if_neg (fun z => c3 z.2)]
theorem lwA_o {D : fw_DB} {l : Nat} : ∀ i w, ¬ w < D 99 0 13 → lwA D l i 13 w = D 13 w
  | 0, _, _ => rfl
  | i + 1, w, hw => by
    unfold lwA
    split
    · rw [dp_i (by omega)]
      exact lwA_o i w hw
    · exact lwA_o i w hw
def lwG (o fr e b : Nat) : Nat → Nat := fun f => if f = 1 then o else if f = 2 then fr else if f = 3 then e else if f = 4 then b else 0
/-- a law told -/
def lwS (D : fw_DB) (o fr e b : Nat) : fw_DB := dn D 7 (D 99 0 7) (lwG o fr e b)
def lwT (D : fw_DB) (o fr e b : Nat) : fw_DB := dp (lwS D o fr e b) 1 0 (va_up (lwS D o fr e b 1 0) 0 (D 99 0 7 + 1))
def lwU (D : fw_DB) (o fr e b : Nat) : fw_DB := dp (lwT D o fr e b) 0 0 (va_up (lwT D o fr e b 0 0) 5 (D 99 0 7 + 1))
def lwD (D : fw_DB) (o fr e b : Nat) : fw_DB := lwA (lwU D o fr e b) (D 99 0 7) 24
theorem lwU_k {D : fw_DB} {o fr e b q : Nat} (h : q ≠ 0 ∧ q ≠ 1 ∧ q ≠ 7 ∧ q ≠ 99) : lwU D o fr e b q = D q := by
  obtain ⟨h0, h1, h7, h99⟩ := h
  unfold lwU lwT
  rw [show dp (dp (lwS D o fr e b) 1 0 (va_up (lwS D o fr e b 1 0) 0 (D 99 0 7 + 1))) 0 0 (va_up (dp (lwS D o fr e b) 1 0 (va_up (lwS D o fr e b 1 0) 0 (D 99 0 7 + 1)) 0 0) 5 (D 99 0 7 + 1)) q = lwS D o fr e b q from funext fun j => by rw [dp_k h0, dp_k h1]]
  exact dn_k h7 h99
theorem lwU_99 {D : fw_DB} {o fr e b : Nat} : lwU D o fr e b 99 = lwS D o fr e b 99 := funext fun j => by
  unfold lwU lwT
  rw [dp_k (by decide), dp_k (by decide)]
theorem lwU_N {D : fw_DB} {o fr e b : Nat} (f : Nat) : lwU D o fr e b 99 0 f = if f = 7 then D 99 0 7 + 1 else D 99 0 f := by
  rw [lwU_99]
  exact dn_N f
theorem lwU_7 {D : fw_DB} {o fr e b l : Nat} : lwU D o fr e b 7 l = if l = D 99 0 7 then lwG o fr e b else D 7 l := by
  have q : lwU D o fr e b 7 = lwS D o fr e b 7 := funext fun j => by
    unfold lwU lwT
    rw [dp_k (by decide), dp_k (by decide)]
  rw [q]
  split
  · rename_i c
    rw [c]
    exact dn_s (by decide)
  · rename_i c
    exact dn_i c (by decide)
theorem lwN_c2 {D D' : fw_DB} {w : Nat} : ∀ {n}, (∀ i, i < n → wapp (D' 13 w) (D' 7 i) = wapp (D 13 w) (D 7 i)) → lwN D' w n = lwN D w n
  | 0, _ => rfl
  | n + 1, e => by
    unfold lwN
    rw [lwN_c2 (fun i hi => e i (by omega)), e n (by omega)]
theorem icd_law {n o fr e b : Nat} {D : fw_DB} (h : ICd n D) (hfr : fr < 20000) (he : e ≤ 8) (hL : D 99 0 7 < 8) : ICd (n + 1) (lwD D o fr e b) := by
  obtain ⟨⟨C, R, h24⟩, m, ⟨hb, ht⟩, nn, pp, okw, okx⟩ := h
  have eN := fun f => lwU_N (D := D) (o := o) (fr := fr) (e := e) (b := b) f
  have a13 : lwU D o fr e b 99 0 13 = D 99 0 13 := by rw [eN]; rfl
  have k9 : lwD D o fr e b 99 = lwU D o fr e b 99 := lwA_k (by decide) _
  have kk : ∀ q, q ≠ 13 → q ≠ 0 ∧ q ≠ 1 ∧ q ≠ 7 ∧ q ≠ 99 → lwD D o fr e b q = D q := fun q h13 hq => (lwA_k h13 _).trans (lwU_k hq)
  have e14 := kk 14 (by decide) (by decide)
  have e15 := kk 15 (by decide) (by decide)
  have e16 := kk 16 (by decide) (by decide)
  have e17 := kk 17 (by decide) (by decide)
  have e6 := kk 6 (by decide) (by decide)
  have e8 := kk 8 (by decide) (by decide)
  have e10 := kk 10 (by decide) (by decide)
  have e12 := kk 12 (by decide) (by decide)
  have e2 := kk 2 (by decide) (by decide)
  have e3 := kk 3 (by decide) (by decide)
  have e4 := kk 4 (by decide) (by decide)
  have e13U : lwU D o fr e b 13 = D 13 := lwU_k (by decide)
  have f13 : ∀ w f, f ≠ 7 → lwD D o fr e b 13 w f = D 13 w f := fun w f hf => by
    unfold lwD
    rw [lwA_f _ _ _ hf, e13U]
  have e7 : ∀ l, lwD D o fr e b 7 l = if l = D 99 0 7 then lwG o fr e b else D 7 l := fun l => by
    unfold lwD
    rw [lwA_k (by decide), lwU_7]
  have f7 : ∀ w, w < D 99 0 13 → lwD D o fr e b 13 w 7 = if wapp (D 13 w) (lwG o fr e b) = true then D 99 0 7 + 1 else D 13 w 7 := fun w hw => by
    unfold lwD
    rw [lwA_7 24 w (by rw [a13]; exact hw), e13U, lwU_7, if_pos rfl]
    by_cases c : wapp (D 13 w) (lwG o fr e b) = true
    · rw [if_pos ⟨by omega, c⟩, if_pos c]
    · rw [if_neg (fun z => c z.2), if_neg c]
  have b13 : lwD D o fr e b 99 0 13 = D 99 0 13 := by rw [k9, a13]
  have b7 : lwD D o fr e b 99 0 7 = D 99 0 7 + 1 := by rw [k9, eN]; rfl
  have b8 : lwD D o fr e b 99 0 8 = D 99 0 8 := by rw [k9, eN]; rfl
  have b16 : lwD D o fr e b 99 0 16 = D 99 0 16 := by rw [k9, eN]; rfl
  have b17 : lwD D o fr e b 99 0 17 = D 99 0 17 := by rw [k9, eN]; rfl
  have ew : ∀ q, wlS (lwD D o fr e b) q = wlS D q := fun q => wlS_c b13 (fun w _ => f13 w 1 (by decide))
  have er : ∀ q, rlS (lwD D o fr e b) q = rlS D q := fun q => rlS_c b17 (fun w _ => by rw [e17])
  have ea : ∀ q, alS (lwD D o fr e b) q = alS D q := fun q => by
    unfold alS
    rw [b16]
    exact alN_c2 (fun i _ => by rw [e16]; exact ⟨rfl, rfl⟩)
  refine ⟨⟨⟨fun v hv => ?_, fun l hl => ?_, fun i hi => ?_⟩, fun r hr => ?_, by rw [b13]; exact h24⟩, ?_, ⟨⟨fun d hd => by rw [e6]; exact hb.1 d hd, fun q d hd => by rw [e10, e12]; exact hb.2 q d hd⟩, fun j hj => ?_⟩, ?_, fun q hq => ?_, fun v hv => ?_, fun v hv => ?_, fun a ha => ?_, fun r hr => ?_⟩
  · rw [b13] at hv
    have B := C.1 v hv
    unfold wB at B ⊢
    rw [e15, f13 v 2 (by decide), f13 v 3 (by decide), f13 v 4 (by decide), f13 v 9 (by decide), f13 v 10 (by decide), f13 v 11 (by decide), f13 v 12 (by decide), f13 v 14 (by decide), f13 v 15 (by decide), f13 v 16 (by decide), f13 v 17 (by decide)]
    exact B
  · rw [b7] at hl
    unfold lB
    rw [e7]
    by_cases c : l = D 99 0 7
    · rw [if_pos c]
      exact ⟨hfr, he⟩
    · rw [if_neg c]
      exact C.2.1 l (by omega)
  · rw [b16] at hi
    unfold aB
    rw [e16]
    exact C.2.2 i hi
  · rw [b17] at hr
    unfold rB
    rw [e17]
    exact R r hr
  · obtain ⟨⟨m0, m1, m2, m3, m4, m5, m6⟩, ⟨m7, m8, m9, m10⟩, ⟨m11, m12, m13, m14, m15⟩, n7, n8, n13, n16, n17⟩ := m
    have e1 : lwD D o fr e b 1 0 0 = D 99 0 7 + 1 := by
      unfold lwD
      rw [lwA_k (by decide)]
      unfold lwU lwT
      rw [dp_k (by decide), dp_s]
      rfl
    have e0 : ∀ f, lwD D o fr e b 0 0 f = if f = 5 then D 99 0 7 + 1 else D 0 0 f := fun f => by
      have q : lwT D o fr e b 0 0 = D 0 0 := by
        unfold lwT
        rw [dp_k (by decide)]
        exact congrFun (dn_k (by decide) (by decide)) 0
      unfold lwD
      rw [lwA_k (by decide)]
      unfold lwU
      rw [dp_s, q]
      rfl
    unfold mI
    rw [e1, e2, e3, e4, e0, e0, e0, e0, e0, b7, b8, b13, b16, b17]
    simp only [k9, eN]
    exact ⟨⟨m0, m1, m2, m3, m4, m5, m6⟩, ⟨by trivial, m8, m9, m10⟩, ⟨by trivial, m12, m13, m14, m15⟩, hL, n8, n13, n16, n17⟩
  · rw [b13] at hj
    rw [e14]
    exact ht j hj
  · unfold nN at nn ⊢
    simp only [k9, eN]
    exact nn
  · rw [b8] at hq
    have p := pp q hq
    unfold pO pL at p ⊢
    have h18 : (fun i => lwD D o fr e b 13 i 18) = fun i => D 13 i 18 := funext fun i => f13 i 18 (by decide)
    have h1 : (fun i => lwD D o fr e b 13 i 1) = fun i => D 13 i 1 := funext fun i => f13 i 1 (by decide)
    rw [ew, er, ea, b13, b16, b17, b8, e8, e16, e17, h18]
    refine ⟨⟨p.1.1, fun i hi => ?_, p.1.2.2⟩, p.2⟩
    rw [f13 i 1 (by decide)]
    exact p.1.2.1 i hi
  · rw [b13] at hv
    rw [f13 v 2 (by decide), f13 v 5 (by decide), f13 _ 1 (by decide), f13 v 1 (by decide)]
    exact okw v hv
  · rw [b13] at hv
    have x := (okX_up okx).1 v hv
    have ewp : ∀ lg, wapp (lwD D o fr e b 13 v) lg = wapp (D 13 v) lg := fun lg => wapp_f (fun f hf => f13 v f hf)
    have q1 : lwN (lwD D o fr e b) v (D 99 0 7) = lwN D v (D 99 0 7) := lwN_c2 (fun i hi => by rw [e7, if_neg (by omega), ewp])
    rw [f13 v 3 (by decide), f13 v 4 (by decide), f7 v hv, f13 v 9 (by decide), f13 v 2 (by decide), f13 v 11 (by decide), f13 v 12 (by decide), f13 v 1 (by decide), f13 v 5 (by decide), b7, b8, b13]
    refine ⟨x.1, ?_, x.2.2⟩
    show _ = if wapp (lwD D o fr e b 13 v) (lwD D o fr e b 7 (D 99 0 7)) = true then D 99 0 7 + 1 else lwN (lwD D o fr e b) v (D 99 0 7)
    rw [q1, e7, if_pos rfl, ewp, x.2.1]
  · rw [b16] at ha
    rw [b8, e16]
    exact okx.2.1 a ha
  · rw [b17] at hr
    rw [b13, b8, e17]
    exact okx.2.2 r hr
theorem lw_es {D : fw_DB} {o fr e b : Nat} : esq (lwS D o fr e b) (lwD D o fr e b) := fun q i f hf => by
  have hq : q ≠ 0 ∧ q ≠ 1 := ⟨fun z => (by subst z; cases hf), fun z => (by subst z; cases hf)⟩
  have eU : lwU D o fr e b q = lwS D o fr e b q := funext fun j => by
    unfold lwU lwT
    rw [dp_k hq.1, dp_k hq.2]
  unfold lwD
  by_cases c : q = 13
  · subst c
    rw [lwA_f _ _ _ (fun z => by rw [z] at hf; cases hf), eU]
  · rw [lwA_k c, eU]
theorem lw_hi {D : fw_DB} {o fr e b : Nat} : hik D (lwD D o fr e b) := ⟨fun q hq h9 => (lwA_k (by omega) _).trans (lwU_k (by omega)), fun f hf => by
  unfold lwD
  rw [lwA_k (by decide), lwU_N, if_neg (by omega)]⟩
