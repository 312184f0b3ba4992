/-! PURE: days added, one more -/
def ICd (n : Nat) (D : fw_DB) : Prop := (cB D ∧ (∀ r, r < D 99 0 17 → rB D r) ∧ D 99 0 13 ≤ 24) ∧ mI D ∧ (dB D ∧ ∀ j, j < D 99 0 13 → tB (D 14 j)) ∧ nN D ∧ (∀ p, p < D 99 0 8 → pO D p) ∧ okW D ∧ okX n D
theorem ic_of {n : Nat} {D : fw_DB} {A : fw_AD} {M : fw_MP} (W : Wf D A M) (h : ICd n D) : IC n D A M := ⟨⟨W, h.1⟩, h.2⟩
theorem ic_d {n : Nat} {D : fw_DB} {A : fw_AD} {M : fw_MP} (h : IC n D A M) : ICd n D := ⟨h.1.2, h.2⟩
theorem dn_k {D : fw_DB} {k n k' : Nat} {g : Nat → Nat} (h : k' ≠ k) (h2 : k' ≠ 99) : dn D k n g k' = D k' := funext fun j => by
  unfold dn
  rw [dp_k h2, dp_k h]
theorem dn_s {D : fw_DB} {k n : Nat} {g : Nat → Nat} (h2 : k ≠ 99) : dn D k n g k n = g := by
  unfold dn
  rw [dp_k h2, dp_s]
theorem dn_i {D : fw_DB} {k n j : Nat} {g : Nat → Nat} (h : j ≠ n) (h2 : k ≠ 99) : dn D k n g k j = D k j := by
  unfold dn
  rw [dp_k h2, dp_i h]
theorem dn_i9 {D : fw_DB} {k n j : Nat} {g : Nat → Nat} (h : j ≠ 0) (hk : k ≠ 99) : dn D k n g 99 j = D 99 j := by
  unfold dn
  rw [dp_i h, dp_k hk.symm]
theorem tw_c {p q : Nat → Bool} : ∀ {l : List Nat}, (∀ i ∈ l, p i = q i) → l.takeWhile p = l.takeWhile q ∧ l.dropWhile p = l.dropWhile q
  | [], _ => ⟨rfl, rfl⟩
  | a :: l, h => by
    have ha := h a List.mem_cons_self
    obtain ⟨h1, h2⟩ := tw_c (l := l) (fun i hi => h i (List.mem_cons_of_mem _ hi))
    cases hp : p a with
    | true =>
      have hq : q a = true := by rw [← ha, hp]
      rw [List.takeWhile_cons_of_pos hp, List.takeWhile_cons_of_pos hq, List.dropWhile_cons_of_pos hp, List.dropWhile_cons_of_pos hq, h1, h2]
      exact ⟨rfl, rfl⟩
    | false =>
      have hq : q a = false := by rw [← ha, hp]
      rw [List.takeWhile_cons_of_neg (by rw [hp]; decide), List.takeWhile_cons_of_neg (by rw [hq]; decide), List.dropWhile_cons_of_neg (by rw [hp]; decide), List.dropWhile_cons_of_neg (by rw [hq]; decide)]
      exact ⟨rfl, rfl⟩
theorem insA_c2 {D D' : fw_DB} {a : Nat} {l : List Nat} (h : ∀ i, (i = a ∨ i ∈ l) → D' 16 i 0 = D 16 i 0) : insA D' a l = insA D a l := by
  unfold insA
  obtain ⟨h1, h2⟩ := tw_c (p := fun i => decide (D' 16 i 0 ≤ D' 16 a 0)) (q := fun i => decide (D 16 i 0 ≤ D 16 a 0)) (l := l) (fun i hi => by rw [h i (Or.inr hi), h a (Or.inl rfl)])
  rw [h1, h2]
theorem alN_c2 {D D' : fw_DB} {p : Nat} : ∀ {n}, (∀ i, i < n → D' 16 i 0 = D 16 i 0 ∧ D' 16 i 3 = D 16 i 3) → alN D' p n = alN D p n
  | 0, _ => rfl
  | n + 1, h => by
    unfold alN
    rw [(h n (by omega)).2, alN_c2 (fun i hi => h i (by omega)), insA_c2 (fun i hi => ?_)]
    rcases hi with hi | hi
    · rw [hi]
      exact (h n (by omega)).1
    · exact (h i (by have := (alN_mem.mp hi).1; omega)).1
theorem insA_nd {S : fw_DB} {a : Nat} {l : List Nat} (hn : l.Nodup) (ha : a ∉ l) : (insA S a l).Nodup := by
  have e := List.takeWhile_append_dropWhile (p := fun i => decide (S 16 i 0 ≤ S 16 a 0)) (l := l)
  unfold insA
  generalize l.takeWhile (fun i => decide (S 16 i 0 ≤ S 16 a 0)) = l1 at *
  generalize l.dropWhile (fun i => decide (S 16 i 0 ≤ S 16 a 0)) = l2 at *
  subst e
  obtain ⟨h1, h2, h3⟩ := List.nodup_append.mp hn
  rw [List.mem_append, not_or] at ha
  refine List.nodup_append.mpr ⟨h1, List.nodup_cons.mpr ⟨ha.2, h2⟩, fun x hx y hy => ?_⟩
  rcases List.mem_cons.mp hy with c | hy
  · intro z
    exact ha.1 (by rw [← c, ← z]; exact hx)
  · exact h3 x hx y hy
theorem alN_nd {S : fw_DB} {p : Nat} : ∀ n, (alN S p n).Nodup
  | 0 => List.nodup_nil
  | n + 1 => by
    unfold alN
    split
    · exact insA_nd (alN_nd n) (fun z => by have := (alN_mem.mp z).1; omega)
    · exact alN_nd n
theorem wlS_c {D D' : fw_DB} {p : Nat} (h9 : D' 99 0 13 = D 99 0 13) (h : ∀ w, w < D 99 0 13 → D' 13 w 1 = D 13 w 1) : wlS D' p = wlS D p := by
  unfold wlS
  rw [h9]
  exact List.filter_congr (fun w hw => by rw [h w (List.mem_range.mp hw)])
theorem rlS_c {D D' : fw_DB} {p : Nat} (h9 : D' 99 0 17 = D 99 0 17) (h : ∀ w, w < D 99 0 17 → D' 17 w 0 = D 17 w 0) : rlS D' p = rlS D p := by
  unfold rlS
  rw [h9]
  exact List.filter_congr (fun w hw => by rw [h w (List.mem_range.mp hw)])
def adG (p day k : Nat) : Nat → Nat := fun f => if f = 0 then day else if f = 1 then k else if f = 3 then p else 0
/-- days added told -/
def adS (D : fw_DB) (p day k : Nat) : fw_DB := dn D 16 (D 99 0 16) (adG p day k)
def adT (D : fw_DB) (p day k : Nat) : fw_DB := tkA (adS D p day k) p (D 99 0 16) (alS D p)
def adU (D : fw_DB) (p day k : Nat) : fw_DB := dp (adT D p day k) 4 0 (va_up (adT D p day k 4 0) 0 (D 99 0 16 + 1))
def adD (D : fw_DB) (p day k : Nat) : fw_DB := dp (adU D p day k) 0 0 (va_up (adU D p day k 0 0) 8 (D 99 0 16 + 1))
theorem adD_k {D : fw_DB} {p day k q : Nat} (h : q ≠ 0 ∧ q ≠ 4 ∧ q ≠ 8 ∧ q ≠ 16 ∧ q ≠ 99) : adD D p day k q = D q := by
  obtain ⟨h0, h4, h8, h16, h99⟩ := h
  unfold adD adU
  rw [show dp (dp (adT D p day k) 4 0 (va_up (adT D p day k 4 0) 0 (D 99 0 16 + 1))) 0 0 (va_up (dp (adT D p day k) 4 0 (va_up (adT D p day k 4 0) 0 (D 99 0 16 + 1)) 0 0) 8 (D 99 0 16 + 1)) q = adT D p day k q from funext fun j => by rw [dp_k h0, dp_k h4]]
  exact (tkA_o.1 q h16 h8).trans (dn_k h16 h99)
theorem adD_99 {D : fw_DB} {p day k : Nat} (f : Nat) : adD D p day k 99 0 f = if f = 16 then D 99 0 16 + 1 else D 99 0 f := by
  have e : adD D p day k 99 = adS D p day k 99 := by
    unfold adD adU
    rw [show dp (dp (adT D p day k) 4 0 (va_up (adT D p day k 4 0) 0 (D 99 0 16 + 1))) 0 0 (va_up (dp (adT D p day k) 4 0 (va_up (adT D p day k 4 0) 0 (D 99 0 16 + 1)) 0 0) 8 (D 99 0 16 + 1)) 99 = adT D p day k 99 from funext fun j => by rw [dp_k (by decide), dp_k (by decide)]]
    exact tkA_o.1 99 (by decide) (by decide)
  rw [e]
  exact dn_N f
theorem adD_16 {D : fw_DB} {p day k : Nat} : adD D p day k 16 = adT D p day k 16 := funext fun j => by
  unfold adD adU
  rw [dp_k (by decide), dp_k (by decide)]
theorem adD_8 {D : fw_DB} {p day k : Nat} : adD D p day k 8 = adT D p day k 8 := funext fun j => by
  unfold adD adU
  rw [dp_k (by decide), dp_k (by decide)]
theorem adD_row {D : fw_DB} {p day k i f : Nat} (h : f ≠ 2) : adD D p day k 16 i f = if i = D 99 0 16 then adG p day k f else D 16 i f := by
  rw [adD_16]
  unfold adT
  rw [tkA_o.2.2 i f (fun z => h z.1)]
  unfold adS
  split
  · rename_i c
    rw [c, dn_s (by decide)]
  · rename_i c
    rw [dn_i c (by decide)]
theorem icd_add {n : Nat} {D : fw_DB} {p day k : Nat} (h : ICd n D) (hp : p < D 99 0 8) (hday : day < 20000) (hk : k ≤ 200) (hA : D 99 0 16 < 30) : ICd (n + 1) (adD D p day k) := by
  obtain ⟨⟨C, R, h24⟩, m, ⟨hb, ht⟩, nn, pp, okw, okx⟩ := h
  have e99 := fun f => adD_99 (D := D) (p := p) (day := day) (k := k) f
  have e13 : adD D p day k 13 = D 13 := adD_k (by decide)
  have e14 : adD D p day k 14 = D 14 := adD_k (by decide)
  have e15 : adD D p day k 15 = D 15 := adD_k (by decide)
  have e17 : adD D p day k 17 = D 17 := adD_k (by decide)
  have e7 : adD D p day k 7 = D 7 := adD_k (by decide)
  have e6 : adD D p day k 6 = D 6 := adD_k (by decide)
  have e10 : adD D p day k 10 = D 10 := adD_k (by decide)
  have e12 : adD D p day k 12 = D 12 := adD_k (by decide)
  have a13 : adD D p day k 99 0 13 = D 99 0 13 := by rw [e99]; rfl
  have a17 : adD D p day k 99 0 17 = D 99 0 17 := by rw [e99]; rfl
  have a7 : adD D p day k 99 0 7 = D 99 0 7 := by rw [e99]; rfl
  have a8 : adD D p day k 99 0 8 = D 99 0 8 := by rw [e99]; rfl
  have a16 : adD D p day k 99 0 16 = D 99 0 16 + 1 := by rw [e99]; rfl
  have ew : ∀ q, wlS (adD D p day k) q = wlS D q := fun q => wlS_c a13 (fun w _ => by rw [e13])
  have er : ∀ q, rlS (adD D p day k) q = rlS D q := fun q => rlS_c a17 (fun w _ => by rw [e17])
  have eal : ∀ q, alS (adD D p day k) q = if q = p then insA (adS D p day k) (D 99 0 16) (alS D p) else alS D q := fun q => by
    have q1 : alN (adD D p day k) q (D 99 0 16) = alS D q := alN_c2 (fun i hi => by
      rw [adD_row (by decide), adD_row (by decide), if_neg (by omega), if_neg (by omega)]
      exact ⟨rfl, rfl⟩)
    show alN (adD D p day k) q (adD D p day k 99 0 16) = _
    rw [a16]
    show (if adD D p day k 16 (D 99 0 16) 3 = q then insA (adD D p day k) (D 99 0 16) (alN (adD D p day k) q (D 99 0 16)) else alN (adD D p day k) q (D 99 0 16)) = _
    rw [q1, adD_row (by decide), if_pos rfl]
    by_cases c : q = p
    · rw [if_pos c, if_pos (show adG p day k 3 = q from c.symm), c]
      refine insA_c2 (fun i hi => ?_)
      rw [adD_16]
      unfold adT
      exact tkA_o.2.2 i 0 (fun z => absurd z.1 (by decide))
    · rw [if_neg c, if_neg (fun z : adG p day k 3 = q => c z.symm)]
  refine ⟨⟨⟨fun w hw => ?_, fun l hl => ?_, fun i hi => ?_⟩, fun r hr => ?_, by rw [a13]; exact h24⟩, ?_, ⟨⟨fun d hd => by rw [e6]; exact hb.1 d hd, fun q d hd => by rw [e10, e12]; exact hb.2 q d hd⟩, fun j hj => ?_⟩, ?_, fun q hq => ?_, fun w hw => ?_, fun w hw => ?_, fun a ha => ?_, fun r hr => ?_⟩
  · rw [a13] at hw
    exact wB_c (congrFun e13 w) (congrFun e15 w) (C.1 w hw)
  · rw [a7] at hl
    unfold lB
    rw [e7]
    exact C.2.1 l hl
  · rw [a16] at hi
    unfold aB
    rw [adD_row (by decide), adD_row (by decide)]
    by_cases c : i = D 99 0 16
    · rw [if_pos c, if_pos c]
      exact ⟨hday, hk⟩
    · rw [if_neg c, if_neg c]
      exact C.2.2 i (by omega)
  · rw [a17] at hr
    unfold rB
    rw [e17]
    exact R r hr
  · obtain ⟨⟨m0, m1, m2, m3, m4, m5, m6⟩, ⟨m7, m8, m9, m10⟩, ⟨m11, m12, m13, m14, m15⟩, n7, n8, n13, n16, n17⟩ := m
    have e1 : adD D p day k 1 = D 1 := adD_k (by decide)
    have e2 : adD D p day k 2 = D 2 := adD_k (by decide)
    have e3 : adD D p day k 3 = D 3 := adD_k (by decide)
    have e4 : adD D p day k 4 0 0 = D 99 0 16 + 1 := by
      unfold adD adU
      rw [dp_k (by decide), dp_s]
      rfl
    have e0 : ∀ f, adD D p day k 0 0 f = if f = 8 then D 99 0 16 + 1 else D 0 0 f := fun f => by
      have q : adU D p day k 0 0 = D 0 0 := by
        unfold adU
        rw [dp_k (by decide)]
        exact congrFun ((tkA_o.1 0 (by decide) (by decide)).trans (dn_k (by decide) (by decide))) 0
      unfold adD
      rw [dp_s, q]
      rfl
    unfold mI
    rw [e1, e2, e3, e4, e0, e0, e0, e0, e0, a7, a8, a13, a16, a17]
    simp only [e99]
    exact ⟨⟨m0, m1, m2, m3, m4, m5, m6⟩, ⟨m7, m8, m9, by trivial⟩, ⟨m11, m12, m13, by trivial, m15⟩, n7, n8, n13, hA, n17⟩
  · rw [a13] at hj
    rw [e14]
    exact ht j hj
  · unfold nN at nn ⊢
    simp only [e99]
    exact nn
  · rw [a8] at hq
    obtain ⟨⟨p1, p2, p3, p4, p5, p6, p7⟩, p8, p9, p10⟩ := pp q hq
    have e8 : ∀ f, ¬ (q = p ∧ f = 4) → adD D p day k 8 q f = D 8 q f := fun f hf => by
      rw [adD_8]
      unfold adT
      rw [tkA_o.2.1 q f hf]
      exact congrFun (congrFun (dn_k (by decide) (by decide)) q) f
    unfold pO pL
    rw [ew, er, eal, e8 3 (fun z => absurd z.2 (by decide)), e8 7 (fun z => absurd z.2 (by decide)), e8 8 (fun z => absurd z.2 (by decide)), e8 2 (fun z => absurd z.2 (by decide)), e8 6 (fun z => absurd z.2 (by decide)), e13, e17, a13, a16, a17, a8]
    refine ⟨⟨p1, p2, ?_, ?_, p5, p6, p7⟩, p8, p9, p10⟩
    · by_cases c : q = p
      · rw [if_pos c]
        subst c
        have hS : adS D q day k 16 (D 99 0 16) = adG q day k := dn_s (by decide)
        have ha : D 99 0 16 ∉ alS D q := fun z => by have := (mem_alS.mp z).1; omega
        have h0 : ch (fun i => adS D q day k 16 i 2) (adS D q day k 8 q 4) (alS D q) := by
          rw [show adS D q day k 8 = D 8 from dn_k (by decide) (by decide)]
          refine ch_c (fun i hi => ?_) p3
          show adS D q day k 16 i 2 = D 16 i 2
          unfold adS
          rw [dn_i (by have := (mem_alS.mp hi).1; omega) (by decide)]
        have := tkA_ch h0 (alN_nd _) ha
        rw [adD_8, adD_16]
        exact this
      · rw [if_neg c, e8 4 (fun z => c z.1)]
        refine ch_c (fun i hi => ?_) p3
        show adD D p day k 16 i 2 = D 16 i 2
        obtain ⟨i1, i2⟩ := mem_alS.mp hi
        rw [adD_16]
        unfold adT
        rw [tkA_o.2.2 i 2 (fun z => by
          rcases z.2 with z | z
          · omega
          · exact c ((i2.symm).trans (mem_alS.mp z).2))]
        unfold adS
        rw [dn_i (by omega) (by decide)]
    · intro i hi
      by_cases c : q = p
      · rw [if_pos c] at hi
        rcases insA_mem.mp hi with z | z
        · omega
        · have := (mem_alS.mp z).1
          omega
      · rw [if_neg c] at hi
        have := (mem_alS.mp hi).1
        omega
  · rw [a13] at hw
    rw [e13]
    exact okw w hw
  · rw [a13] at hw
    have q1 : ∀ n, lwN (adD D p day k) w n = lwN D w n := fun n => by
      induction n with
      | zero => rfl
      | succ n ih =>
        unfold lwN
        rw [ih, e13, e7]
    rw [e13, a7, a8, a13, q1]
    exact (okX_up okx).1 w hw
  · rw [a16] at ha
    rw [a8, adD_row (by decide)]
    by_cases c : a = D 99 0 16
    · rw [if_pos c]
      exact hp
    · rw [if_neg c]
      exact okx.2.1 a (by omega)
  · rw [a17] at hr
    rw [e17, a13, a8]
    exact okx.2.2 r hr
theorem ad_es {D : fw_DB} {p day k : Nat} : esq (adS D p day k) (adD D p day k) := fun q i f hf => by
  have hq : q ≠ 0 ∧ q ≠ 4 ∧ q ≠ 8 := ⟨fun z => (by subst z; cases hf), fun z => (by subst z; cases hf), fun z => (by subst z; cases hf)⟩
  have e : adD D p day k q = adT D p day k q := funext fun j => by
    unfold adD adU
    rw [dp_k hq.1, dp_k hq.2.1]
  rw [e]
  unfold adT
  by_cases c : q = 16
  · subst c
    exact tkA_o.2.2 i f (fun z => by rw [z.1] at hf; cases hf)
  · rw [tkA_o.1 q c hq.2.2]
theorem ad_hi {D : fw_DB} {p day k : Nat} : hik D (adD D p day k) := ⟨fun q hq h9 => adD_k (by omega), fun f hf => by rw [adD_99, if_neg (by omega)]⟩
