/-! THE LAW: statics and strings at its start -/
abbrev giv : List Cond := flatC (Jvm.Cond.and given_1 narrow_1)
section KNOWN2
variable {s : State} {b : Nat}
theorem kn_A {a : Nat} (h : a < s.heap.size) : ¬ fw_A s.heap.size a := Nat.not_le.mpr h
theorem kn_month (hts : ∀ w ∈ lw_tbl, w.before #[Value.ref b] s = true) (hs : ∀ c ∈ giv, c.before #[Value.ref b] s = true) : ∃ t, va_Z "Termreckonry$Calendar" "MONTH_DAYS" "[I" (.ref t) (fw_A s.heap.size) s s.heap ∧ va_T .int t 12 fw_md (fw_A s.heap.size) s s.heap := by
  obtain ⟨t, h1, h2⟩ := va_Tof (args := #[Value.ref b]) (s := s) (tm := .static "Termreckonry$Calendar" "MONTH_DAYS" "[I") (ty := .int) (N := 12) (f := fw_md) (A := fw_A s.heap.size) (by decide) (hs _ (by decide +kernel)) (va_eqt (z := Int32.ofNat 12) (hs _ (by decide +kernel))) (fun j hj => by
    rcases (show j = 0 ∨ j = 1 ∨ j = 2 ∨ j = 3 ∨ j = 4 ∨ j = 5 ∨ j = 6 ∨ j = 7 ∨ j = 8 ∨ j = 9 ∨ j = 10 ∨ j = 11 by omega) with rfl | rfl | rfl | rfl | rfl | rfl | rfl | rfl | rfl | rfl | rfl | rfl
    · exact va_eqt (z := 31) (hs _ (by decide +kernel))
    · exact va_eqt (z := 28) (hs _ (by decide +kernel))
    · exact va_eqt (z := 31) (hs _ (by decide +kernel))
    · exact va_eqt (z := 30) (hs _ (by decide +kernel))
    · exact va_eqt (z := 31) (hs _ (by decide +kernel))
    · exact va_eqt (z := 30) (hs _ (by decide +kernel))
    · exact va_eqt (z := 31) (hs _ (by decide +kernel))
    · exact va_eqt (z := 31) (hs _ (by decide +kernel))
    · exact va_eqt (z := 30) (hs _ (by decide +kernel))
    · exact va_eqt (z := 31) (hs _ (by decide +kernel))
    · exact va_eqt (z := 30) (hs _ (by decide +kernel))
    · exact va_eqt (z := 31) (hs _ (by decide +kernel))) (fun a h => kn_A h)
  exact ⟨t, va_Zof (hts _ (List.mem_of_getElem? (i := 198) (by decide +kernel))) (hts _ (List.mem_of_getElem? (i := 48) (by decide +kernel))) h1 (fun a h => kn_A h), h2⟩
theorem kn_thr (hts : ∀ w ∈ lw_tbl, w.before #[Value.ref b] s = true) (hs : ∀ c ∈ giv, c.before #[Value.ref b] s = true) : vx_Zq Bundle.tN "UNASSIGNED_STACK" Bundle.steD (fw_A s.heap.size) s s.heap ∧ vx_Zq Bundle.tN "SUPPRESSED_SENTINEL" Bundle.listD (fw_A s.heap.size) s s.heap :=
  ⟨vx_Zqof (hts _ (List.mem_of_getElem? (i := 416) (by decide +kernel))) (hts _ (List.mem_of_getElem? (i := 44) (by decide +kernel))) (hs _ (by decide +kernel)) (fun a h => kn_A h), vx_Zqof (hts _ (List.mem_of_getElem? (i := 418) (by decide +kernel))) (hts _ (List.mem_of_getElem? (i := 44) (by decide +kernel))) (hs _ (by decide +kernel)) (fun a h => kn_A h)⟩
theorem kn_R (hs : ∀ c ∈ giv, c.before #[Value.ref b] s = true) {own tx : String} {k : Nat} (h1 : (Cond.stringRef own k tx).before #[Value.ref b] s = true) (h2 : Cond.exactly (.string own k) "java/lang/String" ∈ giv) : ∃ a, vk_R own k tx a s := by
  obtain ⟨a, c, cA, kA, q1, -⟩ := Cond.exactly_spec (args := #[Value.ref b]) (first := s) (o := none) (s := s) (idx := []) (t := .string own k) (cls := "java/lang/String") (hs _ h2)
  exact ⟨a, vk_R.of h1 q1⟩
theorem st_in : ∀ q ∈ fw_strs, Cond.exactly (.string "Termreckonry" q.1) "java/lang/String" ∈ giv ∧ Cond.stringRef "Termreckonry" q.1 q.2 ∈ lw_tbl := by decide +kernel
theorem kn_strs (hts : ∀ w ∈ lw_tbl, w.before #[Value.ref b] s = true) (hs : ∀ c ∈ giv, c.before #[Value.ref b] s = true) : ∀ q ∈ fw_strs, ∃ a, vk_R "Termreckonry" q.1 q.2 a s := fun q hq => kn_R hs (hts _ (st_in q hq).2) (st_in q hq).1
theorem kn_empty (hts : ∀ w ∈ lw_tbl, w.before #[Value.ref b] s = true) (hs : ∀ c ∈ giv, c.before #[Value.ref b] s = true) : ∃ t, va_Z "java/util/ArrayList" "DEFAULTCAPACITY_EMPTY_ELEMENTDATA" "[Ljava/lang/Object;" (.ref t) (fw_A s.heap.size) s s.heap ∧ va_T (.object "java/lang/Object") t 0 (fun _ => .null) (fw_A s.heap.size) s s.heap := by
  obtain ⟨t, h1, h2⟩ := va_Tof (args := #[Value.ref b]) (s := s) (tm := .static "java/util/ArrayList" "DEFAULTCAPACITY_EMPTY_ELEMENTDATA" "[Ljava/lang/Object;") (ty := .object "java/lang/Object") (N := 0) (f := fun _ => .null) (A := fw_A s.heap.size) (by decide) (hs _ (by decide +kernel)) (va_eqt (z := Int32.ofNat 0) (hs _ (by decide +kernel))) (fun j hj => absurd hj (by omega)) (fun a h => kn_A h)
  exact ⟨t, va_Zof (hts _ (List.mem_of_getElem? (i := 1162) (by decide +kernel))) (hts _ (List.mem_of_getElem? (i := 43) (by decide +kernel))) h1 (fun a h => kn_A h), h2⟩
theorem kn_cs (hts : ∀ w ∈ lw_tbl, w.before #[Value.ref b] s = true) (hs : ∀ c ∈ giv, c.before #[Value.ref b] s = true) : va_Z "java/lang/String" "COMPACT_STRINGS" "Z" (.int 1) (fw_A s.heap.size) s s.heap :=
  va_Zof (hts _ (List.mem_of_getElem? (i := 1430) (by decide +kernel))) (hts _ (List.mem_of_getElem? (i := 59) (by decide +kernel))) (va_eqt (z := 1) (hs _ (by decide +kernel))) (fun a h => kn_A h)
theorem kn_ne {a t1 t2 N1 N2 : Nat} {f1 f2 : Nat → Value} {A : Nat → Prop} {H : Heap} (o1 : va_OF "java/lang/String" "value" "[B" (.ref t1) a A s H) (o2 : va_OF "java/lang/String" "value" "[B" (.ref t2) a A s H) (T1 : va_T .byte t1 N1 f1 A s H) (T2 : va_T .byte t2 N2 f2 A s H) (h1 : 0 < N1) (h2 : 0 < N2) (hf : f1 0 ≠ f2 0) : False := by
  obtain ⟨cf, k, i, f, cell, p1, p2, p3, p4, p5, -⟩ := o1
  obtain ⟨cf', k', i', f', cell', q1, q2, q3, q4, q5, -⟩ := o2
  rw [p1] at q1
  cases q1
  rw [p3] at q3
  cases q3
  rw [p5] at q5
  cases q5
  obtain ⟨c1, r1, -, -, -, -, r6, -⟩ := T1
  obtain ⟨c2, u1, -, -, -, -, u6, -⟩ := T2
  rw [r1] at u1
  cases u1
  have e1 := r6 0 h1
  have e2 := u6 0 h2
  rw [e1] at e2
  exact hf (Option.some.inj e2)
theorem kn_S (hts : ∀ w ∈ lw_tbl, w.before #[Value.ref b] s = true) (hs : ∀ c ∈ giv, c.before #[Value.ref b] s = true) : ∃ adK adV : Nat → Nat, vk_R "TermreckonryModel" 121 "flds" (adK 0) s ∧ vk_R "TermreckonryModel" 324 "lo" (adK 1) s ∧ vk_R "TermreckonryModel" 329 "pr" (adK 2) s ∧ vk_S 3 [4, 2, 2] [[102, 108, 100, 115], [108, 111], [112, 114]] adK adV (fw_A s.heap.size) s s.heap := by
  have i0 : ∀ {i : Nat}, i < 1 → i = 0 := fun h => by omega
  obtain ⟨k0, v0, ⟨a0, -⟩, e0⟩ := vk_Sof (args := #[Value.ref b]) (s := s) (N := 1) (tm := fun _ => .string "TermreckonryModel" 121) (len := [4]) (byt := [[102, 108, 100, 115]]) (A := fw_A s.heap.size) (fun i hi => by rw [i0 hi]; decide) (fun i hi => hs _ (by decide +kernel)) (fun i hi => hs _ (by decide +kernel)) (fun i hi => hs _ (by decide +kernel)) (fun i hi => by rw [i0 hi]; exact hs _ (by decide +kernel)) (fun i hi j hj => by
    rw [i0 hi] at hj ⊢
    rcases (show j = 0 ∨ j = 1 ∨ j = 2 ∨ j = 3 by have : j < 4 := hj; omega) with rfl | rfl | rfl | rfl <;> exact hs _ (by decide +kernel)) (fun i j hi hj n => absurd ((i0 hi).trans (i0 hj).symm) n) (fun a h => kn_A h)
  obtain ⟨k1, v1, ⟨a1, -⟩, e1⟩ := vk_Sof (args := #[Value.ref b]) (s := s) (N := 1) (tm := fun _ => .string "TermreckonryModel" 324) (len := [2]) (byt := [[108, 111]]) (A := fw_A s.heap.size) (fun i hi => by rw [i0 hi]; decide) (fun i hi => hs _ (by decide +kernel)) (fun i hi => hs _ (by decide +kernel)) (fun i hi => hs _ (by decide +kernel)) (fun i hi => by rw [i0 hi]; exact hs _ (by decide +kernel)) (fun i hi j hj => by
    rw [i0 hi] at hj ⊢
    rcases (show j = 0 ∨ j = 1 by have : j < 2 := hj; omega) with rfl | rfl <;> exact hs _ (by decide +kernel)) (fun i j hi hj n => absurd ((i0 hi).trans (i0 hj).symm) n) (fun a h => kn_A h)
  obtain ⟨k2, v2, ⟨a2, -⟩, e2⟩ := vk_Sof (args := #[Value.ref b]) (s := s) (N := 1) (tm := fun _ => .string "TermreckonryModel" 329) (len := [2]) (byt := [[112, 114]]) (A := fw_A s.heap.size) (fun i hi => by rw [i0 hi]; decide) (fun i hi => hs _ (by decide +kernel)) (fun i hi => hs _ (by decide +kernel)) (fun i hi => hs _ (by decide +kernel)) (fun i hi => by rw [i0 hi]; exact hs _ (by decide +kernel)) (fun i hi j hj => by
    rw [i0 hi] at hj ⊢
    rcases (show j = 0 ∨ j = 1 by have : j < 2 := hj; omega) with rfl | rfl <;> exact hs _ (by decide +kernel)) (fun i j hi hj n => absurd ((i0 hi).trans (i0 hj).symm) n) (fun a h => kn_A h)
  obtain ⟨p0, p1, p2, p3⟩ := a0 0 (by decide)
  obtain ⟨q0, q1, q2, q3⟩ := a1 0 (by decide)
  obtain ⟨r0, r1, r2, r3⟩ := a2 0 (by decide)
  have n01 : k0 0 ≠ k1 0 := fun z => by
    rw [z] at p2
    exact kn_ne p2 q2 p3 q3 (by decide) (by decide) (by decide)
  have n02 : k0 0 ≠ k2 0 := fun z => by
    rw [z] at p2
    exact kn_ne p2 r2 p3 r3 (by decide) (by decide) (by decide)
  have n12 : k1 0 ≠ k2 0 := fun z => by
    rw [z] at q2
    exact kn_ne q2 r2 q3 r3 (by decide) (by decide) (by decide)
  refine ⟨fun i => if i = 0 then k0 0 else if i = 1 then k1 0 else k2 0, fun i => if i = 0 then v0 0 else if i = 1 then v1 0 else v2 0, vk_R.of (hts _ (by decide +kernel)) (e0 0 (by decide)), vk_R.of (hts _ (by decide +kernel)) (e1 0 (by decide)), vk_R.of (hts _ (by decide +kernel)) (e2 0 (by decide)), fun i hi => ?_, fun i j hi hj e => ?_⟩
  · rcases (show i = 0 ∨ i = 1 ∨ i = 2 by omega) with rfl | rfl | rfl
    · exact ⟨p0, p1, p2, p3⟩
    · exact ⟨q0, q1, q2, q3⟩
    · exact ⟨r0, r1, r2, r3⟩
  · rcases (show i = 0 ∨ i = 1 ∨ i = 2 by omega) with rfl | rfl | rfl <;> rcases (show j = 0 ∨ j = 1 ∨ j = 2 by omega) with rfl | rfl | rfl <;> first | rfl | (exact absurd e n01) | (exact absurd e n02) | (exact absurd e n12) | (exact absurd e.symm n01) | (exact absurd e.symm n02) | (exact absurd e.symm n12)
theorem ex_in : ∀ a ∈ fw_exs, ∀ c ∈ fw_exs, a ≠ c → Cond.not (.castable a c) ∈ giv := by decide +kernel
theorem ao_in : ∀ C ∈ fw_aos, Cond.arrayOver (.object C) ∈ lw_tbl := by decide +kernel
/-- the surroundings of every method of the run -/
theorem kn_G {L : Nat} {xs : Nat → Int32} (l : Launch) (hts : ∀ w ∈ lw_tbl, w.before #[Value.ref b] s = true) (hs : ∀ c ∈ giv, c.before #[Value.ref b] s = true) (hX : va_X b L xs s s.heap) (hL : L ≤ 4608) : ∃ G : fw_G, G.1 = l ∧ G.2.1 = s.heap.size ∧ cS G = b ∧ nS G = L ∧ xS G = xs ∧ fw_K G s s.heap := by
  obtain ⟨D, hD⟩ := kn_K hts
  obtain ⟨cT, hT⟩ := kn_T hts
  obtain ⟨adK, adV, s1, s2, s3, s4⟩ := kn_S hts hs
  obtain ⟨t, t1, t2⟩ := kn_empty hts hs
  obtain ⟨mi, hm⟩ := va_Mi.of (args := #[Value.ref b]) (s := s) (C := "[Ljava/lang/Object;") (hs _ (by decide +kernel))
  obtain ⟨scr, x1, x2, x3, x4, x5⟩ := hX
  refine ⟨(l, s.heap.size, D, cT, (b, L, xs, t, mi, adK, adV)), rfl, rfl, rfl, rfl, rfl, ⟨hD, fun k q hq => ?_⟩, kn_month hts hs, kn_thr hts hs, kn_strs hts hs, ⟨t1, t2⟩, kn_cs hts hs, ⟨s1, s2, s3, s4⟩, hm, fun w hw => ?_, fun a ha c hc n => va_Nc.of (hs _ (ex_in a ha c hc n)), fun C hC => va_AO.of (hts _ (ao_in C hC)), ?_⟩
  · have hk : k < 11 := by
      have := (List.getElem?_eq_some_iff.mp hq).1
      have h11 : (fw_tys cT).length = 11 := rfl
      show k < 11
      have h2 : k < (fw_tys cT).length := this
      omega
    have e := fw_tys_at cT hk
    have hq : (fw_tys cT)[k]? = some q := hq
    rw [e] at hq
    cases hq
    exact hT k hk
  · have h2 := List.mem_filter.mp hw
    exact va_Nw.of (fw_ww_on h2.2) (hts _ h2.1)
  · refine ⟨scr, x1, x2, x3, Nat.le_of_eq x4.symm, ?_, x5, kn_A (Array.getElem?_eq_some_iff.mp x1).1⟩
    rw [x4]
end KNOWN2

