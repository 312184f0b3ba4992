/-! THE LAW: what its start knows of classes, arrays, statics, strings -/
section KNOWN
variable {s : State} {b : Nat}
theorem kn_cls (hts : ∀ w ∈ lw_tbl, w.before #[Value.ref b] s = true) {C : String} {T : u_T} {N : Nat} (ps : List Nat) (hp : u_ws C T N = ps.filterMap (fun i => lw_tbl[i]?)) (i : Nat) (hi : lw_tbl[i]? = some (.instantiable C N)) : ∃ (cC : ClassId) (iS : Nat → Nat), u_Kn s C T N cC iS :=
  u_known (ws := lw_tbl) hts (fun w hw => by
    rw [hp] at hw
    obtain ⟨j, -, hj⟩ := List.mem_filterMap.mp hw
    exact List.mem_of_getElem? hj) (hts _ (List.mem_of_getElem? hi))
theorem kn_cls2 (hts : ∀ w ∈ lw_tbl, w.before #[Value.ref b] s = true) {ci : Nat} {C : String} {T : u_T} {N : Nat} {ty : Nat → FieldType} (h : fw_cls ci C T N ty) (i : Nat) (hi : lw_tbl[i]? = some (.instantiable C N)) : ∃ (cC : ClassId) (iS : Nat → Nat), u_Kn s C T N cC iS :=
  u_known (ws := lw_tbl) hts (fun w hw => (List.mem_filter.mp (h.2.1 w hw)).1) (hts _ (List.mem_of_getElem? hi))
set_option maxRecDepth 20000 in
theorem kn_K (hts : ∀ w ∈ lw_tbl, w.before #[Value.ref b] s = true) : ∃ D : va_G, ∀ (k : Nat) (q : vw_C), vwCl[k]? = some q → u_Kn s q.1 q.2.1 q.2.2 (D.1 k) (D.2 k) := by
  have h : ∀ k : Nat, ∃ D : ClassId × (Nat → Nat), ∀ q : vw_C, vwCl[k]? = some q → u_Kn s q.1 q.2.1 q.2.2 D.1 D.2 := by
    intro k
    have one : ∀ {C : String} {T : u_T} {N : Nat}, vwCl[k]? = some (C, T, N) → (∃ (cC : ClassId) (iS : Nat → Nat), u_Kn s C T N cC iS) → ∃ D : ClassId × (Nat → Nat), ∀ q : vw_C, vwCl[k]? = some q → u_Kn s q.1 q.2.1 q.2.2 D.1 D.2 := fun {C T N} e ⟨cC, iS, hk⟩ => ⟨(cC, iS), fun q hq => by
      rw [e] at hq
      cases hq
      exact hk⟩
    rcases (show k = 0 ∨ k = 1 ∨ k = 2 ∨ k = 3 ∨ k = 4 ∨ k = 5 ∨ k = 6 ∨ k = 7 ∨ k = 8 ∨ k = 9 ∨ k = 10 ∨ k = 11 ∨ k = 12 ∨ k = 13 ∨ k = 14 ∨ k = 15 ∨ k = 16 ∨ k = 17 ∨ k = 18 ∨ k = 19 ∨ k = 20 ∨ 20 < k by omega) with rfl | rfl | rfl | rfl | rfl | rfl | rfl | rfl | rfl | rfl | rfl | rfl | rfl | rfl | rfl | rfl | rfl | rfl | rfl | rfl | rfl | h
    · exact one rfl (kn_cls2 hts cl_0 584 (by decide +kernel))
    · exact one rfl (kn_cls hts [1768, 1770, 1772, 1774] (by decide +kernel) 1748 (by decide +kernel))
    · exact one rfl (kn_cls hts [573, 574, 575, 576, 577, 578] (by decide +kernel) 566 (by decide +kernel))
    · exact one rfl (kn_cls2 hts cl_3 1574 (by decide +kernel))
    · exact one rfl (kn_cls2 hts cl_4 1150 (by decide +kernel))
    · exact one rfl (kn_cls2 hts cl_5 891 (by decide +kernel))
    · exact one rfl (kn_cls2 hts cl_6 102 (by decide +kernel))
    · exact one rfl (kn_cls2 hts cl_7 532 (by decide +kernel))
    · exact one rfl (kn_cls2 hts cl_8 653 (by decide +kernel))
    · exact one rfl (kn_cls2 hts cl_9 271 (by decide +kernel))
    · exact one rfl (kn_cls2 hts cl_10 334 (by decide +kernel))
    · exact one rfl (kn_cls2 hts cl_11 491 (by decide +kernel))
    · exact one rfl (kn_cls2 hts cl_12 166 (by decide +kernel))
    · exact one rfl (kn_cls2 hts cl_13 86 (by decide +kernel))
    · exact one rfl (kn_cls2 hts cl_14 1652 (by decide +kernel))
    · exact one rfl (kn_cls2 hts cl_15 1699 (by decide +kernel))
    · exact one rfl (kn_cls2 hts cl_16 1248 (by decide +kernel))
    · exact one rfl (kn_cls2 hts cl_17 1380 (by decide +kernel))
    · exact one rfl (kn_cls2 hts cl_18 1971 (by decide +kernel))
    · exact one rfl (kn_cls2 hts cl_19 1499 (by decide +kernel))
    · exact one rfl (kn_cls2 hts cl_20 1144 (by decide +kernel))
    · refine ⟨(default, fun _ => 0), fun q hq => ?_⟩
      have := (List.getElem?_eq_some_iff.mp hq).1
      have h21 : vwCl.length = 21 := rfl
      omega
  obtain ⟨f, hf⟩ := Classical.axiomOfChoice h
  exact ⟨(fun k => (f k).1, fun k => (f k).2), hf⟩
theorem kn_ap {ty : FieldType} (h : (Cond.arrayClass ty).before #[Value.ref b] s = true) (hp : ∀ C, ty ≠ .object C) : ∃ cA : ClassId, ArrOfT s cA ty ∧ va_RA s cA ty := by
  obtain ⟨cA, kA, comp, h1, h2, h3⟩ := Cond.arrayClass_spec (args := #[Value.ref b]) (first := s) (o := none) (s := s) (idx := []) h
  refine ⟨cA, fun n z => ⟨(fun k h => by cases h), kA, h2, comp, h3⟩, ?_⟩
  unfold va_RA
  split
  · exact absurd rfl (hp _)
  · exact h1
theorem kn_ao {C : String} (h : (Cond.arrayOver (.object C)).before #[Value.ref b] s = true) : ∃ cA : ClassId, ArrOfT s cA (.object C) ∧ va_RA s cA (.object C) := by
  obtain ⟨comp, cA, kA, f1, f2, f3, f4, f5⟩ := Cond.arrayOver_spec (args := #[Value.ref b]) (first := s) (o := none) (s := s) (idx := []) h
  exact ⟨cA, fun n z => ⟨(fun k h => by cases h), kA, f3, comp, f4⟩, kA, comp, f3, f4, f1, f5⟩
theorem kn_T (hts : ∀ w ∈ lw_tbl, w.before #[Value.ref b] s = true) : ∃ cT : Nat → ClassId, ∀ t, t < 11 → ArrOfT s (cT t) (fw_ty t) ∧ va_RA s (cT t) (fw_ty t) := by
  have h : ∀ t : Nat, ∃ cA : ClassId, t < 11 → ArrOfT s cA (fw_ty t) ∧ va_RA s cA (fw_ty t) := by
    intro t
    have one : (∃ cA : ClassId, ArrOfT s cA (fw_ty t) ∧ va_RA s cA (fw_ty t)) → ∃ cA : ClassId, t < 11 → ArrOfT s cA (fw_ty t) ∧ va_RA s cA (fw_ty t) := fun ⟨cA, h⟩ => ⟨cA, fun _ => h⟩
    have wd : ∀ (i : Nat) {w : Cond}, lw_tbl[i]? = some w → w.before #[Value.ref b] s = true := fun i {w} h => hts w (List.mem_of_getElem? h)
    rcases (show t = 0 ∨ t = 1 ∨ t = 2 ∨ t = 3 ∨ t = 4 ∨ t = 5 ∨ t = 6 ∨ t = 7 ∨ t = 8 ∨ t = 9 ∨ t = 10 ∨ 10 < t by omega) with rfl | rfl | rfl | rfl | rfl | rfl | rfl | rfl | rfl | rfl | rfl | h
    · exact one (kn_ap (wd 1402 (by decide +kernel)) (fun _ h => by cases h))
    · exact one (kn_ap (wd 111 (by decide +kernel)) (fun _ h => by cases h))
    · exact one (kn_ap (wd 1403 (by decide +kernel)) (fun _ h => by cases h))
    · exact one (kn_ap (wd 2084 (by decide +kernel)) (fun _ h => by cases h))
    · exact one (kn_ap (wd 460 (by decide +kernel)) (fun _ h => by cases h))
    · exact one (kn_ao (wd 94 (by decide +kernel)))
    · exact one (kn_ao (wd 96 (by decide +kernel)))
    · exact one (kn_ao (wd 98 (by decide +kernel)))
    · exact one (kn_ao (wd 100 (by decide +kernel)))
    · exact one (kn_ao (wd 1694 (by decide +kernel)))
    · exact one (kn_ao (wd 1332 (by decide +kernel)))
    · exact ⟨default, fun z => absurd z (by omega)⟩
  exact Classical.axiomOfChoice h
end KNOWN

