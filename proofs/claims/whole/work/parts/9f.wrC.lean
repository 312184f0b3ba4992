/-! REFERENCE: days marked, sums of days -/
theorem bN_oB {f : Nat → Bool} {j : Nat} : bN (mkR (oB f) j) = bI (f j) := by rw [mkR_b, sB_oB]
theorem IR_56 {S D : fw_DB} {p : Nat} {f : Nat → Bool} (I : IR S D) : IR (dp S 10 p (oB f)) (dp (dp D 57 p (mkR (oB f))) 56 p (frR (oB f))) := by
  obtain ⟨-, -, -, -, a1, a2, a3, a4, a5⟩ := id I
  refine IR_put I (dp_k (by decide)) (fun k hk => funext fun j => (dp_k (by omega)).trans (dp_k (by omega))) (fun l hl => ?_) (fun j hj => ?_) (fun j hj => ?_) (fun r hr => ?_) (fun q hq => ?_)
  · rw [dp_k (by decide), dp_k (by decide), dp_k (by decide)]
    exact a1 l hl
  · rw [dp_k (by decide), dp_k (by decide), dp_k (by decide), dp_k (by decide)]
    exact a2 j hj
  · rw [dp_k (by decide), dp_k (by decide), dp_k (by decide)]
    exact a3 j hj
  · rw [dp_k (by decide), dp_k (by decide), dp_k (by decide)]
    exact a4 r hr
  · rw [dp_k (k := 56) (k' := 57) (by decide), dp_k (k := 56) (k' := 58) (by decide), dp_k (k := 57) (k' := 58) (by decide), dp_k (k := 10) (k' := 12) (by decide)]
    by_cases c : q = p
    · rw [c, dp_s, dp_s, dp_s]
      exact ⟨rfl, rfl, (a5 p (c ▸ hq)).2.2⟩
    · rw [dp_i c, dp_i c, dp_i c, dp_k (by decide)]
      exact a5 q hq
theorem IR_58 {S D : fw_DB} {p : Nat} {f : Nat → Bool} (I : IR S D) : IR (dp S 12 p (oB f)) (dp D 58 p (mkR (oB f))) := by
  obtain ⟨-, -, -, -, a1, a2, a3, a4, a5⟩ := id I
  refine IR_put I (dp_k (by decide)) (fun k hk => funext fun j => dp_k (by omega)) (fun l hl => ?_) (fun j hj => ?_) (fun j hj => ?_) (fun r hr => ?_) (fun q hq => ?_)
  · rw [dp_k (by decide), dp_k (by decide)]
    exact a1 l hl
  · rw [dp_k (by decide), dp_k (by decide), dp_k (by decide)]
    exact a2 j hj
  · rw [dp_k (by decide), dp_k (by decide)]
    exact a3 j hj
  · rw [dp_k (by decide), dp_k (by decide)]
    exact a4 r hr
  · rw [dp_k (k := 58) (k' := 57) (by decide), dp_k (k := 58) (k' := 56) (by decide), dp_k (k := 12) (k' := 10) (by decide)]
    by_cases c : q = p
    · rw [c, dp_s, dp_s]
      exact ⟨(a5 p (c ▸ hq)).1, (a5 p (c ▸ hq)).2.1, rfl⟩
    · rw [dp_i c, dp_i c]
      exact a5 q hq
section WRC
variable {G : fw_G} {n : Nat} {S D : fw_DB} {A : fw_AD} {M : fw_MP} {h : fw_H}
theorem up_same {H : fw_H} {q : Nat} {o : fw_O} (e : H q = some o) : fw_up H q o = H := funext fun b => by
  by_cases c : b = q
  · rw [c, fw_up_s, e]
  · rw [fw_up_n c]
theorem iv_s {a k j : Nat} (h : a ≤ k) : iv a (k + 1) j = (iv a k j || decide (j = k)) := by
  unfold iv
  by_cases c : j = k
  · subst c
    simp [h]
  · have : decide (j < k + 1) = decide (j < k) := by
      rw [decide_eq_decide]
      omega
    rw [this, decide_eq_false c, Bool.or_false]
set_option maxRecDepth 20000 in
theorem n_marks {q a b : Nat} {g : Nat → Nat} (hq : h q = some (.inl (2, 20000, .inl (fun j => bN (mkR g j))))) (hab : a ≤ b) (hb : b ≤ 20000) : PM G 0 0 0 mm_X17_marks [.ref q, .int (nI a), .int (nI b)] h (fw_qI (fun r h' => r = nI (cu (spF (sB g) a b) 20000) ∧ h' = fw_up h q (.inl (2, 20000, .inl (fun j => bN (mkR (oB (spF (sB g) a b)) j))))) fw_noX) := by
  refine pm_of (by decide +kernel) rfl rfl rfl ?_
  have ef : (fun j => bI (sB g j || iv a b j)) = fun j => bN (mkR (oB (spF (sB g) a b)) j) := funext fun j => by
    rw [bN_oB]
    unfold spF
    rw [Nat.min_eq_left hb]
  have e0 : (fun j => bN (mkR g j)) = fun j => bI (sB g j || iv a a j) := funext fun j => by
    rw [mkR_b]
    congr 1
    have : iv a a j = false := by
      unfold iv
      rw [Bool.and_eq_false_iff, decide_eq_false_iff_not, decide_eq_false_iff_not]
      omega
    rw [this, Bool.or_false]
  rw [← ef]
  obtain ⟨Q, hQ⟩ : ∃ Q, Q = (fw_qI (fun r h' => r = nI (cu (spF (sB g) a b) 20000) ∧ h' = fw_up h q (.inl (2, 20000, .inl (fun j => bI (sB g j || iv a b j))))) fw_noX) := ⟨_, rfl⟩
  rw [← hQ]
  have esp : spF (sB g) a b = fun j => sB g j || iv a b j := funext fun j => by
    unfold spF
    rw [Nat.min_eq_left hb]
  have loop2 : ∀ j k, j + k = 20000 → ∀ L, fw_sL L [(3, .int (nI (cu (spF (sB g) a b) k))), (4, .ref q), (5, .int (nI 20000)), (6, .int (nI k))] → PW G mm_X17_marks Q 0 0 0 (fw_up h q (.inl (2, 20000, .inl (fun j => bI (sB g j || iv a b j))))) 30 L [] := by
    intro j
    induction j with
    | zero =>
      intro k hk L hL
      refine pw_M _ hL ?_
      have hk : k = 20000 := by omega
      subst hk
      iterate 2 refine pw_go tk_X17_marks rfl rfl ?_
      refine pw_icN (20000) (20000) tk_X17_marks rfl rfl rfl (by omega) (by omega) (fun _ => ?_) (fun c => absurd (Nat.le_refl 20000) c)
      refine pw_go tk_X17_marks rfl rfl ?_
      rw [hQ]
      exact pw_iret tk_X17_marks rfl rfl rfl ⟨_, rfl, rfl, rfl⟩
    | succ j ih =>
      intro k hk L hL
      refine pw_M _ hL ?_
      have eP : spF (sB g) a b k = (sB g k || iv a b k) := congrFun esp k
      have es : cu (spF (sB g) a b) (k + 1) = cu (spF (sB g) a b) k + (if spF (sB g) a b k = true then 1 else 0) := rfl
      have k55 : ∀ v L, fw_sL L [(3, .int (nI (cu (spF (sB g) a b) k))), (4, .ref q), (5, .int (nI 20000)), (6, .int (nI k))] → cu (spF (sB g) a b) (k + 1) = cu (spF (sB g) a b) k + v → PW G mm_X17_marks Q 0 0 0 (fw_up h q (.inl (2, 20000, .inl (fun j => bI (sB g j || iv a b j))))) 55 L [.int (nI v), .int (nI (cu (spF (sB g) a b) k))] := by
        intro v L hL hv
        refine pw_M _ hL ?_
        refine pw_addN (cu (spF (sB g) a b) k) (v) tk_X17_marks rfl rfl rfl ?_
        rw [← hv]
        iterate 2 refine pw_go tk_X17_marks rfl rfl ?_
        refine pw_go tk_X17_marks rfl rfl ?_
        exact ih (k + 1) (by omega) _ ⟨rfl, rfl, rfl, congrArg (fun z => some (Value.int z)) (nI_1 k), trivial⟩
      iterate 2 refine pw_go tk_X17_marks rfl rfl ?_
      refine pw_icN (k) (20000) tk_X17_marks rfl rfl rfl (by omega) (by omega) (fun c => absurd (show 20000 ≤ k from c) (by omega)) (fun _ => ?_)
      iterate 2 refine pw_go tk_X17_marks rfl rfl ?_
      refine pw_zaldN tk_X17_marks rfl fw_up_s rfl (by omega) (by omega) ?_
      iterate 3 refine pw_go tk_X17_marks rfl rfl ?_
      refine pw_ifeqB (b := sB g k || iv a b k) tk_X17_marks rfl (fun c => ?_) (fun c => ?_)
      · rw [eP, c] at es
        refine pw_go tk_X17_marks rfl rfl ?_
        exact k55 0 _ ⟨rfl, rfl, rfl, rfl, trivial⟩ es
      · rw [eP, c] at es
        iterate 2 refine pw_go tk_X17_marks rfl rfl ?_
        exact k55 1 _ ⟨rfl, rfl, rfl, rfl, trivial⟩ es
  have loop1 : ∀ j k, j + k = b → a ≤ k → ∀ L, fw_sL L [(0, .ref q), (1, .int (nI a)), (2, .int (nI b)), (3, .int (nI k))] → PW G mm_X17_marks Q 0 0 0 (fw_up h q (.inl (2, 20000, .inl (fun j => bI (sB g j || iv a k j))))) 2 L [] := by
    intro j
    induction j with
    | zero =>
      intro k hk hak L hL
      refine pw_M _ hL ?_
      have hk : k = b := by omega
      subst hk
      iterate 2 refine pw_go tk_X17_marks rfl rfl ?_
      refine pw_icN (k) (k) tk_X17_marks rfl rfl rfl (by omega) (by omega) (fun _ => ?_) (fun c => absurd (Nat.le_refl k) c)
      iterate 5 refine pw_go tk_X17_marks rfl rfl ?_
      refine pw_alen tk_X17_marks rfl fw_up_s (by decide) ?_
      iterate 3 refine pw_go tk_X17_marks rfl rfl ?_
      exact loop2 20000 0 (by omega) _ ⟨rfl, rfl, rfl, rfl, trivial⟩
    | succ j ih =>
      intro k hk hak L hL
      refine pw_M _ hL ?_
      iterate 2 refine pw_go tk_X17_marks rfl rfl ?_
      refine pw_icN (k) (b) tk_X17_marks rfl rfl rfl (by omega) (by omega) (fun c => absurd (show b ≤ k from c) (by omega)) (fun _ => ?_)
      iterate 3 refine pw_go tk_X17_marks rfl rfl ?_
      refine pw_zastN (z := true) (k := k) tk_X17_marks rfl fw_up_s rfl (by omega) (by omega) ?_
      rw [fw_up_2]
      refine pw_h (h' := fw_up h q (.inl (2, 20000, .inl (fun j => bI (sB g j || iv a (k + 1) j))))) (by
        congr 5
        funext j
        unfold upd
        show (if j = k then bI true else bI (sB g j || iv a k j)) = _
        rw [iv_s hak]
        by_cases z : j = k
        · rw [if_pos z, decide_eq_true z, Bool.or_true, Bool.or_true]
        · rw [if_neg z, decide_eq_false z, Bool.or_false]) ?_
      refine pw_go tk_X17_marks rfl rfl ?_
      refine pw_go tk_X17_marks rfl rfl ?_
      exact ih (k + 1) (by omega) (by omega) _ ⟨rfl, rfl, rfl, congrArg (fun z => some (Value.int z)) (nI_1 k), trivial⟩
  iterate 2 refine pw_go tk_X17_marks rfl rfl ?_
  have k := loop1 (b - a) a (by omega) (Nat.le_refl a) [(3, .int (nI a)), (0, .ref q), (1, .int (nI a)), (2, .int (nI b))] ⟨rfl, rfl, rfl, rfl, trivial⟩
  rw [e0] at hq
  rw [up_same hq] at k
  exact k
set_option maxRecDepth 20000 in
theorem n_sums {a q1 q2 q3 : Nat} {g : Nat → Nat} {f : Nat → Int32} (ha : h a = some (.inr (17, [.ref q1, .ref q2, .ref q3]))) (h1 : h q1 = some (.inl (0, 20001, .inl f))) (h2 : h q2 = some (.inl (2, 20000, .inl (fun j => bN (mkR g j))))) (f0 : f 0 = nI 0) (hf : ∀ j, 20000 < j → f j = nI 0) : PM G 0 0 0 mm_X14_sums [.ref a] h (fw_qV (fun h' => h' = fw_up h q1 (.inl (0, 20001, .inl (fun j => nI (frR g j))))) fw_noX) := by
  refine pm_of (by decide +kernel) rfl rfl rfl ?_
  have na : ∀ o, fw_up h q1 o a = some (.inr (17, [.ref q1, .ref q2, .ref q3])) := fun o => by
    rw [fw_up_n (fun z => by rw [z, h1] at ha; cases ha)]
    exact ha
  have n2 : ∀ o, fw_up h q1 o q2 = some (.inl (2, 20000, .inl (fun j => bN (mkR g j)))) := fun o => by
    rw [fw_up_n (fun z => by rw [z, h1] at h2; cases h2)]
    exact h2
  have loop : ∀ j k, j + k = 20000 → ∀ L, fw_sL L [(0, .ref a), (1, .int (nI k))] → PW G mm_X14_sums (fw_qV (fun h' => h' = fw_up h q1 (.inl (0, 20001, .inl (fun j => nI (frR g j))))) fw_noX) 0 0 0 (fw_up h q1 (.inl (0, 20001, .inl (fun j => if j ≤ k then nI (cu (fun d => !sB g d) j) else f j)))) 2 L [] := by
    intro j
    induction j with
    | zero =>
      intro k hk L hL
      refine pw_M _ hL ?_
      have hk : k = 20000 := by omega
      subst hk
      iterate 2 refine pw_go tk_X14_sums rfl rfl ?_
      refine pw_icN (20000) (20000) tk_X14_sums rfl rfl rfl (by omega) (by omega) (fun _ => ?_) (fun c => absurd (Nat.le_refl 20000) c)
      refine pw_h (h' := fw_up h q1 (.inl (0, 20001, .inl (fun j => nI (frR g j))))) (by
        congr 5
        funext j
        unfold frR
        split
        · rfl
        · exact hf j (by omega)) ?_
      exact pw_vret tk_X14_sums rfl rfl ⟨rfl, rfl⟩
    | succ j ih =>
      intro k hk L hL
      refine pw_M _ hL ?_
      have es : cu (fun d => !sB g d) (k + 1) = cu (fun d => !sB g d) k + (if (!sB g k) = true then 1 else 0) := rfl
      have k36 : ∀ v L, fw_sL L [(0, .ref a), (1, .int (nI k))] → cu (fun d => !sB g d) (k + 1) = cu (fun d => !sB g d) k + v → PW G mm_X14_sums (fw_qV (fun h' => h' = fw_up h q1 (.inl (0, 20001, .inl (fun j => nI (frR g j))))) fw_noX) 0 0 0 (fw_up h q1 (.inl (0, 20001, .inl (fun j => if j ≤ k then nI (cu (fun d => !sB g d) j) else f j)))) 36 L [.int (nI v), .int (nI (cu (fun d => !sB g d) k)), .int (nI (k + 1)), .ref q1] := by
        intro v L hL hv
        refine pw_M _ hL ?_
        refine pw_addN (cu (fun d => !sB g d) k) (v) tk_X14_sums rfl rfl rfl ?_
        rw [← hv]
        refine pw_iastN (k := k + 1) tk_X14_sums rfl fw_up_s rfl (by omega) (by omega) ?_
        rw [fw_up_2]
        refine pw_h (h' := fw_up h q1 (.inl (0, 20001, .inl (fun j => if j ≤ k + 1 then nI (cu (fun d => !sB g d) j) else f j)))) (by
          congr 5
          funext j
          unfold upd
          by_cases z : j = k + 1
          · rw [if_pos z, if_pos (by omega), z]
          · rw [if_neg z]
            show (if j ≤ k then nI (cu (fun d => !sB g d) j) else f j) = _
            by_cases z2 : j ≤ k
            · rw [if_pos z2, if_pos (by omega)]
            · rw [if_neg z2, if_neg (by omega)]) ?_
        refine pw_go tk_X14_sums rfl rfl ?_
        refine pw_go tk_X14_sums rfl rfl ?_
        exact ih (k + 1) (by omega) _ ⟨rfl, congrArg (fun z => some (Value.int z)) (nI_1 k), trivial⟩
      iterate 2 refine pw_go tk_X14_sums rfl rfl ?_
      refine pw_icN (k) (20000) tk_X14_sums rfl rfl rfl (by omega) (by omega) (fun c => absurd (show 20000 ≤ k from c) (by omega)) (fun _ => ?_)
      refine pw_go tk_X14_sums rfl rfl ?_
      refine pw_get tk_X14_sums rfl fl_X14_9 (na _) rfl ?_
      iterate 2 refine pw_go tk_X14_sums rfl rfl ?_
      refine pw_addN (k) (1) tk_X14_sums rfl rfl rfl ?_
      refine pw_go tk_X14_sums rfl rfl ?_
      refine pw_get tk_X14_sums rfl fl_X14_9 (na _) rfl ?_
      refine pw_go tk_X14_sums rfl rfl ?_
      refine pw_ialdN (k := k) tk_X14_sums rfl fw_up_s rfl (by omega) (by omega) ?_
      refine pw_i (x' := nI (cu (fun d => !sB g d) k)) (if_pos (Nat.le_refl k)) ?_
      refine pw_go tk_X14_sums rfl rfl ?_
      refine pw_get tk_X14_sums rfl fl_X14_15 (na _) rfl ?_
      refine pw_go tk_X14_sums rfl rfl ?_
      refine pw_zaldN (k := k) tk_X14_sums rfl (n2 _) rfl (by omega) (by omega) ?_
      rw [mkR_b]
      refine pw_ifeqB tk_X14_sums rfl (fun c => ?_) (fun c => ?_)
      · rw [c] at es
        refine pw_go tk_X14_sums rfl rfl ?_
        exact k36 1 _ ⟨rfl, rfl, trivial⟩ es
      · rw [c] at es
        iterate 2 refine pw_go tk_X14_sums rfl rfl ?_
        exact k36 0 _ ⟨rfl, rfl, trivial⟩ es
  iterate 2 refine pw_go tk_X14_sums rfl rfl ?_
  have k := loop 20000 0 (by omega) [(1, .int (nI 0)), (0, .ref a)] ⟨rfl, rfl, trivial⟩
  have e0 : h q1 = some (.inl (0, 20001, .inl (fun j => if j ≤ 0 then nI (cu (fun d => !sB g d) j) else f j))) := by
    rw [h1]
    congr 5
    funext j
    split
    · have : j = 0 := by omega
      rw [this, f0]
      rfl
    · rfl
  rw [up_same e0] at k
  exact k
set_option maxRecDepth 20000 in
theorem m_atLarge {x y z : Int32} (R : RD G n S D A M h) : PM G 4 0 0 mm_X17_atLarge [.ref (A 30 0), .int x, .int y, .int z] h (fw_qI (fun r h' => wdn S (atS S x.toNatClampNeg y.toNatClampNeg z.toNatClampNeg) D A (pdK (S 99 0 8) x (spI y z)) (nI (atV S x.toNatClampNeg y.toNatClampNeg z.toNatClampNeg)) r h') fw_noX) := by
  refine pm_of (by decide +kernel) rfl rfl rfl ?_
  have hN := R.n7
  iterate 4 refine pw_go tk_X17_atLarge rfl rfl ?_
  refine pw_csp tk_X17_atLarge rfl ca_X17_areSpan lk_X17_193 sx_X17_areSpan (As := [.int y, .int z]) (rest := [.int x, .ref (A 30 0)]) (n_areSpan) rfl rfl rfl rfl ?_
  refine pw_cv tk_X17_atLarge rfl ca_X17_noPerson lk_X17_181 iv_X17_noPerson sv_X17_noPerson R.m rfl rfl (As := [.int x, .int (bI (spI y z))]) (rest := [])  (n_noPerson R) rfl rfl rfl (Nat.le_of_ble_eq_true rfl) (Nat.le_of_eq (Nat.zero_add _)) (Nat.le_of_eq (Nat.zero_add _)) ?_ ?_
  · rintro _ H ⟨_, rfl, rfl, e9⟩
    rw [e9]
    have R1 := R.t (pdK (S 99 0 8) x (spI y z))
    by_cases hk : 0 < pdK (S 99 0 8) x (spI y z)
    · rw [decide_eq_true hk]
      refine pw_ifeqB tk_X17_atLarge rfl (fun c => absurd c (by decide)) (fun _ => ?_)
      refine pw_go tk_X17_atLarge rfl rfl ?_
      exact pw_iret tk_X17_atLarge rfl rfl rfl ⟨_, rfl, wdn_1 rfl (by omega) (rdn_of R1)⟩
    · have hk0 : pdK (S 99 0 8) x (spI y z) = 0 := by omega
      obtain ⟨h1, h2⟩ := pd0 hk0
      obtain ⟨p, hp, rfl⟩ := knI_to h1 (by omega)
      obtain ⟨a, b, rfl, rfl, hab, hb⟩ := spI_to h2
      rw [decide_eq_false hk]
      rw [nI_tn (by omega), nI_tn (by omega), nI_tn (by omega)]
      rw [hk0] at R1 ⊢
      generalize tU A D h 0 = h3 at *
      refine pw_ifeqB tk_X17_atLarge rfl (fun _ => ?_) (fun c => absurd c (by decide))
      refine pw_go tk_X17_atLarge rfl rfl ?_
      refine pw_get tk_X17_atLarge rfl fl_X17_16 R1.m rfl ?_
      refine pw_go tk_X17_atLarge rfl rfl ?_
      refine pw_lget (k := p) tk_X17_atLarge rfl (R1.l2) hp rfl rfl rfl rfl ?_
      refine pw_cast tk_X17_atLarge rfl (R1.per hp) rfl cw_X17_112 ?_
      refine pw_get tk_X17_atLarge rfl fl_X17_197 (R1.per hp) rfl ?_
      iterate 2 refine pw_go tk_X17_atLarge rfl rfl ?_
      have hi7 : p < sT D 0 99 0 57 := by rw [R1.2.1.2.2.1.2.1]; exact hp
      have hi6 : p < sT D 0 99 0 56 := by rw [R1.2.1.2.2.1.1]; exact hp
      refine pw_cs (kc' := 0) (ks' := 0) tk_X17_atLarge rfl ca_X17_marks lk_X17_201 sx_X17_marks (As := [.ref (A 57 p), .int (nI a), .int (nI b)]) (rest := []) (n_marks (R1.away hp) (by omega) hb) rfl rfl rfl (Nat.le_of_ble_eq_true rfl) (Nat.le_of_eq (Nat.zero_add _)) (Nat.le_of_eq (Nat.zero_add _)) ?_ (fun _ _ z => z.elim)
      rintro _ H ⟨_, rfl, rfl, e9⟩
      rw [e9]
      have s7 := sub_set (mkR (oB (spF (sB (S 10 p)) a b))) R1.2.2.1 (R1.2.2.1.lv hi7) R1.2.2.2.1
      have W7 := R1.2.2.1.put (k := 57) (i := p) (g := mkR (oB (spF (sB (S 10 p)) a b))) (by decide) trivial
      have W6 := W7.put (k := 56) (i := p) (g := frR (oB (spF (sB (S 10 p)) a b))) (by decide) trivial
      have L6 : M (A 56 p) = some (56, p) := R1.2.2.1.lv hi6
      have s6 := sub_set (frR (oB (spF (sB (S 10 p)) a b))) W7 L6 s7
      have ne : ∀ {c : Nat} {o : fw_O}, h3 c = some o → (∀ g, o ≠ .inl (2, 20000, .inl g)) → fw_up h3 (A 57 p) (kRow A 57 p (mkR (oB (spF (sB (S 10 p)) a b)))) c = some o := fun {c o} hc hn => by
        rw [fw_up_n (fun z => by rw [z, R1.away hp] at hc; cases hc; exact hn _ rfl)]
        exact hc
      have a7 : fw_up h3 (A 57 p) (kRow A 57 p (mkR (oB (spF (sB (S 10 p)) a b)))) (A 57 p) = some (.inl (2, 20000, .inl (fun j => bN (mkR (oB (spF (sB (S 10 p)) a b)) j)))) := fw_up_s
      have a6 := ne (R1.free hp) (fun g hg => by cases hg)
      have aP := ne (R1.per hp) (fun g hg => by cases hg)
      have aM := ne R1.m (fun g hg => by cases hg)
      have aL : LV (fw_up h3 (A 57 p) (kRow A 57 p (mkR (oB (spF (sB (S 10 p)) a b))))) (A 32 0) (S 99 0 8) (A 52) := by
        obtain ⟨e, cap, l1, l2, l3⟩ := R1.l2
        exact ⟨e, cap, ne l1 (fun g hg => by cases hg), fun z => (l2 z).imp fun f hf => ⟨ne hf.1 (fun g hg => by cases hg), hf.2⟩, l3⟩
      refine pw_h (h' := fw_up h3 (A 57 p) (kRow A 57 p (mkR (oB (spF (sB (S 10 p)) a b))))) rfl ?_
      generalize hH : fw_up h3 (A 57 p) (kRow A 57 p (mkR (oB (spF (sB (S 10 p)) a b)))) = h4 at *
      iterate 2 refine pw_go tk_X17_atLarge rfl rfl ?_
      refine pw_get tk_X17_atLarge rfl fl_X17_16 aM rfl ?_
      refine pw_go tk_X17_atLarge rfl rfl ?_
      refine pw_lget (k := p) tk_X17_atLarge rfl (aL) hp rfl rfl rfl rfl ?_
      refine pw_cast tk_X17_atLarge rfl (aP) rfl cw_X17_112 ?_
      refine pw_cv tk_X17_atLarge rfl ca_X14_sums lk_X17_205 iv_X14_sums sv_X14_sums aP rfl rfl (As := []) (rest := [])  (n_sums aP a6 a7 (by show nI (frR (S 10 p) 0) = nI 0; rfl) (fun j hj => by show nI (frR (S 10 p) j) = nI 0; unfold frR; rw [if_neg (by omega)])) rfl rfl rfl (Nat.le_of_ble_eq_true rfl) (Nat.le_of_eq (Nat.zero_add _)) (Nat.le_of_eq (Nat.zero_add _)) ?_ ?_
      · rintro _ H2 ⟨rfl, e10⟩
        rw [e10]
        refine pw_go tk_X17_atLarge rfl rfl ?_
        refine pw_iret tk_X17_atLarge rfl rfl rfl ⟨_, rfl, ?_⟩
        have eV : nI (cu (spF (sB (S 10 p)) a b) 20000) = nI (atV S p a b) := by
          unfold atV
          rw [cu_iv (f := spF (sB (S 10 p)) a b) (by omega)]
          rfl
        rw [eV]
        refine wdn_0 rfl ⟨_, A, M, IR_56 R1.2.1, W6, s6, ((lo_dp (by decide)).tr (lo_dp (by decide))).tr (lo_dp (by decide)), adk.rf, ?_⟩
        rw [dp_k (by decide), dp_k (by decide)]
        exact sT_0
      · exact fun _ _ z => z.elim
  · exact fun _ _ z => z.elim
set_option maxRecDepth 20000 in
theorem m_held {x y z : Int32} (R : RD G n S D A M h) : PM G 4 0 0 mm_X17_held [.ref (A 30 0), .int x, .int y, .int z] h (fw_qI (fun r h' => wdn S (heS S x.toNatClampNeg y.toNatClampNeg z.toNatClampNeg) D A (pdK (S 99 0 8) x (spI y z)) (nI (heV S x.toNatClampNeg y.toNatClampNeg z.toNatClampNeg)) r h') fw_noX) := by
  refine pm_of (by decide +kernel) rfl rfl rfl ?_
  have hN := R.n7
  iterate 4 refine pw_go tk_X17_held rfl rfl ?_
  refine pw_csp tk_X17_held rfl ca_X17_areSpan lk_X17_193 sx_X17_areSpan (As := [.int y, .int z]) (rest := [.int x, .ref (A 30 0)]) (n_areSpan) rfl rfl rfl rfl ?_
  refine pw_cv tk_X17_held rfl ca_X17_noPerson lk_X17_181 iv_X17_noPerson sv_X17_noPerson R.m rfl rfl (As := [.int x, .int (bI (spI y z))]) (rest := [])  (n_noPerson R) rfl rfl rfl (Nat.le_of_ble_eq_true rfl) (Nat.le_of_eq (Nat.zero_add _)) (Nat.le_of_eq (Nat.zero_add _)) ?_ ?_
  · rintro _ H ⟨_, rfl, rfl, e9⟩
    rw [e9]
    have R1 := R.t (pdK (S 99 0 8) x (spI y z))
    by_cases hk : 0 < pdK (S 99 0 8) x (spI y z)
    · rw [decide_eq_true hk]
      refine pw_ifeqB tk_X17_held rfl (fun c => absurd c (by decide)) (fun _ => ?_)
      iterate 2 refine pw_go tk_X17_held rfl rfl ?_
      exact pw_iret tk_X17_held rfl rfl rfl ⟨_, rfl, wdn_1 rfl (by omega) (rdn_of R1)⟩
    · have hk0 : pdK (S 99 0 8) x (spI y z) = 0 := by omega
      obtain ⟨h1, h2⟩ := pd0 hk0
      obtain ⟨p, hp, rfl⟩ := knI_to h1 (by omega)
      obtain ⟨a, b, rfl, rfl, hab, hb⟩ := spI_to h2
      rw [decide_eq_false hk]
      rw [nI_tn (by omega), nI_tn (by omega), nI_tn (by omega)]
      rw [hk0] at R1 ⊢
      generalize tU A D h 0 = h3 at *
      refine pw_ifeqB tk_X17_held rfl (fun _ => ?_) (fun c => absurd c (by decide))
      refine pw_go tk_X17_held rfl rfl ?_
      refine pw_get tk_X17_held rfl fl_X17_16 R1.m rfl ?_
      refine pw_go tk_X17_held rfl rfl ?_
      refine pw_lget (k := p) tk_X17_held rfl (R1.l2) hp rfl rfl rfl rfl ?_
      refine pw_cast tk_X17_held rfl (R1.per hp) rfl cw_X17_112 ?_
      refine pw_get tk_X17_held rfl fl_X17_313 (R1.per hp) rfl ?_
      iterate 2 refine pw_go tk_X17_held rfl rfl ?_
      have hi8 : p < sT D 0 99 0 58 := by rw [R1.2.1.2.2.1.2.2]; exact hp
      refine pw_cs (kc' := 0) (ks' := 0) tk_X17_held rfl ca_X17_marks lk_X17_201 sx_X17_marks (As := [.ref (A 58 p), .int (nI a), .int (nI b)]) (rest := []) (n_marks (R1.held hp) (by omega) hb) rfl rfl rfl (Nat.le_of_ble_eq_true rfl) (Nat.le_of_eq (Nat.zero_add _)) (Nat.le_of_eq (Nat.zero_add _)) ?_ (fun _ _ z => z.elim)
      rintro _ H ⟨_, rfl, rfl, e9⟩
      rw [e9]
      refine pw_h (h' := fw_up h3 (A 58 p) (kRow A 58 p (mkR (oB (spF (sB (S 12 p)) a b))))) rfl ?_
      refine pw_iret tk_X17_held rfl rfl rfl ⟨_, rfl, ?_⟩
      have eV : nI (cu (spF (sB (S 12 p)) a b) 20000) = nI (heV S p a b) := by
        unfold heV
        rw [cu_iv (f := spF (sB (S 12 p)) a b) (by omega)]
        rfl
      rw [eV]
      exact wdn_0 rfl (rdn_put R1 hi8 (by decide) trivial (IR_58 R1.2.1))
  · exact fun _ _ z => z.elim
end WRC

