/-! REFERENCE: the days added of a person, in a list -/
theorem RD.mono {G : fw_G} {n : Nat} {S D : fw_DB} {A : fw_AD} {M : fw_MP} {h H : fw_H} (R : RD G n S D A M h) (s : ∀ (b : Nat) (o : fw_O), h b = some o → H b = some o) : RD G n S D A M H := ⟨R.1, R.2.1, R.2.2.1, fun b o x => s b o (R.2.2.2.1 b o x), R.2.2.2.2⟩
theorem LV.mono {h H : fw_H} {a n : Nat} {F : Nat → Nat} (l : LV h a n F) (s : ∀ (b : Nat) (o : fw_O), h b = some o → H b = some o) : LV H a n F := by
  obtain ⟨e, cap, h1, h2, h3⟩ := l
  exact ⟨e, cap, s _ _ h1, fun z => (h2 z).imp fun f hf => ⟨s _ _ hf.1, hf.2⟩, h3⟩
def okc (c : Nat) : Prop := c = 0 ∨ c = 10 ∨ c = 15 ∨ c = 22 ∨ c = 33
def pC (c : Nat) : Nat := if c = 0 then 4 else if c = 10 then 3 else if c = 15 then 2 else if c = 22 then 1 else 0
def pS (c : Nat) : Nat := if c = 0 then 80 else if c = 10 then 70 else if c = 15 then 55 else if c = 22 then 33 else 0
def nx (n c : Nat) : Nat := if n = c then ncap c else c
theorem okc_n {n c : Nat} (h : okc c) (hn : n ≤ c) (h30 : n ≤ 30) : okc (nx n c) ∧ gC n c + pC (nx n c) ≤ pC c ∧ gS n c + pS (nx n c) ≤ pS c ∧ n < nx n c ∧ nx n c ≠ 0 := by
  unfold nx gC gS
  by_cases e : n = c
  · subst e
    rw [if_pos rfl, if_pos rfl, if_pos rfl]
    rcases h with rfl | rfl | rfl | rfl | rfl <;> unfold okc <;> first | decide | omega
  · rw [if_neg e, if_neg e, if_neg e]
    exact ⟨h, by omega, by omega, by omega, by omega⟩
/-- a list under way, of the numbers l, an iterator beside it, over the heap h -/
def AL (G : fw_G) (h H : fw_H) (A : fw_AD) (a : Nat) (l : List Nat) (e cap it : Nat) : Prop := (∀ (b : Nat) (o : fw_O), h b = some o → H b = some o) ∧ h a = none ∧ (cap ≠ 0 → h e = none ∧ e ≠ it) ∧ h it = none ∧ a ≠ it ∧ H a = some (lsO l.length e l.length) ∧ ar G H l.length e cap (lfn (A 54) l) ∧ l.length ≤ cap ∧ okc cap
theorem AL.lv {G : fw_G} {h H : fw_H} {A : fw_AD} {a e cap it : Nat} {l : List Nat} (X : AL G h H A a l e cap it) : LV H a l.length (fun j => A 54 (l.getD j 0)) := by
  obtain ⟨-, -, -, -, -, x1, x2, x3, x4⟩ := X
  have hc : cap ≤ 33 := by rcases x4 with z | z | z | z | z <;> omega
  refine ⟨e, cap, x1, fun z => ?_, by omega⟩
  rcases x2 with ⟨-, -, y⟩ | ⟨y1, y2⟩
  · omega
  · exact ⟨_, y1, x3, by omega, fun j hj => lfn_at hj⟩
theorem AL.it {G : fw_G} {h H : fw_H} {A : fw_AD} {a e cap it : Nat} {l : List Nat} (X : AL G h H A a l e cap it) (o : fw_O) : AL G h (fw_up H it o) A a l e cap it := by
  obtain ⟨x0, x1, x2, x3, x4, x5, x6, x7, x8⟩ := X
  refine ⟨fun b y hb => ?_, x1, x2, x3, x4, ?_, ?_, x7, x8⟩
  · rw [fw_up_n (fun z => by rw [z, x3] at hb; cases hb)]
    exact x0 b y hb
  · rw [fw_up_n x4]
    exact x5
  · rcases x6 with z | ⟨z1, z2⟩
    · exact Or.inl z
    · exact Or.inr ⟨by rw [fw_up_n (x2 (by omega)).2]; exact z1, z2⟩
theorem AL.add {G : fw_G} {h H h1 : fw_H} {A : fw_AD} {a e cap it i k e1 cap1 : Nat} {f1 : Nat → Option Nat} {l : List Nat} (X : AL G h H A a l e cap it) (hi : i ≤ l.length) (h30 : l.length ≤ 30) (hit : H it ≠ none) (g : gw H l.length e cap (lfn (A 54) l) h1 e1 cap1 f1) : AL G h (fw_up (fw_up h1 e1 (oA cap1 (insF i l.length (A 54 k) f1))) a (lsO (l.length + 1) e1 (l.length + 1))) A a (l.take i ++ k :: l.drop i) e1 cap1 it ∧ fw_up (fw_up h1 e1 (oA cap1 (insF i l.length (A 54 k) f1))) a (lsO (l.length + 1) e1 (l.length + 1)) it = H it ∧ cap1 = nx l.length cap := by
  obtain ⟨x0, x1, x2, x3, x4, x5, x6, x7, x8⟩ := X
  have hlen : (l.take i ++ k :: l.drop i).length = l.length + 1 := by
    rw [List.length_append, List.length_take, List.length_cons, List.length_drop, Nat.min_eq_left hi]
    omega
  have ok := okc_n x8 x7 h30
  have key : ∀ H1 : fw_H, (∀ b o, h b = some o → H1 b = some o) → H1 it = H it → h e1 = none → e1 ≠ it → a ≠ e1 → cap1 = nx l.length cap → f1 = lfn (A 54) l → AL G h (fw_up (fw_up H1 e1 (oA cap1 (insF i l.length (A 54 k) f1))) a (lsO (l.length + 1) e1 (l.length + 1))) A a (l.take i ++ k :: l.drop i) e1 cap1 it ∧ fw_up (fw_up H1 e1 (oA cap1 (insF i l.length (A 54 k) f1))) a (lsO (l.length + 1) e1 (l.length + 1)) it = H it ∧ cap1 = nx l.length cap := by
    intro H1 y0 y1 y2 y3 y4 y5 y6
    refine ⟨⟨fun b o hb => ?_, x1, fun _ => ⟨y2, y3⟩, x3, x4, ?_, ?_, ?_, ?_⟩, ?_, y5⟩
    · rw [fw_up_n (fun z => by rw [z, x1] at hb; cases hb), fw_up_n (fun z => by rw [z, y2] at hb; cases hb)]
      exact y0 b o hb
    · rw [fw_up_s, hlen]
    · refine Or.inr ⟨?_, by rw [y5]; omega⟩
      rw [fw_up_n y4.symm, fw_up_s, y6, insF_is hi]
    · rw [hlen, y5]
      omega
    · rw [y5]
      exact ok.1
    · rw [fw_up_n x4.symm, fw_up_n y3.symm]
      exact y1
  rcases g with ⟨g1, rfl, rfl, rfl, rfl⟩ | ⟨g1, g2, g3, g4, rfl⟩
  · have hc : cap1 ≠ 0 := by omega
    obtain ⟨z1, z2⟩ := x2 hc
    refine key h1 x0 rfl z1 z2 (fun z => ?_) ?_ rfl
    · rcases x6 with ⟨-, w, -⟩ | ⟨w, -⟩
      · omega
      · rw [← z, x5] at w
        cases w
    · unfold nx
      rw [if_neg (by omega)]
  · have z1 : h e1 = none := by
      cases c : h e1 with
      | none => rfl
      | some o => rw [x0 e1 o c] at g2; cases g2
    have z2 : e1 ≠ it := fun z => hit (by rw [← z]; exact g2)
    refine key _ (fun b o hb => up_sub g2 _ _ (x0 b o hb)) (fw_up_n z2.symm) z1 z2 (fun z => by rw [← z, x5] at g2; cases g2) ?_ ?_
    · rw [g3]
      unfold nx
      rw [if_pos g1]
    · rw [g4, lfn_cut]
section REF9
variable {G : fw_G} {n : Nat} {S D : fw_DB} {A : fw_AD} {M : fw_MP} {h : fw_H}
theorem alP_mem {p k i : Nat} (h : i ∈ alP S p k) : i < k := (alN_mem.mp (List.mem_filter.mp h).1).1
theorem alP_len {p : Nat} : ∀ k, (alP S p k).length ≤ k
  | 0 => Nat.le_refl _
  | k + 1 => by
    rw [alP_s]
    have := alP_len (p := p) k
    split
    · unfold insA
      have e : ((alP S p k).takeWhile (fun i => decide (S 16 i 0 ≤ S 16 k 0)) ++ (alP S p k).dropWhile (fun i => decide (S 16 i 0 ≤ S 16 k 0))).length = (alP S p k).length := by rw [List.takeWhile_append_dropWhile]
      rw [List.length_append] at e
      rw [List.length_append, List.length_cons]
      omega
    · omega
set_option maxRecDepth 20000 in
theorem n_addedOf {p : Nat} (R : RD G n S D A M h) (hp : p < 100) : PM G 6 6 87 mm_X17_addedOf [.ref (A 30 0), .int (nI p)] h (fw_qQ (fun x h' => ∃ a, x = some a ∧ (∀ (b : Nat) (o : fw_O), h b = some o → h' b = some o) ∧ LV h' a (alP S p (S 99 0 16)).length (fun j => A 54 ((alP S p (S 99 0 16)).getD j 0))) fw_noX) := by
  refine pm_of (by decide +kernel) rfl rfl rfl ?_
  have hN := R.n7
  have hA : ∀ i, i < S 99 0 16 → S 16 i 0 < 20000 ∧ S 16 i 1 ≤ 200 ∧ S 16 i 3 < S 99 0 8 := fun i hi => ⟨(R.1.1.1.2.2 i hi).1, (R.1.1.1.2.2 i hi).2, R.1.2.2.2.2.2.2.2.1 i hi⟩
  have loop : ∀ j k, j + k = S 99 0 16 → ∀ H a e cap it lst, AL G h H A a (alP S p k) e cap it → H it = some (itO (A 34 0) (S 99 0 16) k lst) → PW G mm_X17_addedOf (fw_qQ (fun x h' => ∃ a, x = some a ∧ (∀ (b : Nat) (o : fw_O), h b = some o → h' b = some o) ∧ LV h' a (alP S p (S 99 0 16)).length (fun j => A 54 ((alP S p (S 99 0 16)).getD j 0))) fw_noX) 6 (pC cap) (pS cap) H 16 [(0, .ref (A 30 0)), (1, .int (nI p)), (2, .ref a), (3, .ref it)] [] := by
    intro j
    induction j with
    | zero =>
      intro k hk H a e cap it lst X hit
      have hk : k = S 99 0 16 := by omega
      subst hk
      have R1 := R.mono X.1
      refine pw_go tk_X17_addedOf rfl rfl ?_
      refine pw_ifh tk_X17_addedOf rfl (hit) (j_hasNext R1.l4 hit (by omega)) (rest := []) rfl rfl rfl rfl ?_
      rw [decide_eq_false (fun z => z rfl)]
      refine pw_ifeqB tk_X17_addedOf rfl (fun _ => ?_) (fun c => absurd c (by decide))
      refine pw_go tk_X17_addedOf rfl rfl ?_
      exact pw_aret (r := some a) tk_X17_addedOf rfl rfl (Or.inl ⟨_, rfl⟩) ⟨some a, rfl, a, rfl, X.1, X.lv⟩
    | succ j ih =>
      intro k hk H a e cap it lst X hit
      have hr : k < S 99 0 16 := by omega
      obtain ⟨q1, q2, q3⟩ := hA k hr
      have R1 := R.mono X.1
      have hlen := alP_len (S := S) (p := p) k
      refine pw_go tk_X17_addedOf rfl rfl ?_
      refine pw_ifh tk_X17_addedOf rfl (hit) (j_hasNext R1.l4 hit (by omega)) (rest := []) rfl rfl rfl rfl ?_
      rw [decide_eq_true (show k ≠ S 99 0 16 by omega)]
      refine pw_ifeqB tk_X17_addedOf rfl (fun c => absurd c (by decide)) (fun _ => ?_)
      refine pw_go tk_X17_addedOf rfl rfl ?_
      refine pw_ifn tk_X17_addedOf rfl (hit) (j_next R1.l4 hit hr) (rest := []) rfl rfl rfl rfl ?_
      have X2 := X.it (itO (A 34 0) (S 99 0 16) (k + 1) (k + 1))
      have hit2 : fw_up H it (itO (A 34 0) (S 99 0 16) (k + 1) (k + 1)) it = some (itO (A 34 0) (S 99 0 16) (k + 1) (k + 1)) := fw_up_s
      generalize fw_up H it (itO (A 34 0) (S 99 0 16) (k + 1) (k + 1)) = H2 at *
      have R2 := R.mono X2.1
      refine pw_cast tk_X17_addedOf rfl (R2.add hr) rfl cw_X17_185 ?_
      iterate 2 refine pw_go tk_X17_addedOf rfl rfl ?_
      refine pw_lsz tk_X17_addedOf rfl (X2.lv) rfl rfl rfl ?_
      refine pw_go tk_X17_addedOf rfl rfl ?_
      have search : ∀ t, t ≤ (alP S p k).length → (∀ j, t ≤ j → j < (alP S p k).length → S 16 k 0 < S 16 ((alP S p k).getD j 0) 0) → PW G mm_X17_addedOf (fw_qQ (fun x h' => ∃ a, x = some a ∧ (∀ (b : Nat) (o : fw_O), h b = some o → h' b = some o) ∧ LV h' a (alP S p (S 99 0 16)).length (fun j => A 54 ((alP S p (S 99 0 16)).getD j 0))) fw_noX) 6 (pC cap) (pS cap) H2 42 [(0, .ref (A 30 0)), (1, .int (nI p)), (2, .ref a), (3, .ref it), (4, .ref (A 54 k)), (5, .int (nI t))] [] := by
        have fin : ∀ t, t ≤ (alP S p k).length → (0 < t → S 16 ((alP S p k).getD (t - 1) 0) 0 ≤ S 16 k 0) → (∀ j, t ≤ j → j < (alP S p k).length → S 16 k 0 < S 16 ((alP S p k).getD j 0) 0) → PW G mm_X17_addedOf (fw_qQ (fun x h' => ∃ a, x = some a ∧ (∀ (b : Nat) (o : fw_O), h b = some o → h' b = some o) ∧ LV h' a (alP S p (S 99 0 16)).length (fun j => A 54 ((alP S p (S 99 0 16)).getD j 0))) fw_noX) 6 (pC cap) (pS cap) H2 75 [(0, .ref (A 30 0)), (1, .int (nI p)), (2, .ref a), (3, .ref it), (4, .ref (A 54 k)), (5, .int (nI t))] [] := by
          intro t ht f1 f2
          refine pw_go tk_X17_addedOf rfl rfl ?_
          refine pw_get tk_X17_addedOf rfl fl_X17_220 (R2.add hr) rfl ?_
          refine pw_go tk_X17_addedOf rfl rfl ?_
          refine pw_icN (S 16 k 3) (p) tk_X17_addedOf rfl rfl rfl (by omega) (by omega) (fun c => ?_) (fun c => ?_)
          · have c : S 16 k 3 ≠ p := c
            refine pw_go tk_X17_addedOf rfl rfl ?_
            refine pw_W (ih (k + 1) (by omega) H2 a e cap it _ ?_ hit2) ⟨rfl, rfl, rfl, rfl, trivial⟩
            rw [alP_s, if_neg (fun z => c z.1)]
            exact X2
          have c : S 16 k 3 = p := Decidable.not_not.mp c
          refine pw_go tk_X17_addedOf rfl rfl ?_
          refine pw_get tk_X17_addedOf rfl fl_X17_190 (R2.add hr) rfl ?_
          refine pw_ifN (S 16 k 1) tk_X17_addedOf rfl rfl (by omega) (fun c2 => ?_) (fun c2 => ?_)
          · have c2 : S 16 k 1 ≤ 0 := c2
            refine pw_go tk_X17_addedOf rfl rfl ?_
            refine pw_W (ih (k + 1) (by omega) H2 a e cap it _ ?_ hit2) ⟨rfl, rfl, rfl, rfl, trivial⟩
            rw [alP_s, if_neg (fun z => by omega)]
            exact X2
          have c2 : ¬ S 16 k 1 ≤ 0 := c2
          iterate 3 refine pw_go tk_X17_addedOf rfl rfl ?_
          obtain ⟨y0, y1, y2, y3, y4, y5, y6, y7, y8⟩ := X2
          have ok := okc_n y8 y7 (by omega)
          have hcap : cap ≤ 48 := by rcases y8 with z | z | z | z | z <;> omega
          refine pw_cv tk_X17_addedOf rfl ca_Jx4a65c_add_7a177 lk_X17_221 iv_Jx4a65c_add_7a177 sv_Jx4a65c_add_7a177 y5 rfl rfl (As := [.int (nI t), .ref (A 54 k)]) (rest := []) (kc' := pC (nx (alP S p k).length cap)) (ks' := pS (nx (alP S p k).length cap)) (j_addI y5 y6 ht y7 (by omega) hcap (ci := 14) rfl (by decide) (fw_nw 2116 (by decide +kernel) (by decide +kernel)) (fun i hi q hq => ?_) (R2.add hr)) rfl rfl rfl (Nat.le_of_ble_eq_true rfl) ok.2.1 ok.2.2.1 ?_ ?_
          · rw [lfn_at hi] at hq
            cases hq
            have hm : (alP S p k).getD i 0 ∈ alP S p k := by
              rw [List.getD_eq_getElem?_getD, List.getElem?_eq_getElem hi]
              exact List.getElem_mem hi
            exact ⟨_, R2.add (show (alP S p k).getD i 0 < S 99 0 16 by have := alP_mem hm; omega)⟩
          · rintro _ h2 ⟨rfl, h1, e1, cap1, f1', g, rfl⟩
            obtain ⟨z1, z2, z3⟩ := AL.add (k := k) ⟨y0, y1, y2, y3, y4, y5, y6, y7, y8⟩ ht (by omega) (by rw [hit2]; exact fun w => by cases w) g
            refine pw_go tk_X17_addedOf rfl rfl ?_
            rw [← z3]
            refine pw_W (ih (k + 1) (by omega) _ a e1 cap1 it _ ?_ (z2.trans hit2)) ⟨rfl, rfl, rfl, rfl, trivial⟩
            rw [alP_s, if_pos ⟨c, by omega⟩, insA_at alP_so ht f1 f2]
            exact z1
          · exact fun _ _ z => z.elim
        intro t
        induction t with
        | zero =>
          intro ht f2
          refine pw_go tk_X17_addedOf rfl rfl ?_
          refine pw_ifN (0) tk_X17_addedOf rfl rfl (by omega) (fun _ => ?_) (fun c => absurd (show 0 ≤ 0 by omega) c)
          exact fin 0 ht (fun z => by omega) f2
        | succ t ih2 =>
          intro ht f2
          have hm : (alP S p k).getD t 0 < S 99 0 16 := by
            have hm : (alP S p k).getD t 0 ∈ alP S p k := by
              rw [List.getD_eq_getElem?_getD, List.getElem?_eq_getElem (show t < (alP S p k).length by omega)]
              exact List.getElem_mem _
            have := alP_mem hm
            omega
          have q4 := (hA _ hm).1
          refine pw_go tk_X17_addedOf rfl rfl ?_
          refine pw_ifN (t + 1) tk_X17_addedOf rfl rfl (by omega) (fun c => absurd (show t + 1 ≤ 0 from c) (by omega)) (fun _ => ?_)
          iterate 3 refine pw_go tk_X17_addedOf rfl rfl ?_
          refine pw_subN (t + 1) (1) tk_X17_addedOf rfl rfl rfl (by omega) ?_
          refine pw_lget (k := t) tk_X17_addedOf rfl (X2.lv) (by omega) rfl rfl rfl rfl ?_
          refine pw_cast tk_X17_addedOf rfl (R2.add hm) rfl cw_X17_185 ?_
          refine pw_get tk_X17_addedOf rfl fl_X17_217 (R2.add hm) rfl ?_
          refine pw_go tk_X17_addedOf rfl rfl ?_
          refine pw_get tk_X17_addedOf rfl fl_X17_217 (R2.add hr) rfl ?_
          refine pw_icN (S 16 ((alP S p k).getD t 0) 0) (S 16 k 0) tk_X17_addedOf rfl rfl rfl (by omega) (by omega) (fun c => ?_) (fun c => ?_)
          · have c : S 16 ((alP S p k).getD t 0) 0 ≤ S 16 k 0 := c
            exact fin (t + 1) ht (fun _ => c) f2
          · have c : ¬ S 16 ((alP S p k).getD t 0) 0 ≤ S 16 k 0 := c
            refine pw_go tk_X17_addedOf rfl rfl ?_
            refine pw_M [(0, .ref (A 30 0)), (1, .int (nI p)), (2, .ref a), (3, .ref it), (4, .ref (A 54 k)), (5, .int (nI t))] ⟨rfl, rfl, rfl, rfl, rfl, congrArg (fun z => some (Value.int z)) (nI_dec (m := t + 1) (by omega)), trivial⟩ ?_
            refine pw_go tk_X17_addedOf rfl rfl ?_
            refine ih2 (by omega) (fun j h1 h2 => ?_)
            by_cases z : j = t
            · rw [z]
              omega
            · exact f2 j (by omega) h2
      exact pw_W (search _ (Nat.le_refl _) (fun j h1 h2 => by omega)) ⟨rfl, rfl, rfl, rfl, rfl, rfl, trivial⟩
  refine pw_new (kc := 5) (ks := 84) tk_X17_addedOf rfl nw_X17_7 (fun a af ag => ?_)
  refine pw_go tk_X17_addedOf rfl rfl ?_
  refine pw_ci tk_X17_addedOf rfl ca_Jx4a65c_init_da8c8 (Or.inl lk_X17_9) iv_Jx4a65c_init_da8c8 rfl rfl (As := []) (rest := [.ref a])  (j_init fw_up_s) (fun _ _ z => z) rfl rfl rfl (Nat.le_of_ble_eq_true rfl) (Nat.le_of_eq (Nat.zero_add _)) (Nat.le_of_eq (Nat.zero_add _)) ?_
  rintro _ _ ⟨rfl, rfl⟩
  rw [fw_up_2]
  have R1 := R.up (o := lsO 0 (tE G) 0) af
  iterate 2 refine pw_go tk_X17_addedOf rfl rfl ?_
  refine pw_get tk_X17_addedOf rfl fl_X17_22 R1.m rfl ?_
  obtain ⟨e4, cap4, o4, -⟩ := R1.l4
  refine pw_cv tk_X17_addedOf rfl ca_Jx4a65c_iterator_32c93 lk_X17_158 iv_Jx4a65c_iterator_32c93 sv_Jx4a65c_iterator_32c93 o4 rfl rfl (As := []) (rest := []) (kc' := pC 0) (ks' := pS 0) (j_iterator R1.l4) rfl rfl rfl (Nat.le_of_ble_eq_true rfl) (show 1 + pC 0 ≤ 5 by decide) (show 4 + pS 0 ≤ 84 by decide) ?_ ?_
  · rintro _ _ ⟨_, rfl, it, rfl, hit, rfl⟩
    refine pw_go tk_X17_addedOf rfl rfl ?_
    have ha : a ≠ it := fun z => by rw [← z, fw_up_s] at hit; cases hit
    have hit0 : h it = none := by
      rw [fw_up_n ha.symm] at hit
      exact hit
    refine pw_W (loop (S 99 0 16) 0 (by omega) _ a (tE G) 0 it 0 ⟨fun b o hb => ?_, af, fun z => absurd rfl z, hit0, ha, ?_, Or.inl ⟨rfl, rfl, rfl⟩, Nat.le_refl _, Or.inl rfl⟩ fw_up_s) ⟨rfl, rfl, rfl, rfl, trivial⟩
    · exact up_sub hit _ _ (up_sub af _ _ hb)
    · rw [fw_up_n ha]
      exact fw_up_s
  · exact fun _ _ z => z.elim
end REF9

