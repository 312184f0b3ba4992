/-! REFERENCE: one more object, in its list -/
def cT (t : Nat) : Nat := if t = 0 then 7 else if t = 1 then 8 else if t = 2 then 13 else if t = 3 then 16 else 17
theorem cT_m {t : Nat} (ht : t < 5) : cT t = 7 ∨ cT t = 8 ∨ cT t = 13 ∨ cT t = 16 ∨ cT t = 17 := by
  rcases (show t = 0 ∨ t = 1 ∨ t = 2 ∨ t = 3 ∨ t = 4 by omega) with rfl | rfl | rfl | rfl | rfl <;> decide
def RW (S D : fw_DB) : Prop := (∀ l, l < S 99 0 7 → D 51 l = lwR (S 7 l)) ∧ (∀ w, w < S 99 0 13 → D 53 w = waR (S 13 w) (S 15 w)) ∧ (∀ a, a < S 99 0 16 → D 54 a = adR (S 16 a)) ∧ (∀ r, r < S 99 0 17 → D 55 r = rcR (S 17 r)) ∧ ∀ p, p < S 99 0 8 → D 56 p = frR (S 10 p) ∧ D 57 p = mkR (S 10 p) ∧ D 58 p = mkR (S 12 p)
theorem IR.l {S D : fw_DB} (I : IR S D) {t : Nat} (ht : t < 5) : LR D (31 + t) (41 + t) (51 + t) (S 99 0 (cT t)) := by
  rcases (show t = 0 ∨ t = 1 ∨ t = 2 ∨ t = 3 ∨ t = 4 by omega) with rfl | rfl | rfl | rfl | rfl
  · exact I.2.1.1
  · exact I.2.1.2.1
  · exact I.2.1.2.2.1
  · exact I.2.1.2.2.2.1
  · exact I.2.1.2.2.2.2
theorem IR_of {S D : fw_DB} (h0 : D 99 0 30 = 1 ∧ D 99 0 46 = 1) (h1 : ∀ t, t < 5 → LR D (31 + t) (41 + t) (51 + t) (S 99 0 (cT t))) (h2 : D 99 0 56 = S 99 0 8 ∧ D 99 0 57 = S 99 0 8 ∧ D 99 0 58 = S 99 0 8) (h3 : ∀ f, 60 ≤ f → f ≤ 66 → D 99 0 f = 0) (h4 : RW S D) : IR S D := ⟨h0, ⟨h1 0 (by decide), h1 1 (by decide), h1 2 (by decide), h1 3 (by decide), h1 4 (by decide)⟩, h2, h3, h4⟩
theorem IR.rw {S D : fw_DB} (I : IR S D) : RW S D := I.2.2.2.2
theorem dw_s {D : fw_DB} {k m : Nat} {g : Nat → Nat} (h : k ≠ 99) : dn D k m g k m = g := by
  unfold dn
  rw [dp_k h, dp_s]
theorem dw_i {D : fw_DB} {k m j : Nat} {g : Nat → Nat} (h : k ≠ 99) (hj : j ≠ m) : dn D k m g k j = D k j := by
  unfold dn
  rw [dp_k h, dp_i hj]
theorem dw_k {D : fw_DB} {k m k' : Nat} {g : Nat → Nat} (h : k' ≠ 99) (hk : k' ≠ k) : dn D k m g k' = D k' := funext fun j => by
  unfold dn
  rw [dp_k h, dp_k hk]
theorem lo_dn {D : fw_DB} {k m : Nat} {g : Nat → Nat} (h : 30 ≤ k ∧ k < 70) : lo D (dn D k m g) := ⟨fun k' h' => dw_k (by omega) (by omega), fun f h' => by rw [dn_N, if_neg (by omega)]⟩
theorem lo_ls {D : fw_DB} {t cap m : Nat} (ht : t < 5) : lo D (lsD D t cap m) := ⟨fun k' h' => lsD_k (by omega) (by omega) (by omega), fun f h' => by rw [lsD_N ht, if_neg (by omega)]⟩
section GR2
variable {G : fw_G} {S S' D E D0 : fw_DB} {A A0 : fw_AD} {M : fw_MP} {h : fw_H} {y : fw_M} {Q : fw_Q} {d kc ks kc' ks' pc nx tg : Nat} {v : Int32} {L : List (Nat × Value)} {rest : List Value} {tb : List fw_R}
theorem IR_grow {t N cap : Nat} {g : Nat → Nat} (ht : t < 5) (I : IR S D) (e1 : ∀ k, 31 ≤ k ∧ k ≤ 45 → E k = D k) (e2 : ∀ f, ¬ (56 ≤ f ∧ f ≤ 58) → E 99 0 f = D 99 0 f) (e3 : ∀ f, 56 ≤ f ∧ f ≤ 58 → E 99 0 f = S' 99 0 8) (hN : N = S 99 0 (cT t)) (hN31 : N ≤ 31) (hS : ∀ f, f ≠ cT t → (f = 7 ∨ f = 8 ∨ f = 13 ∨ f = 16 ∨ f = 17) → S' 99 0 f = S 99 0 f) (hS2 : S' 99 0 (cT t) = N + 1) (hc : N + 1 ≤ cap) (hc2 : cap ≤ 48) (rows : RW S' (lsD (dn E (51 + t) N g) t cap (N + 1))) : IR S' (lsD (dn E (51 + t) N g) t cap (N + 1)) := by
  have NN : ∀ f, lsD (dn E (51 + t) N g) t cap (N + 1) 99 0 f = if f = 41 + t then 1 else if f = 51 + t then N + 1 else E 99 0 f := fun f => by
    rw [lsD_N ht, dn_N]
  refine IR_of ⟨?_, ?_⟩ (fun t' ht' => ?_) ⟨?_, ?_, ?_⟩ (fun f f1 f2 => ?_) rows
  · rw [NN, if_neg (by omega), if_neg (by omega), e2 _ (by omega)]
    exact I.1.1
  · rw [NN, if_neg (by omega), if_neg (by omega), e2 _ (by omega)]
    exact I.1.2
  · by_cases c : t' = t
    · subst c
      have l := I.l ht
      unfold LR at l ⊢
      rw [NN, NN, NN, hS2, if_neg (show ¬ 31 + t' = 41 + t' by omega), if_neg (show ¬ 31 + t' = 51 + t' by omega), if_neg (show ¬ 51 + t' = 41 + t' by omega), if_pos rfl, if_pos rfl, lsD_l, lsD_a ht, e2 _ (by omega)]
      exact ⟨rfl, rfl, l.2.2.1, rfl, Or.inr ⟨rfl, rfl, rfl, hc, (show 0 < cap by omega), hc2⟩, by omega⟩
    · have l := I.l ht'
      have ec : cT t' ≠ cT t := by
        unfold cT
        rcases (show t = 0 ∨ t = 1 ∨ t = 2 ∨ t = 3 ∨ t = 4 by omega) with rfl | rfl | rfl | rfl | rfl <;> rcases (show t' = 0 ∨ t' = 1 ∨ t' = 2 ∨ t' = 3 ∨ t' = 4 by omega) with rfl | rfl | rfl | rfl | rfl <;> first | decide | (exact absurd rfl c)
      unfold LR at l ⊢
      rw [NN, NN, NN, hS _ ec (cT_m ht'), if_neg (show ¬ 31 + t' = 41 + t by omega), if_neg (show ¬ 31 + t' = 51 + t by omega), if_neg (show ¬ 41 + t' = 41 + t by omega), if_neg (show ¬ 41 + t' = 51 + t by omega), if_neg (show ¬ 51 + t' = 41 + t by omega), if_neg (show ¬ 51 + t' = 51 + t by omega), e2 (31 + t') (by omega), e2 (41 + t') (by omega), e2 (51 + t') (by omega), lsD_k (k := 31 + t') (by omega) (by omega) (by omega), lsD_k (k := 41 + t') (by omega) (by omega) (by omega), dw_k (k' := 31 + t') (by omega) (by omega), dw_k (k' := 41 + t') (by omega) (by omega), e1 (31 + t') (by omega), e1 (41 + t') (by omega)]
      exact l
  · rw [NN, if_neg (by omega), if_neg (by omega), e3 _ (by omega)]
  · rw [NN, if_neg (by omega), if_neg (by omega), e3 _ (by omega)]
  · rw [NN, if_neg (by omega), if_neg (by omega), e3 _ (by omega)]
  · rw [NN, if_neg (by omega), if_neg (by omega), e2 _ (by omega)]
    exact I.2.2.2.1 f f1 f2
/-- an element made, its list's add -/
theorem pw_grow {t N q ci : Nat} {r : vw_C} {g : Nat → Nat} {o : fw_O} (ht : t < 5) (hT : fw_tok y tb) (hr : fw_at tb pc = some (.invokevirtual 75, nx, tg, v)) (hy : y.1.cls = RX17) (I : IR S D) (W : Wf E A M) (s : fw_ss E A M h) (e1 : ∀ k, 31 ≤ k ∧ k ≤ 45 → E k = D k) (e2 : ∀ f, ¬ (56 ≤ f ∧ f ≤ 58) → E 99 0 f = D 99 0 f) (e3 : ∀ f, 56 ≤ f ∧ f ≤ 58 → E 99 0 f = S' 99 0 8) (htE : A 46 0 = tE G) (h30 : E 30 0 0 = 0) (hlo : lo D0 E) (hadk : adk A0 A) (hq : h q = none) (hN : N = S 99 0 (cT t)) (hN31 : N ≤ 31) (hg : ∀ A' : fw_AD, (∀ k' j, k' ≠ 51 + t → A' k' j = A k' j) → o = kRow A' (51 + t) N g) (hro : rOk (dn E (51 + t) N g 99 0) (51 + t) N g) (hc : vwCl[ci]? = some r) (h4 : ci ≠ 4) (hca : Cond.castable r.1 "java/lang/Object" ∈ fw_NW) (hcl : ∀ (A : fw_AD) i g, ∃ fs, kRow A (51 + t) i g = .inr (ci, fs)) (hS : ∀ f, f ≠ cT t → (f = 7 ∨ f = 8 ∨ f = 13 ∨ f = 16 ∨ f = 17) → S' 99 0 f = S 99 0 f) (hS2 : S' 99 0 (cT t) = N + 1) (rows : ∀ D3 : fw_DB, (∀ k, 46 ≤ k → k ≠ 99 → D3 k = dn E (51 + t) N g k) → RW S' D3) (h8 : Nat.ble ((rest.map fun v => v.category).sum) 8 = true) (hd : Nat.blt 5 d = true) (hkc : 1 + kc' ≤ kc) (hks : 48 + ks' ≤ ks) (kk : ∀ h' A' M' D', RE G S' D' A' M' h' → rdn S' D0 A0 0 h' → A' 30 0 = A 30 0 → PW G y Q d kc' ks' h' nx L (.int 1 :: rest)) : PW G y Q d kc ks (fw_up h q o) pc L (.ref q :: .ref (A (31 + t) 0) :: rest) := by
  have l := I.l ht
  rw [← hN] at l
  have hNd : N = E 99 0 (51 + t) := by rw [e2 _ (by omega)]; exact l.2.2.2.1.symm
  obtain ⟨A2, M2, W2, s2, eq, eA, -⟩ := sub_new (o := o) W s hq hNd (by omega) hro (fun A' _ b => hg A' b)
  have lE : dn E (51 + t) N g (31 + t) 0 0 = N ∧ dn E (51 + t) N g (31 + t) 0 1 = N ∧ dn E (51 + t) N g 99 0 (31 + t) = 1 ∧ ((dn E (51 + t) N g (31 + t) 0 2 = 0 ∧ N = 0 ∧ dn E (51 + t) N g 99 0 (41 + t) = 0) ∨ (dn E (51 + t) N g (31 + t) 0 2 = 1 ∧ dn E (51 + t) N g 99 0 (41 + t) = 1 ∧ dn E (51 + t) N g (41 + t) 0 1 = N ∧ N ≤ dn E (51 + t) N g (41 + t) 0 0 ∧ 0 < dn E (51 + t) N g (41 + t) 0 0 ∧ dn E (51 + t) N g (41 + t) 0 0 ≤ 48)) ∧ N ≤ 31 := by
    rw [dn_N, dn_N, if_neg (by omega), if_neg (by omega), dw_k (k' := 31 + t) (by omega) (by omega), dw_k (k' := 41 + t) (by omega) (by omega), e1 (31 + t) (by omega), e1 (41 + t) (by omega), e2 (31 + t) (by omega), e2 (41 + t) (by omega)]
    exact ⟨l.1, l.2.1, l.2.2.1, l.2.2.2.2.1, hN31⟩
  refine pw_e (st2 := .ref (A2 (51 + t) N) :: .ref (A2 (31 + t) 0) :: rest) (by rw [eq, eA _ _ (by omega)]) ?_
  refine pw_lsadd ht hT hr hy W2 s2 lE (by rw [dn_N, if_pos rfl]) (by rw [dn_N, if_neg (by omega), e2 _ (by omega)]; exact I.1.2) (by rw [dn_N, if_neg (by omega), e2 _ (by omega)]; exact I.2.2.2.1 66 (by omega) (by omega)) (by rw [eA _ _ (by omega)]; exact htE) hc h4 hca (fun i g => hcl A2 i g) h8 hd hkc hks (fun h' A3 M3 cap W3 s3 a3 c1 c2 => ?_)
  have I3 : IR S' (lsD (dn E (51 + t) N g) t cap (N + 1)) := IR_grow ht I e1 e2 e3 hN hN31 hS hS2 c1 c2 (rows _ (fun k k1 k2 => lsD_k (by omega) (by omega) k2))
  have eA3 : ∀ k, k ≠ 41 + t → k ≠ 51 + t → A3 k 0 = A k 0 := fun k k1 k2 => by rw [a3 _ _ (fun z => k1 z.1), eA _ _ k2]
  refine kk h' A3 M3 _ ⟨trivial, I3, W3, s3, by rw [eA3 _ (by omega) (by omega)]; exact htE⟩ ⟨_, A3, M3, I3, W3, s3, (hlo.tr (lo_dn (by omega))).tr (lo_ls ht), ?_, ?_⟩ (eA3 _ (by omega) (by omega))
  · obtain ⟨q1, q2, q3, q4, q5⟩ := hadk
    exact ⟨by rw [eA3 _ (by omega) (by omega)]; exact q1, by rw [eA3 _ (by omega) (by omega)]; exact q2, by rw [eA3 _ (by omega) (by omega)]; exact q3, by rw [eA3 _ (by omega) (by omega)]; exact q4, by rw [eA3 _ (by omega) (by omega)]; exact q5⟩
  · rw [lsD_k (by omega) (by omega) (by omega), dw_k (by omega) (by omega)]
    exact h30
end GR2

