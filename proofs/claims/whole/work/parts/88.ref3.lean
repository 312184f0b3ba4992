/-! REFERENCE: laws, releases, licences -/
theorem okd {n : Nat} {S : fw_DB} (h : ICd n S) : okS S := by
  obtain ⟨g, m, b, nn, p, w, x⟩ := h
  refine ⟨g.1, g.2.2, w, fun v hv => ⟨(x.1 v hv).2.2.2.2.2, ?_⟩, fun r hr => ⟨(g.2.1 r hr).1, (x.2.2 r hr).1⟩⟩
  rw [(x.1 v hv).2.1]
  exact lwN_le _
theorem f13 {S : fw_DB} {w f : Nat} (h : f < 14) : FD S 13 w f = S 13 w f := FD_sc 13 w f (by
  show (decide (14 ≤ f) && decide (f ≤ 17)) = false
  rw [decide_eq_false (by omega)]
  rfl)
theorem fk {S : fw_DB} {k : Nat} (h : ∀ f, scr k f = false) : FD S k = S k := FD_sc.kind h
theorem f7 {S : fw_DB} : FD S 7 = S 7 := fk (fun _ => rfl)
theorem f10 {S : fw_DB} : FD S 10 = S 10 := fk (fun _ => rfl)
theorem f15 {S : fw_DB} : FD S 15 = S 15 := fk (fun _ => rfl)
theorem f16 {S : fw_DB} : FD S 16 = S 16 := fk (fun _ => rfl)
theorem f17 {S : fw_DB} {r f : Nat} (h : f ≤ 4) : FD S 17 r f = S 17 r f := FD_sc 17 r f (by
  show (decide (5 ≤ f) && decide (f ≤ 7)) = false
  rw [decide_eq_false (by omega)]
  rfl)
/-- what is known of a warrant -/
theorem icw {n : Nat} {S : fw_DB} {w : Nat} (h : ICd n S) (hw : w < S 99 0 13) : wB S w ∧ (S 13 w 2 = 102 ∨ S 13 w 2 = 108 ∨ S 13 w 2 = 100 ∨ S 13 w 2 = 115) ∧ (0 < S 13 w 5 → S 13 w 5 - 1 < w ∧ S 13 (S 13 w 5 - 1) 1 = S 13 w 1) ∧ S 13 w 7 = lwN S w (S 99 0 7) ∧ S 13 w 1 < S 99 0 8 := ⟨h.1.1.1 w hw, (h.2.2.2.2.2.1 w hw).1, (h.2.2.2.2.2.1 w hw).2, (h.2.2.2.2.2.2.1 w hw).2.1, (h.2.2.2.2.2.2.1 w hw).2.2.2.2.1⟩
theorem fdw {n : Nat} {S : fw_DB} {w : Nat} (h : ICd n S) (hw : w < S 99 0 13) : (FD S 13 w 14 < 20000 ∨ FD S 13 w 14 = 1000000) ∧ (FD S 13 w 16 < 20000 ∨ FD S 13 w 16 = 1000000) ∧ FD S 13 w 14 ≤ FD S 13 w 16 ∧ (FD S 13 w 14 = 1000000 → FD S 13 w 16 = 1000000 ∧ FD S 13 w 15 = 0 ∧ FD S 13 w 17 = 1000000) ∧ FD S 13 w 15 < 1000000 ∧ FD S 13 w 17 < 4000000 := by
  have fx := FD_fxW (okd h) hw
  have B := (FD_cB (okd h)).1 w (by rw [FD_sc.N]; exact hw)
  obtain ⟨-, h2, -⟩ := fx_is fx
  exact ⟨fx_b fx, fx_r fx, fx_le fx, h2, B.2.2.2.2.2.2.2.2.1, B.2.2.2.2.2.2.2.2.2.2⟩
/-- the end of a licence by its kind -/
theorem fd17 {n : Nat} {S : fw_DB} {w : Nat} (h : ICd n S) (hw : w < S 99 0 13) (hb : FD S 13 w 14 ≠ 1000000) : FD S 13 w 17 = if FD S 13 w 16 = 1000000 ∨ S 13 w 2 = 100 then 1000000 else if S 13 w 2 = 108 then 2000000 else FD S 13 w 14 + spn (FD S) w + cu (fun d => sB (S 10 (S 13 w 1)) d && iv (FD S 13 w 14) (FD S 13 w 16) d) 20032 + 1000000 - wcn (S 13 w) := by
  obtain ⟨-, -, h3⟩ := fx_is (FD_fxW (okd h) hw)
  rw [(h3 hb).2.2]
  unfold wlend awF
  rw [f13 (f := 2) (by decide), f13 (f := 1) (by decide), f10]
  have e : wcn (FD S 13 w) = wcn (S 13 w) := by
    unfold wcn
    rw [f13 (by decide), f13 (by decide)]
  rw [e]
theorem lwN_0 {S : fw_DB} {w : Nat} (h : wfx (S 13 w) = false) : ∀ n, lwN S w n = 0
  | 0 => rfl
  | n + 1 => by
    unfold lwN
    rw [if_neg (by unfold wapp; rw [h]; simp)]
    exact lwN_0 h n
theorem nO_lt {v a : Nat} (hv : v < 1073741824) (ha : a < 1073741824) : nI a < nO v ↔ a + 1000000 < v := by
  have := nO_le hv ha
  rw [show (nI a < nO v) ↔ ¬ nO v ≤ nI a from Int32.not_le.symm]
  constructor
  · intro z
    exact Nat.lt_of_not_le (fun y => z (this.mpr y))
  · intro z y
    have := this.mp y
    omega
section REF3
variable {G : fw_G} {n : Nat} {S D : fw_DB} {A : fw_AD} {M : fw_MP} {h : fw_H}
theorem lwRow (R : RD G n S D A M h) {l : Nat} (hl : l < S 99 0 7) : lB S l := R.1.1.1.2.1 l hl
/-- the last law that counts, for a fixed one or not, with one more -/
def lwL (S : fw_DB) (w : Nat) : Nat → Nat
  | 0 => 0
  | n + 1 => if S 7 n 2 ≤ (if 0 < S 7 n 1 then S 13 w 3 else S 13 w 4) then n + 1 else lwL S w n
theorem lwL_le {S : fw_DB} {w : Nat} : ∀ n, lwL S w n ≤ n
  | 0 => Nat.le_refl _
  | n + 1 => by
    unfold lwL
    have := lwL_le (S := S) (w := w) n
    by_cases c : S 7 n 2 ≤ (if 0 < S 7 n 1 then S 13 w 3 else S 13 w 4)
    · rw [if_pos c]
      exact Nat.le_refl _
    · rw [if_neg c]
      exact Nat.le_succ_of_le this
theorem lwL_f {S : fw_DB} {w : Nat} (h : wfx (S 13 w) = true) : ∀ n, lwL S w n = lwN S w n
  | 0 => rfl
  | n + 1 => by
    unfold lwL lwN wapp
    rw [h, lwL_f h n, Bool.true_and]
    simp only [decide_eq_true_eq]
theorem n_lawFor {w : Nat} (R : RD G n S D A M h) (hw : w < S 99 0 13) : PM G 3 0 0 mm_X17_lawFor [.ref (A 30 0), .ref (A 53 w)] h (fw_qp (nP (lwL S w (S 99 0 7))) h) := by
  refine pm_of (by decide +kernel) rfl rfl rfl ?_
  obtain ⟨B, hk, h5, h7, h1⟩ := icw R.1 hw
  obtain ⟨b2, b3, b4, -⟩ := B
  have hN := R.n7
  have loop : ∀ m k, m + k = S 99 0 7 → PW G mm_X17_lawFor (fw_qp (nP (lwL S w (S 99 0 7))) h) 3 0 0 h 4 [(0, .ref (A 30 0)), (1, .ref (A 53 w)), (2, .int (nP (lwL S w k))), (3, .int (nI k))] [] := by
    intro m
    induction m with
    | zero =>
      intro k hk
      iterate 2 refine pw_go tk_X17_lawFor rfl rfl ?_
      refine pw_get tk_X17_lawFor rfl fl_X17_10 R.m rfl ?_
      refine pw_lsz tk_X17_lawFor rfl (R.l1) rfl rfl rfl ?_
      refine pw_icN (k) (S 99 0 7) tk_X17_lawFor rfl rfl rfl (by omega) (by omega) (fun c => ?_) (fun c => ?_)
      · skip
        rw [show S 99 0 7 = k by omega]
        refine pw_go tk_X17_lawFor rfl rfl ?_
        exact pw_iretp tk_X17_lawFor rfl rfl
      · have c : ¬ S 99 0 7 ≤ k := c
        omega
    | succ m ih =>
      intro k hk
      have hl : k < S 99 0 7 := by omega
      have hB := lwRow R hl
      have k49 : ∀ t, t < 20000 → t = (if 0 < S 7 k 1 then S 13 w 3 else S 13 w 4) → PW G mm_X17_lawFor (fw_qp (nP (lwL S w (S 99 0 7))) h) 3 0 0 h 49 [(4, .ref (A 51 k)), (0, .ref (A 30 0)), (1, .ref (A 53 w)), (2, .int (nP (lwL S w k))), (3, .int (nI k))] [.int (nI t)] := by
        intro t ht et
        have hB2 := hB.1
        refine pw_go tk_X17_lawFor rfl rfl ?_
        refine pw_get tk_X17_lawFor rfl fl_X17_95 (R.law hl) rfl ?_
        refine pw_icN (t) (S 7 k 2) tk_X17_lawFor rfl rfl rfl (by omega) (by omega) (fun c => ?_) (fun c => ?_)
        · skip
          have c : t < S 7 k 2 := c
          iterate 3 refine pw_go tk_X17_lawFor rfl rfl ?_
          refine pw_go tk_X17_lawFor rfl rfl ?_
          refine pw_M [(0, .ref (A 30 0)), (1, .ref (A 53 w)), (2, .int (nP (lwL S w (k + 1)))), (3, .int (nI (k + 1)))] ⟨rfl, rfl, congrArg (fun z => some (Value.int (nP z))) ?_, congrArg (fun z => some (Value.int z)) (nI_1 k), trivial⟩ (ih (k + 1) (by omega))
          show lwL S w k = if _ then _ else _
          rw [if_neg (by omega)]
        · skip
          have c : ¬ t < S 7 k 2 := c
          iterate 4 refine pw_go tk_X17_lawFor rfl rfl ?_
          refine pw_go tk_X17_lawFor rfl rfl ?_
          refine pw_M [(0, .ref (A 30 0)), (1, .ref (A 53 w)), (2, .int (nP (lwL S w (k + 1)))), (3, .int (nI (k + 1)))] ⟨rfl, rfl, congrArg (fun z => some (Value.int z)) ?_, congrArg (fun z => some (Value.int z)) (nI_1 k), trivial⟩ (ih (k + 1) (by omega))
          show nI k = nP (if _ then _ else _)
          rw [if_pos (by omega), nP_p (by omega)]
          rfl
      iterate 2 refine pw_go tk_X17_lawFor rfl rfl ?_
      refine pw_get tk_X17_lawFor rfl fl_X17_10 R.m rfl ?_
      refine pw_lsz tk_X17_lawFor rfl (R.l1) rfl rfl rfl ?_
      refine pw_icN (k) (S 99 0 7) tk_X17_lawFor rfl rfl rfl (by omega) (by omega) (fun c => ?_) (fun c => ?_)
      · have c : S 99 0 7 ≤ k := c
        omega
      refine pw_go tk_X17_lawFor rfl rfl ?_
      refine pw_get tk_X17_lawFor rfl fl_X17_10 R.m rfl ?_
      refine pw_go tk_X17_lawFor rfl rfl ?_
      refine pw_lget (k := k) tk_X17_lawFor rfl (R.l1) hl rfl rfl rfl rfl ?_
      refine pw_cast tk_X17_lawFor rfl (R.law hl) rfl cw_X17_70 ?_
      iterate 2 refine pw_go tk_X17_lawFor rfl rfl ?_
      refine pw_get tk_X17_lawFor rfl fl_X17_83 (R.law hl) rfl ?_
      by_cases c2 : 0 < S 7 k 1
      · refine pw_i (x' := nI 111) (congrArg nI (if_pos c2)) ?_
        refine pw_go tk_X17_lawFor rfl rfl ?_
        refine pw_icN (111) (111) tk_X17_lawFor rfl rfl rfl (by omega) (by omega) (fun c => absurd rfl c) (fun _ => ?_)
        refine pw_go tk_X17_lawFor rfl rfl ?_
        refine pw_get tk_X17_lawFor rfl fl_X17_87 (R.war hw) rfl ?_
        refine pw_go tk_X17_lawFor rfl rfl ?_
        exact k49 _ b3 (if_pos c2).symm
      · refine pw_i (x' := nI 112) (congrArg nI (if_neg c2)) ?_
        refine pw_go tk_X17_lawFor rfl rfl ?_
        refine pw_icN (112) (111) tk_X17_lawFor rfl rfl rfl (by omega) (by omega) (fun _ => ?_) (fun c => absurd (show (112 : Nat) ≠ 111 by decide) c)
        refine pw_go tk_X17_lawFor rfl rfl ?_
        refine pw_get tk_X17_lawFor rfl fl_X17_92 (R.war hw) rfl ?_
        exact k49 _ b4 (if_neg c2).symm
  iterate 4 refine pw_go tk_X17_lawFor rfl rfl ?_
  exact pw_M [(0, .ref (A 30 0)), (1, .ref (A 53 w)), (2, .int (nP (lwL S w 0))), (3, .int (nI 0))] ⟨rfl, rfl, rfl, rfl, trivial⟩ (loop (S 99 0 7) 0 (by omega))
theorem pw_free {y : fw_M} {Q : fw_Q} {d kc ks pc nx tg p k : Nat} {v x : Int32} {L : List (Nat × Value)} {rest : List Value} {tb : List fw_R} (hT : fw_tok y tb) (hr : fw_at tb pc = some (.iaload, nx, tg, v)) (R : RD G n S D A M h) (hp : p < S 99 0 8) (hk : k ≤ 20000) (hx : x = nI k) (kk : PW G y Q d kc ks h nx L (.int (nI (cu (fun d => !sB (S 10 p) d) k)) :: rest)) : PW G y Q d kc ks h pc L (.int x :: .ref (A 56 p) :: rest) := by
  refine pw_ialdN (k := k) hT hr (R.free hp) hx (by omega) (by omega) ?_
  rw [frR_at hk]
  exact kk
theorem bh_1 {f : Nat → Bool} {b d m : Nat} (hb : b ≤ d) (hd : d < 20000) (h1 : ∀ x, b ≤ x → x < d → cu f x - cu f b < m) (h2 : m ≤ cu f d - cu f b) : min (db f m b (20032 - b) 1000000) 20000 = d := by
  have e1 := (db_le (f := f) (n := m) hb hd).mpr h2
  have e2 : b ≤ db f m b (20032 - b) 1000000 := db_ge (by omega)
  by_cases c : b = d
  · rw [Nat.min_eq_left (by omega)]
    omega
  · have e3 : ¬ db f m b (20032 - b) 1000000 ≤ d - 1 := fun z => by
      have := (db_le (f := f) (n := m) (show b ≤ d - 1 by omega) (by omega)).mp z
      have := h1 (d - 1) (by omega) (by omega)
      omega
    rw [Nat.min_eq_left (by omega)]
    omega
theorem bh_2 {f : Nat → Bool} {b m : Nat} (hb : b < 20000) (h1 : ∀ x, b ≤ x → x < 20000 → cu f x - cu f b < m) : min (db f m b (20032 - b) 1000000) 20000 = 20000 := by
  have e3 : ¬ db f m b (20032 - b) 1000000 ≤ 19999 := fun z => by
    have := (db_le (f := f) (n := m) (show b ≤ 19999 by omega) (by omega)).mp z
    have := h1 19999 (by omega) (by omega)
    omega
  exact Nat.min_eq_right (by omega)
theorem n_behind {p b m : Nat} (R : RD G n S D A M h) (hp : p < S 99 0 8) (hb : b < 20000) (hm : m < 2000000) : PM G 0 0 0 mm_X14_behind [.ref (A 52 p), .int (nI b), .int (nI m)] h (fw_qp (nI (min (db (fun d => !sB (S 10 p) d) m b (20032 - b) 1000000) 20000)) h) := by
  refine pm_of (by decide +kernel) rfl rfl rfl ?_
  have cl : ∀ d, cu (fun d => !sB (S 10 p) d) d ≤ d := fun d => cu_le _ d
  have loop : ∀ j d, j + d = 20000 → b ≤ d → (∀ x, b ≤ x → x < d → cu (fun d => !sB (S 10 p) d) x - cu (fun d => !sB (S 10 p) d) b < m) → PW G mm_X14_behind (fw_qp (nI (min (db (fun d => !sB (S 10 p) d) m b (20032 - b) 1000000) 20000)) h) 0 0 0 h 2 [(0, .ref (A 52 p)), (1, .int (nI b)), (2, .int (nI m)), (3, .int (nI d))] [] := by
    intro j
    induction j with
    | zero =>
      intro d hd hbd hx
      have hd : d = 20000 := by omega
      subst hd
      have c1 := cl 20000
      have c2 := cu_mono (fun d => !sB (S 10 p) d) (show b ≤ 20000 by omega)
      have e := bh_2 hb hx
      iterate 2 refine pw_go tk_X14_behind rfl rfl ?_
      refine pw_icN (20000) (20000) tk_X14_behind rfl rfl rfl (by omega) (by omega) (fun _ => ?_) (fun c => absurd (show (20000 : Nat) ≤ 20000 by omega) c)
      refine pw_go tk_X14_behind rfl rfl ?_
      refine pw_get tk_X14_behind rfl fl_X14_9 (R.per hp) rfl ?_
      refine pw_go tk_X14_behind rfl rfl ?_
      refine pw_free (k := 20000) tk_X14_behind rfl R hp (by omega) rfl ?_
      refine pw_go tk_X14_behind rfl rfl ?_
      refine pw_get tk_X14_behind rfl fl_X14_9 (R.per hp) rfl ?_
      refine pw_go tk_X14_behind rfl rfl ?_
      refine pw_free (k := b) tk_X14_behind rfl R hp (by omega) rfl ?_
      refine pw_subN (cu (fun d => !sB (S 10 p) d) 20000) (cu (fun d => !sB (S 10 p) d) b) tk_X14_behind rfl rfl rfl (by omega) ?_
      refine pw_go tk_X14_behind rfl rfl ?_
      refine pw_icN (cu (fun d => !sB (S 10 p) d) 20000 - cu (fun d => !sB (S 10 p) d) b) (m) tk_X14_behind rfl rfl rfl (by omega) (by omega) (fun c => ?_) (fun c => ?_)
      · skip
        refine pw_go tk_X14_behind rfl rfl ?_
        rw [e]
        exact pw_iretp tk_X14_behind rfl rfl
      · skip
        iterate 2 refine pw_go tk_X14_behind rfl rfl ?_
        rw [e]
        exact pw_iretp tk_X14_behind rfl rfl
    | succ j ih =>
      intro d hd hbd hx
      have c1 := cl d
      have c2 := cu_mono (fun d => !sB (S 10 p) d) hbd
      iterate 2 refine pw_go tk_X14_behind rfl rfl ?_
      refine pw_icN (d) (20000) tk_X14_behind rfl rfl rfl (by omega) (by omega) (fun c => absurd (show (20000 : Nat) ≤ d from c) (by omega)) (fun _ => ?_)
      refine pw_go tk_X14_behind rfl rfl ?_
      refine pw_get tk_X14_behind rfl fl_X14_9 (R.per hp) rfl ?_
      refine pw_go tk_X14_behind rfl rfl ?_
      refine pw_free (k := d) tk_X14_behind rfl R hp (by omega) rfl ?_
      refine pw_go tk_X14_behind rfl rfl ?_
      refine pw_get tk_X14_behind rfl fl_X14_9 (R.per hp) rfl ?_
      refine pw_go tk_X14_behind rfl rfl ?_
      refine pw_free (k := b) tk_X14_behind rfl R hp (by omega) rfl ?_
      refine pw_subN (cu (fun d => !sB (S 10 p) d) d) (cu (fun d => !sB (S 10 p) d) b) tk_X14_behind rfl rfl rfl (by omega) ?_
      refine pw_go tk_X14_behind rfl rfl ?_
      refine pw_icN (cu (fun d => !sB (S 10 p) d) d - cu (fun d => !sB (S 10 p) d) b) (m) tk_X14_behind rfl rfl rfl (by omega) (by omega) (fun c => ?_) (fun c => ?_)
      · have c : m ≤ cu (fun d => !sB (S 10 p) d) d - cu (fun d => !sB (S 10 p) d) b := c
        rw [bh_1 hbd (by omega) hx c]
        refine pw_go tk_X14_behind rfl rfl ?_
        refine pw_get tk_X14_behind rfl fl_X14_9 (R.per hp) rfl ?_
        refine pw_go tk_X14_behind rfl rfl ?_
        refine pw_free (k := d) tk_X14_behind rfl R hp (by omega) rfl ?_
        refine pw_go tk_X14_behind rfl rfl ?_
        refine pw_get tk_X14_behind rfl fl_X14_9 (R.per hp) rfl ?_
        refine pw_go tk_X14_behind rfl rfl ?_
        refine pw_free (k := b) tk_X14_behind rfl R hp (by omega) rfl ?_
        refine pw_subN (cu (fun d => !sB (S 10 p) d) d) (cu (fun d => !sB (S 10 p) d) b) tk_X14_behind rfl rfl rfl (by omega) ?_
        refine pw_go tk_X14_behind rfl rfl ?_
        refine pw_icN (cu (fun d => !sB (S 10 p) d) d - cu (fun d => !sB (S 10 p) d) b) (m) tk_X14_behind rfl rfl rfl (by omega) (by omega) (fun _ => ?_) (fun c9 => absurd c c9)
        refine pw_go tk_X14_behind rfl rfl ?_
        exact pw_iretp tk_X14_behind rfl rfl
      · have c : ¬ m ≤ cu (fun d => !sB (S 10 p) d) d - cu (fun d => !sB (S 10 p) d) b := c
        refine pw_go tk_X14_behind rfl rfl ?_
        refine pw_M [(0, .ref (A 52 p)), (1, .int (nI b)), (2, .int (nI m)), (3, .int (nI (d + 1)))] ⟨rfl, rfl, rfl, congrArg (fun z => some (Value.int z)) (nI_1 d), trivial⟩ ?_
        refine pw_go tk_X14_behind rfl rfl ?_
        refine ih (d + 1) (by omega) (by omega) (fun x h1 h2 => ?_)
        by_cases z : x = d
        · subst z
          omega
        · exact hx x h1 (by omega)
  iterate 2 refine pw_go tk_X14_behind rfl rfl ?_
  exact pw_M [(0, .ref (A 52 p)), (1, .int (nI b)), (2, .int (nI m)), (3, .int (nI b))] ⟨rfl, rfl, rfl, rfl, trivial⟩ (loop (20000 - b) b (by omega) (Nat.le_refl _) (fun x h1 h2 => by omega))
end REF3

