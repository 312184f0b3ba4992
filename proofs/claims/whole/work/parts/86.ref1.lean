/-! REFERENCE: what its heap holds of the class's days; its short methods -/
def lwR (g : Nat → Nat) : Nat → Nat := fun f => if f = 0 then (if 0 < g 1 then 111 else 112) else if f = 1 then g 2 else if f = 2 then g 3 else if f = 3 then g 4 else 0
def waR (g t : Nat → Nat) : Nat → Nat := fun f => if f = 0 then g 1 else if f = 1 then g 2 else if f = 2 then g 3 else if f = 3 then g 4 else if f = 4 then g 5 else if f = 5 then t 0 else if f = 6 then t 1 else if f = 7 then t 2 else if f = 8 then g 11 else if f = 9 then g 12 else if f = 10 then g 9 else if f = 11 then g 13 else if f = 12 then g 10 else 0
def adR (g : Nat → Nat) : Nat → Nat := fun f => if f = 0 then g 3 else if f = 1 then g 0 else if f = 2 then g 1 else 0
def rcR (g : Nat → Nat) : Nat → Nat := fun f => if f = 0 then g 0 else if f = 1 then g 1 else if f = 2 then (if 0 < g 2 then 102 else 115) else if f = 3 then g 3 else if f = 4 then min (g 4) 20000 else 0
def frR (g : Nat → Nat) : Nat → Nat := fun j => if j ≤ 20000 then cu (fun d => !sB g d) j else 0
def mkR (g : Nat → Nat) : Nat → Nat := fun d => if 0 < g d then 1 else 0
/-- a list of n objects of the kind ke: its row, its array -/
def LR (D : fw_DB) (kl ka ke n : Nat) : Prop := D kl 0 0 = n ∧ D kl 0 1 = n ∧ D 99 0 kl = 1 ∧ D 99 0 ke = n ∧ ((D kl 0 2 = 0 ∧ n = 0 ∧ D 99 0 ka = 0) ∨ (D kl 0 2 = 1 ∧ D 99 0 ka = 1 ∧ D ka 0 1 = n ∧ n ≤ D ka 0 0 ∧ 0 < D ka 0 0 ∧ D ka 0 0 ≤ 48)) ∧ n ≤ 32
def IR (S D : fw_DB) : Prop := (D 99 0 30 = 1 ∧ D 99 0 46 = 1) ∧ (LR D 31 41 51 (S 99 0 7) ∧ LR D 32 42 52 (S 99 0 8) ∧ LR D 33 43 53 (S 99 0 13) ∧ LR D 34 44 54 (S 99 0 16) ∧ LR D 35 45 55 (S 99 0 17)) ∧ (D 99 0 56 = S 99 0 8 ∧ D 99 0 57 = S 99 0 8 ∧ D 99 0 58 = S 99 0 8) ∧ (∀ f, 60 ≤ f → f ≤ 66 → D 99 0 f = 0) ∧ (∀ l, l < S 99 0 7 → D 51 l = lwR (S 7 l)) ∧ (∀ w, w < S 99 0 13 → D 53 w = waR (S 13 w) (S 15 w)) ∧ (∀ a, a < S 99 0 16 → D 54 a = adR (S 16 a)) ∧ (∀ r, r < S 99 0 17 → D 55 r = rcR (S 17 r)) ∧ ∀ p, p < S 99 0 8 → D 56 p = frR (S 10 p) ∧ D 57 p = mkR (S 10 p) ∧ D 58 p = mkR (S 12 p)
/-- a heap that holds the reference's -/
def RD (G : fw_G) (n : Nat) (S D : fw_DB) (A : fw_AD) (M : fw_MP) (h : fw_H) : Prop := ICd n S ∧ IR S D ∧ Wf D A M ∧ (∀ (b : Nat) (o : fw_O), hp M A D b = some o → h b = some o) ∧ A 46 0 = tE G
section RDS
variable {G : fw_G} {n : Nat} {S D : fw_DB} {A : fw_AD} {M : fw_MP} {h : fw_H}
theorem RD.obj (R : RD G n S D A M h) {k i : Nat} (hi : i < D 99 0 k) (h46 : k ≠ 46 := by decide) : h (A k i) = some (kRow A k i (D k i)) := R.2.2.2.1 _ _ (hget (R.2.2.1.lv hi h46))
theorem RD.up (R : RD G n S D A M h) {q : Nat} {o : fw_O} (hq : h q = none) : RD G n S D A M (fw_up h q o) := ⟨R.1, R.2.1, R.2.2.1, fun b x hb => up_sub hq _ _ (R.2.2.2.1 b x hb), R.2.2.2.2⟩
theorem RD.m (R : RD G n S D A M h) : h (A 30 0) = some (.inr (20, [.int (nI (D 30 0 0)), .ref (A 31 0), .ref (A 32 0), .ref (A 33 0), .ref (A 34 0), .ref (A 35 0)])) := R.obj (k := 30) (i := 0) (by rw [R.2.1.1.1]; decide)
theorem LR.lv {e kl ka ke m : Nat} {F : Nat → Nat} (l : LR D kl ka ke m) (h1 : h (A kl 0) = some (.inr (4, [.int (nI (D kl 0 0)), .ref e, .int (nI (D kl 0 1))]))) (he : e = if D kl 0 2 = 0 then A 46 0 else A ka 0) (h2 : 0 < D 99 0 ka → h (A ka 0) = some (oA (D ka 0 0) (rfs (D ka 0 1) F))) : LV h (A kl 0) m F := by
  obtain ⟨l1, l2, l3, l4, l5, l6⟩ := l
  rw [l1, l2] at h1
  refine ⟨e, D ka 0 0, h1, fun z => ?_, by omega⟩
  rcases l5 with ⟨z1, z2, z3⟩ | ⟨z1, z2, z3, z4, z5, z6⟩
  · omega
  · rw [if_neg (by omega)] at he
    subst he
    refine ⟨_, h2 (by omega), by omega, by omega, fun j hj => ?_⟩
    unfold rfs
    rw [if_pos (by omega)]
theorem RD.l1 (R : RD G n S D A M h) : LV h (A 31 0) (S 99 0 7) (A 51) := R.2.1.2.1.1.lv (R.obj (k := 31) (i := 0) (by rw [R.2.1.2.1.1.2.2.1]; decide)) rfl (fun z => R.obj (k := 41) (i := 0) z)
theorem RD.l2 (R : RD G n S D A M h) : LV h (A 32 0) (S 99 0 8) (A 52) := R.2.1.2.1.2.1.lv (R.obj (k := 32) (i := 0) (by rw [R.2.1.2.1.2.1.2.2.1]; decide)) rfl (fun z => R.obj (k := 42) (i := 0) z)
theorem RD.l3 (R : RD G n S D A M h) : LV h (A 33 0) (S 99 0 13) (A 53) := R.2.1.2.1.2.2.1.lv (R.obj (k := 33) (i := 0) (by rw [R.2.1.2.1.2.2.1.2.2.1]; decide)) rfl (fun z => R.obj (k := 43) (i := 0) z)
theorem RD.l4 (R : RD G n S D A M h) : LV h (A 34 0) (S 99 0 16) (A 54) := R.2.1.2.1.2.2.2.1.lv (R.obj (k := 34) (i := 0) (by rw [R.2.1.2.1.2.2.2.1.2.2.1]; decide)) rfl (fun z => R.obj (k := 44) (i := 0) z)
theorem RD.l5 (R : RD G n S D A M h) : LV h (A 35 0) (S 99 0 17) (A 55) := R.2.1.2.1.2.2.2.2.lv (R.obj (k := 35) (i := 0) (by rw [R.2.1.2.1.2.2.2.2.2.2.1]; decide)) rfl (fun z => R.obj (k := 45) (i := 0) z)
theorem RD.law (R : RD G n S D A M h) {l : Nat} (hl : l < S 99 0 7) : h (A 51 l) = some (.inr (16, [.int (nI (if 0 < S 7 l 1 then 111 else 112)), .int (nI (S 7 l 2)), .int (nI (S 7 l 3)), .int (bN (S 7 l 4))])) := by
  have := R.obj (k := 51) (i := l) (by rw [R.2.1.2.1.1.2.2.2.1]; exact hl)
  rw [R.2.1.2.2.2.2.1 l hl] at this
  exact this
theorem RD.per (R : RD G n S D A M h) {p : Nat} (hp : p < S 99 0 8) : h (A 52 p) = some (.inr (17, [.ref (A 56 p), .ref (A 57 p), .ref (A 58 p)])) := R.obj (k := 52) (i := p) (by rw [R.2.1.2.1.2.1.2.2.2.1]; exact hp)
theorem RD.war (R : RD G n S D A M h) {w : Nat} (hw : w < S 99 0 13) : h (A 53 w) = some (.inr (19, [.int (nI (S 13 w 1)), .int (nI (S 13 w 2)), .int (nI (S 13 w 3)), .int (nI (S 13 w 4)), .int (nP (S 13 w 5)), .int (nI (S 15 w 0)), .int (nI (S 15 w 1)), .int (nI (S 15 w 2)), .int (nI (S 13 w 11)), .int (nI (S 13 w 12)), .int (nP (S 13 w 9)), .int (bN (S 13 w 13)), .int (nP (S 13 w 10))])) := by
  have := R.obj (k := 53) (i := w) (by rw [R.2.1.2.1.2.2.1.2.2.2.1]; exact hw)
  rw [R.2.1.2.2.2.2.2.1 w hw] at this
  exact this
theorem RD.add (R : RD G n S D A M h) {a : Nat} (ha : a < S 99 0 16) : h (A 54 a) = some (.inr (14, [.int (nI (S 16 a 3)), .int (nI (S 16 a 0)), .int (nI (S 16 a 1))])) := by
  have := R.obj (k := 54) (i := a) (by rw [R.2.1.2.1.2.2.2.1.2.2.2.1]; exact ha)
  rw [R.2.1.2.2.2.2.2.2.1 a ha] at this
  exact this
theorem RD.rec (R : RD G n S D A M h) {r : Nat} (hr : r < S 99 0 17) : h (A 55 r) = some (.inr (18, [.int (nI (S 17 r 0)), .int (nI (S 17 r 1)), .int (nI (if 0 < S 17 r 2 then 102 else 115)), .int (nI (S 17 r 3)), .int (nI (min (S 17 r 4) 20000))])) := by
  have := R.obj (k := 55) (i := r) (by rw [R.2.1.2.1.2.2.2.2.2.2.2.1]; exact hr)
  rw [R.2.1.2.2.2.2.2.2.2.1 r hr] at this
  exact this
theorem RD.free (R : RD G n S D A M h) {p : Nat} (hp : p < S 99 0 8) : h (A 56 p) = some (.inl (0, 20001, .inl (fun j => nI (frR (S 10 p) j)))) := by
  have := R.obj (k := 56) (i := p) (by rw [R.2.1.2.2.1.1]; exact hp)
  rw [(R.2.1.2.2.2.2.2.2.2.2 p hp).1] at this
  exact this
theorem RD.away (R : RD G n S D A M h) {p : Nat} (hp : p < S 99 0 8) : h (A 57 p) = some (.inl (2, 20000, .inl (fun j => bN (mkR (S 10 p) j)))) := by
  have := R.obj (k := 57) (i := p) (by rw [R.2.1.2.2.1.2.1]; exact hp)
  rw [(R.2.1.2.2.2.2.2.2.2.2 p hp).2.1] at this
  exact this
theorem RD.held (R : RD G n S D A M h) {p : Nat} (hp : p < S 99 0 8) : h (A 58 p) = some (.inl (2, 20000, .inl (fun j => bN (mkR (S 12 p) j)))) := by
  have := R.obj (k := 58) (i := p) (by rw [R.2.1.2.2.1.2.2]; exact hp)
  rw [(R.2.1.2.2.2.2.2.2.2.2 p hp).2.2] at this
  exact this
theorem mkR_b {g : Nat → Nat} {d : Nat} : bN (mkR g d) = bI (sB g d) := by
  unfold mkR bN sB
  by_cases c : 0 < g d
  · rw [if_pos c]
    simp [c]
  · rw [if_neg c]
    simp [c]
theorem frR_at {g : Nat → Nat} {j : Nat} (h : j ≤ 20000) : frR g j = cu (fun d => !sB g d) j := if_pos h
/-- the counts -/
theorem RD.n7 (R : RD G n S D A M h) : S 99 0 7 ≤ 8 ∧ S 99 0 8 ≤ 6 ∧ S 99 0 13 ≤ 24 ∧ S 99 0 16 ≤ 30 ∧ S 99 0 17 ≤ 20 := R.1.2.1.2.2.2
end RDS
section PWL
variable {G : fw_G} {y : fw_M} {Q : fw_Q} {d kc ks : Nat} {h : fw_H} {pc nx a tg m k : Nat} {F : Nat → Nat} {v x : Int32} {L : List (Nat × Value)} {rest : List Value} {tb : List fw_R}
theorem pw_lsz (hT : fw_tok y tb) (hr : fw_at tb pc = some (.invokevirtual 66, nx, tg, v)) (l : LV h a m F) (hy : y.1.cls = RX17) (h8 : Nat.ble ((rest.map fun v => v.category).sum) 8 = true) (hd : Nat.blt 0 d = true) (kk : PW G y Q d kc ks h nx L (.int (nI m) :: rest)) : PW G y Q d kc ks h pc L (.ref a :: rest) := by
  have l0 := l
  obtain ⟨e, cap, h1, h2, h3⟩ := l
  exact pw_cvp (As := []) hT hr ca_Jx4a65c_size_8abf5 (hy ▸ lk_X17_66) iv_Jx4a65c_size_8abf5 sv_Jx4a65c_size_8abf5 h1 rfl rfl (j_size l0) rfl rfl h8 hd kk
theorem pw_lget (hT : fw_tok y tb) (hr : fw_at tb pc = some (.invokevirtual 79, nx, tg, v)) (l : LV h a m F) (hk : k < m) (hx : x = nI k) (hy : y.1.cls = RX17) (h8 : Nat.ble ((rest.map fun v => v.category).sum) 8 = true) (hd : Nat.blt 2 d = true) (kk : PW G y Q d kc ks h nx L (.ref (F k) :: rest)) : PW G y Q d kc ks h pc L (.int x :: .ref a :: rest) := by
  subst hx
  have l0 := l
  obtain ⟨e, cap, h1, h2, h3⟩ := l
  exact pw_cvpQ (As := [.int (nI k)]) hT hr ca_Jx4a65c_get_915e3 (hy ▸ lk_X17_79) iv_Jx4a65c_get_915e3 sv_Jx4a65c_get_915e3 h1 rfl rfl (j_get l0 hk) rfl rfl h8 hd kk
end PWL
theorem cw_X17_70 : Cond.classLink RX17 70 RX13 ∈ fw_GW := fw_gw 1247 (by decide +kernel) (by decide +kernel)
theorem cw_X17_88 : Cond.classLink RX17 88 RX16 ∈ fw_GW := fw_gw 1366 (by decide +kernel) (by decide +kernel)
theorem cw_X17_112 : Cond.classLink RX17 112 RX14 ∈ fw_GW := fw_gw 1379 (by decide +kernel) (by decide +kernel)
theorem cw_X17_185 : Cond.classLink RX17 185 RX11 ∈ fw_GW := fw_gw 1651 (by decide +kernel) (by decide +kernel)
theorem cw_X17_273 : Cond.classLink RX17 273 RX15 ∈ fw_GW := fw_gw 1962 (by decide +kernel) (by decide +kernel)
section REF1
variable {G : fw_G} {n : Nat} {S D : fw_DB} {A : fw_AD} {M : fw_MP} {h : fw_H}
theorem n_isWarrant {x : Int32} (R : RD G n S D A M h) : PM G 1 0 0 mm_X17_isWarrant [.ref (A 30 0), .int x] h (fw_qp (bI (knI x (S 99 0 13))) h) := by
  refine pm_of (by decide +kernel) rfl rfl rfl ?_
  iterate 3 refine pw_go tk_X17_isWarrant rfl rfl ?_
  refine pw_get tk_X17_isWarrant rfl fl_X17_19 R.m rfl ?_
  refine pw_lsz tk_X17_isWarrant rfl (R.l3) rfl rfl rfl ?_
  refine pw_go tk_X17_isWarrant rfl rfl ?_
  refine pw_go tk_X17_isWarrant rfl rfl ?_
  refine pw_csp tk_X17_isWarrant rfl ca_X17_in lk_X17_52 sx_X17_in (As := [.int x, .int 0, .int (nI (S 99 0 13) - 1)]) (rest := []) (n_in) rfl rfl rfl rfl ?_
  exact pw_zretp (b := knI x (S 99 0 13)) tk_X17_isWarrant rfl rfl
theorem n_isPerson {x : Int32} (R : RD G n S D A M h) : PM G 1 0 0 mm_X17_isPerson [.ref (A 30 0), .int x] h (fw_qp (bI (knI x (S 99 0 8))) h) := by
  refine pm_of (by decide +kernel) rfl rfl rfl ?_
  iterate 3 refine pw_go tk_X17_isPerson rfl rfl ?_
  refine pw_get tk_X17_isPerson rfl fl_X17_16 R.m rfl ?_
  refine pw_lsz tk_X17_isPerson rfl (R.l2) rfl rfl rfl ?_
  refine pw_go tk_X17_isPerson rfl rfl ?_
  refine pw_go tk_X17_isPerson rfl rfl ?_
  refine pw_csp tk_X17_isPerson rfl ca_X17_in lk_X17_52 sx_X17_in (As := [.int x, .int 0, .int (nI (S 99 0 8) - 1)]) (rest := []) (n_in) rfl rfl rfl rfl ?_
  exact pw_zretp (b := knI x (S 99 0 8)) tk_X17_isPerson rfl rfl
end REF1

