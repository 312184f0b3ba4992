/-! PURE: what the clerk notes of a warrant, ahead of a day -/
def agw (g g' : Nat → Nat) : Prop := ∀ f, f < 14 → g f = g' f
theorem agw_sc {D D' : fw_DB} (h : sc D D') (w : Nat) : agw (D 13 w) (D' 13 w) := fun f hf => (h 13 w f (by
  show (decide (14 ≤ f) && decide (f ≤ 17)) = false
  rw [decide_eq_false (by omega)]
  rfl)).symm
theorem wct_a {g g' : Nat → Nat} (h : agw g g') : wct g = wct g' := by
  unfold wct wwt
  rw [h 2 (by omega), h 9 (by omega), h 13 (by omega)]
theorem wfx_a {g g' : Nat → Nat} (h : agw g g') : wfx g = wfx g' := by
  unfold wfx
  rw [h 2 (by omega)]
theorem wown_a {g g' : Nat → Nat} (h : agw g g') : wown g = wown g' := by
  unfold wown
  rw [h 2 (by omega), h 9 (by omega), h 4 (by omega)]
theorem wyes_a {lw : Nat → Nat → Nat} {g g' : Nat → Nat} (h : agw g g') : wyes lw g = wyes lw g' := by
  unfold wyes
  rw [h 2 (by omega), h 7 (by omega)]
theorem wcn_a {g g' : Nat → Nat} (h : agw g g') : wcn g = wcn g' := by
  unfold wcn
  rw [h 11 (by omega), h 12 (by omega)]
theorem wei_a {lw : Nat → Nat → Nat} {g g' : Nat → Nat} (h : agw g g') : wei lw g = wei lw g' := by
  unfold wei
  rw [wfx_a h, h 7 (by omega)]
theorem wneed_a {lw : Nat → Nat → Nat} {g g' : Nat → Nat} (h : agw g g') : wneed lw g = wneed lw g' := by
  funext s
  unfold wneed
  rw [wei_a h, wcn_a h]
theorem wmost_a {g g' : Nat → Nat} (h : agw g g') : wmost g = wmost g' := by
  funext s
  unfold wmost
  rw [wcn_a h]
theorem tml_a {lw : Nat → Nat → Nat} {g g' : Nat → Nat} (h : agw g g') : tml lw g = tml lw g' := by
  funext d
  unfold tml
  rw [wyes_a h, h 10 (by omega)]
theorem teol_a {g g' t : Nat → Nat} (h : agw g g') : teol g t = teol g' t := by
  unfold teol
  rw [h 2 (by omega), wfx_a h, wcn_a h]
theorem wrel_a {lw : Nat → Nat → Nat} {aw : Nat → Bool} {g g' : Nat → Nat} (h : agw g g') : wrel lw aw g = wrel lw aw g' := by
  funext b n
  unfold wrel
  rw [wyes_a h, h 10 (by omega)]
theorem wlend_a {aw : Nat → Bool} {g g' : Nat → Nat} (h : agw g g') : wlend aw g = wlend aw g' := by
  funext b r s
  unfold wlend
  rw [h 2 (by omega), wcn_a h]
theorem wadd_a {ad lw : Nat → Nat → Nat} {aw : Nat → Bool} {g g' : Nat → Nat} (h : agw g g') {b s : Nat} : ∀ {l : List Nat} {n : Nat}, wadd ad lw aw g b s n l = wadd ad lw aw g' b s n l
  | [], _ => rfl
  | i :: l, n => by
    show wadd ad lw aw g b s _ l = wadd ad lw aw g' b s _ l
    rw [wadd_a h, wfx_a h, wrel_a h, wmost_a h]
def spn (F : fw_DB) (w : Nat) : Nat := sp_len (F 13 w 14) (F 15 w 0) (F 15 w 1) (F 15 w 2)
def awF (F : fw_DB) (w : Nat) : Nat → Bool := sB (F 10 (F 13 w 1))
def naF (F : fw_DB) (w : Nat) : Nat → Bool := fun d => !awF F w d
def ndF (F : fw_DB) (w : Nat) (l : List Nat) : Nat := wadd (F 16) (F 7) (awF F w) (F 13 w) (F 13 w 14) (spn F w) (wneed (F 7) (F 13 w) (spn F w)) l
/-- a warrant whose days are reckoned -/
def fxW (F : fw_DB) (al : List Nat) (w : Nat) : Prop := F 13 w = rkRow F w al ∧ (wbeg F w < 20000 ∨ wbeg F w = 1000000) ∧ wneed (F 7) (F 13 w) (spn F w) ≤ wmost (F 13 w) (spn F w) ∧ (F 13 w 2 = 102 ∨ F 13 w 2 = 108 ∨ F 13 w 2 = 100 ∨ F 13 w 2 = 115)
theorem fx_is {F : fw_DB} {al : List Nat} {w : Nat} (h : fxW F al w) : F 13 w 14 = wbeg F w ∧ (F 13 w 14 = 1000000 → F 13 w 16 = 1000000 ∧ F 13 w 15 = 0 ∧ F 13 w 17 = 1000000) ∧ (F 13 w 14 ≠ 1000000 → F 13 w 15 = ndF F w al ∧ F 13 w 16 = wrel (F 7) (awF F w) (F 13 w) (F 13 w 14) (ndF F w al) ∧ F 13 w 17 = wlend (awF F w) (F 13 w) (F 13 w 14) (F 13 w 16) (spn F w)) := by
  have h0 := h.1
  have e14 : F 13 w 14 = wbeg F w := by
    have := congrFun h0 14
    rw [this]
    unfold rkRow
    dsimp only
    split
    · rename_i c
      rw [c]
      rfl
    · rfl
  refine ⟨e14, fun c => ?_, fun c => ?_⟩
  · have h16 := congrFun h0 16
    have h15 := congrFun h0 15
    have h17 := congrFun h0 17
    unfold rkRow at h15 h16 h17
    dsimp only at h15 h16 h17
    rw [if_pos (e14 ▸ c)] at h15 h16 h17
    exact ⟨h16, h15, h17⟩
  · have h16 := congrFun h0 16
    have h15 := congrFun h0 15
    have h17 := congrFun h0 17
    unfold rkRow at h15 h16 h17
    dsimp only at h15 h16 h17
    rw [if_neg (e14 ▸ c)] at h15 h16 h17
    rw [← e14] at h15 h16 h17
    have e15 : F 13 w 15 = ndF F w al := h15
    have e16 : F 13 w 16 = wrel (F 7) (awF F w) (F 13 w) (F 13 w 14) (ndF F w al) := h16
    refine ⟨e15, e16, ?_⟩
    rw [e16]
    exact h17
theorem fx_b {F : fw_DB} {al : List Nat} {w : Nat} (h : fxW F al w) : F 13 w 14 < 20000 ∨ F 13 w 14 = 1000000 := by
  rw [(fx_is h).1]
  exact h.2.1
theorem fx_r {F : fw_DB} {al : List Nat} {w : Nat} (h : fxW F al w) : F 13 w 16 < 20000 ∨ F 13 w 16 = 1000000 := by
  by_cases c : F 13 w 14 = 1000000
  · exact Or.inr ((fx_is h).2.1 c).1
  · rw [((fx_is h).2.2 c).2.1]
    exact wrel_ok
theorem fx_le {F : fw_DB} {al : List Nat} {w : Nat} (h : fxW F al w) : F 13 w 14 ≤ F 13 w 16 := by
  rcases fx_b h with c | c
  · rw [((fx_is h).2.2 (by omega)).2.1]
    exact wrel_ge c
  · rw [((fx_is h).2.1 c).1, c]
    exact Nat.le_refl _
/-- the release is ahead of a day or on it, by what was added until then -/
theorem fx_now {F : fw_DB} {pre u : List Nat} {w d : Nat} (h : fxW F (pre ++ u) w) (hb : F 13 w 14 < 20000) (hu : ∀ i ∈ u, d ≤ F 16 i 0) : F 13 w 16 ≤ d ↔ wrel (F 7) (awF F w) (F 13 w) (F 13 w 14) (ndF F w pre) ≤ d := by
  rw [((fx_is h).2.2 (by omega)).2.1]
  unfold ndF
  rw [wadd_app]
  exact wrel_now hb (wadd_le h.2.2.1) hu
def TI (F : fw_DB) (w d nd : Nat) (t : Nat → Nat) : Prop :=
  t 0 = (if F 13 w 14 < d then F 13 w 14 else 1000000) ∧ t 5 = (if F 13 w 16 < d then F 13 w 16 else 1000000) ∧ t 6 = (if F 13 w 16 < d then F 13 w 17 else 1000000) ∧ (F 13 w 14 < d → t 1 = spn F w) ∧ (¬ F 13 w 16 < d → t 3 = cu (naF F w) d - cu (naF F w) (F 13 w 14) ∧ t 4 = cu (awF F w) d - cu (awF F w) (F 13 w 14)) ∧ (F 13 w 14 < d → ¬ F 13 w 16 < d → t 2 = nd)
theorem tmb_is {F E : fw_DB} {al : List Nat} {w d : Nat} (hs : sc E F) (hx : fxW F al w) (hd : d < 20000) (hah : 0 < F 13 w 5 → wct (F 13 (F 13 w 5 - 1)) = true → (F 13 (F 13 w 5 - 1) 16 < 20000 ∨ F 13 (F 13 w 5 - 1) 16 = 1000000) ∧ E 14 (F 13 w 5 - 1) 5 = if F 13 (F 13 w 5 - 1) 16 < d + 1 then F 13 (F 13 w 5 - 1) 16 else 1000000) : tmb E w d = decide (F 13 w 14 ≤ d) := by
  have e := (fx_is hx).1
  unfold tmb
  rw [wct_a (agw_sc hs w), wown_a (agw_sc hs w), agw_sc hs w 5 (by omega), wct_a (agw_sc hs (F 13 w 5 - 1)), e]
  unfold wbeg
  by_cases c : wct (F 13 w) = true
  · rw [if_pos c, c]
    by_cases c2 : 0 < F 13 w 5 ∧ wct (F 13 (F 13 w 5 - 1)) = true
    · obtain ⟨h1, h2⟩ := hah c2.1 c2.2
      rw [if_pos c2, c2.2, decide_eq_true c2.1, h2]
      by_cases c3 : F 13 (F 13 w 5 - 1) 16 < d + 1
      · rw [if_pos c3, decide_eq_false (by omega : ¬ F 13 (F 13 w 5 - 1) 16 = 1000000)]
        simp
        omega
      · rw [if_neg c3]
        simp
        omega
    · rw [if_neg c2]
      have : (decide (0 < F 13 w 5) && wct (F 13 (F 13 w 5 - 1))) = false := by
        by_cases c3 : 0 < F 13 w 5
        · have : wct (F 13 (F 13 w 5 - 1)) = false := by
            cases hq : wct (F 13 (F 13 w 5 - 1)) with
            | false => rfl
            | true => exact absurd ⟨c3, hq⟩ c2
          rw [this, Bool.and_false]
        · rw [decide_eq_false c3]
          rfl
      rw [this]
      simp
  · rw [if_neg c]
    have c : wct (F 13 w) = false := by simpa using c
    rw [c]
    simp
    omega
theorem tp1_is {F E : fw_DB} {pre u : List Nat} {w d : Nat} (hs : sc E F) (hx : fxW F (pre ++ u) w) (hm : tmb E w d = decide (F 13 w 14 ≤ d)) (hd : d < 20000) (hpre : ∀ i ∈ pre, F 16 i 0 < d) {t : Nat → Nat} (h : TI F w d (ndF F w pre) t) :
    tp1 E w d t 0 = (if F 13 w 14 ≤ d then F 13 w 14 else 1000000) ∧ tp1 E w d t 5 = t 5 ∧ tp1 E w d t 6 = t 6 ∧ (F 13 w 14 ≤ d → tp1 E w d t 1 = spn F w) ∧ tp1 E w d t 3 = t 3 ∧ tp1 E w d t 4 = t 4 ∧ (F 13 w 14 ≤ d → ¬ F 13 w 16 < d → tp1 E w d t 2 = ndF F w pre) := by
  obtain ⟨h0, h5, h6, h1, h3, h2⟩ := h
  unfold tp1
  rw [hm]
  rcases Nat.lt_trichotomy (F 13 w 14) d with c | c | c
  · have t0 : t 0 = F 13 w 14 := by rw [h0, if_pos c]
    rw [decide_eq_false (by omega : ¬ t 0 = 1000000), Bool.false_and, if_neg (by decide), if_pos (by omega)]
    exact ⟨t0, rfl, rfl, fun _ => h1 c, rfl, rfl, fun _ z => h2 c z⟩
  · have t0 : t 0 = 1000000 := by rw [h0, if_neg (by omega)]
    rw [decide_eq_true t0, decide_eq_true (by omega : F 13 w 14 ≤ d), Bool.true_and, if_pos rfl, if_pos (by omega)]
    have es : sp_len d (E 15 w 0) (E 15 w 1) (E 15 w 2) = spn F w := by
      unfold spn
      rw [c, hs 15 w 0 rfl, hs 15 w 1 rfl, hs 15 w 2 rfl]
    rw [es]
    refine ⟨c.symm, rfl, rfl, fun _ => rfl, rfl, rfl, fun _ _ => ?_⟩
    have e7 : E 7 = F 7 := (hs.kind (fun f => rfl)).symm
    show wneed (E 7) (E 13 w) (spn F w) = _
    unfold ndF
    rw [e7, wneed_a (agw_sc hs w)]
    exact (wadd_pre (fun i hi => by have := hpre i hi; omega)).symm
  · have t0 : t 0 = 1000000 := by rw [h0, if_neg (by omega)]
    rw [decide_eq_true t0, decide_eq_false (by omega : ¬ F 13 w 14 ≤ d), Bool.and_false, if_neg (by decide), if_neg (by omega)]
    exact ⟨t0, rfl, rfl, fun z => by omega, rfl, rfl, fun z => by omega⟩
/-- a day passed -/
theorem TI_pass {F E : fw_DB} {pre u : List Nat} {w d : Nat} (hs : sc E F) (hx : fxW F (pre ++ u) w) (hm : tmb E w d = decide (F 13 w 14 ≤ d)) (hd : d < 20000) (hpre : ∀ i ∈ pre, F 16 i 0 < d) (hu : ∀ i ∈ u, d ≤ F 16 i 0) (h : TI F w d (ndF F w pre) (E 14 w)) :
    TI F w (d + 1) (ndF F w pre) (tpd E w d (awF F w d)) ∧ trun (tpd E w d (awF F w d)) = wkeep (F 13 w) d ∧ tlic (tpd E w d (awF F w d)) d = wlic (F 13 w) d := by
  obtain ⟨a0, a5, a6, a1, a3, a4, a2⟩ := tp1_is hs hx hm hd hpre h
  obtain ⟨h0, h5, h6, h1, h3, h2⟩ := h
  unfold tpd
  generalize tp1 E w d (E 14 w) = t1 at *
  have hle := fx_le hx
  have hr := fx_r hx
  have hb := fx_b hx
  have e7 : E 7 = F 7 := (hs.kind (fun f => rfl)).symm
  rw [h5] at a5
  rw [h6] at a6
  rw [e7]
  have uw : ∀ n, cu (naF F w) (n + 1) = cu (naF F w) n + (if awF F w n = true then 0 else 1) := fun n => by
    show cu _ n + (if naF F w n = true then 1 else 0) = _
    unfold naF
    cases awF F w n <;> rfl
  have ua : ∀ n, cu (awF F w) (n + 1) = cu (awF F w) n + (if awF F w n = true then 1 else 0) := fun n => rfl
  by_cases c1 : F 13 w 16 < d
  · -- free already
    have t5 : t1 5 = F 13 w 16 := by rw [a5, if_pos c1]
    have r1 : trun t1 = false := by
      unfold trun
      rw [decide_eq_false (by omega : ¬ t1 5 = 1000000), Bool.and_false]
    have e2 : tp2 (F 7) (E 13 w) d t1 = t1 := by
      unfold tp2
      rw [r1, Bool.false_and, if_neg (by decide)]
    rw [e2]
    have e3 : tp3 (awF F w d) t1 = t1 := by
      unfold tp3
      rw [r1, if_neg (by decide)]
    rw [e3]
    refine ⟨⟨?_, ?_, ?_, fun z => a1 (by omega), fun z => by omega, fun _ z => by omega⟩, ?_, ?_⟩
    · rw [a0, if_pos (by omega), if_pos (by omega)]
    · rw [t5, if_pos (by omega)]
    · rw [a6, if_pos c1, if_pos (by omega)]
    · rw [r1]
      unfold wkeep
      rw [decide_eq_false (by omega : ¬ d < F 13 w 16), Bool.and_false]
    · unfold tlic wlic
      rw [decide_eq_false (by omega : ¬ t1 5 = 1000000), a6, if_pos c1, decide_eq_true (by omega : F 13 w 16 ≤ d)]
      rfl
  · have t5 : t1 5 = 1000000 := by rw [a5, if_neg c1]
    have t6 : t1 6 = 1000000 := by rw [a6, if_neg c1]
    by_cases c2 : F 13 w 14 ≤ d
    · have t0 : t1 0 = F 13 w 14 := by rw [a0, if_pos c2]
      have r1 : trun t1 = true := by
        unfold trun
        rw [decide_eq_false (by omega : ¬ t1 0 = 1000000), decide_eq_true t5]
        rfl
      obtain ⟨h3a, h3b⟩ := h3 c1
      rw [h3a] at a3
      rw [h3b] at a4
      have a2 := a2 c2 c1
      have a1 := a1 c2
      have hnow := fx_now hx (by omega) hu
      have hrel : wrel (F 7) (awF F w) (F 13 w) (F 13 w 14) (ndF F w pre) ≤ d ↔ (ndF F w pre ≤ cu (naF F w) d - cu (naF F w) (F 13 w 14) ∧ tml (F 7) (F 13 w) d = true) := wrel_le c2 hd
      have hlv : (decide (t1 2 ≤ t1 3) && tml (F 7) (E 13 w) d) = decide (F 13 w 16 ≤ d) := by
        rw [tml_a (agw_sc hs w), a2, a3]
        by_cases z : F 13 w 16 ≤ d
        · obtain ⟨z1, z2⟩ := hrel.mp (hnow.mp z)
          rw [decide_eq_true z, z2, decide_eq_true z1]
          rfl
        · rw [decide_eq_false z]
          cases q1 : tml (F 7) (F 13 w) d with
          | false => rw [Bool.and_false]
          | true =>
            rw [Bool.and_true]
            refine decide_eq_false (fun z2 => z (hnow.mpr (hrel.mpr ⟨z2, q1⟩)))
      by_cases c3 : F 13 w 16 ≤ d
      · -- it leaves
        have er : F 13 w 16 = d := by omega
        have e2 : tp2 (F 7) (E 13 w) d t1 = va_up (va_up t1 5 d) 6 (teol (E 13 w) (va_up t1 5 d)) := by
          unfold tp2
          rw [r1, hlv, decide_eq_true c3, Bool.true_and, if_pos rfl]
        rw [e2]
        generalize ht2 : va_up (va_up t1 5 d) 6 (teol (E 13 w) (va_up t1 5 d)) = t2
        have b5 : t2 5 = d := by rw [← ht2]; rfl
        have b0 : t2 0 = F 13 w 14 := by rw [← ht2]; exact t0
        have b1 : t2 1 = spn F w := by rw [← ht2]; exact a1
        have b6 : t2 6 = F 13 w 17 := by
          rw [← ht2]
          show teol (E 13 w) (va_up t1 5 d) = _
          rw [teol_a (agw_sc hs w), ((fx_is hx).2.2 (by omega)).2.2]
          unfold teol wlend
          have v0 : va_up t1 5 d 0 = F 13 w 14 := t0
          have v1 : va_up t1 5 d 1 = spn F w := a1
          have v4 : va_up t1 5 d 4 = cu (awF F w) d - cu (awF F w) (F 13 w 14) := a4
          rw [v0, v1, v4, cu_iv (by omega : F 13 w 16 ≤ 20032), er]
          unfold wfx
          rcases hx.2.2.2 with k | k | k | k
          · rw [if_neg (show ¬ F 13 w 2 = 108 by omega), if_pos (show (decide (F 13 w 2 = 102) || decide (F 13 w 2 = 115)) = true by rw [k]; rfl), if_neg (show ¬ (d = 1000000 ∨ F 13 w 2 = 100) by omega), if_neg (show ¬ F 13 w 2 = 108 by omega)]
          · rw [if_pos k, if_neg (by omega), if_pos k]
          · rw [if_neg (by omega), if_pos (Or.inr k)]
            rw [k]
            rfl
          · rw [if_neg (show ¬ F 13 w 2 = 108 by omega), if_pos (show (decide (F 13 w 2 = 102) || decide (F 13 w 2 = 115)) = true by rw [k]; rfl), if_neg (show ¬ (d = 1000000 ∨ F 13 w 2 = 100) by omega), if_neg (show ¬ F 13 w 2 = 108 by omega)]
        have r2 : trun t2 = false := by
          unfold trun
          rw [decide_eq_false (by omega : ¬ t2 5 = 1000000), Bool.and_false]
        have e3 : tp3 (awF F w d) t2 = t2 := by
          unfold tp3
          rw [r2, if_neg (by decide)]
        rw [e3]
        refine ⟨⟨?_, ?_, ?_, fun z => b1, fun z => by omega, fun _ z => by omega⟩, ?_, ?_⟩
        · rw [b0, if_pos (by omega)]
        · rw [b5, if_pos (by omega), er]
        · rw [b6, if_pos (by omega)]
        · rw [r2]
          unfold wkeep
          rw [decide_eq_false (by omega : ¬ d < F 13 w 16), Bool.and_false]
        · unfold tlic wlic
          rw [decide_eq_false (by omega : ¬ t2 5 = 1000000), b6, decide_eq_true (by omega : F 13 w 16 ≤ d)]
          rfl
      · -- it goes on
        have e2 : tp2 (F 7) (E 13 w) d t1 = t1 := by
          unfold tp2
          rw [r1, hlv, decide_eq_false c3, Bool.and_false, if_neg (by decide)]
        rw [e2]
        have e3 : tp3 (awF F w d) t1 = va_up (va_up t1 4 (t1 4 + (if awF F w d = true then 1 else 0))) 3 (t1 3 + (if awF F w d = true then 0 else 1)) := by
          unfold tp3
          rw [r1, if_pos rfl]
        rw [e3]
        generalize ht2 : va_up (va_up t1 4 (t1 4 + (if awF F w d = true then 1 else 0))) 3 (t1 3 + (if awF F w d = true then 0 else 1)) = t2
        have b0 : t2 0 = F 13 w 14 := by rw [← ht2]; exact t0
        have b1 : t2 1 = spn F w := by rw [← ht2]; exact a1
        have b2 : t2 2 = ndF F w pre := by rw [← ht2]; exact a2
        have b5 : t2 5 = 1000000 := by rw [← ht2]; exact t5
        have b6 : t2 6 = 1000000 := by rw [← ht2]; exact t6
        have b3 : t2 3 = t1 3 + (if awF F w d = true then 0 else 1) := by rw [← ht2]; rfl
        have b4 : t2 4 = t1 4 + (if awF F w d = true then 1 else 0) := by rw [← ht2]; rfl
        have m1 := cu_mono (naF F w) c2
        have m2 := cu_mono (awF F w) c2
        refine ⟨⟨?_, ?_, ?_, fun z => b1, fun z => ⟨?_, ?_⟩, fun _ z => b2⟩, ?_, ?_⟩
        · rw [b0, if_pos (by omega)]
        · rw [b5, if_neg (by omega)]
        · rw [b6, if_neg (by omega)]
        · rw [b3, a3, uw d]
          omega
        · rw [b4, a4, ua d]
          omega
        · unfold trun wkeep
          rw [decide_eq_false (by omega : ¬ t2 0 = 1000000), decide_eq_true b5, decide_eq_true c2, decide_eq_true (by omega : d < F 13 w 16)]
          rfl
        · unfold tlic wlic
          rw [decide_eq_true b5, decide_eq_false (by omega : ¬ F 13 w 16 ≤ d)]
          rfl
    · -- not begun
      have t0 : t1 0 = 1000000 := by rw [a0, if_neg c2]
      have r1 : trun t1 = false := by
        unfold trun
        rw [decide_eq_true t0]
        rfl
      have e2 : tp2 (F 7) (E 13 w) d t1 = t1 := by
        unfold tp2
        rw [r1, Bool.false_and, if_neg (by decide)]
      rw [e2]
      have e3 : tp3 (awF F w d) t1 = t1 := by
        unfold tp3
        rw [r1, if_neg (by decide)]
      rw [e3]
      obtain ⟨h3a, h3b⟩ := h3 c1
      have m1 := cu_mono (naF F w) (by omega : d ≤ F 13 w 14)
      have m2 := cu_mono (awF F w) (by omega : d ≤ F 13 w 14)
      have m3 := cu_mono (naF F w) (by omega : d + 1 ≤ F 13 w 14)
      have m4 := cu_mono (awF F w) (by omega : d + 1 ≤ F 13 w 14)
      refine ⟨⟨?_, ?_, ?_, fun z => by omega, fun z => ⟨?_, ?_⟩, fun z => by omega⟩, ?_, ?_⟩
      · rw [t0, if_neg (by omega)]
      · rw [t5, if_neg (by omega)]
      · rw [t6, if_neg (by omega)]
      · rw [a3, h3a]
        omega
      · rw [a4, h3b]
        omega
      · rw [r1]
        unfold wkeep
        rw [decide_eq_false c2]
        rfl
      · unfold tlic wlic
        rw [decide_eq_true t5, decide_eq_false (by omega : ¬ F 13 w 16 ≤ d)]
        rfl
