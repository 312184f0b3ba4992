/-! PURE: a day of the clerk -/
theorem TI_tlic {F : fw_DB} {al : List Nat} {w d nd : Nat} {t : Nat → Nat} (hx : fxW F al w) (hd : d < 20000) (h : TI F w (d + 1) nd t) : tlic t d = wlic (F 13 w) d := by
  obtain ⟨h0, h5, h6, -⟩ := h
  have hr := fx_r hx
  unfold tlic wlic
  by_cases c : F 13 w 16 < d + 1
  · rw [h5, h6, if_pos c, if_pos c, decide_eq_false (by omega : ¬ F 13 w 16 = 1000000), decide_eq_true (by omega : F 13 w 16 ≤ d)]
    rfl
  · rw [h5, h6, if_neg c, if_neg c, decide_eq_true rfl, decide_eq_false (by omega : ¬ F 13 w 16 ≤ d), Bool.not_true, Bool.false_and, Bool.false_and]
theorem TI_trun {F : fw_DB} {al : List Nat} {w d nd : Nat} {t : Nat → Nat} (hx : fxW F al w) (hd : d < 20000) (h : TI F w (d + 1) nd t) : trun t = wkeep (F 13 w) d := by
  obtain ⟨h0, h5, h6, -⟩ := h
  have hr := fx_r hx
  have hb := fx_b hx
  unfold trun wkeep
  rw [h0, h5]
  by_cases c : F 13 w 14 < d + 1
  · rw [if_pos c, decide_eq_false (by omega : ¬ F 13 w 14 = 1000000), decide_eq_true (by omega : F 13 w 14 ≤ d)]
    by_cases c2 : F 13 w 16 < d + 1
    · rw [if_pos c2, decide_eq_false (by omega : ¬ F 13 w 16 = 1000000), decide_eq_false (by omega : ¬ d < F 13 w 16)]
      rfl
    · rw [if_neg c2, decide_eq_true rfl, decide_eq_true (by omega : d < F 13 w 16)]
      rfl
  · rw [if_neg c, decide_eq_true rfl, decide_eq_false (by omega : ¬ F 13 w 14 ≤ d)]
    rfl
/-- a person whose days are reckoned -/
def fxP (F : fw_DB) (p : Nat) (wl al rl : List Nat) : Prop := (∀ w ∈ wl, fxW F al w ∧ F 13 w 1 = p ∧ (0 < F 13 w 5 → F 13 w 5 - 1 ∈ wl ∧ F 13 w 5 - 1 < w)) ∧ List.Pairwise (fun a b => a < b) wl ∧ List.Pairwise (fun a b => F 16 a 0 ≤ F 16 b 0) al ∧ (∀ r ∈ rl, fxR F (sB (F 10 p)) wl r) ∧ rl.Nodup
theorem pw_nd {l : List Nat} (h : List.Pairwise (fun a b => a < b) l) : l.Nodup := h.imp (fun h => by omega)
theorem pass_all {F : fw_DB} {p d : Nat} {wl pre u rl : List Nat} (hX : fxP F p wl (pre ++ u) rl) (hd : d < 20000) (hpre : ∀ i ∈ pre, F 16 i 0 < d) (hu : ∀ i ∈ u, d ≤ F 16 i 0) :
    ∀ (l2 l1 : List Nat) (E : fw_DB) (i l : Bool), wl = l1 ++ l2 → sc E F → (∀ w ∈ l1, TI F w (d + 1) (ndF F w pre) (E 14 w)) → (∀ w ∈ l2, TI F w d (ndF F w pre) (E 14 w)) →
      sc (kpD d (sB (F 10 p) d) E l2) F ∧ (∀ w ∈ wl, TI F w (d + 1) (ndF F w pre) (kpD d (sB (F 10 p) d) E l2 14 w)) ∧ (∀ k, k ≠ 14 → kpD d (sB (F 10 p) d) E l2 k = E k) ∧ kpI d (sB (F 10 p) d) E i l2 = (i || l2.any (fun w => wkeep (F 13 w) d)) ∧ kpL d (sB (F 10 p) d) E l l2 = (l || l2.any (fun w => wlic (F 13 w) d))
  | [], l1, E, i, l, e, hs, h1, h2 => ⟨hs, fun w hw => h1 w (by rw [e, List.append_nil] at hw; exact hw), fun k _ => rfl, by rw [List.any_nil, Bool.or_false]; rfl, by rw [List.any_nil, Bool.or_false]; rfl⟩
  | w :: l2, l1, E, i, l, e, hs, h1, h2 => by
    have hw : w ∈ wl := by rw [e]; exact List.mem_append_right _ List.mem_cons_self
    obtain ⟨hx, hp, hah⟩ := hX.1 w hw
    have hord := hX.2.1
    have hnd := pw_nd hord
    rw [e] at hord hnd
    have hw1 : w ∉ l1 := fun z => (List.nodup_append.mp hnd).2.2 w z w List.mem_cons_self rfl
    have hw2 : w ∉ l2 := (List.nodup_cons.mp (List.nodup_append.mp hnd).2.1).1
    have ea : awF F w d = sB (F 10 p) d := by unfold awF; rw [hp]
    have hm : tmb E w d = decide (F 13 w 14 ≤ d) := by
      refine tmb_is hs hx hd (fun z1 z2 => ?_)
      obtain ⟨m1, m2⟩ := hah z1
      have hxa := (hX.1 _ m1).1
      have : F 13 w 5 - 1 ∈ l1 := by
        have m3 := m1
        rw [e] at m3
        rcases List.mem_append.mp m3 with m3 | m3
        · exact m3
        · exfalso
          rcases List.mem_cons.mp m3 with m4 | m4
          · omega
          · have := (List.pairwise_cons.mp (List.pairwise_append.mp hord).2.1).1 _ m4
            omega
      exact ⟨fx_r hxa, (h1 _ this).2.1⟩
    obtain ⟨p1, p2, p3⟩ := TI_pass hs hx hm hd hpre hu (h2 w List.mem_cons_self)
    rw [ea] at p1 p2 p3
    have hs1 : sc (kp1 d (sB (F 10 p) d) E w) F := (sc_dp (fun f hf => by cases hf)).sy.tr hs
    obtain ⟨r1, r2, r3, r4, r5⟩ := pass_all hX hd hpre hu l2 (l1 ++ [w]) (kp1 d (sB (F 10 p) d) E w) (i || trun (tpd E w d (sB (F 10 p) d))) (l || tlic (tpd E w d (sB (F 10 p) d)) d) (by rw [e, List.append_assoc]; rfl) hs1 (fun v hv => by
      unfold kp1
      rcases List.mem_append.mp hv with hv | hv
      · rw [dp_i (fun z : v = w => hw1 (by rw [← z]; exact hv))]
        exact h1 v hv
      · have : v = w := by simpa using hv
        subst this
        rw [dp_s]
        exact p1) (fun v hv => by
      unfold kp1
      rw [dp_i (fun z : v = w => hw2 (by rw [← z]; exact hv))]
      exact h2 v (List.mem_cons_of_mem _ hv))
    refine ⟨r1, r2, fun k hk => (r3 k hk).trans (by unfold kp1; funext j; exact dp_k hk), ?_, ?_⟩
    · show kpI d _ (kp1 d _ E w) (i || trun (tpd E w d (sB (F 10 p) d))) l2 = _
      rw [r4, p2, List.any_cons, Bool.or_assoc]
    · show kpL d _ (kp1 d _ E w) (l || tlic (tpd E w d (sB (F 10 p) d)) d) l2 = _
      rw [r5, p3, List.any_cons, Bool.or_assoc]
/-- a number of days added on the day is noted -/
theorem TI_add {F E : fw_DB} {pre u : List Nat} {w d i : Nat} {t : Nat → Nat} (hs : sc E F) (hx : fxW F (pre ++ i :: u) w) (hd : d < 20000) (hi : F 16 i 0 = d) (hu : ∀ j ∈ i :: u, d ≤ F 16 j 0) (h : TI F w (d + 1) (ndF F w pre) t) : TI F w (d + 1) (ndF F w (pre ++ [i])) (tpa (E 13 w) (E 16 i) t) := by
  have hr := TI_trun hx hd h
  obtain ⟨h0, h5, h6, h1, h3, h2⟩ := h
  have hnw : ndF F w (pre ++ [i]) = if (wfx (F 13 w) && (decide (F 13 w 14 ≤ d) && decide (d < wrel (F 7) (awF F w) (F 13 w) (F 13 w 14) (ndF F w pre)))) = true then min (ndF F w pre + F 16 i 1) (wmost (F 13 w) (spn F w)) else ndF F w pre := by
    rw [← hi]
    unfold ndF
    rw [wadd_app]
    rfl
  have hb := fx_b hx
  unfold tpa
  rw [wfx_a (agw_sc hs w), hr, wmost_a (agw_sc hs w)]
  by_cases c : wfx (F 13 w) = true
  · by_cases c2 : wkeep (F 13 w) d = true
    · rw [c, c2, Bool.true_and, if_pos rfl]
      have c3 := c2
      unfold wkeep at c3
      rw [Bool.and_eq_true, decide_eq_true_eq, decide_eq_true_eq] at c3
      have hnow := fx_now hx (by omega) hu
      refine ⟨h0, h5, h6, fun z => h1 z, fun z => h3 z, fun z z2 => ?_⟩
      show min (t 2 + E 16 i 1) (wmost (F 13 w) (t 1)) = _
      rw [h2 z z2, h1 z, hnw, c, decide_eq_true (by omega : F 13 w 14 ≤ d), decide_eq_true (by omega : d < wrel (F 7) (awF F w) (F 13 w) (F 13 w 14) (ndF F w pre)), Bool.true_and, Bool.true_and, if_pos rfl, hs 16 i 1 rfl]
    · have c2 : wkeep (F 13 w) d = false := by simpa using c2
      rw [c2, Bool.and_false, if_neg (by decide)]
      refine ⟨h0, h5, h6, h1, h3, fun z z2 => ?_⟩
      exfalso
      unfold wkeep at c2
      rw [decide_eq_true (by omega : F 13 w 14 ≤ d), decide_eq_true (by omega : d < F 13 w 16)] at c2
      cases c2
  · have c : wfx (F 13 w) = false := by simpa using c
    rw [c, Bool.false_and] at hnw
    rw [c, Bool.false_and, if_neg (by decide)]
    rw [if_neg (by decide)] at hnw
    rw [hnw]
    exact ⟨h0, h5, h6, h1, h3, h2⟩
theorem kaD_at {i : Nat} : ∀ {l : List Nat} {E : fw_DB} {w : Nat}, l.Nodup → (kaD i E l 14 w = if w ∈ l then tpa (E 13 w) (E 16 i) (E 14 w) else E 14 w) ∧ ∀ k, k ≠ 14 → kaD i E l k = E k
  | [], E, w, _ => ⟨by rw [if_neg (by simp)]; rfl, fun k _ => rfl⟩
  | v :: l, E, w, hn => by
    obtain ⟨n1, n2⟩ := List.nodup_cons.mp hn
    obtain ⟨h1, h2⟩ := kaD_at (i := i) (l := l) (E := dp E 14 v (tpa (E 13 v) (E 16 i) (E 14 v))) (w := w) n2
    have hk : ∀ k, k ≠ 14 → dp E 14 v (tpa (E 13 v) (E 16 i) (E 14 v)) k = E k := fun k hk => funext fun j => dp_k hk
    refine ⟨?_, fun k q => (h2 k q).trans (hk k q)⟩
    show kaD i (dp E 14 v _) l 14 w = _
    rw [h1, hk 13 (by decide), hk 16 (by decide)]
    by_cases c : w = v
    · subst c
      rw [if_neg n1, if_pos List.mem_cons_self, dp_s]
    · rw [dp_i c]
      by_cases c2 : w ∈ l
      · rw [if_pos c2, if_pos (List.mem_cons_of_mem _ c2)]
      · rw [if_neg c2, if_neg (fun z => by rcases List.mem_cons.mp z with z | z <;> contradiction)]
theorem read_all {F : fw_DB} {p d : Nat} {wl rl : List Nat} (hd : d < 20000) : ∀ (u pre : List Nat) (E : fw_DB), fxP F p wl (pre ++ u) rl → sc E F → (∀ i ∈ pre, F 16 i 0 < d + 1) → (∀ i ∈ u, d ≤ F 16 i 0) → (∀ w ∈ wl, TI F w (d + 1) (ndF F w pre) (E 14 w)) →
      sc (karD p d wl E u) F ∧ (∀ k, k ≠ 14 → k ≠ 8 → karD p d wl E u k = E k) ∧ ∃ pre', pre ++ u = pre' ++ cun F d u ∧ (∀ i ∈ pre', F 16 i 0 < d + 1) ∧ (∀ i ∈ cun F d u, d + 1 ≤ F 16 i 0) ∧ ∀ w ∈ wl, TI F w (d + 1) (ndF F w pre') (karD p d wl E u 14 w)
  | [], pre, E, hX, hs, hpre, hu, h => ⟨hs, fun k _ _ => rfl, pre, rfl, hpre, fun i hi => (nomatch hi), h⟩
  | i :: u, pre, E, hX, hs, hpre, hu, h => by
    unfold karD
    have e0 : E 16 i 0 = F 16 i 0 := (hs 16 i 0 rfl).symm
    rw [e0]
    by_cases c : F 16 i 0 ≤ d
    · rw [if_pos c]
      have hi : F 16 i 0 = d := by have := hu i List.mem_cons_self; omega
      have hnd := pw_nd hX.2.1
      have hk := (kaD_at (i := i) (E := E) (w := 0) hnd).2
      have hs1 : sc (ka1 p wl E i) F := by
        have a1 : sc E (kaD i E wl) := fun k j f hf => by
          have : k ≠ 14 := fun z => by subst z; cases hf
          rw [hk k this]
        have a2 : sc (kaD i E wl) (ka1 p wl E i) := sc_dp (fun f hf => by
          show (if f = 5 then _ else kaD i E wl 8 p f) = _
          rw [if_neg (fun z => by subst z; cases hf)])
        exact (a1.tr a2).sy.tr hs
      have h14 : ∀ w, ka1 p wl E i 14 w = kaD i E wl 14 w := fun w => dp_k (by decide)
      have ea : pre ++ i :: u = (pre ++ [i]) ++ u := by rw [List.append_assoc]; rfl
      obtain ⟨r1, r2, pre', r3, r4, r5, r6⟩ := read_all hd u (pre ++ [i]) (ka1 p wl E i) (ea ▸ hX) hs1 (fun j hj => by
        rcases List.mem_append.mp hj with hj | hj
        · exact hpre j hj
        · have : j = i := by simpa using hj
          subst this
          omega) (fun j hj => hu j (List.mem_cons_of_mem _ hj)) (fun w hw => by
        rw [h14, (kaD_at (i := i) (E := E) (w := w) hnd).1, if_pos hw]
        exact TI_add hs (hX.1 w hw).1 hd hi hu (h w hw))
      have ec : cun F d (i :: u) = cun F d u := by
        unfold cun
        rw [List.dropWhile_cons_of_pos (by simpa using c)]
      refine ⟨r1, fun k k1 k2 => (r2 k k1 k2).trans ?_, pre', by rw [ea, r3, ec], r4, by rw [ec]; exact r5, r6⟩
      show ka1 p wl E i k = E k
      unfold ka1
      funext j
      rw [dp_k k2, hk k k1]
    · rw [if_neg c]
      have ec : cun F d (i :: u) = i :: u := by
        unfold cun
        rw [List.dropWhile_cons_of_neg (by simpa using c)]
      refine ⟨hs, fun k _ _ => rfl, pre, by rw [ec], hpre, ?_, h⟩
      rw [ec]
      intro j hj
      have hso := (List.pairwise_append.mp hX.2.2.1).2.1
      rcases List.mem_cons.mp hj with e | hj
      · rw [e]
        omega
      · have := (List.pairwise_cons.mp hso).1 j hj
        omega
def RI (F : fw_DB) (aw : Nat → Bool) (r d : Nat) (g : Nat → Nat) : Prop := (0 < g 7 ↔ F 17 r 5 < d) ∧ (¬ F 17 r 5 < d → g 6 = cu (fun d => !aw d) d - cu (fun d => !aw d) (F 17 r 1))
theorem kr1_is {F E : fw_DB} {aw : Nat → Bool} {wl : List Nat} {r d : Nat} (hs : sc E F) (hx : fxR F aw wl r) (hd : d < 20000) (hl : ∀ w ∈ wl, tlic (E 14 w) d = wlic (F 13 w) d) (h : RI F aw r d (E 17 r)) :
    kon E wl r d = (decide (F 17 r 1 ≤ d) && decide (d < F 17 r 5)) ∧ RI F aw r (d + 1) (kr1 wl d (aw d) E r 17 r) ∧ sc (kr1 wl d (aw d) E r) F ∧ (∀ k, k ≠ 17 → kr1 wl d (aw d) E r k = E k) ∧ ∀ j, j ≠ r → kr1 wl d (aw d) E r 17 j = E 17 j := by
  obtain ⟨h7, h6⟩ := h
  have hge := fxR_ge hx
  have e1 : E 17 r 1 = F 17 r 1 := (hs 17 r 1 rfl).symm
  have e2 : E 17 r 2 = F 17 r 2 := (hs 17 r 2 rfl).symm
  have e3 : E 17 r 3 = F 17 r 3 := (hs 17 r 3 rfl).symm
  have e4 : E 17 r 4 = F 17 r 4 := (hs 17 r 4 rfl).symm
  have hkon : kon E wl r d = (decide (F 17 r 1 ≤ d) && decide (d < F 17 r 5)) := by
    unfold kon kends
    rw [e1, e2, e3, e4, lcb_is hl]
    by_cases c1 : F 17 r 1 ≤ d
    · rw [decide_eq_true c1, Bool.true_and, Bool.true_and]
      by_cases c2 : F 17 r 5 < d
      · rw [decide_eq_true (h7.mpr c2), decide_eq_false (by omega : ¬ d < F 17 r 5)]
        rfl
      · rw [decide_eq_false (fun z => c2 (h7.mp z)), h6 c2]
        have hon := fxR_on hx c1 (by omega) hd
        by_cases c3 : d < F 17 r 5
        · obtain ⟨o1, o2, o3⟩ := hon.mp c3
          rw [decide_eq_true c3, o3, decide_eq_false (by omega : ¬ F 17 r 4 ≤ d)]
          by_cases c4 : 0 < F 17 r 2
          · have := o2 c4
            rw [decide_eq_false (by omega : ¬ 28 ≤ cu (fun d => !aw d) d - cu (fun d => !aw d) (F 17 r 1))]
            simp
          · rw [decide_eq_false c4]
            rfl
        · rw [decide_eq_false c3]
          by_cases c5 : F 17 r 4 ≤ d
          · rw [decide_eq_true c5]
            simp
          · by_cases c6 : lcF F (F 17 r 3) wl d = true
            · by_cases c7 : 0 < F 17 r 2 ∧ 28 ≤ cu (fun d => !aw d) d - cu (fun d => !aw d) (F 17 r 1)
              · rw [decide_eq_true c7.1, decide_eq_true c7.2]
                simp
              · exact absurd (hon.mpr ⟨by omega, fun z => by
                  have := fun z2 => c7 ⟨z, z2⟩
                  omega, c6⟩) c3
            · have c6 : lcF F (F 17 r 3) wl d = false := by simpa using c6
              rw [c6]
              simp
    · rw [decide_eq_false c1]
      rfl
  have uw : cu (fun d => !aw d) (d + 1) = cu (fun d => !aw d) d + (if aw d = true then 0 else 1) := by
    show cu _ d + (if (!aw d) = true then 1 else 0) = _
    cases aw d <;> rfl
  refine ⟨hkon, ?_⟩
  unfold kr1
  rw [hkon]
  by_cases c1 : F 17 r 1 ≤ d
  · by_cases c3 : d < F 17 r 5
    · rw [decide_eq_true c1, decide_eq_true c3, Bool.true_and, if_pos rfl]
      refine ⟨?_, (sc_dp (fun f hf => ?_)).sy.tr hs, fun k hk => funext fun j => dp_k hk, fun j hj => dp_i hj⟩
      · rw [dp_s]
        refine ⟨?_, fun z => ?_⟩
        · show 0 < E 17 r 7 ↔ _
          rw [h7]
          omega
        · show E 17 r 6 + _ = _
          have := cu_mono (fun d => !aw d) c1
          rw [h6 (by omega), uw]
          omega
      · show (if f = 6 then _ else E 17 r f) = _
        rw [if_neg (fun z => by subst z; cases hf)]
    · rw [decide_eq_true c1, decide_eq_false c3, Bool.true_and, if_neg (by decide)]
      by_cases c2 : F 17 r 5 < d
      · rw [e1, if_neg (fun z => z.2 (h7.mpr c2))]
        refine ⟨⟨?_, fun z => by omega⟩, hs, fun k _ => rfl, fun j _ => rfl⟩
        rw [h7]
        omega
      · rw [e1, if_pos ⟨c1, fun z => c2 (h7.mp z)⟩]
        refine ⟨?_, (sc_dp (fun f hf => ?_)).sy.tr hs, fun k hk => funext fun j => dp_k hk, fun j hj => dp_i hj⟩
        · rw [dp_s]
          refine ⟨?_, fun z => by omega⟩
          show 0 < 1 ↔ _
          omega
        · show (if f = 7 then _ else E 17 r f) = _
          rw [if_neg (fun z => by subst z; cases hf)]
  · rw [decide_eq_false c1, Bool.false_and, if_neg (by decide), e1, if_neg (fun z => c1 z.1)]
    refine ⟨⟨?_, fun z => ?_⟩, hs, fun k _ => rfl, fun j _ => rfl⟩
    · rw [h7]
      omega
    · have m1 := cu_mono (fun d => !aw d) (by omega : d ≤ F 17 r 1)
      have m2 := cu_mono (fun d => !aw d) (by omega : d + 1 ≤ F 17 r 1)
      rw [h6 (by omega)]
      omega
theorem recall_all {F : fw_DB} {aw : Nat → Bool} {wl : List Nat} {d : Nat} (hd : d < 20000) : ∀ (l : List Nat) (E : fw_DB) (b : Bool), sc E F → (∀ r ∈ l, fxR F aw wl r) → l.Nodup → (∀ w ∈ wl, tlic (E 14 w) d = wlic (F 13 w) d) → (∀ r ∈ l, RI F aw r d (E 17 r)) →
      sc (krD wl d (aw d) E l) F ∧ (∀ k, k ≠ 17 → krD wl d (aw d) E l k = E k) ∧ (∀ r, r ∉ l → krD wl d (aw d) E l 17 r = E 17 r) ∧ (∀ r ∈ l, RI F aw r (d + 1) (krD wl d (aw d) E l 17 r)) ∧ krB wl d (aw d) E b l = (b || l.any (fun r => decide (F 17 r 1 ≤ d) && decide (d < F 17 r 5)))
  | [], E, b, hs, _, _, _, _ => ⟨hs, fun k _ => rfl, fun r _ => rfl, fun r hr => (nomatch hr), by rw [List.any_nil, Bool.or_false]; rfl⟩
  | r :: l, E, b, hs, hx, hn, hl, h => by
    obtain ⟨n1, n2⟩ := List.nodup_cons.mp hn
    obtain ⟨q1, q2, q3, q4, q5⟩ := kr1_is hs (hx r List.mem_cons_self) hd hl (h r List.mem_cons_self)
    obtain ⟨r1, r2, r3, r4, r5⟩ := recall_all hd l (kr1 wl d (aw d) E r) (b || kon E wl r d) q3 (fun j hj => hx j (List.mem_cons_of_mem _ hj)) n2 (fun w hw => by rw [q4 14 (by decide)]; exact hl w hw) (fun j hj => by rw [q5 j (fun z => n1 (z ▸ hj))]; exact h j (List.mem_cons_of_mem _ hj))
    refine ⟨r1, fun k hk => (r2 k hk).trans (q4 k hk), fun j hj => ?_, fun j hj => ?_, ?_⟩
    · rw [List.mem_cons, not_or] at hj
      exact (r3 j hj.2).trans (q5 j hj.1)
    · rcases List.mem_cons.mp hj with e | hj
      · subst e
        show RI F aw j (d + 1) (krD wl d (aw d) (kr1 wl d (aw d) E j) l 17 j)
        rw [r3 j n1]
        exact q2
      · exact r4 j hj
    · show krB wl d (aw d) (kr1 wl d (aw d) E r) (b || kon E wl r d) l = _
      rw [r5, q1, List.any_cons, Bool.or_assoc]
/-- what holds ahead of a day -/
def DI (F : fw_DB) (p : Nat) (wl al rl : List Nat) (d : Nat) (E : fw_DB) (u : List Nat) : Prop := sc E F ∧ (∃ pre, al = pre ++ u ∧ (∀ i ∈ pre, F 16 i 0 < d) ∧ (∀ i ∈ u, d ≤ F 16 i 0) ∧ ∀ w ∈ wl, TI F w d (ndF F w pre) (E 14 w)) ∧ ∀ r ∈ rl, RI F (sB (F 10 p)) r d (E 17 r)
theorem kp_pos {F : fw_DB} {d : Nat} : ∀ {l : List Nat} {k : Nat}, 0 < kp F d k l ↔ (0 < k ∨ l.any (fun w => wkeep (F 13 w) d) = true)
  | [], k => by
    show 0 < k ↔ _
    simp
  | w :: l, k => by
    unfold kp
    rw [kp_pos, List.any_cons, Bool.or_eq_true]
    by_cases c : wkeep (F 13 w) d = true
    · rw [c]
      by_cases c2 : k = 0
      · rw [decide_eq_true c2, Bool.true_or, Bool.true_and, if_pos rfl]
        simp
      · have : 0 < (if (true && (decide (k = 0) || decide (F 13 (k - 1) 16 < F 13 w 16))) = true then w + 1 else k) := by split <;> omega
        simp only [this]
        simp
    · have c : wkeep (F 13 w) d = false := by simpa using c
      rw [c, Bool.false_and, if_neg (by decide)]
      simp
theorem rc_pos {F : fw_DB} {d : Nat} : ∀ {l : List Nat}, 0 < rc F d l ↔ l.any (fun r => decide (F 17 r 1 ≤ d) && decide (d < F 17 r 5)) = true
  | [] => by
    show 0 < 0 ↔ _
    simp
  | r :: l => by
    unfold rc
    rw [List.any_cons, Bool.or_eq_true, ← rc_pos, Bool.and_eq_true, decide_eq_true_eq, decide_eq_true_eq]
    by_cases c : F 17 r 1 ≤ d ∧ d < F 17 r 5
    · rw [if_pos c]
      exact ⟨fun _ => Or.inl c, fun _ => Nat.succ_pos _⟩
    · rw [if_neg c]
      exact ⟨Or.inr, fun z => z.resolve_left c⟩
theorem day_is {F E : fw_DB} {p d : Nat} {wl al rl u : List Nat} (hX : fxP F p wl al rl) (hd : d < 20000) (h : DI F p wl al rl d E u) : DI F p wl al rl (d + 1) (cpD p d wl u rl E) (cun E d u) ∧ cpS p d wl u rl E = stt F (sB (F 10 p)) d wl rl := by
  obtain ⟨hs, ⟨pre, e, hpre, hu, hT⟩, hR⟩ := h
  subst e
  have e10 : E 10 p = F 10 p := (hs.row (fun f => rfl)).symm
  have ec : cun E d u = cun F d u := by
    unfold cun
    congr 1
    funext i
    rw [hs 16 i 0 rfl]
  obtain ⟨a1, a2, a3, a4, a5⟩ := pass_all hX hd hpre hu wl [] E false false rfl hs (fun w hw => (nomatch hw)) hT
  obtain ⟨b1, b2, pre', b3, b4, b5, b6⟩ := read_all hd u pre (kpD d (sB (F 10 p) d) E wl) hX a1 (fun i hi => by have := hpre i hi; omega) hu a2
  have hlic : ∀ w ∈ wl, tlic (karD p d wl (kpD d (sB (F 10 p) d) E wl) u 14 w) d = wlic (F 13 w) d := fun w hw => TI_tlic (hX.1 w hw).1 hd (b6 w hw)
  have h17 : karD p d wl (kpD d (sB (F 10 p) d) E wl) u 17 = E 17 := (b2 17 (by decide) (by decide)).trans (a3 17 (by decide))
  obtain ⟨c1, c2, c3, c4, c5⟩ := recall_all (aw := sB (F 10 p)) (wl := wl) hd rl (karD p d wl (kpD d (sB (F 10 p) d) E wl) u) false b1 hX.2.2.2.1 hX.2.2.2.2 hlic (fun r hr => by rw [h17]; exact hR r hr)
  constructor
  · unfold cpD
    rw [ec, e10]
    refine ⟨c1, ⟨pre', b3, b4, b5, fun w hw => ?_⟩, c4⟩
    rw [c2 14 (by decide)]
    exact b6 w hw
  · unfold cpS stt
    dsimp only
    rw [e10, a4, a5, c5, Bool.false_or, Bool.false_or, Bool.false_or]
    have k1 := kp_pos (F := F) (d := d) (l := wl) (k := 0)
    have k1 : 0 < kp F d 0 wl ↔ wl.any (fun w => wkeep (F 13 w) d) = true := by rw [k1]; simp
    have k2 := rc_pos (F := F) (d := d) (l := rl)
    have k3 : decide (0 < kp F d 0 wl) = wl.any (fun w => wkeep (F 13 w) d) := by
      rw [Bool.eq_iff_iff, decide_eq_true_eq]
      exact k1
    rw [k3]
    exact (ite_congr (propext (or_congr k1 k2)) (fun _ => rfl) (fun _ => rfl)).symm
/-- the first day -/
theorem day_0 {F E : fw_DB} {p : Nat} {wl al rl : List Nat} (hs : sc E F) (hT : ∀ w ∈ wl, (E 14 w 0 = 1000000 ∧ E 14 w 5 = 1000000 ∧ E 14 w 6 = 1000000) ∧ E 14 w 3 = 0 ∧ E 14 w 4 = 0) (hR : ∀ r ∈ rl, E 17 r 6 = 0 ∧ E 17 r 7 = 0) : DI F p wl al rl 0 E al := by
  refine ⟨hs, ⟨[], rfl, fun i hi => (nomatch hi), fun i _ => Nat.zero_le _, fun w hw => ?_⟩, fun r hr => ?_⟩
  · obtain ⟨⟨h0, h5, h6⟩, h3, h4⟩ := hT w hw
    refine ⟨h0, h5, h6, fun z => by omega, fun _ => ⟨?_, ?_⟩, fun z => by omega⟩
    · rw [h3]
      show 0 = 0 - _
      omega
    · rw [h4]
      show 0 = 0 - _
      omega
  · obtain ⟨h6, h7⟩ := hR r hr
    refine ⟨by omega, fun _ => ?_⟩
    rw [h6]
    show 0 = 0 - _
    omega
