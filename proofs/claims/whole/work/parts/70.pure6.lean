/-! PURE: the days of all warrants -/
/-- a row is told by what is told of the warrant, and by the release of the one ahead -/
theorem rkRow_c {D E : fw_DB} {w : Nat} {al : List Nat} (hs : sc D E) (ha : 0 < D 13 w 5 → D 13 (D 13 w 5 - 1) 16 = E 13 (D 13 w 5 - 1) 16) : rkRow D w al = rkRow E w al := by
  have hg := agw_sc hs w
  have e7 : E 7 = D 7 := hs.kind (fun f => rfl)
  have e16 : E 16 = D 16 := hs.kind (fun f => rfl)
  have e15 : ∀ f, E 15 w f = D 15 w f := fun f => hs 15 w f rfl
  have e10 : E 10 = D 10 := hs.kind (fun f => rfl)
  have e1 : E 13 w 1 = D 13 w 1 := hs 13 w 1 rfl
  have e5 : E 13 w 5 = D 13 w 5 := hs 13 w 5 rfl
  have eb : wbeg D w = wbeg E w := by
    unfold wbeg
    rw [wct_a hg, wown_a hg, e5]
    by_cases c : 0 < D 13 w 5
    · rw [ha c, wct_a (agw_sc hs (D 13 w 5 - 1))]
    · have e : ∀ P : Prop, ¬ (0 < D 13 w 5 ∧ P) := fun P z => c z.1
      rw [if_neg (e _), if_neg (e _)]
  have er : ∀ b n r e, rset (D 13 w) b n r e = rset (E 13 w) b n r e := fun b n r e => funext fun f => by
    unfold rset
    by_cases c1 : f = 14
    · rw [if_pos c1, if_pos c1]
    · rw [if_neg c1, if_neg c1]
      by_cases c2 : f = 15
      · rw [if_pos c2, if_pos c2]
      · rw [if_neg c2, if_neg c2]
        by_cases c3 : f = 16
        · rw [if_pos c3, if_pos c3]
        · rw [if_neg c3, if_neg c3]
          by_cases c4 : f = 17
          · rw [if_pos c4, if_pos c4]
          · rw [if_neg c4, if_neg c4]
            refine (hs 13 w f ?_).symm
            show (decide (14 ≤ f) && decide (f ≤ 17)) = false
            rw [Bool.and_eq_false_iff, decide_eq_false_iff_not, decide_eq_false_iff_not]
            omega
  have ek : ∀ b, rkN D w al b = rkN E w al b := fun b => by
    unfold rkN
    dsimp only
    rw [e7, e16, e10, e1, e15, e15, e15, wneed_a hg, wadd_a hg]
  unfold rkRow
  dsimp only
  rw [eb]
  by_cases c : wbeg E w = 1000000
  · rw [if_pos c, if_pos c, er]
  · rw [if_neg c, if_neg c, ek, e7, e10, e1, e15, e15, e15, wrel_a hg, wlend_a hg, er]
theorem rkRow_s {D : fw_DB} {w f : Nat} {al : List Nat} (h : scr 13 f = false) : rkRow D w al f = D 13 w f := by
  have h : (decide (14 ≤ f) && decide (f ≤ 17)) = false := h
  rw [Bool.and_eq_false_iff, decide_eq_false_iff_not, decide_eq_false_iff_not] at h
  have e : ∀ b n r e, rset (D 13 w) b n r e f = D 13 w f := fun b n r e => by
    unfold rset
    rw [if_neg (by omega), if_neg (by omega), if_neg (by omega), if_neg (by omega)]
  unfold rkRow
  dsimp only
  split
  · exact e _ _ _ _
  · exact e _ _ _ _
theorem rk1_sc {D : fw_DB} {w : Nat} {al : List Nat} : sc D (rk1 al D w) := sc_dp (fun _ hf => rkRow_s hf)
/-- warrants reckoned one behind another, each with its person's added days -/
def rkA (alf : Nat → List Nat) : fw_DB → List Nat → fw_DB
  | D, [] => D
  | D, w :: l => rkA alf (rk1 (alf w) D w) l
theorem rkAll_A {al : List Nat} : ∀ {l : List Nat} {D : fw_DB}, rkAll al D l = rkA (fun _ => al) D l
  | [], _ => rfl
  | w :: l, D => rkAll_A (l := l)
theorem rkA_sc {alf : Nat → List Nat} : ∀ {l : List Nat} {D : fw_DB}, sc D (rkA alf D l)
  | [], _ => sc.rf
  | w :: l, D => rk1_sc.tr (rkA_sc (l := l))
theorem rkA_k {alf : Nat → List Nat} {k : Nat} (h : k ≠ 13) : ∀ {l : List Nat} {D : fw_DB}, rkA alf D l k = D k
  | [], _ => rfl
  | w :: l, D => (rkA_k h (l := l)).trans (funext fun j => dp_k h)
theorem rkA_o {alf : Nat → List Nat} {v : Nat} : ∀ {l : List Nat} {D : fw_DB}, v ∉ l → rkA alf D l 13 v = D 13 v
  | [], _, _ => rfl
  | w :: l, D, h => by
    rw [List.mem_cons, not_or] at h
    exact (rkA_o (l := l) h.2).trans (dp_i h.1)
/-- then each row is as it is reckoned -/
theorem rkA_fix {alf : Nat → List Nat} : ∀ {l : List Nat} {D : fw_DB}, List.Pairwise (fun a b => a < b) l → (∀ w ∈ l, 0 < D 13 w 5 → D 13 w 5 - 1 < w) → ∀ w ∈ l, rkA alf D l 13 w = rkRow (rkA alf D l) w (alf w)
  | [], _, _, _, w, hw => nomatch hw
  | v :: l, D, hp, ha, w, hw => by
    obtain ⟨p1, p2⟩ := List.pairwise_cons.mp hp
    have hs : sc D (rk1 (alf v) D v) := rk1_sc
    have s2 : sc D (rkA alf (rk1 (alf v) D v) l) := hs.tr rkA_sc
    rcases List.mem_cons.mp hw with e | hw
    · subst e
      have hn : w ∉ l := fun z => by have := p1 w z; omega
      show rkA alf (rk1 (alf w) D w) l 13 w = rkRow (rkA alf (rk1 (alf w) D w) l) w (alf w)
      rw [rkA_o hn]
      show dp D 13 w _ 13 w = _
      rw [dp_s]
      refine rkRow_c s2 (fun z => ?_)
      have hlt := ha w List.mem_cons_self z
      have hn2 : D 13 w 5 - 1 ∉ l := fun z2 => by have := p1 _ z2; omega
      rw [rkA_o hn2]
      show _ = dp D 13 w _ 13 (D 13 w 5 - 1) 16
      rw [dp_i (by omega)]
    · exact rkA_fix (l := l) p2 (fun u hu z => by
        have e5 : rk1 (alf v) D v 13 u 5 = D 13 u 5 := hs 13 u 5 rfl
        rw [e5] at z ⊢
        exact ha u (List.mem_cons_of_mem _ hu) z) w hw
/-- and only so -/
theorem fix_uniq {D E : fw_DB} {S : Nat → Prop} {alf : Nat → List Nat} (hs : sc D E) (hD : ∀ w, S w → D 13 w = rkRow D w (alf w)) (hE : ∀ w, S w → E 13 w = rkRow E w (alf w)) (ha : ∀ w, S w → 0 < D 13 w 5 → S (D 13 w 5 - 1) ∧ D 13 w 5 - 1 < w) : ∀ n w, w < n → S w → D 13 w = E 13 w
  | 0, w, h, _ => by omega
  | n + 1, w, h, hw => by
    rw [hD w hw, hE w hw]
    refine rkRow_c hs (fun z => ?_)
    obtain ⟨h1, h2⟩ := ha w hw z
    rw [fix_uniq hs hD hE ha n _ (by omega) h1]
/-- recalls reckoned, each with its person's warrants and days -/
def rcA (wf : Nat → List Nat) : fw_DB → List Nat → fw_DB
  | D, [] => D
  | D, r :: l => rcA wf (rc1 (wf r) D r) l
theorem rcAll_A {wl : List Nat} : ∀ {l : List Nat} {D : fw_DB}, rcAll wl D l = rcA (fun _ => wl) D l
  | [], _ => rfl
  | w :: l, D => rcAll_A (l := l)
theorem rc1_sc {D : fw_DB} {r : Nat} {wl : List Nat} : sc D (rc1 wl D r) := sc_dp (fun f hf => by
  show (if f = 5 then _ else D 17 r f) = _
  rw [if_neg (fun z => by subst z; cases hf)])
theorem rcA_sc {wf : Nat → List Nat} : ∀ {l : List Nat} {D : fw_DB}, sc D (rcA wf D l)
  | [], _ => sc.rf
  | w :: l, D => rc1_sc.tr (rcA_sc (l := l))
theorem rcA_k {wf : Nat → List Nat} {k : Nat} (h : k ≠ 17) : ∀ {l : List Nat} {D : fw_DB}, rcA wf D l k = D k
  | [], _ => rfl
  | w :: l, D => (rcA_k h (l := l)).trans (funext fun j => dp_k h)
theorem rcA_o {wf : Nat → List Nat} {v : Nat} : ∀ {l : List Nat} {D : fw_DB}, v ∉ l → rcA wf D l 17 v = D 17 v
  | [], _, _ => rfl
  | w :: l, D, h => by
    rw [List.mem_cons, not_or] at h
    exact (rcA_o (l := l) h.2).trans (dp_i h.1)
theorem lte_c {D E : fw_DB} {n f : Nat} : ∀ {l : List Nat} {m : Nat}, (∀ w ∈ l, D 13 w = E 13 w) → lte D n f m l = lte E n f m l
  | [], _, _ => rfl
  | w :: l, m, h => by
    unfold lte
    rw [h w List.mem_cons_self]
    split
    · exact lte_c (fun v hv => h v (List.mem_cons_of_mem _ hv))
    · rfl
theorem fdu_c {D E : fw_DB} {n : Nat} {l : List Nat} (h : ∀ w ∈ l, D 13 w = E 13 w) : ∀ {k f : Nat}, fdu D n l k f = fdu E n l k f
  | 0, _ => rfl
  | k + 1, f => by
    unfold fdu
    rw [lte_c h, fdu_c h]
theorem rcu_c {D E : fw_DB} {aw : Nat → Bool} {r : Nat} {l : List Nat} (h : ∀ w ∈ l, D 13 w = E 13 w) (hs : sc D E) : rcu D aw r l = rcu E aw r l := by
  unfold rcu
  dsimp only
  rw [fdu_c h, hs 17 r 1 rfl, hs 17 r 2 rfl, hs 17 r 3 rfl, hs 17 r 4 rfl]
theorem rcA_fix {wf : Nat → List Nat} : ∀ {l : List Nat} {D : fw_DB}, l.Nodup → ∀ r ∈ l, rcA wf D l 17 r 5 = rcu D (sB (D 10 (D 17 r 0))) r (wf r)
  | [], _, _, r, hr => nomatch hr
  | v :: l, D, hn, r, hr => by
    obtain ⟨n1, n2⟩ := List.nodup_cons.mp hn
    rcases List.mem_cons.mp hr with e | hr
    · subst e
      show rcA wf (rc1 (wf r) D r) l 17 r 5 = _
      rw [rcA_o n1]
      show dp D 17 r _ 17 r 5 = _
      rw [dp_s]
      rfl
    · show rcA wf (rc1 (wf v) D v) l 17 r 5 = _
      rw [rcA_fix n2 r hr]
      have hs : sc D (rc1 (wf v) D v) := rc1_sc
      have e10 : rc1 (wf v) D v 10 = D 10 := hs.kind (fun f => rfl)
      rw [e10, hs 17 r 0 rfl]
      exact (rcu_c (fun w _ => (show rc1 (wf v) D v 13 w = D 13 w from dp_k (by decide)).symm) hs).symm
/-! what is reckoned, of all -/
def wlS (S : fw_DB) (p : Nat) : List Nat := (List.range (S 99 0 13)).filter (fun w => decide (S 13 w 1 = p))
def rlS (S : fw_DB) (p : Nat) : List Nat := (List.range (S 99 0 17)).filter (fun r => decide (S 17 r 0 = p))
/-- days added put in behind those that are not later -/
def insA (S : fw_DB) (a : Nat) (l : List Nat) : List Nat := l.takeWhile (fun i => decide (S 16 i 0 ≤ S 16 a 0)) ++ a :: l.dropWhile (fun i => decide (S 16 i 0 ≤ S 16 a 0))
def alN (S : fw_DB) (p : Nat) : Nat → List Nat
  | 0 => []
  | n + 1 => if S 16 n 3 = p then insA S n (alN S p n) else alN S p n
def alS (S : fw_DB) (p : Nat) : List Nat := alN S p (S 99 0 16)
def FW (S : fw_DB) : fw_DB := rkA (fun w => alS S (S 13 w 1)) S (List.range (S 99 0 13))
def FD (S : fw_DB) : fw_DB := rcA (fun r => wlS S (S 17 r 0)) (FW S) (List.range (S 99 0 17))
theorem FW_sc {S : fw_DB} : sc S (FW S) := rkA_sc
theorem FD_sc {S : fw_DB} : sc S (FD S) := FW_sc.tr rcA_sc
theorem FD_13 {S : fw_DB} : FD S 13 = FW S 13 := rcA_k (by decide)
theorem mem_wlS {S : fw_DB} {p w : Nat} : w ∈ wlS S p ↔ w < S 99 0 13 ∧ S 13 w 1 = p := by
  unfold wlS
  rw [List.mem_filter, List.mem_range, decide_eq_true_eq]
theorem mem_rlS {S : fw_DB} {p r : Nat} : r ∈ rlS S p ↔ r < S 99 0 17 ∧ S 17 r 0 = p := by
  unfold rlS
  rw [List.mem_filter, List.mem_range, decide_eq_true_eq]
theorem wlS_pw {S : fw_DB} {p : Nat} : List.Pairwise (fun a b => a < b) (wlS S p) := List.Pairwise.filter _ List.pairwise_lt_range
theorem rlS_pw {S : fw_DB} {p : Nat} : List.Pairwise (fun a b => a < b) (rlS S p) := List.Pairwise.filter _ List.pairwise_lt_range
theorem rlS_nd {S : fw_DB} {p : Nat} : (rlS S p).Nodup := pw_nd rlS_pw
theorem wlS_nd {S : fw_DB} {p : Nat} : (wlS S p).Nodup := pw_nd wlS_pw
theorem wlS_len {S : fw_DB} {p : Nat} : (wlS S p).length ≤ S 99 0 13 := by
  unfold wlS
  refine Nat.le_trans (List.length_filter_le _ _) ?_
  rw [List.length_range]
  exact Nat.le_refl _
/-- what is told of the warrants is sound -/
def okW (S : fw_DB) : Prop := ∀ w, w < S 99 0 13 → (S 13 w 2 = 102 ∨ S 13 w 2 = 108 ∨ S 13 w 2 = 100 ∨ S 13 w 2 = 115) ∧ (0 < S 13 w 5 → S 13 w 5 - 1 < w ∧ S 13 (S 13 w 5 - 1) 1 = S 13 w 1)
theorem FW_fix {S : fw_DB} (h : okW S) {w : Nat} (hw : w < S 99 0 13) : FW S 13 w = rkRow (FW S) w (alS S (S 13 w 1)) := by
  unfold FW
  exact rkA_fix (alf := fun w => alS S (S 13 w 1)) List.pairwise_lt_range (fun u hu z => ((h u (List.mem_range.mp hu)).2 z).1) w (List.mem_range.mpr hw)
/-- a person reckoned by itself has the same days -/
theorem prk_FD {S D : fw_DB} {p : Nat} (h : okW S) (hs : sc S D) : (∀ w ∈ wlS S p, prk D (wlS S p) (alS S p) (rlS S p) 13 w = FD S 13 w) ∧ ∀ r ∈ rlS S p, prk D (wlS S p) (alS S p) (rlS S p) 17 r 5 = FD S 17 r 5 := by
  have h5 : ∀ u f, scr 13 f = false → D 13 u f = S 13 u f := fun u f hf => hs 13 u f hf
  have hk : rkAll (alS S p) D (wlS S p) = rkA (fun _ => alS S p) D (wlS S p) := rkAll_A
  have hfix := rkA_fix (alf := fun _ => alS S p) (D := D) (wlS_pw (S := S) (p := p)) (fun u hu z => by
    rw [h5 u 5 rfl] at z ⊢
    exact ((h u (mem_wlS.mp hu).1).2 z).1)
  rw [← hk] at hfix
  have hsE : sc S (rkAll (alS S p) D (wlS S p)) := by
    rw [hk]
    exact hs.tr rkA_sc
  have hsF : sc S (FW S) := FW_sc
  have hw : ∀ w ∈ wlS S p, rkAll (alS S p) D (wlS S p) 13 w = FW S 13 w := fun w hw => by
    refine fix_uniq (S := fun w => w ∈ wlS S p) (alf := fun w => alS S p) (hsE.sy.tr hsF) (fun u hu => hfix u hu) (fun u hu => ?_) (fun u hu z => ?_) (w + 1) w (by omega) hw
    · have := FW_fix h (mem_wlS.mp hu).1
      rw [(mem_wlS.mp hu).2] at this
      exact this
    · rw [hsE 13 u 5 rfl] at z ⊢
      obtain ⟨m1, m2⟩ := mem_wlS.mp hu
      obtain ⟨q1, q2⟩ := (h u m1).2 z
      exact ⟨mem_wlS.mpr ⟨by omega, q2.trans m2⟩, q1⟩
  constructor
  · intro w hm
    have e : prk D (wlS S p) (alS S p) (rlS S p) 13 = rkAll (alS S p) D (wlS S p) 13 := by
      unfold prk
      rw [rcAll_A]
      exact rcA_k (by decide)
    rw [e, FD_13]
    exact hw w hm
  · intro r hr
    obtain ⟨m1, m2⟩ := mem_rlS.mp hr
    have e1 : prk D (wlS S p) (alS S p) (rlS S p) 17 r 5 = rcu (rkAll (alS S p) D (wlS S p)) (sB (rkAll (alS S p) D (wlS S p) 10 (rkAll (alS S p) D (wlS S p) 17 r 0))) r (wlS S p) := by
      unfold prk
      rw [rcAll_A]
      exact rcA_fix rlS_nd r hr
    have e2 : FD S 17 r 5 = rcu (FW S) (sB (FW S 10 (FW S 17 r 0))) r (wlS S (S 17 r 0)) := by
      unfold FD
      exact rcA_fix (wf := fun r => wlS S (S 17 r 0)) (pw_nd List.pairwise_lt_range) r (List.mem_range.mpr m1)
    rw [e1, e2, m2, hsE 17 r 0 rfl, hsF 17 r 0 rfl, m2, show rkAll (alS S p) D (wlS S p) 10 = S 10 from hsE.kind (fun f => rfl), show FW S 10 = S 10 from hsF.kind (fun f => rfl)]
    exact rcu_c hw (hsE.sy.tr hsF)
