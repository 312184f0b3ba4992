/-! REFERENCE: what is told of warrants -/
def wdn (S S' D : fw_DB) (A : fw_AD) (K : Nat) (V r : Int32) (h' : fw_H) : Prop := (K = 0 → rdn S' D A 0 h' ∧ r = V) ∧ (K ≠ 0 → rdn S D A K h')
section WDN
variable {G : fw_G} {n : Nat} {S S' D : fw_DB} {A : fw_AD} {M : fw_MP} {h : fw_H}
theorem wdn_0 {K : Nat} {V : Int32} (e : K = 0) (k : rdn S' D A 0 h) : wdn S S' D A K V V h := ⟨fun _ => ⟨k, rfl⟩, fun z => absurd e z⟩
theorem wdn_1 {K t : Nat} {V r : Int32} (e : K = t) (ht : t ≠ 0) (k : rdn S D A t h) : wdn S S' D A K V r h := ⟨fun z => absurd (e.symm.trans z) ht, fun _ => e ▸ k⟩
theorem rdn_put {K k i : Nat} {g : Nat → Nat} (R : RD G n S (sT D K) A M h) (hi : i < sT D K 99 0 k) (hk : 30 < k ∧ k < 70 ∧ k ≠ 46) (hr : rOk (sT D K 99 0) k i g) (I : IR S' (dp (sT D K) k i g)) : rdn S' D A K (fw_up h (A k i) (kRow A k i g)) :=
  ⟨_, A, M, I, R.2.2.1.put (by omega) hr, sub_set g R.2.2.1 (R.2.2.1.lv hi hk.2.2) R.2.2.2.1, (lo_dp (by decide)).tr (lo_dp (by omega)), adk.rf, by rw [dp_k (by omega)]; exact sT_0⟩
theorem RE_put {k i : Nat} {g : Nat → Nat} (R : RD G n S D A M h) (hi : i < D 99 0 k) (hk : 30 < k ∧ k < 70 ∧ k ≠ 46) (hr : rOk (D 99 0) k i g) (I : IR S' (dp D k i g)) : RE G S' (dp D k i g) A M (fw_up h (A k i) (kRow A k i g)) :=
  ⟨trivial, I, R.2.2.1.put (by omega) hr, sub_set g R.2.2.1 (R.2.2.1.lv hi hk.2.2) R.2.2.2.1, R.2.2.2.2⟩
theorem rdn_RE {K : Nat} (R : RE G S' D A M h) {D0 : fw_DB} {A0 : fw_AD} (l : lo D0 D) (a : adk A0 A) (e : D 30 0 0 = K) : rdn S' D0 A0 K h := ⟨D, A, M, R.2.1, R.2.2.1, R.2.2.2.1, l, a, e⟩
/-- rows put anew -/
theorem IR_put {D' : fw_DB} (I : IR S D) (hN : S' 99 0 = S 99 0) (hD : ∀ k, ¬ (51 ≤ k ∧ k ≤ 58) → D' k = D k) (r1 : ∀ l, l < S 99 0 7 → D' 51 l = lwR (S' 7 l)) (r2 : ∀ w, w < S 99 0 13 → D' 53 w = waR (S' 13 w) (S' 15 w)) (r3 : ∀ a, a < S 99 0 16 → D' 54 a = adR (S' 16 a)) (r4 : ∀ r, r < S 99 0 17 → D' 55 r = rcR (S' 17 r)) (r5 : ∀ p, p < S 99 0 8 → D' 56 p = frR (S' 10 p) ∧ D' 57 p = mkR (S' 10 p) ∧ D' 58 p = mkR (S' 12 p)) : IR S' D' := by
  unfold IR LR at I ⊢
  rw [hN, hD 99 (by omega), hD 31 (by omega), hD 32 (by omega), hD 33 (by omega), hD 34 (by omega), hD 35 (by omega), hD 41 (by omega), hD 42 (by omega), hD 43 (by omega), hD 44 (by omega), hD 45 (by omega)]
  exact ⟨I.1, I.2.1, I.2.2.1, I.2.2.2.1, r1, r2, r3, r4, r5⟩
theorem IR_53 {w : Nat} {g : Nat → Nat} (I : IR S D) (hN : S' 99 0 = S 99 0) (h7 : S' 7 = S 7) (h16 : S' 16 = S 16) (h17 : S' 17 = S 17) (h10 : S' 10 = S 10) (h12 : S' 12 = S 12) (h13 : ∀ j, j ≠ w → S' 13 j = S 13 j) (h15 : ∀ j, j ≠ w → S' 15 j = S 15 j) (e : g = waR (S' 13 w) (S' 15 w)) : IR S' (dp D 53 w g) := by
  obtain ⟨-, -, -, -, a1, a2, a3, a4, a5⟩ := id I
  refine IR_put I hN (fun k hk => funext fun j => dp_k (by omega)) (fun l hl => ?_) (fun j hj => ?_) (fun a ha => ?_) (fun r hr => ?_) (fun p hp => ?_)
  · rw [dp_k (by decide), h7]
    exact a1 l hl
  · by_cases c : j = w
    · rw [c, dp_s, e]
    · rw [dp_i c, h13 j c, h15 j c]
      exact a2 j hj
  · rw [dp_k (by decide), h16]
    exact a3 a ha
  · rw [dp_k (by decide), h17]
    exact a4 r hr
  · rw [dp_k (by decide), dp_k (by decide), dp_k (by decide), h10, h12]
    exact a5 p hp
theorem IR_53a {w : Nat} {g : Nat → Nat} (I : IR S D) : IR (dp S 13 w g) (dp D 53 w (waR g (S 15 w))) :=
  IR_53 I (dp_k (by decide)) (funext fun _ => dp_k (by decide)) (funext fun _ => dp_k (by decide)) (funext fun _ => dp_k (by decide)) (funext fun _ => dp_k (by decide)) (funext fun _ => dp_k (by decide)) (fun j hj => dp_i hj) (fun j _ => dp_k (by decide)) (by rw [dp_s, dp_k (by decide)])
theorem IR_53b {w : Nat} {g : Nat → Nat} (I : IR S D) : IR (dp S 15 w g) (dp D 53 w (waR (S 13 w) g)) :=
  IR_53 I (dp_k (by decide)) (funext fun _ => dp_k (by decide)) (funext fun _ => dp_k (by decide)) (funext fun _ => dp_k (by decide)) (funext fun _ => dp_k (by decide)) (funext fun _ => dp_k (by decide)) (fun j _ => dp_k (by decide)) (fun j hj => dp_i hj) (by rw [dp_s, dp_k (by decide)])
theorem RD.N53 (R : RD G n S D A M h) : D 99 0 53 = S 99 0 13 := R.2.1.2.1.2.2.1.2.2.2.1
theorem RD.N54 (R : RD G n S D A M h) : D 99 0 54 = S 99 0 16 := R.2.1.2.1.2.2.2.1.2.2.2.1
theorem RD.N55 (R : RD G n S D A M h) : D 99 0 55 = S 99 0 17 := R.2.1.2.1.2.2.2.2.2.2.2.1
end WDN
section WRA
variable {G : fw_G} {n : Nat} {S D : fw_DB} {A : fw_AD} {M : fw_MP} {h : fw_H}
theorem w_cnt {a : Nat} {g t : Nat → Nat} (hb : h a = some (.inr (19, [.int (nI (g 1)), .int (nI (g 2)), .int (nI (g 3)), .int (nI (g 4)), .int (nP (g 5)), .int (nI (t 0)), .int (nI (t 1)), .int (nI (t 2)), .int (nI (g 11)), .int (nI (g 12)), .int (nP (g 9)), .int (bN (g 13)), .int (nP (g 10))]))) (hl : g 11 + g 12 < 1000000) : PM G 0 0 0 mm_X16_counted [.ref a] h (fw_qp (nI (wcn g)) h) := by
  refine pm_of (by decide +kernel) rfl rfl rfl ?_
  refine pw_go tk_X16_counted rfl rfl ?_
  refine pw_get tk_X16_counted rfl fl_X16_34 hb rfl ?_
  refine pw_go tk_X16_counted rfl rfl ?_
  refine pw_get tk_X16_counted rfl fl_X16_37 hb rfl ?_
  refine pw_go tk_X16_counted rfl rfl ?_
  refine pw_divN (g 12) (2) tk_X16_counted rfl rfl rfl (by omega) (by omega) (by omega) ?_
  refine pw_addN (g 11) (g 12 / 2) tk_X16_counted rfl rfl rfl ?_
  exact pw_iretp tk_X16_counted rfl rfl
theorem w_len {a b y1 z1 u1 : Nat} {x0 x1 x2 x3 x4 x8 x9 x10 x11 x12 : Int32} (hb : h a = some (.inr (19, [.int x0, .int x1, .int x2, .int x3, .int x4, .int (nI y1), .int (nI z1), .int (nI u1), .int x8, .int x9, .int x10, .int x11, .int x12]))) (hd : b < 20000) (hy : y1 ≤ 40) (hz : z1 ≤ 11) (hu : u1 ≤ 9999) : PM G 5 0 0 mm_X16_length [.ref a, .int (nI b)] h (fw_qp (nI (sp_len b y1 z1 u1)) h) := by
  refine pm_of (by decide +kernel) rfl rfl rfl ?_
  iterate 2 refine pw_go tk_X16_length rfl rfl ?_
  refine pw_get tk_X16_length rfl fl_X16_44 hb rfl ?_
  refine pw_go tk_X16_length rfl rfl ?_
  refine pw_get tk_X16_length rfl fl_X16_47 hb rfl ?_
  refine pw_go tk_X16_length rfl rfl ?_
  refine pw_get tk_X16_length rfl fl_X16_50 hb rfl ?_
  refine pw_csN tk_X16_length rfl ca_X17_lengthOf lk_X16_53 sx_X17_lengthOf (As := [.int (nI b), .int (nI y1), .int (nI z1), .int (nI u1)]) (rest := [])  (n_lengthOf hd hy hz hu) (fun _ _ z => z) rfl rfl rfl (Nat.le_of_ble_eq_true rfl) (Nat.le_of_eq (Nat.zero_add _)) (Nat.le_of_eq (Nat.zero_add _)) ?_
  rintro _ h2 ⟨x, rfl, e1, e2⟩
  rw [e1, e2]
  exact pw_iretp tk_X16_length rfl rfl
set_option maxRecDepth 20000 in
theorem m_count {x y : Int32} {z : Bool} (hn : n ≤ 600) (R : RD G n S D A M h) : PM G 4 0 0 mm_X17_count [.ref (A 30 0), .int x, .int y, .int (bI z)] h (fw_qI (fun r h' => wdn S (ctS S x.toNatClampNeg y.toNatClampNeg z) D A (pdK (S 99 0 13) x (inI y 1 (nI 999))) (nI (ctV S x.toNatClampNeg y.toNatClampNeg z)) r h') fw_noX) := by
  refine pm_of (by decide +kernel) rfl rfl rfl ?_
  have hN := R.n7
  iterate 2 refine pw_go tk_X17_count rfl rfl ?_
  refine pw_cv tk_X17_count rfl ca_X17_noWarrant lk_X17_101 iv_X17_noWarrant sv_X17_noWarrant R.m rfl rfl (As := [.int x]) (rest := [])  (n_noWarrant R) rfl rfl rfl (Nat.le_of_ble_eq_true rfl) (Nat.le_of_eq (Nat.zero_add _)) (Nat.le_of_eq (Nat.zero_add _)) ?_ ?_
  · rintro _ H ⟨_, rfl, rfl, e9⟩
    rw [e9]
    cases hk : knI x (S 99 0 13) with
    | false =>
      have e2 : nwK S x = 1 := by unfold nwK; rw [hk]; rfl
      rw [e2]
      refine pw_ifeqB tk_X17_count rfl (fun c => absurd c (by decide)) (fun _ => ?_)
      refine pw_go tk_X17_count rfl rfl ?_
      exact pw_iret tk_X17_count rfl rfl rfl ⟨_, rfl, wdn_1 (pdK_1 hk) (by decide) (rdn_of (R.t 1))⟩
    | true =>
      obtain ⟨w, hw, rfl⟩ := knI_to hk (by omega)
      have e2 : nwK S (nI w) = 0 := by unfold nwK; rw [hk]; rfl
      rw [e2, nI_tn (by omega)]
      have R1 := R.t 0
      generalize tU A D h 0 = h1 at *
      refine pw_ifeqB tk_X17_count rfl (fun _ => ?_) (fun c => absurd c (by decide))
      iterate 3 refine pw_go tk_X17_count rfl rfl ?_
      refine pw_csp tk_X17_count rfl ca_X17_in lk_X17_52 sx_X17_in (As := [.int y, .int 1, .int (nI 999)]) (rest := []) (n_in) rfl rfl rfl rfl ?_
      cases hy : inI y 1 (nI 999) with
      | false =>
        refine pw_ifneB tk_X17_count rfl (fun c => absurd c (by decide)) (fun _ => ?_)
        iterate 2 refine pw_go tk_X17_count rfl rfl ?_
        refine pw_cv tk_X17_count rfl ca_X17_raises lk_X17_118 iv_X17_raises sv_X17_raises R1.m rfl rfl (As := [.int (nI 2)]) (rest := [])  (n_raises (t := 2) R1) rfl rfl rfl (Nat.le_of_ble_eq_true rfl) (Nat.le_of_eq (Nat.zero_add _)) (Nat.le_of_eq (Nat.zero_add _)) ?_ ?_
        · rintro _ H ⟨_, rfl, rfl, e9⟩
          rw [e9]
          exact pw_iret tk_X17_count rfl rfl rfl ⟨_, rfl, wdn_1 (pdK_2 hw (by omega) rfl) (by decide) (rdn_of (R1.tt rfl 2))⟩
        · exact fun _ _ z => z.elim
      | true =>
        obtain ⟨d, rfl, d1, d2⟩ := inI_N (a := 1) hy (by omega) (by omega)
        rw [nI_tn (by omega)]
        have x4 := (R.1.2.2.2.2.2.2.1 w hw).2.2.2.1
        obtain ⟨gz, hgz⟩ : ∃ gz, gz = (if z = true then va_up (S 13 w) 12 (S 13 w 12 + d) else va_up (S 13 w) 11 (S 13 w 11 + d)) := ⟨_, rfl⟩
        have eS : ctS S w d z = dp S 13 w gz := by unfold ctS; rw [hgz]
        have eV : ctV S w d z = wcn gz := by unfold ctV; rw [hgz]
        rw [eS, eV]
        have hl : gz 11 + gz 12 < 1000000 := by
          rw [hgz]
          cases z
          · show (S 13 w 11 + d) + S 13 w 12 < 1000000
            omega
          · show S 13 w 11 + (S 13 w 12 + d) < 1000000
            omega
        have k78 : ∀ L, fw_sL L [(4, .ref (A 53 w))] → PW G mm_X17_count (fw_qI (fun r h' => wdn S (dp S 13 w gz) D A (pdK (S 99 0 13) (nI w) true) (nI (wcn gz)) r h') fw_noX) 4 0 0 (fw_up h1 (A 53 w) (kRow A 53 w (waR gz (S 15 w)))) 78 L [] := by
          intro L hL
          refine pw_M _ hL ?_
          have hb : fw_up h1 (A 53 w) (kRow A 53 w (waR gz (S 15 w))) (A 53 w) = some (.inr (19, [.int (nI (gz 1)), .int (nI (gz 2)), .int (nI (gz 3)), .int (nI (gz 4)), .int (nP (gz 5)), .int (nI (S 15 w 0)), .int (nI (S 15 w 1)), .int (nI (S 15 w 2)), .int (nI (gz 11)), .int (nI (gz 12)), .int (nP (gz 9)), .int (bN (gz 13)), .int (nP (gz 10))])) := fw_up_s
          refine pw_go tk_X17_count rfl rfl ?_
          refine pw_cvp tk_X17_count rfl ca_X16_counted lk_X17_149 iv_X16_counted sv_X16_counted hb rfl rfl (As := []) (rest := []) (w_cnt hb hl) rfl rfl rfl rfl ?_
          exact pw_iret tk_X17_count rfl rfl rfl ⟨_, rfl, wdn_0 (pdK_0 hw (by omega) rfl) (rdn_put R1 (by rw [R1.N53]; exact hw) (by decide) trivial (IR_53a R1.2.1))⟩
        have hb := R1.war hw
        refine pw_ifneB tk_X17_count rfl (fun _ => ?_) (fun c => absurd c (by decide))
        refine pw_go tk_X17_count rfl rfl ?_
        refine pw_get tk_X17_count rfl fl_X17_19 R1.m rfl ?_
        refine pw_go tk_X17_count rfl rfl ?_
        refine pw_lget (k := w) tk_X17_count rfl (R1.l3) hw rfl rfl rfl rfl ?_
        refine pw_cast tk_X17_count rfl (hb) rfl cw_X17_88 ?_
        iterate 3 refine pw_go tk_X17_count rfl rfl ?_
        refine pw_get tk_X17_count rfl fl_X17_143 hb rfl ?_
        refine pw_go tk_X17_count rfl rfl ?_
        refine pw_ifeqB tk_X17_count rfl (fun c => ?_) (fun c => ?_)
        · subst c
          refine pw_go tk_X17_count rfl rfl ?_
          refine pw_addN (S 13 w 11) (d) tk_X17_count rfl rfl rfl ?_
          refine pw_put tk_X17_count rfl fp_X17_143 hb rfl rfl (Nat.le_of_ble_eq_true rfl) ?_
          iterate 2 refine pw_go tk_X17_count rfl rfl ?_
          refine pw_get tk_X17_count rfl fl_X17_146 fw_up_s rfl ?_
          refine pw_go tk_X17_count rfl rfl ?_
          refine pw_ifeqB (b := false) tk_X17_count rfl (fun _ => ?_) (fun c => absurd c (by decide))
          refine pw_go tk_X17_count rfl rfl ?_
          refine pw_addN (S 13 w 12) (0) tk_X17_count rfl rfl rfl ?_
          refine pw_put tk_X17_count rfl fp_X17_146 fw_up_s rfl rfl (Nat.le_of_ble_eq_true rfl) ?_
          refine pw_h (h' := fw_up h1 (A 53 w) (kRow A 53 w (waR gz (S 15 w)))) (by rw [fw_up_2, hgz]; rfl) ?_
          exact k78 _ ⟨rfl, trivial⟩
        · subst c
          iterate 2 refine pw_go tk_X17_count rfl rfl ?_
          refine pw_addN (S 13 w 11) (0) tk_X17_count rfl rfl rfl ?_
          refine pw_put tk_X17_count rfl fp_X17_143 hb rfl rfl (Nat.le_of_ble_eq_true rfl) ?_
          iterate 2 refine pw_go tk_X17_count rfl rfl ?_
          refine pw_get tk_X17_count rfl fl_X17_146 fw_up_s rfl ?_
          refine pw_go tk_X17_count rfl rfl ?_
          refine pw_ifeqB (b := true) tk_X17_count rfl (fun c => absurd c (by decide)) (fun _ => ?_)
          iterate 2 refine pw_go tk_X17_count rfl rfl ?_
          refine pw_addN (S 13 w 12) (d) tk_X17_count rfl rfl rfl ?_
          refine pw_put tk_X17_count rfl fp_X17_146 fw_up_s rfl rfl (Nat.le_of_ble_eq_true rfl) ?_
          refine pw_h (h' := fw_up h1 (A 53 w) (kRow A 53 w (waR gz (S 15 w)))) (by rw [fw_up_2, hgz]; rfl) ?_
          exact k78 _ ⟨rfl, trivial⟩
  · exact fun _ _ z => z.elim
theorem m_quash {x : Int32} (R : RD G n S D A M h) : PM G 4 0 0 mm_X17_quash [.ref (A 30 0), .int x] h (fw_qI (fun r h' => wdn S (quS S x.toNatClampNeg) D A (quK S x) (bI (!decide (0 < S 13 x.toNatClampNeg 13))) r h' ∧ (r = 0 ∨ r = 1)) fw_noX) := by
  refine pm_of (by decide +kernel) rfl rfl rfl ?_
  have hN := R.n7
  iterate 2 refine pw_go tk_X17_quash rfl rfl ?_
  refine pw_cv tk_X17_quash rfl ca_X17_noWarrant lk_X17_101 iv_X17_noWarrant sv_X17_noWarrant R.m rfl rfl (As := [.int x]) (rest := [])  (n_noWarrant R) rfl rfl rfl (Nat.le_of_ble_eq_true rfl) (Nat.le_of_eq (Nat.zero_add _)) (Nat.le_of_eq (Nat.zero_add _)) ?_ ?_
  · rintro _ H ⟨_, rfl, rfl, e9⟩
    rw [e9]
    cases hk : knI x (S 99 0 13) with
    | false =>
      have e2 : nwK S x = 1 := by unfold nwK; rw [hk]; rfl
      have eK : quK S x = 1 := if_pos hk
      rw [e2]
      refine pw_ifeqB tk_X17_quash rfl (fun c => absurd c (by decide)) (fun _ => ?_)
      refine pw_go tk_X17_quash rfl rfl ?_
      exact pw_iret tk_X17_quash rfl rfl rfl ⟨_, rfl, wdn_1 eK (by decide) (rdn_of (R.t 1)), Or.inl rfl⟩
    | true =>
      obtain ⟨w, hw, rfl⟩ := knI_to hk (by omega)
      have e2 : nwK S (nI w) = 0 := by unfold nwK; rw [hk]; rfl
      have eK : quK S (nI w) = 0 := if_neg (by rw [hk]; decide)
      rw [e2, nI_tn (by omega)]
      have R1 := R.t 0
      generalize tU A D h 0 = h1 at *
      have hb := R1.war hw
      refine pw_ifeqB tk_X17_quash rfl (fun _ => ?_) (fun c => absurd c (by decide))
      refine pw_go tk_X17_quash rfl rfl ?_
      refine pw_get tk_X17_quash rfl fl_X17_19 R1.m rfl ?_
      refine pw_go tk_X17_quash rfl rfl ?_
      refine pw_lget (k := w) tk_X17_quash rfl (R1.l3) hw rfl rfl rfl rfl ?_
      refine pw_cast tk_X17_quash rfl (hb) rfl cw_X17_88 ?_
      refine pw_get tk_X17_quash rfl fl_X17_174 hb rfl ?_
      iterate 2 refine pw_go tk_X17_quash rfl rfl ?_
      refine pw_get tk_X17_quash rfl fl_X17_19 R1.m rfl ?_
      refine pw_go tk_X17_quash rfl rfl ?_
      refine pw_lget (k := w) tk_X17_quash rfl (R1.l3) hw rfl rfl rfl rfl ?_
      refine pw_cast tk_X17_quash rfl (hb) rfl cw_X17_88 ?_
      refine pw_go tk_X17_quash rfl rfl ?_
      refine pw_put tk_X17_quash rfl fp_X17_174 hb rfl rfl (Nat.le_of_ble_eq_true rfl) ?_
      refine pw_h (h' := fw_up h1 (A 53 w) (kRow A 53 w (waR (va_up (S 13 w) 13 1) (S 15 w)))) rfl ?_
      have fin : rdn (quS S w) D A 0 (fw_up h1 (A 53 w) (kRow A 53 w (waR (va_up (S 13 w) 13 1) (S 15 w)))) := rdn_put R1 (by rw [R1.N53]; exact hw) (by decide) trivial (IR_53a R1.2.1)
      refine pw_go tk_X17_quash rfl rfl ?_
      refine pw_ifneB (b := decide (0 < S 13 w 13)) tk_X17_quash rfl (fun c => ?_) (fun c => ?_)
      · rw [c]
        refine pw_go tk_X17_quash rfl rfl ?_
        exact pw_iret tk_X17_quash rfl rfl rfl ⟨_, rfl, wdn_0 eK fin, Or.inl rfl⟩
      · rw [c]
        iterate 2 refine pw_go tk_X17_quash rfl rfl ?_
        exact pw_iret tk_X17_quash rfl rfl rfl ⟨_, rfl, wdn_0 eK fin, Or.inr rfl⟩
  · exact fun _ _ z => z.elim
theorem m_approve {x y : Int32} (R : RD G n S D A M h) : PM G 4 0 0 mm_X17_approve [.ref (A 30 0), .int x, .int y] h (fw_qI (fun r h' => wdn S (apS S x.toNatClampNeg y.toNatClampNeg) D A (pdK (S 99 0 13) x (inI y 0 (nI 19999))) (nP (S 13 x.toNatClampNeg 10)) r h') fw_noX) := by
  refine pm_of (by decide +kernel) rfl rfl rfl ?_
  have hN := R.n7
  iterate 2 refine pw_go tk_X17_approve rfl rfl ?_
  refine pw_cv tk_X17_approve rfl ca_X17_noWarrant lk_X17_101 iv_X17_noWarrant sv_X17_noWarrant R.m rfl rfl (As := [.int x]) (rest := [])  (n_noWarrant R) rfl rfl rfl (Nat.le_of_ble_eq_true rfl) (Nat.le_of_eq (Nat.zero_add _)) (Nat.le_of_eq (Nat.zero_add _)) ?_ ?_
  · rintro _ H ⟨_, rfl, rfl, e9⟩
    rw [e9]
    cases hk : knI x (S 99 0 13) with
    | false =>
      have e2 : nwK S x = 1 := by unfold nwK; rw [hk]; rfl
      rw [e2]
      refine pw_ifeqB tk_X17_approve rfl (fun c => absurd c (by decide)) (fun _ => ?_)
      refine pw_go tk_X17_approve rfl rfl ?_
      exact pw_iret tk_X17_approve rfl rfl rfl ⟨_, rfl, wdn_1 (pdK_1 hk) (by decide) (rdn_of (R.t 1))⟩
    | true =>
      obtain ⟨w, hw, rfl⟩ := knI_to hk (by omega)
      have e2 : nwK S (nI w) = 0 := by unfold nwK; rw [hk]; rfl
      rw [e2, nI_tn (by omega)]
      have R1 := R.t 0
      generalize tU A D h 0 = h1 at *
      refine pw_ifeqB tk_X17_approve rfl (fun _ => ?_) (fun c => absurd c (by decide))
      iterate 3 refine pw_go tk_X17_approve rfl rfl ?_
      refine pw_csp tk_X17_approve rfl ca_X17_in lk_X17_52 sx_X17_in (As := [.int y, .int 0, .int (nI 19999)]) (rest := []) (n_in) rfl rfl rfl rfl ?_
      cases hy : inI y 0 (nI 19999) with
      | false =>
        refine pw_ifneB tk_X17_approve rfl (fun c => absurd c (by decide)) (fun _ => ?_)
        iterate 2 refine pw_go tk_X17_approve rfl rfl ?_
        refine pw_cv tk_X17_approve rfl ca_X17_raises lk_X17_118 iv_X17_raises sv_X17_raises R1.m rfl rfl (As := [.int (nI 2)]) (rest := [])  (n_raises (t := 2) R1) rfl rfl rfl (Nat.le_of_ble_eq_true rfl) (Nat.le_of_eq (Nat.zero_add _)) (Nat.le_of_eq (Nat.zero_add _)) ?_ ?_
        · rintro _ H ⟨_, rfl, rfl, e9⟩
          rw [e9]
          exact pw_iret tk_X17_approve rfl rfl rfl ⟨_, rfl, wdn_1 (pdK_2 hw (by omega) rfl) (by decide) (rdn_of (R1.tt rfl 2))⟩
        · exact fun _ _ z => z.elim
      | true =>
        obtain ⟨d, rfl, -, d2⟩ := inI_N (a := 0) hy (by omega) (by omega)
        rw [nI_tn (by omega)]
        have hb := R1.war hw
        refine pw_ifneB tk_X17_approve rfl (fun _ => ?_) (fun c => absurd c (by decide))
        refine pw_go tk_X17_approve rfl rfl ?_
        refine pw_get tk_X17_approve rfl fl_X17_19 R1.m rfl ?_
        refine pw_go tk_X17_approve rfl rfl ?_
        refine pw_lget (k := w) tk_X17_approve rfl (R1.l3) hw rfl rfl rfl rfl ?_
        refine pw_cast tk_X17_approve rfl (hb) rfl cw_X17_88 ?_
        refine pw_get tk_X17_approve rfl fl_X17_178 hb rfl ?_
        iterate 2 refine pw_go tk_X17_approve rfl rfl ?_
        refine pw_get tk_X17_approve rfl fl_X17_19 R1.m rfl ?_
        refine pw_go tk_X17_approve rfl rfl ?_
        refine pw_lget (k := w) tk_X17_approve rfl (R1.l3) hw rfl rfl rfl rfl ?_
        refine pw_cast tk_X17_approve rfl (hb) rfl cw_X17_88 ?_
        refine pw_go tk_X17_approve rfl rfl ?_
        refine pw_i (x' := nP (d + 1)) ((nP_p (Nat.succ_pos d)).symm) ?_
        refine pw_put tk_X17_approve rfl fp_X17_178 hb rfl rfl (Nat.le_of_ble_eq_true rfl) ?_
        refine pw_h (h' := fw_up h1 (A 53 w) (kRow A 53 w (waR (va_up (S 13 w) 10 (d + 1)) (S 15 w)))) rfl ?_
        refine pw_go tk_X17_approve rfl rfl ?_
        exact pw_iret tk_X17_approve rfl rfl rfl ⟨_, rfl, wdn_0 (pdK_0 hw (by omega) rfl) (rdn_put R1 (by rw [R1.N53]; exact hw) (by decide) trivial (IR_53a R1.2.1))⟩
  · exact fun _ _ z => z.elim
set_option maxRecDepth 20000 in
theorem m_vary {x y z u : Int32} (R : RD G n S D A M h) : PM G 7 0 0 mm_X17_vary [.ref (A 30 0), .int x, .int y, .int z, .int u] h (fw_qI (fun r h' => wdn S (vaS S x.toNatClampNeg y.toNatClampNeg z.toNatClampNeg u.toNatClampNeg) D A (pdK (S 99 0 13) x (smI y z u)) (nI (sp_len (S 13 x.toNatClampNeg 4) y.toNatClampNeg z.toNatClampNeg u.toNatClampNeg)) r h') fw_noX) := by
  refine pm_of (by decide +kernel) rfl rfl rfl ?_
  have hN := R.n7
  iterate 2 refine pw_go tk_X17_vary rfl rfl ?_
  refine pw_cv tk_X17_vary rfl ca_X17_noWarrant lk_X17_101 iv_X17_noWarrant sv_X17_noWarrant R.m rfl rfl (As := [.int x]) (rest := [])  (n_noWarrant R) rfl rfl rfl (Nat.le_of_ble_eq_true rfl) (Nat.le_of_eq (Nat.zero_add _)) (Nat.le_of_eq (Nat.zero_add _)) ?_ ?_
  · rintro _ H ⟨_, rfl, rfl, e9⟩
    rw [e9]
    cases hk : knI x (S 99 0 13) with
    | false =>
      have e2 : nwK S x = 1 := by unfold nwK; rw [hk]; rfl
      rw [e2]
      refine pw_ifeqB tk_X17_vary rfl (fun c => absurd c (by decide)) (fun _ => ?_)
      refine pw_go tk_X17_vary rfl rfl ?_
      exact pw_iret tk_X17_vary rfl rfl rfl ⟨_, rfl, wdn_1 (pdK_1 hk) (by decide) (rdn_of (R.t 1))⟩
    | true =>
      obtain ⟨w, hw, rfl⟩ := knI_to hk (by omega)
      have e2 : nwK S (nI w) = 0 := by unfold nwK; rw [hk]; rfl
      rw [e2, nI_tn (by omega)]
      have R1 := R.t 0
      generalize tU A D h 0 = h1 at *
      obtain ⟨B, -, -, -, -⟩ := icw R.1 hw
      have k29 : smI y z u = false → ∀ L, fw_sL L [(0, .ref (A 30 0))] → PW G mm_X17_vary (fw_qI (fun r h' => wdn S (vaS S w y.toNatClampNeg z.toNatClampNeg u.toNatClampNeg) D A (pdK (S 99 0 13) (nI w) (smI y z u)) (nI (sp_len (S 13 w 4) y.toNatClampNeg z.toNatClampNeg u.toNatClampNeg)) r h') fw_noX) 7 0 0 h1 29 L [] := by
        intro e L hL
        refine pw_M _ hL ?_
        iterate 2 refine pw_go tk_X17_vary rfl rfl ?_
        refine pw_cv tk_X17_vary rfl ca_X17_raises lk_X17_118 iv_X17_raises sv_X17_raises R1.m rfl rfl (As := [.int (nI 2)]) (rest := [])  (n_raises (t := 2) R1) rfl rfl rfl (Nat.le_of_ble_eq_true rfl) (Nat.le_of_eq (Nat.zero_add _)) (Nat.le_of_eq (Nat.zero_add _)) ?_ ?_
        · rintro _ H ⟨_, rfl, rfl, e9⟩
          rw [e9]
          exact pw_iret tk_X17_vary rfl rfl rfl ⟨_, rfl, wdn_1 (pdK_2 hw (by omega) e) (by decide) (rdn_of (R1.tt rfl 2))⟩
        · exact fun _ _ z => z.elim
      refine pw_ifeqB tk_X17_vary rfl (fun _ => ?_) (fun c => absurd c (by decide))
      iterate 3 refine pw_go tk_X17_vary rfl rfl ?_
      refine pw_csp tk_X17_vary rfl ca_X17_areTerm lk_X17_59 sx_X17_areTerm (As := [.int y, .int z, .int u]) (rest := []) (n_areTerm) rfl rfl rfl rfl ?_
      cases ht : tmI y z u with
      | false =>
        have e : smI y z u = false := by unfold smI; rw [ht]; rfl
        refine pw_ifeqB tk_X17_vary rfl (fun _ => ?_) (fun c => absurd c (by decide))
        exact k29 e _ ⟨rfl, trivial⟩
      | true =>
        have c2 := ht
        unfold tmI at c2
        rw [Bool.and_eq_true, Bool.and_eq_true] at c2
        obtain ⟨y1, rfl, -, hy⟩ := inI_N (a := 0) c2.1.1 (by omega) (by omega)
        obtain ⟨z1, rfl, -, hz⟩ := inI_N (a := 0) c2.1.2 (by omega) (by omega)
        obtain ⟨u1, rfl, -, hu⟩ := inI_N (a := 0) c2.2 (by omega) (by omega)
        have n0 : ∀ k : Nat, k < 2147483648 → (nI k = 0 ↔ k = 0) := fun k hk => ⟨fun z => nI_inj (b := 0) hk (by omega) z, fun z => by rw [z]; rfl⟩
        refine pw_ifeqB tk_X17_vary rfl (fun c => absurd c (by decide)) (fun _ => ?_)
        iterate 2 refine pw_go tk_X17_vary rfl rfl ?_
        refine pw_addN (y1) (z1) tk_X17_vary rfl rfl rfl ?_
        refine pw_go tk_X17_vary rfl rfl ?_
        refine pw_addN (y1 + z1) (u1) tk_X17_vary rfl rfl rfl ?_
        refine pw_ifN (y1 + z1 + u1) tk_X17_vary rfl rfl (by omega) (fun c => ?_) (fun c => ?_)
        · have c : y1 + z1 + u1 ≠ 0 := c
          have e : smI (nI y1) (nI z1) (nI u1) = true := by
            unfold smI
            rw [ht]
            have : (decide (nI y1 = 0) && decide (nI z1 = 0) && decide (nI u1 = 0)) = false := by
              rw [Bool.and_eq_false_iff, Bool.and_eq_false_iff, decide_eq_false_iff_not, decide_eq_false_iff_not, decide_eq_false_iff_not, n0 _ (by omega), n0 _ (by omega), n0 _ (by omega)]
              omega
            rw [this]
            rfl
          rw [nI_tn (by omega), nI_tn (by omega), nI_tn (by omega)]
          have hb := R1.war hw
          refine pw_go tk_X17_vary rfl rfl ?_
          refine pw_get tk_X17_vary rfl fl_X17_19 R1.m rfl ?_
          refine pw_go tk_X17_vary rfl rfl ?_
          refine pw_lget (k := w) tk_X17_vary rfl (R1.l3) hw rfl rfl rfl rfl ?_
          refine pw_cast tk_X17_vary rfl (hb) rfl cw_X17_88 ?_
          iterate 3 refine pw_go tk_X17_vary rfl rfl ?_
          refine pw_put tk_X17_vary rfl fp_X17_134 hb rfl rfl (Nat.le_of_ble_eq_true rfl) ?_
          iterate 2 refine pw_go tk_X17_vary rfl rfl ?_
          refine pw_put tk_X17_vary rfl fp_X17_137 fw_up_s rfl rfl (Nat.le_of_ble_eq_true rfl) ?_
          refine pw_h (h' := fw_up h1 (A 53 w) (kRow A 53 w (waR (S 13 w) (fun f => if f = 0 then y1 else if f = 1 then z1 else S 15 w 2)))) (by rw [fw_up_2]; rfl) ?_
          iterate 2 refine pw_go tk_X17_vary rfl rfl ?_
          refine pw_put tk_X17_vary rfl fp_X17_140 fw_up_s rfl rfl (Nat.le_of_ble_eq_true rfl) ?_
          refine pw_h (h' := fw_up h1 (A 53 w) (kRow A 53 w (waR (S 13 w) (trG y1 z1 u1)))) (by rw [fw_up_2]; rfl) ?_
          have R3 : RE G (vaS S w y1 z1 u1) (dp (sT D 0) 53 w (waR (S 13 w) (trG y1 z1 u1))) A M (fw_up h1 (A 53 w) (kRow A 53 w (waR (S 13 w) (trG y1 z1 u1)))) := RE_put R1 (by rw [R1.N53]; exact hw) (by decide) trivial (IR_53b R1.2.1)
          have hb3 : fw_up h1 (A 53 w) (kRow A 53 w (waR (S 13 w) (trG y1 z1 u1))) (A 53 w) = some (.inr (19, [.int (nI (S 13 w 1)), .int (nI (S 13 w 2)), .int (nI (S 13 w 3)), .int (nI (S 13 w 4)), .int (nP (S 13 w 5)), .int (nI y1), .int (nI z1), .int (nI u1), .int (nI (S 13 w 11)), .int (nI (S 13 w 12)), .int (nP (S 13 w 9)), .int (bN (S 13 w 13)), .int (nP (S 13 w 10))])) := fw_up_s
          iterate 2 refine pw_go tk_X17_vary rfl rfl ?_
          refine pw_get tk_X17_vary rfl fl_X17_92 hb3 rfl ?_
          refine pw_cvp tk_X17_vary rfl ca_X16_length lk_X17_171 iv_X16_length sv_X16_length hb3 rfl rfl (As := [.int (nI (S 13 w 4))]) (rest := []) (w_len hb3 B.2.2.1 hy hz hu) rfl rfl rfl rfl ?_
          exact pw_iret tk_X17_vary rfl rfl rfl ⟨_, rfl, wdn_0 (pdK_0 hw (by omega) e) (rdn_put R1 (by rw [R1.N53]; exact hw) (by decide) trivial (IR_53b R1.2.1))⟩
        · have c : y1 + z1 + u1 = 0 := Decidable.not_not.mp c
          have e : smI (nI y1) (nI z1) (nI u1) = false := by
            have e1 : y1 = 0 := by omega
            have e2 : z1 = 0 := by omega
            have e3 : u1 = 0 := by omega
            subst e1
            subst e2
            subst e3
            rfl
          exact k29 e _ ⟨rfl, trivial⟩
  · exact fun _ _ z => z.elim
end WRA

