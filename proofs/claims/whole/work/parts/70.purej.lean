/-! PURE: nothing told yet -/
def iD (D : fw_DB) : fw_DB := dn (dn (dn (dn (dn (dn (dn D 1 0 zz) 2 0 zz) 3 0 zz) 4 0 zz) 6 0 zz) 5 0 zz) 0 0 zz
theorem iD_k {D : fw_DB} {k : Nat} (h : 6 < k) (h9 : k ≠ 99) : iD D k = D k := by
  unfold iD
  rw [dn_k (by omega) h9, dn_k (by omega) h9, dn_k (by omega) h9, dn_k (by omega) h9, dn_k (by omega) h9, dn_k (by omega) h9, dn_k (by omega) h9]
theorem iD_N {D : fw_DB} (f : Nat) : iD D 99 0 f = if f ≤ 6 then 1 else D 99 0 f := by
  unfold iD
  rw [dn_N, dn_N, dn_N, dn_N, dn_N, dn_N, dn_N]
  by_cases h : f ≤ 6
  · rw [if_pos h]
    by_cases h0 : f = 0
    · rw [if_pos h0]
    · rw [if_neg h0]
      by_cases h5 : f = 5
      · rw [if_pos h5]
      · rw [if_neg h5]
        by_cases h6 : f = 6
        · rw [if_pos h6]
        · rw [if_neg h6]
          by_cases h4 : f = 4
          · rw [if_pos h4]
          · rw [if_neg h4]
            by_cases h3 : f = 3
            · rw [if_pos h3]
            · rw [if_neg h3]
              by_cases h2 : f = 2
              · rw [if_pos h2]
              · rw [if_neg h2, if_pos (by omega)]
  · rw [if_neg h, if_neg (by omega), if_neg (by omega), if_neg (by omega), if_neg (by omega), if_neg (by omega), if_neg (by omega), if_neg (by omega)]
theorem iD_0 {D : fw_DB} {k : Nat} (h : k ≤ 6) : iD D k 0 = zz := by
  unfold iD
  have q : ∀ (X : fw_DB) (m : Nat), k ≠ m → dn X m 0 zz k 0 = X k 0 := fun X m hm => congrFun (dn_k hm (by omega)) 0
  by_cases h0 : k = 0
  · subst h0
    exact dn_s (by decide)
  · rw [q _ 0 h0]
    by_cases h5 : k = 5
    · subst h5
      exact dn_s (by decide)
    · rw [q _ 5 h5]
      by_cases h6 : k = 6
      · subst h6
        exact dn_s (by decide)
      · rw [q _ 6 h6]
        by_cases h4 : k = 4
        · subst h4
          exact dn_s (by decide)
        · rw [q _ 4 h4]
          by_cases h3 : k = 3
          · subst h3
            exact dn_s (by decide)
          · rw [q _ 3 h3]
            by_cases h2 : k = 2
            · subst h2
              exact dn_s (by decide)
            · rw [q _ 2 h2]
              have : k = 1 := by omega
              subst this
              exact dn_s (by decide)
theorem icd_0 {D : fw_DB} (hz : ∀ k i f, k < 30 → D k i f = 0) (hN : ∀ f, f < 30 → D 99 0 f = 0) : ICd 0 (iD D) := by
  have n : ∀ f, 6 < f → f < 30 → iD D 99 0 f = 0 := fun f h1 h2 => by rw [iD_N, if_neg (by omega), hN f h2]
  have n1 : ∀ f, f ≤ 6 → iD D 99 0 f = 1 := fun f h1 => by rw [iD_N, if_pos h1]
  have z0 : ∀ k f, k ≤ 6 → iD D k 0 f = 0 := fun k f hk => by rw [iD_0 hk]; rfl
  refine ⟨⟨⟨fun v hv => ?_, fun l hl => ?_, fun i hi => ?_⟩, fun r hr => ?_, ?_⟩, ?_, ⟨⟨fun d hd => z0 6 d (by omega), fun q d hd => ?_⟩, fun j hj => ?_⟩, ?_, fun q hq => ?_, fun v hv => ?_, fun v hv => ?_, fun a ha => ?_, fun r hr => ?_⟩
  · rw [n 13 (by omega) (by omega)] at hv
    omega
  · rw [n 7 (by omega) (by omega)] at hl
    omega
  · rw [n 16 (by omega) (by omega)] at hi
    omega
  · rw [n 17 (by omega) (by omega)] at hr
    omega
  · rw [n 13 (by omega) (by omega)]
    omega
  · unfold mI
    rw [n1 0 (by omega), n1 1 (by omega), n1 2 (by omega), n1 3 (by omega), n1 4 (by omega), n1 5 (by omega), n1 6 (by omega), n 7 (by omega) (by omega), n 8 (by omega) (by omega), n 13 (by omega) (by omega), n 16 (by omega) (by omega), n 17 (by omega) (by omega), z0 1 0 (by omega), z0 2 0 (by omega), z0 3 0 (by omega), z0 4 0 (by omega), z0 0 5 (by omega), z0 0 6 (by omega), z0 0 7 (by omega), z0 0 8 (by omega), z0 0 9 (by omega)]
    exact ⟨⟨rfl, rfl, rfl, rfl, rfl, rfl, rfl⟩, ⟨rfl, rfl, rfl, rfl⟩, ⟨rfl, rfl, rfl, rfl, rfl⟩, by omega, by omega, by omega, by omega, by omega⟩
  · rw [iD_k (by omega) (by omega), iD_k (by omega) (by omega)]
    exact ⟨hz 10 q d (by omega), hz 12 q d (by omega)⟩
  · rw [n 13 (by omega) (by omega)] at hj
    omega
  · unfold nN
    rw [n 8 (by omega) (by omega), n 9 (by omega) (by omega), n 10 (by omega) (by omega), n 11 (by omega) (by omega), n 12 (by omega) (by omega), n 13 (by omega) (by omega), n 14 (by omega) (by omega), n 15 (by omega) (by omega)]
    exact ⟨rfl, rfl, rfl, rfl, rfl, rfl⟩
  · rw [n 8 (by omega) (by omega)] at hq
    omega
  · rw [n 13 (by omega) (by omega)] at hv
    omega
  · rw [n 13 (by omega) (by omega)] at hv
    omega
  · rw [n 16 (by omega) (by omega)] at ha
    omega
  · rw [n 17 (by omega) (by omega)] at hr
    omega
