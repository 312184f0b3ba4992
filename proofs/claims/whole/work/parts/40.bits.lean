/-! BITS: long words as sets of days; counting -/
theorem wb_tb (n : Nat) : (lN n).toBitVec = BitVec.ofNat 64 n := rfl
theorem wb_inj {a b : Int64} (h : a.toBitVec = b.toBitVec) : a = b := Int64.toBitVec_inj.mp h
theorem wb_tn {n : Nat} (h : n < 2 ^ 64) : (lN n).toBitVec.toNat = n := by rw [wb_tb, BitVec.toNat_ofNat, Nat.mod_eq_of_lt h]
theorem wb_of (x : Int64) : ∃ n, n < 2 ^ 64 ∧ x = lN n := ⟨x.toBitVec.toNat, x.toBitVec.isLt, wb_inj (by rw [wb_tb]; simp)⟩
theorem wb_of32 (x : Int32) : ∃ n, n < 2 ^ 32 ∧ x = nI n := ⟨x.toBitVec.toNat, x.toBitVec.isLt, Int32.toBitVec_inj.mp (by show _ = BitVec.ofNat 32 _; simp)⟩
theorem wb_c : ∀ k, k < 64 → ((nI k).toInt64 &&& 63) = lN k := by decide +kernel
theorem wb_cu : ∀ k, k < 64 → ((nI k).toInt64.toUInt64 &&& Int64.toUInt64 63) = UInt64.ofNat k := by decide +kernel
theorem wb_sm : ∀ k, k < 64 → (BitVec.ofNat 64 k).smod 64 = BitVec.ofNat 64 k := by decide +kernel
theorem wb_pw {a b : Nat} (h : a ≤ b) : 2 ^ b = 2 ^ a * 2 ^ (b - a) := by rw [← Nat.pow_add]; congr 1; omega
theorem wb_lt2 {a b : Nat} (h : a < b) : 2 ^ a < 2 ^ b := Nat.pow_lt_pow_right (by decide) h
theorem wb_mod (n : Nat) : lN n = lN (n % 2 ^ 64) := wb_inj (by rw [wb_tb, wb_tb]; apply BitVec.eq_of_toNat_eq; rw [BitVec.toNat_ofNat, BitVec.toNat_ofNat, Nat.mod_mod])
theorem wb_shr {n k : Nat} (hn : n < 2 ^ 64) (hk : k < 64) : ((lN n).toUInt64 >>> ((nI k).toInt64.toUInt64 &&& Int64.toUInt64 63)).toInt64 = lN (n / 2 ^ k) := by
  rw [wb_cu k hk]
  apply wb_inj
  apply BitVec.eq_of_toNat_eq
  show ((lN n).toUInt64 >>> UInt64.ofNat k).toNat = (BitVec.ofNat 64 _).toNat
  have h1 : (UInt64.ofNat k).toNat = k := by
    show (BitVec.ofNat 64 k).toNat = k
    rw [BitVec.toNat_ofNat, Nat.mod_eq_of_lt (by omega)]
  have h2 : (lN n).toUInt64.toNat = n := wb_tn hn
  rw [UInt64.toNat_shiftRight, h1, h2, Nat.mod_eq_of_lt hk, Nat.shiftRight_eq_div_pow, BitVec.toNat_ofNat, Nat.mod_eq_of_lt (Nat.lt_of_le_of_lt (Nat.div_le_self _ _) hn)]
theorem wb_shl (n : Nat) {k : Nat} (hk : k < 64) : lN n <<< ((nI k).toInt64 &&& 63) = lN (n * 2 ^ k) := by
  rw [wb_c k hk]
  apply wb_inj
  rw [Int64.toBitVec_shiftLeft, wb_tb, wb_tb, wb_tb, wb_sm k hk]
  apply BitVec.eq_of_toNat_eq
  rw [BitVec.shiftLeft_eq', BitVec.toNat_shiftLeft, BitVec.toNat_ofNat, BitVec.toNat_ofNat, BitVec.toNat_ofNat, Nat.mod_eq_of_lt (show k < 2 ^ 64 by omega), Nat.shiftLeft_eq, Nat.mul_mod, Nat.mod_mod, ← Nat.mul_mod]
theorem wb_and {a b : Nat} (ha : a < 2 ^ 64) (hb : b < 2 ^ 64) : lN a &&& lN b = lN (a &&& b) := by
  apply wb_inj
  rw [Int64.toBitVec_and, wb_tb, wb_tb, wb_tb]
  apply BitVec.eq_of_toNat_eq
  rw [BitVec.toNat_and, BitVec.toNat_ofNat, BitVec.toNat_ofNat, BitVec.toNat_ofNat, Nat.mod_eq_of_lt ha, Nat.mod_eq_of_lt hb, Nat.mod_eq_of_lt (Nat.and_lt_two_pow _ hb)]
theorem wb_or {a b : Nat} (ha : a < 2 ^ 64) (hb : b < 2 ^ 64) : lN a ||| lN b = lN (a ||| b) := by
  apply wb_inj
  rw [Int64.toBitVec_or, wb_tb, wb_tb, wb_tb]
  apply BitVec.eq_of_toNat_eq
  rw [BitVec.toNat_or, BitVec.toNat_ofNat, BitVec.toNat_ofNat, BitVec.toNat_ofNat, Nat.mod_eq_of_lt ha, Nat.mod_eq_of_lt hb, Nat.mod_eq_of_lt (Nat.or_lt_two_pow ha hb)]
theorem wb_mask {n k : Nat} (hn : n < 2 ^ 64) (hk : k < 64) : lN n &&& lN (2 ^ k - 1) = lN (n % 2 ^ k) := by
  rw [wb_and hn (by have := wb_lt2 hk; omega), Nat.and_two_pow_sub_one_eq_mod]
theorem wb_a1 {n : Nat} (hn : n < 2 ^ 64) : lN n &&& 1 = lN (n % 2) := wb_mask (k := 1) hn (by decide)
theorem wb_bit {n k : Nat} (hn : n < 2 ^ 64) (hk : k < 64) : ((lN n).toUInt64 >>> ((nI k).toInt64.toUInt64 &&& Int64.toUInt64 63)).toInt64 &&& 1 = lN (n / 2 ^ k % 2) := by
  rw [wb_shr hn hk, wb_a1 (Nat.lt_of_le_of_lt (Nat.div_le_self _ _) hn)]
/-- how many below n -/
def cu (p : Nat → Bool) : Nat → Nat
  | 0 => 0
  | n + 1 => cu p n + (if p n = true then 1 else 0)
theorem cu_congr {p q : Nat → Bool} : ∀ {n : Nat}, (∀ i, i < n → p i = q i) → cu p n = cu q n
  | 0, _ => rfl
  | n + 1, h => by unfold cu; rw [cu_congr (fun i hi => h i (Nat.lt_succ_of_lt hi)), h n (Nat.lt_succ_self n)]
theorem cu_le (p : Nat → Bool) : ∀ n : Nat, cu p n ≤ n
  | 0 => Nat.le_refl _
  | n + 1 => by
    have := cu_le p n
    unfold cu
    split <;> omega
theorem cu_add (p : Nat → Bool) (a : Nat) : ∀ n : Nat, cu p (a + n) = cu p a + cu (fun i => p (a + i)) n
  | 0 => rfl
  | n + 1 => by
    show cu p (a + n) + _ = cu p a + (cu (fun i => p (a + i)) n + _)
    rw [cu_add p a n, Nat.add_assoc]
    rfl
theorem cu_mono (p : Nat → Bool) {a b : Nat} (h : a ≤ b) : cu p a ≤ cu p b := by
  obtain ⟨k, rfl⟩ : ∃ k, b = a + k := ⟨b - a, by omega⟩
  rw [cu_add]
  omega
theorem cu_step (p : Nat → Bool) {a b : Nat} (h : a ≤ b) : cu p b ≤ cu p a + (b - a) := by
  obtain ⟨k, rfl⟩ : ∃ k, b = a + k := ⟨b - a, by omega⟩
  rw [cu_add]
  have := cu_le (fun i => p (a + i)) k
  omega
theorem cu_none {p : Nat → Bool} : ∀ {n : Nat}, (∀ i, i < n → p i = false) → cu p n = 0
  | 0, _ => rfl
  | n + 1, h => by
    unfold cu
    rw [cu_none (fun i hi => h i (Nat.lt_succ_of_lt hi)), h n (Nat.lt_succ_self n)]
    rfl
theorem cu_all {p : Nat → Bool} : ∀ {n : Nat}, (∀ i, i < n → p i = true) → cu p n = n
  | 0, _ => rfl
  | n + 1, h => by
    unfold cu
    rw [cu_all (fun i hi => h i (Nat.lt_succ_of_lt hi)), h n (Nat.lt_succ_self n)]
    rfl
theorem cu_not (p : Nat → Bool) : ∀ n : Nat, cu (fun i => !p i) n + cu p n = n
  | 0 => rfl
  | n + 1 => by
    have := cu_not p n
    unfold cu
    cases p n <;> simp <;> omega
/-- the bits of a long -/
def gb (x : Int64) (i : Nat) : Bool := x.toBitVec.getLsbD i
theorem gb_ext {x y : Int64} (h : ∀ i, i < 64 → gb x i = gb y i) : x = y := wb_inj (BitVec.eq_of_getLsbD_eq (fun i hi => h i hi))
theorem gb_and (x y : Int64) (i : Nat) : gb (x &&& y) i = (gb x i && gb y i) := by
  unfold gb
  rw [Int64.toBitVec_and, BitVec.getLsbD_and]
theorem gb_or (x y : Int64) (i : Nat) : gb (x ||| y) i = (gb x i || gb y i) := by
  unfold gb
  rw [Int64.toBitVec_or, BitVec.getLsbD_or]
theorem gb_m1 {i : Nat} (h : i < 64) : gb (-1) i = true := by
  have : ∀ i : Nat, i < 64 → gb (-1) i = true := by decide +kernel
  exact this i h
theorem gb_not (x : Int64) {i : Nat} (h : i < 64) : gb (x ^^^ (-1)) i = !gb x i := by
  have := gb_m1 h
  unfold gb at this ⊢
  rw [Int64.toBitVec_xor, BitVec.getLsbD_xor, this]
  simp
theorem gb_lN {n i : Nat} (hi : i < 64) : gb (lN n) i = n.testBit i := by
  unfold gb
  rw [wb_tb, BitVec.getLsbD_ofNat]
  simp [hi]
theorem gb_0 (i : Nat) : gb 0 i = false := by
  show (BitVec.ofNat 64 0).getLsbD i = false
  simp
theorem gb_hi {x : Int64} {i : Nat} (h : 64 ≤ i) : gb x i = false := BitVec.getLsbD_of_ge _ _ h
theorem gb_up : ∀ k : Nat, k < 64 → ∀ i : Nat, i < 64 → gb ((-1 : Int64) <<< ((nI k).toInt64 &&& 63)) i = decide (k ≤ i) := by decide +kernel
theorem gb_dn : ∀ k : Nat, k < 64 → ∀ i : Nat, i < 64 → gb (((1 : Int64) <<< ((nI k).toInt64 &&& 63)) - 1) i = decide (i < k) := by decide +kernel
theorem gb_at (x : Int64) {k : Nat} (hk : k < 64) : (((x.toUInt64 >>> ((nI k).toInt64.toUInt64 &&& Int64.toUInt64 63)).toInt64 &&& 1) = 1) = (gb x k = true) ∧ (((x.toUInt64 >>> ((nI k).toInt64.toUInt64 &&& Int64.toUInt64 63)).toInt64 &&& 1) = 0) = (gb x k = false) := by
  obtain ⟨n, hn, rfl⟩ := wb_of x
  rw [wb_bit hn hk, gb_lN hk, Nat.testBit_eq_decide_div_mod_eq]
  rcases Nat.mod_two_eq_zero_or_one (n / 2 ^ k) with e | e
  · rw [e]; decide
  · rw [e]; decide
/-- the number of the bits below n -/
def wn (p : Nat → Bool) : Nat → Nat
  | 0 => 0
  | n + 1 => wn p n + (if p n = true then 2 ^ n else 0)
theorem wn_lt (p : Nat → Bool) : ∀ n : Nat, wn p n < 2 ^ n
  | 0 => by unfold wn; decide
  | n + 1 => by
    have := wn_lt p n
    unfold wn
    rw [Nat.pow_succ]
    split <;> omega
theorem wn_tb (p : Nat → Bool) (i : Nat) : ∀ n : Nat, (wn p n).testBit i = (decide (i < n) && p i)
  | 0 => by unfold wn; simp
  | n + 1 => by
    have h1 := wn_tb p i n
    have h2 := wn_lt p n
    unfold wn
    by_cases hp : p n = true
    · rw [if_pos hp, Nat.add_comm]
      rcases Nat.lt_trichotomy i n with h | h | h
      · rw [Nat.testBit_two_pow_add_gt h, h1]
        simp [h, show i < n + 1 by omega]
      · subst h
        rw [Nat.testBit_two_pow_add_eq, h1]
        simp [hp]
      · have h3 : 2 ^ n + wn p n < 2 ^ i := Nat.lt_of_lt_of_le (by rw [Nat.pow_succ]; omega) (Nat.pow_le_pow_right (by decide) (show n + 1 ≤ i from h))
        rw [Nat.testBit_lt_two_pow h3]
        simp [show ¬ i < n + 1 by omega]
    · rw [if_neg hp, Nat.add_zero, h1]
      rcases Nat.lt_trichotomy i n with h | h | h
      · simp [h, show i < n + 1 by omega]
      · subst h
        simp [hp]
      · simp [show ¬ i < n by omega, show ¬ i < n + 1 by omega]
/-- the word w of a set of days -/
def wd (p : Nat → Bool) (w : Nat) : Int64 := lN (wn (fun i => p (64 * w + i)) 64)
theorem gb_wd (p : Nat → Bool) (w : Nat) {i : Nat} (h : i < 64) : gb (wd p w) i = p (64 * w + i) := by
  unfold wd
  rw [gb_lN h, wn_tb]
  simp [h]
theorem wd_of {p : Nat → Bool} {w : Nat} {x : Int64} (h : ∀ i, i < 64 → gb x i = p (64 * w + i)) : x = wd p w := gb_ext (fun i hi => by rw [h i hi, gb_wd p w hi])
theorem wd_congr {p q : Nat → Bool} {w : Nat} (h : ∀ i, i < 64 → p (64 * w + i) = q (64 * w + i)) : wd p w = wd q w := wd_of (fun i hi => by rw [gb_wd p w hi, h i hi])
/-! counting bits by eights -/
theorem bc_and {a V c C m s : Nat} (ha : a < 2 ^ m) (hs : s ≤ m) (hc : c < 2 ^ (m - s)) : ((a + 2 ^ m * V) / 2 ^ s) &&& (c + 2 ^ m * C) = (a / 2 ^ s &&& c) + 2 ^ m * ((V / 2 ^ s) &&& C) := by
  have hcm : c < 2 ^ m := Nat.lt_of_lt_of_le hc (Nat.pow_le_pow_right (by decide) (by omega))
  have h1 : (a / 2 ^ s &&& c) < 2 ^ m := Nat.lt_of_le_of_lt (Nat.and_le_right) hcm
  apply Nat.eq_of_testBit_eq
  intro i
  rw [Nat.testBit_and, Nat.testBit_div_two_pow, Nat.add_comm a, Nat.add_comm c, Nat.add_comm _ (2 ^ m * _), Nat.testBit_two_pow_mul_add _ ha, Nat.testBit_two_pow_mul_add _ hcm, Nat.testBit_two_pow_mul_add _ h1]
  by_cases hi : i < m
  · rw [if_pos hi, if_pos hi, Nat.testBit_and, Nat.testBit_div_two_pow]
    by_cases h2 : i + s < m
    · rw [if_pos h2]
    · have h3 : c.testBit i = false := Nat.testBit_lt_two_pow (Nat.lt_of_lt_of_le hc (Nat.pow_le_pow_right (by decide) (by omega)))
      rw [h3, Bool.and_false, Bool.and_false]
  · rw [if_neg hi, if_neg hi, if_neg (show ¬ i + s < m by omega), Nat.testBit_and, Nat.testBit_div_two_pow, show i + s - m = i - m + s by omega]
theorem bc_1 {a V c C : Nat} (ha : a < 256) (hc : c < 128) : ((a + 256 * V) / 2) &&& (c + 256 * C) = (a / 2 &&& c) + 256 * ((V / 2) &&& C) := bc_and (m := 8) (s := 1) ha (by decide) hc
theorem bc_2 {a V c C : Nat} (ha : a < 256) (hc : c < 64) : ((a + 256 * V) / 4) &&& (c + 256 * C) = (a / 4 &&& c) + 256 * ((V / 4) &&& C) := bc_and (m := 8) (s := 2) ha (by decide) hc
theorem bc_0 {a V c C : Nat} (ha : a < 256) (hc : c < 256) : (a + 256 * V) &&& (c + 256 * C) = (a &&& c) + 256 * (V &&& C) := by
  have := bc_and (m := 8) (s := 0) (a := a) (V := V) (c := c) (C := C) ha (by decide) hc
  simpa using this
/-- masks of n bytes -/
def bm (c : Nat) : Nat → Nat
  | 0 => 0
  | n + 1 => c + 256 * bm c n
def b1 (n x : Nat) : Nat := x - (x / 2 &&& bm 85 n)
def b2 (n x : Nat) : Nat := (x &&& bm 51 n) + (x / 4 &&& bm 51 n)
def b3 (n x : Nat) : Nat := (x + x / 16) &&& bm 15 n
/-- how many bits of each byte -/
def bp : Nat → Nat → Nat
  | 0, _ => 0
  | n + 1, x => cu (fun i => (x % 256).testBit i) 8 + 256 * bp n (x / 256)
theorem b1_8 : ∀ a : Nat, a < 256 → (a / 2 &&& 85) ≤ a ∧ a - (a / 2 &&& 85) < 256 := by decide +kernel
theorem b2_8 : ∀ a : Nat, a < 256 → (a - (a / 2 &&& 85) &&& 51) + ((a - (a / 2 &&& 85)) / 4 &&& 51) < 256 ∧ ((a - (a / 2 &&& 85) &&& 51) + ((a - (a / 2 &&& 85)) / 4 &&& 51)) % 16 ≤ 4 ∧ ((a - (a / 2 &&& 85) &&& 51) + ((a - (a / 2 &&& 85)) / 4 &&& 51)) / 16 ≤ 4 := by decide +kernel
theorem b3_8 : ∀ a : Nat, a < 256 → (((a - (a / 2 &&& 85) &&& 51) + ((a - (a / 2 &&& 85)) / 4 &&& 51)) + ((a - (a / 2 &&& 85) &&& 51) + ((a - (a / 2 &&& 85)) / 4 &&& 51)) / 16) % 16 = cu (fun i => a.testBit i) 8 := by decide +kernel
theorem b1_n : ∀ (n x : Nat), x < 256 ^ n → (x / 2 &&& bm 85 n) ≤ x
  | n, x, _ => Nat.le_trans Nat.and_le_left (Nat.div_le_self _ _)
theorem b_split {n x : Nat} (h : x < 256 ^ (n + 1)) : x % 256 < 256 ∧ x / 256 < 256 ^ n ∧ x = x % 256 + 256 * (x / 256) := by
  refine ⟨Nat.mod_lt _ (by decide), ?_, by omega⟩
  rw [Nat.div_lt_iff_lt_mul (by decide)]
  rw [Nat.pow_succ] at h
  exact h
theorem b1_s {n a V : Nat} (ha : a < 256) : b1 (n + 1) (a + 256 * V) = (a - (a / 2 &&& 85)) + 256 * b1 n V := by
  have h1 := bc_1 (V := V) (C := bm 85 n) ha (show 85 < 128 by decide)
  have h2 := b1_8 a ha
  have h3 : (V / 2 &&& bm 85 n) ≤ V := Nat.le_trans Nat.and_le_left (Nat.div_le_self _ _)
  unfold b1
  rw [show bm 85 (n + 1) = 85 + 256 * bm 85 n from rfl, h1]
  omega
theorem b2_s {n a V : Nat} (ha : a < 256) : b2 (n + 1) (a + 256 * V) = ((a &&& 51) + (a / 4 &&& 51)) + 256 * b2 n V := by
  have h1 := bc_2 (V := V) (C := bm 51 n) ha (show 51 < 64 by decide)
  have h0 := bc_0 (V := V) (C := bm 51 n) ha (show 51 < 256 by decide)
  unfold b2
  rw [show bm 51 (n + 1) = 51 + 256 * bm 51 n from rfl, h1, h0]
  omega
theorem b3_s {n a V : Nat} (h1 : a % 16 ≤ 4) (h2 : a / 16 ≤ 4) (hV : V % 16 ≤ 4) : b3 (n + 1) (a + 256 * V) = (a + a / 16) % 16 + 256 * b3 n V := by
  unfold b3
  have hm : ∀ r k : Nat, r < 16 → r + 16 * k &&& 15 = r := by
    intro r k hr
    rw [show (15 : Nat) = 2 ^ 4 - 1 from rfl, Nat.and_two_pow_sub_one_eq_mod]
    omega
  have e4 : a + 256 * V + (a + 256 * V) / 16 = ((a + a / 16) % 16 + 16 * (a / 16 + V % 16)) + 256 * (V + V / 16) := by omega
  rw [e4, show bm 15 (n + 1) = 15 + 256 * bm 15 n from rfl, bc_0 (by omega) (by decide), hm _ _ (by omega)]
theorem b2_lo {n x : Nat} (h : x < 256 ^ n) : b2 n (b1 n x) % 16 ≤ 4 := by
  cases n with
  | zero =>
    unfold b2
    rw [show bm 51 0 = 0 from rfl, Nat.and_zero, Nat.and_zero]
    decide
  | succ n =>
    obtain ⟨h1, h2, h3⟩ := b_split h
    have h4 := b2_8 _ h1
    rw [h3, b1_s h1, b2_s (b1_8 _ h1).2]
    omega
theorem b_all : ∀ (n x : Nat), x < 256 ^ n → b3 n (b2 n (b1 n x)) = bp n x
  | 0, x, h => by
    unfold b3
    rw [show bm 15 0 = 0 from rfl, Nat.and_zero]
    rfl
  | n + 1, x, h => by
    obtain ⟨h1, h2, h3⟩ := b_split h
    have h4 := b2_8 _ h1
    have h5 := b3_8 _ h1
    have h6 := b_all n _ h2
    show b3 (n + 1) (b2 (n + 1) (b1 (n + 1) x)) = cu (fun i => (x % 256).testBit i) 8 + 256 * bp n (x / 256)
    rw [← h5, ← h6]
    have e : b1 (n + 1) x = (x % 256 - (x % 256 / 2 &&& 85)) + 256 * b1 n (x / 256) := by
      have := b1_s (n := n) (V := x / 256) h1
      rw [← h3] at this
      exact this
    rw [e, b2_s (b1_8 _ h1).2, b3_s h4.2.1 h4.2.2 (b2_lo h2)]
theorem cu_byte (p : Nat → Bool) : ∀ n : Nat, cu p (8 * (n + 1)) = cu p (8 * n) + cu (fun i => p (8 * n + i)) 8 := fun n => by
  rw [show 8 * (n + 1) = 8 * n + 8 by omega, cu_add]
theorem b_tb {x i : Nat} (k : Nat) (h : i < 8) : (x / 256 ^ k % 256).testBit i = x.testBit (8 * k + i) := by
  rw [show (256 : Nat) = 2 ^ 8 from rfl, Nat.testBit_mod_two_pow, ← Nat.pow_mul, Nat.testBit_div_two_pow]
  simp [h, Nat.add_comm]
theorem cu8 (p : Nat → Bool) (k : Nat) : cu (fun i => p (8 * k + i)) 8 ≤ 8 := cu_le _ 8
theorem bp_u : ∀ (n k x : Nat), bp (n + 1) (x / 256 ^ k) = cu (fun i => (x / 256 ^ k % 256).testBit i) 8 + 256 * bp n (x / 256 ^ (k + 1)) := by
  intro n k x
  rw [Nat.pow_succ, ← Nat.div_div_eq_div_mul]
  rfl
/-- the sum of the bytes -/
theorem b_sum {x : Nat} : ∃ p : Nat → Nat, (∀ k, p k ≤ 8) ∧ bp 8 x = p 0 + 256 * (p 1 + 256 * (p 2 + 256 * (p 3 + 256 * (p 4 + 256 * (p 5 + 256 * (p 6 + 256 * p 7)))))) ∧ cu (fun i => x.testBit i) 64 = p 0 + p 1 + p 2 + p 3 + p 4 + p 5 + p 6 + p 7 := by
  obtain ⟨p, hp⟩ : ∃ p : Nat → Nat, ∀ k, p k = cu (fun i => x.testBit (8 * k + i)) 8 := ⟨_, fun _ => rfl⟩
  have hq : ∀ n k : Nat, bp (n + 1) (x / 256 ^ k) = p k + 256 * bp n (x / 256 ^ (k + 1)) := fun n k => by
    rw [bp_u, hp k]
    exact congrArg (fun z => z + _) (cu_congr (fun i hi => b_tb k hi))
  refine ⟨p, fun k => by rw [hp]; exact cu_le _ 8, ?_, ?_⟩
  · have hx : x / 256 ^ 0 = x := by rw [Nat.pow_zero, Nat.div_one]
    have e0 := hq 7 0
    rw [hx] at e0
    have e1 := hq 6 1
    have e2 := hq 5 2
    have e3 := hq 4 3
    have e4 := hq 3 4
    have e5 := hq 2 5
    have e6 := hq 1 6
    have e7 := hq 0 7
    have e8 : ∀ y : Nat, bp 0 y = 0 := fun _ => rfl
    rw [e8] at e7
    simp only [Nat.reduceAdd] at e0 e1 e2 e3 e4 e5 e6 e7
    rw [e0, e1, e2, e3, e4, e5, e6, e7, Nat.mul_zero, Nat.add_zero]
  · have hc := cu_byte (fun i => x.testBit i)
    have hd : ∀ k : Nat, cu (fun i => x.testBit i) (8 * (k + 1)) = cu (fun i => x.testBit i) (8 * k) + p k := fun k => by rw [hc k, hp k]
    have z : cu (fun i => x.testBit i) (8 * 0) = 0 := rfl
    rw [show (64 : Nat) = 8 * (7 + 1) from rfl, hd 7, show (7 : Nat) = 6 + 1 from rfl, hd 6, show (6 : Nat) = 5 + 1 from rfl, hd 5, show (5 : Nat) = 4 + 1 from rfl, hd 4, show (4 : Nat) = 3 + 1 from rfl, hd 3, show (3 : Nat) = 2 + 1 from rfl, hd 2, show (2 : Nat) = 1 + 1 from rfl, hd 1, show (1 : Nat) = 0 + 1 from rfl, hd 0, z, Nat.zero_add]
theorem b_dv {a b R : Nat} (h : a < b) : (a + b * R) / b = R := by
  rw [Nat.add_mul_div_left _ _ (by omega), Nat.div_eq_of_lt h, Nat.zero_add]
theorem b_f1 {p0 p1 p2 p3 p4 p5 p6 p7 : Nat} : (p0 + 256 * (p1 + 256 * (p2 + 256 * (p3 + 256 * (p4 + 256 * (p5 + 256 * (p6 + 256 * p7))))))) + (p1 + 256 * (p2 + 256 * (p3 + 256 * (p4 + 256 * (p5 + 256 * (p6 + 256 * p7)))))) = ((p0 + p1) + 256 * (p1 + p2)) + 65536 * ((p2 + p3) + 256 * (p3 + p4) + 65536 * ((p4 + p5) + 256 * (p5 + p6) + 65536 * ((p6 + p7) + 256 * p7))) := by omega
theorem b_f2 {a b c d e f g i : Nat} : (a + 256 * b) + 65536 * (c + 256 * d + 65536 * (e + 256 * f + 65536 * (g + 256 * i))) + (c + 256 * d + 65536 * (e + 256 * f + 65536 * (g + 256 * i))) = (a + c + 256 * (b + d) + 65536 * (c + e + 256 * (d + f))) + 4294967296 * (e + g + 256 * (f + i) + 65536 * (g + 256 * i)) := by omega
theorem b_f3 {a b c d e f g i : Nat} : (a + 256 * b + 65536 * (c + 256 * d)) + 4294967296 * (e + 256 * f + 65536 * (g + 256 * i)) + (e + 256 * f + 65536 * (g + 256 * i)) = (a + e) + 128 * (2 * b + 512 * (c + 256 * d) + 33554432 * (e + 256 * f + 65536 * (g + 256 * i)) + 2 * f + 512 * (g + 256 * i)) := by omega
theorem b_fin {P : Nat} (p : Nat → Nat) (hp : ∀ k, p k ≤ 8) (hP : P = p 0 + 256 * (p 1 + 256 * (p 2 + 256 * (p 3 + 256 * (p 4 + 256 * (p 5 + 256 * (p 6 + 256 * p 7))))))) : ∃ t1 t2 t3 : Nat, t1 = P + P / 256 ∧ t2 = t1 + t1 / 65536 ∧ t3 = t2 + t2 / 4294967296 ∧ t3 % 128 = p 0 + p 1 + p 2 + p 3 + p 4 + p 5 + p 6 + p 7 ∧ P < 2 ^ 64 ∧ t1 < 2 ^ 64 ∧ t2 < 2 ^ 64 ∧ t3 < 2 ^ 64 := by
  have h0 := hp 0
  have h1 := hp 1
  have h2 := hp 2
  have h3 := hp 3
  have h4 := hp 4
  have h5 := hp 5
  have h6 := hp 6
  have h7 := hp 7
  generalize p 0 = p0 at *
  generalize p 1 = p1 at *
  generalize p 2 = p2 at *
  generalize p 3 = p3 at *
  generalize p 4 = p4 at *
  generalize p 5 = p5 at *
  generalize p 6 = p6 at *
  generalize p 7 = p7 at *
  have d1 : P / 256 = p1 + 256 * (p2 + 256 * (p3 + 256 * (p4 + 256 * (p5 + 256 * (p6 + 256 * p7))))) := by rw [hP]; exact b_dv (by clear hP; omega)
  have d2 : (((p0 + p1) + 256 * (p1 + p2)) + 65536 * ((p2 + p3) + 256 * (p3 + p4) + 65536 * ((p4 + p5) + 256 * (p5 + p6) + 65536 * ((p6 + p7) + 256 * p7)))) / 65536 = (p2 + p3) + 256 * (p3 + p4) + 65536 * ((p4 + p5) + 256 * (p5 + p6) + 65536 * ((p6 + p7) + 256 * p7)) := b_dv (by clear hP d1; omega)
  have d3 : (((p0 + p1) + (p2 + p3) + 256 * (p1 + p2 + (p3 + p4)) + 65536 * ((p2 + p3) + (p4 + p5) + 256 * (p3 + p4 + (p5 + p6)))) + 4294967296 * ((p4 + p5) + (p6 + p7) + 256 * (p5 + p6 + p7) + 65536 * ((p6 + p7) + 256 * p7))) / 4294967296 = (p4 + p5) + (p6 + p7) + 256 * (p5 + p6 + p7) + 65536 * ((p6 + p7) + 256 * p7) := b_dv (by clear hP d1 d2; omega)
  refine ⟨_, _, _, rfl, rfl, rfl, ?_, ?_, ?_, ?_, ?_⟩
  · rw [d1, hP, b_f1, d2, b_f2, d3, b_f3, Nat.add_mul_mod_self_left]
    clear hP d1 d2 d3
    rw [Nat.mod_eq_of_lt (by omega)]
    omega
  · rw [hP]
    clear hP d1 d2 d3
    omega
  · rw [d1, hP]
    clear hP d1 d2 d3
    omega
  · rw [d1, hP, b_f1, d2]
    clear hP d1 d2 d3
    omega
  · rw [d1, hP, b_f1, d2, b_f2, d3]
    clear hP d1 d2 d3
    omega
