/-! pure rows over the mini machine: answers, numbers, bits, arrays -/
theorem kI (x : Int) (w : mW) (f : Int → mW → mO) : mm_kI (some (some (.inl x), w)) f = f x w := rfl
theorem kJ (x : Int) (w : mW) (f : Int → mW → mO) : mm_kJ (some (some (.inr (.inl x)), w)) f = f x w := rfl
theorem kR (x : Option Nat) (w : mW) (f : Option Nat → mW → mO) : mm_kR (some (some (.inr (.inr x)), w)) f = f x w := rfl
theorem kV (w : mW) (f : mW → mO) : mm_kV (some (none, w)) f = f w := rfl
theorem sm {α β : Type} (x : α) (f : α → Option β) : (some x).bind f = f x := rfl
theorem w32_eq {x : Int} (h1 : -2147483648 ≤ x) (h2 : x < 2147483648) : mm_w32 x = x := by
  unfold mm_w32
  exact Int.bmod_eq_of_le (by omega) (by omega)
theorem w64_eq {x : Int} (h1 : -9223372036854775808 ≤ x) (h2 : x < 9223372036854775808) : mm_w64 x = x := by
  unfold mm_w64
  exact Int.bmod_eq_of_le (by omega) (by omega)
/-! bits of an int -/
def tb (x : Int) (i : Nat) : Bool := (Int32.ofInt x).toBitVec.getLsbD i
theorem tb_of (x : Int32) (i : Nat) : tb x.toInt i = x.toBitVec.getLsbD i := by unfold tb; rw [Int32.ofInt_toInt]
theorem tb_big {x : Int} {i : Nat} (h : 32 ≤ i) : tb x i = false := BitVec.getLsbD_of_ge _ _ h
theorem tb_and (a b : Int) (i : Nat) : tb (mm_iand a b) i = (tb a i && tb b i) := by
  unfold mm_iand
  rw [tb_of, Int32.toBitVec_and, BitVec.getLsbD_and]
  rfl
theorem tb_or (a b : Int) (i : Nat) : tb (mm_ior a b) i = (tb a i || tb b i) := by
  unfold mm_ior
  rw [tb_of, Int32.toBitVec_or, BitVec.getLsbD_or]
  rfl
theorem tb_xor (a b : Int) (i : Nat) : tb (mm_ixor a b) i = (tb a i ^^ tb b i) := by
  unfold mm_ixor
  rw [tb_of, Int32.toBitVec_xor, BitVec.getLsbD_xor]
  rfl
theorem tb_m1 (i : Nat) : tb (-1) i = decide (i < 32) := by
  unfold tb
  show (BitVec.allOnes 32).getLsbD i = _
  rw [BitVec.getLsbD_allOnes]
theorem tb_not (a : Int) (i : Nat) : tb (mm_ixor a (-1)) i = (decide (i < 32) && !tb a i) := by
  rw [tb_xor, tb_m1]
  by_cases h : i < 32
  · simp [h]
  · simp [h, tb_big (Nat.le_of_not_lt h)]
theorem tb_0 (i : Nat) : tb 0 i = false := by
  unfold tb
  show (0#32).getLsbD i = false
  simp
theorem tb_ext {a b : Int} (ha : zR32 a) (hb : zR32 b) (h : ∀ i, i < 32 → tb a i = tb b i) : a = b := by
  have e : Int32.ofInt a = Int32.ofInt b := by
    apply Int32.toBitVec.inj
    apply BitVec.eq_of_getLsbD_eq
    intro i hi
    exact h i hi
  exact (ze_eq ha hb).mp e
theorem tb_nat {x : Int} (h0 : 0 ≤ x) (h1 : x < 2147483648) (i : Nat) : tb x i = x.toNat.testBit i := by
  unfold tb
  rw [Int32.toBitVec_ofInt]
  have e : BitVec.ofInt 32 x = BitVec.ofNat 32 x.toNat := by
    apply BitVec.eq_of_toNat_eq
    rw [BitVec.toNat_ofInt, BitVec.toNat_ofNat]
    omega
  rw [e, BitVec.getLsbD_ofNat]
  by_cases hi : i < 32
  · simp [hi]
  · have : x.toNat < 2 ^ i := Nat.lt_of_lt_of_le (show x.toNat < 2 ^ 32 by omega) (Nat.pow_le_pow_right (by decide) (Nat.le_of_not_lt hi))
    rw [Nat.testBit_lt_two_pow this]
    simp [hi]
theorem tb_nonneg {a : Int} (ha : zR32 a) : 0 ≤ a ↔ tb a 31 = false := by
  have e : tb a 31 = (Int32.ofInt a).toBitVec.msb := rfl
  rw [e, ← Bool.not_eq_true]
  constructor
  · intro h hm
    have h2 := BitVec.toInt_neg_of_msb_true hm
    have h3 : (Int32.ofInt a).toBitVec.toInt = a := ze_t32 ha
    omega
  · intro h
    have hm : (Int32.ofInt a).toBitVec.msb = false := by simpa using h
    have h2 := BitVec.toInt_nonneg_of_msb_false hm
    have h3 : (Int32.ofInt a).toBitVec.toInt = a := ze_t32 ha
    omega
theorem shl1 {j : Int} (h0 : 0 ≤ j) (h1 : j < 31) : mm_ishl 1 j = 2 ^ j.toNat := by
  have key : ∀ n : Nat, n < 31 → mm_ishl 1 (n : Int) = 2 ^ n := by decide +kernel
  have := key j.toNat (by omega)
  rwa [Int.toNat_of_nonneg h0] at this
theorem pow_lt31 {n : Nat} (h : n < 31) : (0 : Int) < 2 ^ n ∧ (2 : Int) ^ n < 2147483648 := by
  have key : ∀ n : Nat, n < 31 → (0 : Int) < 2 ^ n ∧ (2 : Int) ^ n < 2147483648 := by decide +kernel
  exact key n h
theorem tb_pow {n : Nat} (h : n < 31) (i : Nat) : tb (2 ^ n) i = decide (i = n) := by
  obtain ⟨h1, h2⟩ := pow_lt31 h
  rw [tb_nat (by omega) h2]
  have e : ((2 : Int) ^ n).toNat = 2 ^ n := by
    have : ((2 : Int) ^ n) = ((2 ^ n : Nat) : Int) := by simp
    rw [this, Int.toNat_natCast]
  rw [e, Nat.testBit_two_pow]
  simp [eq_comm]
theorem tb_shl1 {j : Int} (h0 : 0 ≤ j) (h1 : j < 31) (i : Nat) : tb (mm_ishl 1 j) i = decide (i = j.toNat) := by
  rw [shl1 h0 h1, tb_pow (by omega)]
theorem tb_1 (i : Nat) : tb 1 i = decide (i = 0) := tb_pow (n := 0) (by decide) i
theorem tb_ushr {s j : Int} (h0 : 0 ≤ j) (h1 : j < 32) (i : Nat) : tb (mm_iushr s j) i = tb s (i + j.toNat) := by
  have key : ∀ n : Nat, n < 32 → ((Int32.ofInt (n : Int)).toUInt32 &&& Int32.toUInt32 31).toBitVec.toNat % 32 = n := by decide +kernel
  have hk := key j.toNat (by omega)
  rw [Int.toNat_of_nonneg h0] at hk
  unfold mm_iushr
  rw [tb_of, UInt32.toBitVec_toInt32, UInt32.toBitVec_shiftRight, BitVec.ushiftRight_eq', BitVec.getLsbD_ushiftRight]
  unfold tb
  have e : ((((Int32.ofInt j).toUInt32 &&& Int32.toUInt32 31).toBitVec % 32)).toNat = j.toNat := by
    rw [BitVec.toNat_umod]
    exact hk
  rw [e, Nat.add_comm]
  rfl
theorem has_u {s j : Int} (h0 : 0 ≤ j) (h1 : j < 32) : mm_iand (mm_iushr s j) 1 = if tb s j.toNat then 1 else 0 := by
  apply tb_ext
  · exact zr_32 _
  · split <;> decide
  · intro i hi
    rw [tb_and, tb_1, tb_ushr h0 h1]
    by_cases hi0 : i = 0
    · subst hi0
      rw [Nat.zero_add]
      cases tb s j.toNat
      · simp [tb_0]
      · simp [tb_1]
    · cases tb s j.toNat
      · simp [tb_0, hi0]
      · simp [tb_1, hi0]
theorem tb_shr0 {s j : Int} (h0 : 0 ≤ j) (h1 : j < 32) : tb (mm_ishr s j) 0 = tb s j.toNat := by
  have key : ∀ n : Nat, n < 32 → ((Int32.ofInt (n : Int)) &&& 31).toBitVec.smod 32 = BitVec.ofNat 32 n := by decide +kernel
  have hk := key j.toNat (by omega)
  rw [Int.toNat_of_nonneg h0] at hk
  unfold mm_ishr
  rw [tb_of, Int32.toBitVec_shiftRight, hk]
  unfold tb
  rw [BitVec.sshiftRight_eq', BitVec.getLsbD_sshiftRight]
  have e : (BitVec.ofNat 32 j.toNat).toNat = j.toNat := by
    rw [BitVec.toNat_ofNat]
    omega
  rw [e]
  have : j.toNat + 0 < 32 := by omega
  simp [this]
  omega
theorem has_s {s j : Int} (h0 : 0 ≤ j) (h1 : j < 32) : mm_iand (mm_ishr s j) 1 = if tb s j.toNat then 1 else 0 := by
  apply tb_ext
  · exact zr_32 _
  · split <;> decide
  · intro i hi
    rw [tb_and, tb_1]
    by_cases hi0 : i = 0
    · subst hi0
      rw [tb_shr0 h0 h1]
      cases tb s j.toNat
      · simp [tb_0]
      · simp [tb_1]
    · cases tb s j.toNat
      · simp [tb_0, hi0]
      · simp [tb_1, hi0]
/-! sets as sums of bits -/
def bs (P : Nat → Bool) : Nat → Int
  | 0 => 0
  | n + 1 => bs P n + (if P n then 2 ^ n else 0)
theorem bs_s (P : Nat → Bool) (n : Nat) : bs P (n + 1) = bs P n + (if P n then 2 ^ n else 0) := rfl
theorem bs_range (P : Nat → Bool) : ∀ n, 0 ≤ bs P n ∧ bs P n < 2 ^ n
  | 0 => by simp [bs]
  | n + 1 => by
    obtain ⟨h1, h2⟩ := bs_range P n
    have e : (2 : Int) ^ (n + 1) = 2 ^ n + 2 ^ n := by rw [Int.pow_succ]; omega
    have hp : (0 : Int) < 2 ^ n := Int.pow_pos (by decide)
    rw [bs_s]
    split <;> omega
theorem tb_bs (P : Nat → Bool) : ∀ n, n ≤ 31 → ∀ i, tb (bs P n) i = (decide (i < n) && P i)
  | 0, _, i => by simp [bs, tb_0]
  | n + 1, hn, i => by
    have ih := tb_bs P n (by omega)
    obtain ⟨h1, h2⟩ := bs_range P n
    obtain ⟨h3, h4⟩ := pow_lt31 (n := n) (by omega)
    obtain ⟨h5, h6⟩ := bs_range P (n + 1)
    have hlt : bs P (n + 1) < 2147483648 := by
      have e : (2 : Int) ^ (n + 1) = 2 ^ n + 2 ^ n := by rw [Int.pow_succ]; omega
      have : (2 : Int) ^ n ≤ 1073741824 := by
        have key : ∀ n : Nat, n < 31 → (2 : Int) ^ n ≤ 1073741824 := by decide +kernel
        exact key n (by omega)
      omega
    rw [tb_nat h5 hlt]
    rw [bs_s] at *
    have ih' := ih i
    rw [tb_nat h1 (by omega)] at ih'
    by_cases hp : P n = true
    · rw [if_pos hp]
      have e : (bs P n + 2 ^ n).toNat = 2 ^ n + (bs P n).toNat := by
        have h7 : ((2 : Int) ^ n).toNat = 2 ^ n := by
          have : ((2 : Int) ^ n) = ((2 ^ n : Nat) : Int) := by simp
          rw [this, Int.toNat_natCast]
        rw [Int.toNat_add h1 (by omega), h7, Nat.add_comm]
      have hb : (bs P n).toNat < 2 ^ n := by
        have : ((2 : Int) ^ n) = ((2 ^ n : Nat) : Int) := by simp
        omega
      rw [e]
      by_cases hi : i = n
      · subst hi
        have := Nat.testBit_two_pow_add_eq (bs P i).toNat i
        rw [this]
        rw [Nat.testBit_lt_two_pow hb]
        simp [hp]
      · rcases Nat.lt_or_gt_of_ne hi with h | h
        · rw [Nat.testBit_two_pow_add_gt h]
          rw [ih']
          simp [h]
          omega
        · have : 2 ^ n + (bs P n).toNat < 2 ^ i := Nat.lt_of_lt_of_le (show _ < 2 ^ (n + 1) by rw [Nat.pow_succ]; omega) (Nat.pow_le_pow_right (by decide) h)
          rw [Nat.testBit_lt_two_pow this]
          simp
          omega
    · rw [if_neg hp, Int.add_zero, ih']
      by_cases hi : i = n
      · subst hi
        simp [hp]
      · have : (i < n) ↔ (i < n + 1) := by omega
        simp [this]
