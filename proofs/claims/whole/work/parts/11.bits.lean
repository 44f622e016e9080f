/-! ===== bits as whole numbers ===== -/
theorem tn64 (x : Int) : (Int64.ofInt x).toBitVec.toNat = (x % 18446744073709551616).toNat := by
  rw [Int64.toBitVec_ofInt, BitVec.toNat_ofInt]
  rfl
theorem tn32 (x : Int) : (Int32.ofInt x).toBitVec.toNat = (x % 4294967296).toNat := by
  rw [Int32.toBitVec_ofInt, BitVec.toNat_ofInt]
  rfl
theorem ti_of64 (a : Int64) {n : Nat} (h : a.toBitVec.toNat = n) (hn : n < 9223372036854775808) : a.toInt = (n : Int) := by
  rw [← Int64.toInt_toBitVec, BitVec.toInt_eq_toNat_bmod, h]
  exact Int.bmod_eq_of_le (by omega) (by omega)
theorem ti_of32 (a : Int32) {n : Nat} (h : a.toBitVec.toNat = n) (hn : n < 2147483648) : a.toInt = (n : Int) := by
  rw [← Int32.toInt_toBitVec, BitVec.toInt_eq_toNat_bmod, h]
  exact Int.bmod_eq_of_le (by omega) (by omega)
theorem land_mask (x : Int) (k : Nat) (hk : k ≤ 62) : landV x ((2 ^ k : Nat) - 1 : Int) = x % ((2 ^ k : Nat) : Int) := by
  have hp : 2 ^ k ≤ 2 ^ 62 := Nat.pow_le_pow_right (by decide) hk
  have hp0 : 0 < 2 ^ k := Nat.two_pow_pos k
  have hd : ((2 ^ k : Nat) : Int) ∣ 18446744073709551616 := by
    refine ⟨((2 ^ (64 - k) : Nat) : Int), ?_⟩
    rw [← Int.natCast_mul, ← Nat.pow_add, show k + (64 - k) = 64 by omega]
    decide
  have h1 : (Int64.ofInt x &&& Int64.ofInt ((2 ^ k : Nat) - 1 : Int)).toBitVec.toNat = (x % ((2 ^ k : Nat) : Int)).toNat := by
    rw [Int64.toBitVec_and, BitVec.toNat_and, tn64, tn64]
    rw [show (((2 ^ k : Nat) - 1 : Int) % 18446744073709551616).toNat = 2 ^ k - 1 by omega]
    rw [Nat.and_two_pow_sub_one_eq_mod]
    have e := Int.emod_emod_of_dvd x hd
    have n1 := Int.emod_nonneg x (show (18446744073709551616 : Int) ≠ 0 by decide)
    have n2 := Int.emod_nonneg x (show ((2 ^ k : Nat) : Int) ≠ 0 by omega)
    apply Int.ofNat.inj
    show (((x % 18446744073709551616).toNat % 2 ^ k : Nat) : Int) = (((x % ((2 ^ k : Nat) : Int)).toNat : Nat) : Int)
    rw [Int.natCast_emod, Int.toNat_of_nonneg n1, Int.toNat_of_nonneg n2, e]
  have n2 := Int.emod_nonneg x (show ((2 ^ k : Nat) : Int) ≠ 0 by omega)
  have n3 := Int.emod_lt_of_pos x (show (0 : Int) < ((2 ^ k : Nat) : Int) by omega)
  unfold landV
  rw [ti_of64 _ h1 (by omega), Int.toNat_of_nonneg n2]
theorem land30 (x : Int) : landV x 1073741823 = x % 1073741824 := land_mask x 30 (by decide)
theorem iand_mask (x : Int) (k : Nat) (hk : k ≤ 30) : iandV x ((2 ^ k : Nat) - 1 : Int) = x % ((2 ^ k : Nat) : Int) := by
  have hp : 2 ^ k ≤ 2 ^ 30 := Nat.pow_le_pow_right (by decide) hk
  have hp0 : 0 < 2 ^ k := Nat.two_pow_pos k
  have hd : ((2 ^ k : Nat) : Int) ∣ 4294967296 := by
    refine ⟨((2 ^ (32 - k) : Nat) : Int), ?_⟩
    rw [← Int.natCast_mul, ← Nat.pow_add, show k + (32 - k) = 32 by omega]
    decide
  have h1 : (Int32.ofInt x &&& Int32.ofInt ((2 ^ k : Nat) - 1 : Int)).toBitVec.toNat = (x % ((2 ^ k : Nat) : Int)).toNat := by
    rw [Int32.toBitVec_and, BitVec.toNat_and, tn32, tn32]
    rw [show (((2 ^ k : Nat) - 1 : Int) % 4294967296).toNat = 2 ^ k - 1 by omega]
    rw [Nat.and_two_pow_sub_one_eq_mod]
    have e := Int.emod_emod_of_dvd x hd
    have n1 := Int.emod_nonneg x (show (4294967296 : Int) ≠ 0 by decide)
    have n2 := Int.emod_nonneg x (show ((2 ^ k : Nat) : Int) ≠ 0 by omega)
    apply Int.ofNat.inj
    show (((x % 4294967296).toNat % 2 ^ k : Nat) : Int) = (((x % ((2 ^ k : Nat) : Int)).toNat : Nat) : Int)
    rw [Int.natCast_emod, Int.toNat_of_nonneg n1, Int.toNat_of_nonneg n2, e]
  have n2 := Int.emod_nonneg x (show ((2 ^ k : Nat) : Int) ≠ 0 by omega)
  have n3 := Int.emod_lt_of_pos x (show (0 : Int) < ((2 ^ k : Nat) : Int) by omega)
  unfold iandV
  rw [ti_of32 _ h1 (by omega), Int.toNat_of_nonneg n2]
theorem iand30 (x : Int) : iandV x 1073741823 = x % 1073741824 := iand_mask x 30 (by decide)
theorem iand1 (x : Int) : iandV x 1 = x % 2 := iand_mask x 1 (by decide)
theorem iand31 (x : Int) : iandV x 31 = x % 32 := iand_mask x 5 (by decide)
-- shifts of longs by 30
theorem lsh_c : (Int32.ofInt 30).toInt64 &&& 63 = (30 : Int64) := by decide
theorem lshl30 (x : Int) : lshlV x 30 = w64 (x * 1073741824) := by
  unfold lshlV
  rw [lsh_c]
  have h : Int64.ofInt x <<< (30 : Int64) = Int64.ofInt (x * 1073741824) := by
    apply Int64.toBitVec.inj
    rw [Int64.toBitVec_ofInt, BitVec.ofInt_mul, Int64.toBitVec_shiftLeft, Int64.toBitVec_ofInt, show (BitVec.smod (Int64.toBitVec 30) 64) = 30#64 by decide]
    rw [BitVec.shiftLeft_eq', BitVec.shiftLeft_eq_mul_twoPow]
    congr 1
  rw [h, Int64.toInt_ofInt]
  rfl
theorem lshr30 {x : Int} (hx : i64 x) : lshrV x 30 = x / 1073741824 := by
  unfold lshrV
  rw [lsh_c, ← Int64.toInt_toBitVec, Int64.toBitVec_shiftRight, show (BitVec.smod (Int64.toBitVec 30) 64) = 30#64 by decide, BitVec.toInt_sshiftRight', Int64.toInt_toBitVec, ti64 hx, Int.shiftRight_eq_div_pow]
  rfl
theorem lushr30 {x : Int} (h0 : 0 ≤ x) (hx : i64 x) : lushrV x 30 = x / 1073741824 := by
  unfold lushrV
  have h1 : ((Int64.ofInt x).toUInt64 >>> ((Int32.ofInt 30).toInt64.toUInt64 &&& Int64.toUInt64 63)).toInt64.toBitVec.toNat = (x / 1073741824).toNat := by
    rw [show ((Int32.ofInt 30).toInt64.toUInt64 &&& Int64.toUInt64 63) = (30 : UInt64) by decide, UInt64.toBitVec_toInt64]
    show ((Int64.ofInt x).toUInt64 >>> (30 : UInt64)).toNat = _
    rw [UInt64.toNat_shiftRight]
    show (Int64.ofInt x).toBitVec.toNat >>> 30 = _
    rw [tn64, Nat.shiftRight_eq_div_pow]
    have : x % 18446744073709551616 = x := Int.emod_eq_of_lt h0 (by omega)
    rw [this]
    omega
  rw [ti_of64 _ h1 (by omega)]
  omega
/-- two numbers whose bits lie apart -/
theorem lor_add {r y : Int} (h0 : 0 ≤ r) (hr : r < 2147483648) (hy0 : 0 ≤ y) (hy : y < 1073741824) : lorV (r * 1073741824) y = r * 1073741824 + y := by
  unfold lorV
  have h1 : (Int64.ofInt (r * 1073741824) ||| Int64.ofInt y).toBitVec.toNat = (r * 1073741824 + y).toNat := by
    rw [Int64.toBitVec_or, BitVec.toNat_or, tn64, tn64]
    rw [Int.emod_eq_of_lt (by omega) (by omega), Int.emod_eq_of_lt (by omega) (by omega)]
    rw [show (r * 1073741824).toNat = 2 ^ 30 * r.toNat by omega, show (r * 1073741824 + y).toNat = 2 ^ 30 * r.toNat + y.toNat by omega]
    exact (Nat.two_pow_add_eq_or_of_lt (by omega) _).symm
  rw [ti_of64 _ h1 (by omega)]
  omega
-- shifts of ints
theorem iush30 {x : Int} (h0 : 0 ≤ x) (hx : i32 x) : iushrV x 30 = x / 1073741824 := by
  unfold iushrV
  have h1 : ((Int32.ofInt x).toUInt32 >>> ((Int32.ofInt 30).toUInt32 &&& Int32.toUInt32 31)).toInt32.toBitVec.toNat = (x / 1073741824).toNat := by
    rw [show ((Int32.ofInt 30).toUInt32 &&& Int32.toUInt32 31) = (30 : UInt32) by decide, UInt32.toBitVec_toInt32]
    show ((Int32.ofInt x).toUInt32 >>> (30 : UInt32)).toNat = _
    rw [UInt32.toNat_shiftRight]
    show (Int32.ofInt x).toBitVec.toNat >>> 30 = _
    rw [tn32, Nat.shiftRight_eq_div_pow]
    have : x % 4294967296 = x := Int.emod_eq_of_lt h0 (by omega)
    rw [this]
    omega
  rw [ti_of32 _ h1 (by omega)]
  omega
theorem iush31 {x : Int} (hx : i32 x) : iushrV x 31 = if x < 0 then 1 else 0 := by
  unfold iushrV
  have h1 : ((Int32.ofInt x).toUInt32 >>> ((Int32.ofInt 31).toUInt32 &&& Int32.toUInt32 31)).toInt32.toBitVec.toNat = (if x < 0 then 1 else 0) := by
    rw [show ((Int32.ofInt 31).toUInt32 &&& Int32.toUInt32 31) = (31 : UInt32) by decide, UInt32.toBitVec_toInt32]
    show ((Int32.ofInt x).toUInt32 >>> (31 : UInt32)).toNat = _
    rw [UInt32.toNat_shiftRight]
    show (Int32.ofInt x).toBitVec.toNat >>> 31 = _
    rw [tn32, Nat.shiftRight_eq_div_pow]
    by_cases q : x < 0
    · rw [if_pos q]
      have : x % 4294967296 = x + 4294967296 := by omega
      rw [this]
      omega
    · rw [if_neg q]
      have : x % 4294967296 = x := Int.emod_eq_of_lt (by omega) (by omega)
      rw [this]
      omega
  rw [ti_of32 _ h1 (by split <;> decide)]
  split <;> rfl
