/-! LAYER 2: longs that are no less than 0 -/
abbrev L6 (n : Nat) : Int64 := Int64.ofNat n
theorem l_int {n : Nat} (h : n < 9223372036854775808) : (L6 n).toInt = (n : Int) := Int64.toInt_ofNat_of_lt (by simpa using h)
theorem l_eq {x y : Int64} : x = y ↔ x.toInt = y.toInt := Int64.toInt_inj.symm
theorem l_c : ∀ k : Nat, k < 64 → ((Int32.toInt64 (Int32.ofNat k)) &&& 63).toBitVec.smod 64 = BitVec.ofNat 64 k := by decide +kernel
theorem l_shr {n k : Nat} (hn : n < 9223372036854775808) (hk : k < 64) : L6 n >>> ((Int32.toInt64 (Int32.ofNat k)) &&& 63) = L6 (n / 2 ^ k) := by
  have hd : n / 2 ^ k ≤ n := Nat.div_le_self _ _
  refine l_eq.mpr ?_
  rw [l_int (n := n / 2 ^ k) (by omega)]
  show (L6 n >>> ((Int32.toInt64 (Int32.ofNat k)) &&& 63)).toBitVec.toInt = _
  rw [Int64.toBitVec_shiftRight, l_c k hk, BitVec.sshiftRight_eq', BitVec.toInt_sshiftRight, BitVec.toNat_ofNat, Nat.mod_eq_of_lt (show k < 2 ^ 64 by omega), Int.shiftRight_eq_div_pow]
  have e : (L6 n).toBitVec.toInt = (n : Int) := l_int hn
  rw [e]
  exact (Int.natCast_ediv n (2 ^ k)).symm
theorem l_shl {n k : Nat} (hk : k < 64) (hn : n * 2 ^ k < 9223372036854775808) : L6 n <<< ((Int32.toInt64 (Int32.ofNat k)) &&& 63) = L6 (n * 2 ^ k) := by
  refine Int64.toBitVec_inj.mp ?_
  rw [Int64.toBitVec_shiftLeft, l_c k hk]
  refine BitVec.eq_of_toNat_eq ?_
  show (BitVec.ofNat 64 n <<< BitVec.ofNat 64 k).toNat = (BitVec.ofNat 64 (n * 2 ^ k)).toNat
  rw [BitVec.shiftLeft_eq', BitVec.toNat_shiftLeft, BitVec.toNat_ofNat, BitVec.toNat_ofNat, BitVec.toNat_ofNat, Nat.mod_eq_of_lt (show k < 2 ^ 64 by omega), Nat.shiftLeft_eq, Nat.mul_mod, Nat.mod_mod, ← Nat.mul_mod]
theorem l_mask {n k : Nat} (hk : k < 63) (hn : n < 9223372036854775808) : L6 n &&& L6 (2 ^ k - 1) = L6 (n % 2 ^ k) := by
  have hp : 2 ^ k < 9223372036854775808 := show (2 : Nat) ^ k < 2 ^ 63 from Nat.pow_lt_pow_right (by decide) hk
  refine Int64.toBitVec_inj.mp ?_
  rw [Int64.toBitVec_and]
  refine BitVec.eq_of_toNat_eq ?_
  show (BitVec.ofNat 64 n &&& BitVec.ofNat 64 (2 ^ k - 1)).toNat = (BitVec.ofNat 64 (n % 2 ^ k)).toNat
  have hm : n % 2 ^ k ≤ n := Nat.mod_le _ _
  rw [BitVec.toNat_and, BitVec.toNat_ofNat, BitVec.toNat_ofNat, BitVec.toNat_ofNat, Nat.mod_eq_of_lt (show n < 2 ^ 64 by omega), Nat.mod_eq_of_lt (show 2 ^ k - 1 < 2 ^ 64 by omega), Nat.and_two_pow_sub_one_eq_mod]
  exact (Nat.mod_eq_of_lt (show n % 2 ^ k < 2 ^ 64 by omega)).symm
theorem l_add {a b : Nat} (h : a + b < 9223372036854775808) : L6 a + L6 b = L6 (a + b) := by
  refine l_eq.mpr ?_
  rw [Int64.toInt_add, l_int (by omega), l_int (by omega), l_int h]
  exact Int.bmod_eq_of_le (by simp; omega) (by simp; omega)
theorem l_sub {a b : Nat} (h : b ≤ a) (ha : a < 9223372036854775808) : L6 a - L6 b = L6 (a - b) := by
  refine l_eq.mpr ?_
  rw [Int64.toInt_sub, l_int (by omega), l_int (by omega), l_int (by omega)]
  rw [Int.bmod_eq_of_le (by simp; omega) (by simp; omega)]
  omega
theorem l_mul {a b : Nat} (h : a * b < 9223372036854775808) (ha : a < 9223372036854775808) (hb : b < 9223372036854775808) : L6 a * L6 b = L6 (a * b) := by
  refine l_eq.mpr ?_
  rw [Int64.toInt_mul, l_int ha, l_int hb, l_int h]
  rw [← Int.natCast_mul]
  exact Int.bmod_eq_of_le (by simp; omega) (by simp; omega)
theorem l_i32 {n : Nat} (h : n < 2147483648) : Int64.toInt32 (L6 n) = Int32.ofNat n := by
  refine Int32.toBitVec_inj.mp (BitVec.eq_of_toNat_eq ?_)
  show ((BitVec.ofNat 64 n).signExtend 32).toNat = (BitVec.ofNat 32 n).toNat
  rw [BitVec.signExtend_eq_setWidth_of_le _ (by decide), BitVec.toNat_setWidth, BitVec.toNat_ofNat, BitVec.toNat_ofNat]
  omega
theorem l_of32 {n : Nat} (h : n < 2147483648) : Int32.toInt64 (Int32.ofNat n) = L6 n := by
  refine l_eq.mpr ?_
  rw [Int32.toInt_toInt64, i_ofNat h, l_int (by omega)]
