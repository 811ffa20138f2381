
/-! A LONG AS A ROW OF TRUTHS. -/
theorem lb_bv (n : Nat) : (Int64.ofNat n).toBitVec = BitVec.ofNat 64 n := rfl
theorem lb_and1 (n : Nat) : Int64.ofNat n &&& 1 = Int64.ofNat (n % 2) := by
  apply Int64.toBitVec_inj.mp
  rw [Int64.toBitVec_and, lb_bv, lb_bv]
  apply BitVec.eq_of_toNat_eq
  rw [BitVec.toNat_and, BitVec.toNat_ofNat, BitVec.toNat_ofNat]
  show n % 2 ^ 64 &&& 1 = _
  rw [Nat.and_one_is_mod]
  omega
theorem lb_shr {n : Nat} (h : n < 2 ^ 62) : ((Int64.ofNat n).toUInt64 >>> ((1 : Int32).toInt64.toUInt64 &&& Int64.toUInt64 63)).toInt64 = Int64.ofNat (n / 2) := by
  rw [show (1 : Int32).toInt64.toUInt64 &&& Int64.toUInt64 63 = 1 by decide]
  apply Int64.toBitVec_inj.mp
  rw [UInt64.toBitVec_toInt64, UInt64.toBitVec_shiftRight, Int64.toBitVec_toUInt64, lb_bv, lb_bv]
  apply BitVec.eq_of_toNat_eq
  show (BitVec.ofNat 64 n >>> (1#64)).toNat = _
  rw [BitVec.ushiftRight_eq', BitVec.toNat_ushiftRight, BitVec.toNat_ofNat, BitVec.toNat_ofNat]
  show (n % 2 ^ 64) >>> 1 = _
  rw [Nat.shiftRight_eq_div_pow, BitVec.toNat_ofNat]
  omega
theorem lb_shl {n : Nat} (h : n < 2 ^ 62) : Int64.ofNat n <<< ((1 : Int32).toInt64 &&& 63) = Int64.ofNat (2 * n) := by
  rw [show (1 : Int32).toInt64 &&& 63 = 1 by decide]
  apply Int64.toBitVec_inj.mp
  rw [Int64.toBitVec_shiftLeft, lb_bv, lb_bv]
  apply BitVec.eq_of_toNat_eq
  show (BitVec.ofNat 64 n <<< (1#64)).toNat = _
  rw [BitVec.shiftLeft_eq', BitVec.toNat_shiftLeft, BitVec.toNat_ofNat, BitVec.toNat_ofNat]
  show (n % 2 ^ 64) <<< 1 % 2 ^ 64 = _
  rw [Nat.shiftLeft_eq, BitVec.toNat_ofNat]
  omega
theorem lb_or {n : Nat} (h : n < 2 ^ 62) {b : Nat} (hb : b < 2) : Int64.ofNat (2 * n) ||| Int64.ofNat b = Int64.ofNat (2 * n + b) := by
  apply Int64.toBitVec_inj.mp
  rw [Int64.toBitVec_or, lb_bv, lb_bv, lb_bv]
  apply BitVec.eq_of_toNat_eq
  rw [BitVec.toNat_or, BitVec.toNat_ofNat, BitVec.toNat_ofNat, BitVec.toNat_ofNat, Nat.mod_eq_of_lt (by omega), Nat.mod_eq_of_lt (by omega), Nat.mod_eq_of_lt (by omega)]
  have := Nat.two_pow_add_eq_or_of_lt (i := 1) (b := b) (by omega) n
  rw [show 2 ^ 1 * n = 2 * n by omega] at this
  exact this.symm
theorem lb_xor {n : Nat} (h : n < 2 ^ 62) {b : Nat} (hb : b < 2) : Int64.ofNat (2 * n + b) ^^^ 1 = Int64.ofNat (2 * n + (1 - b)) := by
  apply Int64.toBitVec_inj.mp
  rw [Int64.toBitVec_xor, lb_bv, lb_bv]
  apply BitVec.eq_of_toNat_eq
  rw [BitVec.toNat_xor, BitVec.toNat_ofNat, BitVec.toNat_ofNat, Nat.mod_eq_of_lt (by omega), Nat.mod_eq_of_lt (by omega)]
  show (2 * n + b) ^^^ 1 = _
  apply Nat.eq_of_testBit_eq
  intro i
  rw [Nat.testBit_xor]
  match i with
  | 0 => 
    rw [Nat.testBit_zero, Nat.testBit_zero, Nat.testBit_zero]
    match b, hb with
    | 0, _ => simp
    | 1, _ => simp
  | i + 1 =>
    rw [Nat.testBit_succ, Nat.testBit_succ, Nat.testBit_succ, show (2 * n + b) / 2 = n by omega, show (2 * n + (1 - b)) / 2 = n by omega]
    simp
theorem lb_and1m {n a : Nat} (h : n < 2 ^ 62) (ha : a < 2) : Int64.ofNat (2 * n + a) &&& (-2) = Int64.ofNat (2 * n) := by
  apply Int64.toBitVec_inj.mp
  rw [Int64.toBitVec_and, lb_bv, lb_bv, show (-2 : Int64).toBitVec = BitVec.ofNat 64 (2 ^ 64 - 2) by decide]
  apply BitVec.eq_of_getLsbD_eq
  intro i hi
  rw [BitVec.getLsbD_and, BitVec.getLsbD_ofNat, BitVec.getLsbD_ofNat, BitVec.getLsbD_ofNat]
  match i, hi with
  | 0, _ =>
    rw [Nat.testBit_zero, Nat.testBit_zero, Nat.testBit_zero]
    simp
  | i + 1, hi =>
    rw [Nat.testBit_succ, Nat.testBit_succ, Nat.testBit_succ, show (2 * n + a) / 2 = n by omega, show 2 * n / 2 = n by omega, show (2 ^ 64 - 2) / 2 = 2 ^ 63 - 1 by decide, Nat.testBit_two_pow_sub_one]
    simp [show i < 63 by omega, hi]
theorem lb_and {n : Nat} (h : n < 2 ^ 62) {a b : Nat} (ha : a < 2) (hb : b < 2) : Int64.ofNat (2 * n + a) &&& (Int64.ofNat b ||| -2) = Int64.ofNat (2 * n + a * b) := by
  match b, hb with
  | 0, _ =>
    rw [show Int64.ofNat 0 ||| -2 = -2 by decide, lb_and1m h ha]
    rfl
  | 1, _ =>
    rw [show Int64.ofNat 1 ||| -2 = -1 by decide, Nat.mul_one]
    simp
