-- bits
theorem sh64 : ∀ k : Fin 64, (((Int32.ofInt (k.val : Int)).toInt64 &&& 63).toBitVec.smod 64).toNat = k.val := by decide +kernel
theorem sh32 : ∀ k : Fin 32, (((Int32.ofInt (k.val : Int)) &&& 31).toBitVec.smod 32).toNat = k.val := by decide +kernel
theorem b_lshr {a : Int} {k : Nat} (h : am_r64 a) (hk : k < 64) : am_lshr a (k : Int) = a / ((2 ^ k : Nat) : Int) := by
  show ((Int64.ofInt a >>> ((Int32.ofInt (k : Int)).toInt64 &&& 63)).toBitVec).toInt = _
  rw [Int64.toBitVec_shiftRight, BitVec.toInt_sshiftRight', sh64 ⟨k, hk⟩]
  show (Int64.ofInt a).toInt >>> k = _
  rw [nm_l h, Int.shiftRight_eq_div_pow]
theorem b_shr {a : Int} {k : Nat} (h : am_r32 a) (hk : k < 32) : am_shr a (k : Int) = a / ((2 ^ k : Nat) : Int) := by
  show ((Int32.ofInt a >>> ((Int32.ofInt (k : Int)) &&& 31)).toBitVec).toInt = _
  rw [Int32.toBitVec_shiftRight, BitVec.toInt_sshiftRight', sh32 ⟨k, hk⟩]
  show (Int32.ofInt a).toInt >>> k = _
  rw [nm_i h, Int.shiftRight_eq_div_pow]
theorem b_shl : ∀ k : Fin 31, am_shl 1 (k.val : Int) = ((2 ^ k.val : Nat) : Int) := by decide +kernel
theorem nb32 {a : Nat} (h : a < 2147483648) : (Int32.ofInt (a : Int)).toBitVec.toNat = a := by
  rw [Int32.toBitVec_ofInt, BitVec.ofInt_natCast, BitVec.toNat_ofNat, Nat.mod_eq_of_lt (by omega)]
theorem nb64 {a : Nat} (h : a < 9223372036854775808) : (Int64.ofInt (a : Int)).toBitVec.toNat = a := by
  rw [Int64.toBitVec_ofInt, BitVec.ofInt_natCast, BitVec.toNat_ofNat, Nat.mod_eq_of_lt (by omega)]
theorem ti32 (x : Int32) (h : x.toBitVec.toNat < 2147483648) : x.toInt = (x.toBitVec.toNat : Int) := BitVec.toInt_eq_toNat_of_lt (by omega)
theorem ti64 (x : Int64) (h : x.toBitVec.toNat < 9223372036854775808) : x.toInt = (x.toBitVec.toNat : Int) := BitVec.toInt_eq_toNat_of_lt (by omega)
theorem b_and {a b : Nat} (ha : a < 2147483648) (hb : b < 2147483648) : am_and (a : Int) (b : Int) = ((a &&& b : Nat) : Int) := by
  unfold am_and
  have e : (Int32.ofInt (a : Int) &&& Int32.ofInt (b : Int)).toBitVec.toNat = a &&& b := by rw [Int32.toBitVec_and, BitVec.toNat_and, nb32 ha, nb32 hb]
  have : a &&& b ≤ a := Nat.and_le_left
  rw [ti32 _ (by omega), e]
theorem b_or {a b : Nat} (ha : a < 2147483648) (hb : b < 2147483648) : am_or (a : Int) (b : Int) = ((a ||| b : Nat) : Int) := by
  unfold am_or
  have e : (Int32.ofInt (a : Int) ||| Int32.ofInt (b : Int)).toBitVec.toNat = a ||| b := by rw [Int32.toBitVec_or, BitVec.toNat_or, nb32 ha, nb32 hb]
  have : a ||| b < 2 ^ 31 := Nat.or_lt_two_pow ha hb
  rw [ti32 _ (by omega), e]
theorem b_xor {a b : Nat} (ha : a < 2147483648) (hb : b < 2147483648) : am_xor (a : Int) (b : Int) = ((a ^^^ b : Nat) : Int) := by
  unfold am_xor
  have e : (Int32.ofInt (a : Int) ^^^ Int32.ofInt (b : Int)).toBitVec.toNat = a ^^^ b := by rw [Int32.toBitVec_xor, BitVec.toNat_xor, nb32 ha, nb32 hb]
  have : a ^^^ b < 2 ^ 31 := Nat.xor_lt_two_pow ha hb
  rw [ti32 _ (by omega), e]
theorem b_land {a b : Nat} (ha : a < 9223372036854775808) (hb : b < 9223372036854775808) : am_land (a : Int) (b : Int) = ((a &&& b : Nat) : Int) := by
  unfold am_land
  have e : (Int64.ofInt (a : Int) &&& Int64.ofInt (b : Int)).toBitVec.toNat = a &&& b := by rw [Int64.toBitVec_and, BitVec.toNat_and, nb64 ha, nb64 hb]
  have : a &&& b ≤ a := Nat.and_le_left
  rw [ti64 _ (by omega), e]
theorem b_lor {a b : Nat} (ha : a < 9223372036854775808) (hb : b < 9223372036854775808) : am_lor (a : Int) (b : Int) = ((a ||| b : Nat) : Int) := by
  unfold am_lor
  have e : (Int64.ofInt (a : Int) ||| Int64.ofInt (b : Int)).toBitVec.toNat = a ||| b := by rw [Int64.toBitVec_or, BitVec.toNat_or, nb64 ha, nb64 hb]
  have : a ||| b < 2 ^ 63 := Nat.or_lt_two_pow ha hb
  rw [ti64 _ (by omega), e]
theorem b_lshl {a k : Nat} (hk : k < 64) (h : a * 2 ^ k < 9223372036854775808) : am_lshl (a : Int) (k : Int) = ((a * 2 ^ k : Nat) : Int) := by
  have hp : 1 ≤ 2 ^ k := Nat.one_le_two_pow
  have ha : a ≤ a * 2 ^ k := Nat.le_mul_of_pos_right a hp
  have e : (Int64.ofInt (a : Int) <<< ((Int32.ofInt (k : Int)).toInt64 &&& 63)).toBitVec.toNat = a * 2 ^ k := by
    rw [Int64.toBitVec_shiftLeft]
    show (BitVec.shiftLeft (Int64.ofInt (a : Int)).toBitVec (((Int32.ofInt (k : Int)).toInt64 &&& 63).toBitVec.smod 64).toNat).toNat = _
    rw [sh64 ⟨k, hk⟩]
    show ((Int64.ofInt (a : Int)).toBitVec <<< k).toNat = _
    rw [BitVec.toNat_shiftLeft, nb64 (by omega), Nat.shiftLeft_eq, Nat.mod_eq_of_lt (by omega)]
  unfold am_lshl
  rw [ti64 _ (by omega), e]
theorem b_l2i {a : Int} (h : am_r32 a) : am_l2i a = a := by
  unfold am_l2i
  rw [nm_l2i h, nm_i h]
/-- the low five bits of a cut number -/
theorem b_low {a : Nat} (h : a < 9223372036854775808) : am_and (am_l2i (a : Int)) 31 = ((a % 32 : Nat) : Int) := by
  unfold am_and am_l2i
  rw [nm_iof]
  have e : ((Int64.ofInt (a : Int)).toInt32 &&& Int32.ofInt 31).toBitVec.toNat = a % 32 := by
    rw [Int32.toBitVec_and, BitVec.toNat_and]
    have e1 : (Int64.ofInt (a : Int)).toInt32.toBitVec.toNat = a % 4294967296 := by
      show ((Int64.ofInt (a : Int)).toBitVec.signExtend 32).toNat = _
      rw [BitVec.signExtend_eq_setWidth_of_le _ (by omega), BitVec.toNat_setWidth, nb64 h]
    have e2 : (Int32.ofInt 31).toBitVec.toNat = 2 ^ 5 - 1 := by decide +kernel
    rw [e1, e2, Nat.and_two_pow_sub_one_eq_mod]
    omega
  rw [ti32 _ (by omega), e]
theorem b_land31 {a : Nat} (h : a < 9223372036854775808) : am_land (a : Int) 31 = ((a % 32 : Nat) : Int) := by
  have := b_land (a := a) (b := 31) h (by omega)
  rw [show (31 : Nat) = 2 ^ 5 - 1 by decide, Nat.and_two_pow_sub_one_eq_mod] at this
  exact this
theorem b_i2b (a : Int) : -128 ≤ am_i2b a ∧ am_i2b a ≤ 127 := by
  unfold am_i2b
  rw [Int8.toInt_toInt32]
  have h1 := Int8.le_toInt (Int32.ofInt a).toInt8
  have h2 := Int8.toInt_lt (Int32.ofInt a).toInt8
  omega
/-- a bit asked for as the programs do -/
theorem b_bit {a k : Nat} (h : a < 2147483648) (hk : k < 31) : am_and (am_shr (a : Int) (k : Int)) 1 = if a.testBit k then 1 else 0 := by
  rw [b_shr ⟨by omega, by omega⟩ (by omega)]
  have e : (a : Int) / ((2 ^ k : Nat) : Int) = ((a / 2 ^ k : Nat) : Int) := rfl
  have hle : a / 2 ^ k ≤ a := Nat.div_le_self _ _
  have := b_and (a := a / 2 ^ k) (b := 1) (by omega) (by omega)
  rw [e]
  refine this.trans ?_
  rw [Nat.and_one_is_mod, Nat.testBit_eq_decide_div_mod_eq]
  rcases Nat.mod_two_eq_zero_or_one (a / 2 ^ k) with q | q <;> simp [q]
theorem b_set {a k : Nat} (h : a < 2147483648) (hk : k < 31) : am_or (a : Int) (am_shl 1 (k : Int)) = ((a ||| 2 ^ k : Nat) : Int) := by
  rw [b_shl ⟨k, hk⟩]
  exact b_or h (Nat.pow_lt_pow_right (by omega) hk)
