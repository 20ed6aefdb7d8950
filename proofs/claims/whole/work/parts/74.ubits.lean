/-! BITS COUNTED -/
def U (x : Int) : Nat := (Int64.ofInt x).toBitVec.toNat
theorem U_lt (x : Int) : U x < 18446744073709551616 := (Int64.ofInt x).toBitVec.isLt
theorem U_int (x : Int) : (U x : Int) = x % 18446744073709551616 := by
  unfold U
  show ((BitVec.ofInt 64 x).toNat : Int) = _
  rw [BitVec.toNat_ofInt]
  omega
theorem U_w64 (x : Int) : U (w64 x) = U x := by unfold U w64; rw [Int64.ofInt_toInt]
theorem U_land (a b : Int) : U (land a b) = U a &&& U b := by unfold U land; rw [Int64.ofInt_toInt, Int64.toBitVec_and, BitVec.toNat_and]
theorem U_lushr (a : Int) {k : Int} (h0 : 0 ≤ k) (h1 : k < 64) : U (lushr a k) = U a / 2 ^ k.toNat := by
  obtain ⟨b, rfl⟩ := k63 h0 h1
  unfold U lushr
  rw [Int64.ofInt_toInt]
  have key : ∀ b : Fin 64, ((Int32.ofInt (b.val : Int)).toInt64.toUInt64 &&& Int64.toUInt64 63).toBitVec.toNat = b.val := by decide +kernel
  show (((Int64.ofInt a).toUInt64 >>> ((Int32.ofInt (b.val : Int)).toInt64.toUInt64 &&& Int64.toUInt64 63)).toBitVec).toNat = _
  rw [UInt64.toBitVec_shiftRight]
  rw [show ((b.val : Int)).toNat = b.val by simp]
  rw [BitVec.ushiftRight_eq', BitVec.toNat_ushiftRight]
  have k2 := key b
  have e : (((Int32.ofInt (b.val : Int)).toInt64.toUInt64 &&& Int64.toUInt64 63).toBitVec % 64).toNat = b.val := by
    rw [BitVec.toNat_umod, k2]
    have := b.isLt
    show b.val % 64 = b.val
    omega
  rw [e, Nat.shiftRight_eq_div_pow]
  rfl
theorem U_add (a b : Int) : U (a + b) = (U a + U b) % 18446744073709551616 := by
  have h1 := U_int (a + b)
  have h2 := U_int a
  have h3 := U_int b
  omega
theorem U_sub (a b : Int) (h : U b ≤ U a) : U (a - b) = U a - U b := by
  have h1 := U_int (a - b)
  have h2 := U_int a
  have h3 := U_int b
  have h4 := U_lt a
  omega
theorem iand127 {x : Int} (h0 : -2147483648 ≤ x) (h1 : x < 2147483648) : iand x 127 = x % 128 := by
  unfold iand
  have e15 : (Int32.ofInt 127).toBitVec = 127#32 := by decide
  have e1 : (Int32.ofInt x &&& Int32.ofInt 127).toBitVec = (Int32.ofInt x).toBitVec &&& 127#32 := by rw [Int32.toBitVec_and, e15]
  have e2 : ((Int32.ofInt x).toBitVec &&& 127#32).toNat = (Int32.ofInt x).toBitVec.toNat % 128 := by
    rw [BitVec.toNat_and]
    exact Nat.and_two_pow_sub_one_eq_mod _ 7
  have e3 : ((Int32.ofInt x).toBitVec.toNat : Int) = x % 4294967296 := by
    show ((BitVec.ofInt 32 x).toNat : Int) = _
    rw [BitVec.toNat_ofInt]
    omega
  show (Int32.ofInt x &&& Int32.ofInt 127).toBitVec.toInt = x % 128
  rw [e1, BitVec.toInt_eq_toNat_cond, e2]
  have : (Int32.ofInt x).toBitVec.toNat % 128 < 128 := Nat.mod_lt _ (by decide)
  rw [if_pos (by omega)]
  omega
theorem w32_mod (x : Int) : (-2147483648 ≤ w32 x ∧ w32 x < 2147483648) ∧ w32 x % 4294967296 = x % 4294967296 := by
  unfold w32
  have e : (Int32.ofInt x).toInt = x.bmod (2 ^ 32) := by rw [Int32.toInt_ofInt]
  rw [e]
  have := Int.bmod_def x (2 ^ 32)
  rw [this]
  split <;> omega
