theorem iand15 {x : Int} (h0 : -2147483648 ≤ x) (h1 : x < 2147483648) : iand x 15 = x % 16 := by
  unfold iand
  have e15 : (Int32.ofInt 15).toBitVec = 15#32 := by decide
  have e1 : (Int32.ofInt x &&& Int32.ofInt 15).toBitVec = (Int32.ofInt x).toBitVec &&& 15#32 := by rw [Int32.toBitVec_and, e15]
  have e2 : ((Int32.ofInt x).toBitVec &&& 15#32).toNat = (Int32.ofInt x).toBitVec.toNat % 16 := by
    rw [BitVec.toNat_and]
    exact Nat.and_two_pow_sub_one_eq_mod _ 4
  have e3 : ((Int32.ofInt x).toBitVec.toNat : Int) = x % 4294967296 := by
    show ((BitVec.ofInt 32 x).toNat : Int) = _
    rw [BitVec.toNat_ofInt]
    omega
  show (Int32.ofInt x &&& Int32.ofInt 15).toBitVec.toInt = x % 16
  rw [e1, BitVec.toInt_eq_toNat_cond, e2]
  have : (Int32.ofInt x).toBitVec.toNat % 16 < 16 := Nat.mod_lt _ (by decide)
  rw [if_pos (by omega)]
  omega
