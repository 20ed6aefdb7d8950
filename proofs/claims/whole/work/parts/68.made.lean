theorem iand15 {x : Int} (h0 : -2147483648 ≤ x) (h1 : x < 2147483648) : iand x 15 = x % 16 := by
  unfold iand
  have e15 : (Int32.ofInt 15).toBitVec = 15#32 := by decide
  have e1 : (Int32.ofInt x &&& Int32.ofInt 15).toBitVec = (Int32.ofInt x).toBitVec &&& 15#32 := by rw [Int32.toBitVec_and, e15]
  have e2 : ((Int32.ofInt x).toBitVec &&& 15#32).toNat = (Int32.ofInt x).toBitVec.toNat % 16 := by
    rw [BitVec.toNat_and]
    exact Nat.and_two_pow_sub_one_eq_mod _ 4
  have e3 : ((Int32.ofInt x).toBitVec.toNat : Int) = x % 4294967296 := by
    show ((BitVec.ofInt 32 x).toNat : Int) = _
    rw [BitVec.toNat_ofInt]
    omega
  show (Int32.ofInt x &&& Int32.ofInt 15).toBitVec.toInt = x % 16
  rw [e1, BitVec.toInt_eq_toNat_cond, e2]
  have : (Int32.ofInt x).toBitVec.toNat % 16 < 16 := Nat.mod_lt _ (by decide)
  rw [if_pos (by omega)]
  omega
theorem ixor16 {x : Int} (h0 : -2147483648 ≤ x) (h1 : x < 2147483648) : 0 ≤ ixor x 16 ↔ 0 ≤ x := by
  have e : (Int32.ofInt x).toInt = x := i32_to ⟨h0, by omega⟩
  have e' : (Int32.ofInt x).toBitVec.toInt = x := e
  have m1 : (Int32.ofInt x).toBitVec.msb = decide (x < 0) := by rw [BitVec.msb_eq_toInt, e']
  have m2 : (Int32.ofInt x ^^^ Int32.ofInt 16).toBitVec.msb = decide (ixor x 16 < 0) := by rw [BitVec.msb_eq_toInt]; rfl
  have m3 : (Int32.ofInt x ^^^ Int32.ofInt 16).toBitVec.msb = (Int32.ofInt x).toBitVec.msb := by
    rw [Int32.toBitVec_xor, BitVec.msb_xor]
    have : (Int32.ofInt 16).toBitVec.msb = false := by decide
    rw [this, Bool.xor_false]
  rw [m3, m1] at m2
  have := decide_eq_decide.mp m2
  omega
theorem irm16 {x : Int} (h0 : -99999 ≤ x) (h1 : x ≤ 99999) : irm x 16 = x - x.tdiv 16 * 16 := by
  have e : (Int32.ofInt x).toInt = x := i32_to ⟨by omega, by omega⟩
  have e16 : (Int32.ofInt 16).toInt = 16 := by decide
  have hd : -99999 ≤ x.tdiv 16 ∧ x.tdiv 16 ≤ 99999 ∧ (x.tdiv 16) * 16 ≤ 99999 ∧ -99999 ≤ (x.tdiv 16) * 16 := by
    by_cases hx : 0 ≤ x
    · rw [Int.tdiv_eq_ediv_of_nonneg hx]; omega
    · have : x.tdiv 16 = -((-x) / 16) := by
        rw [show x = -(-x) by omega, Int.neg_tdiv, Int.tdiv_eq_ediv_of_nonneg (by omega), show -(- -x) = -x by omega]
      rw [this]; omega
  unfold irm
  have d1 : (Int32.ofInt x / Int32.ofInt 16).toInt = x.tdiv 16 := by
    rw [Int32.toInt_div, e, e16]
    exact Int.bmod_eq_of_le (by omega) (by omega)
  have d2 : (Int32.ofInt x / Int32.ofInt 16 * Int32.ofInt 16).toInt = x.tdiv 16 * 16 := by
    rw [Int32.toInt_mul, d1, e16]
    exact Int.bmod_eq_of_le (by omega) (by omega)
  rw [Int32.toInt_sub, d2, e]
  exact Int.bmod_eq_of_le (by omega) (by omega)
theorem s_floorMod16 {x : Int} {M : Mem} (h0 : -99999 ≤ x) (h1 : x ≤ 99999) : fJ9_floorMod_7cf53 x 16 M = some (x % 16, M) := by
  unfold fJ9_floorMod_7cf53
  rw [if_neg (by decide), ob, ob, irm16 h0 h1]
  by_cases hx : 0 ≤ x
  · rw [if_pos ((ixor16 (by omega) (by omega)).mpr hx), Int.tdiv_eq_ediv_of_nonneg hx]
    congr 2
    omega
  · rw [if_neg (fun z => hx ((ixor16 (by omega) (by omega)).mp z))]
    have : x.tdiv 16 = -((-x) / 16) := by
      rw [show x = -(-x) by omega, Int.neg_tdiv, Int.tdiv_eq_ediv_of_nonneg (by omega), show -(- -x) = -x by omega]
    rw [this]
    split
    · congr 2; omega
    · rw [w32_id (by omega) (by omega)]
      congr 2; omega
