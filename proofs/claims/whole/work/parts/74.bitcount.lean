/-! BITS COUNTED -/
def U (x : Int) : Nat := (Int64.ofInt x).toBitVec.toNat
theorem U_lt (x : Int) : U x < 18446744073709551616 := (Int64.ofInt x).toBitVec.isLt
theorem U_int (x : Int) : (U x : Int) = x % 18446744073709551616 := by
  unfold U
  show ((BitVec.ofInt 64 x).toNat : Int) = _
  rw [BitVec.toNat_ofInt]
  omega
theorem U_w64 (x : Int) : U (w64 x) = U x := by unfold U w64; rw [Int64.ofInt_toInt]
theorem U_land (a b : Int) : U (land a b) = U a &&& U b := by unfold U land; rw [Int64.ofInt_toInt, Int64.toBitVec_and, BitVec.toNat_and]
theorem U_lushr (a : Int) {k : Int} (h0 : 0 ≤ k) (h1 : k < 64) : U (lushr a k) = U a / 2 ^ k.toNat := by
  obtain ⟨b, rfl⟩ := k63 h0 h1
  unfold U lushr
  rw [Int64.ofInt_toInt]
  have key : ∀ b : Fin 64, ((Int32.ofInt (b.val : Int)).toInt64.toUInt64 &&& Int64.toUInt64 63).toBitVec.toNat = b.val := by decide +kernel
  show (((Int64.ofInt a).toUInt64 >>> ((Int32.ofInt (b.val : Int)).toInt64.toUInt64 &&& Int64.toUInt64 63)).toBitVec).toNat = _
  rw [UInt64.toBitVec_shiftRight]
  rw [show ((b.val : Int)).toNat = b.val by simp]
  rw [BitVec.ushiftRight_eq', BitVec.toNat_ushiftRight]
  have k2 := key b
  have e : (((Int32.ofInt (b.val : Int)).toInt64.toUInt64 &&& Int64.toUInt64 63).toBitVec % 64).toNat = b.val := by
    rw [BitVec.toNat_umod, k2]
    have := b.isLt
    show b.val % 64 = b.val
    omega
  rw [e, Nat.shiftRight_eq_div_pow]
  rfl
theorem U_add (a b : Int) : U (a + b) = (U a + U b) % 18446744073709551616 := by
  have h1 := U_int (a + b)
  have h2 := U_int a
  have h3 := U_int b
  omega
theorem U_sub (a b : Int) (h : U b ≤ U a) : U (a - b) = U a - U b := by
  have h1 := U_int (a - b)
  have h2 := U_int a
  have h3 := U_int b
  have h4 := U_lt a
  omega
theorem and256 {a b m n : Nat} (ha : a < 256) (hm : m < 256) : (a + 256 * b) &&& (m + 256 * n) = (a &&& m) + 256 * (b &&& n) := by
  have h1 : ((a + 256 * b) &&& (m + 256 * n)) % 2 ^ 8 = a &&& m := by
    rw [Nat.and_mod_two_pow, show (a + 256 * b) % 2 ^ 8 = a by omega, show (m + 256 * n) % 2 ^ 8 = m by omega]
  have h2 : ((a + 256 * b) &&& (m + 256 * n)) / 2 ^ 8 = b &&& n := by
    rw [Nat.and_div_two_pow, show (a + 256 * b) / 2 ^ 8 = b by omega, show (m + 256 * n) / 2 ^ 8 = n by omega]
  omega
def E8 (a0 a1 a2 a3 a4 a5 a6 a7 : Nat) : Nat := a0 + 256 * (a1 + 256 * (a2 + 256 * (a3 + 256 * (a4 + 256 * (a5 + 256 * (a6 + 256 * a7))))))
theorem and8 {a0 a1 a2 a3 a4 a5 a6 a7 : Nat} {m : Nat} (h0 : a0 < 256) (h1 : a1 < 256) (h2 : a2 < 256) (h3 : a3 < 256) (h4 : a4 < 256) (h5 : a5 < 256) (h6 : a6 < 256) (h7 : a7 < 256) (hm : m < 256) : E8 a0 a1 a2 a3 a4 a5 a6 a7 &&& E8 m m m m m m m m = E8 (a0 &&& m) (a1 &&& m) (a2 &&& m) (a3 &&& m) (a4 &&& m) (a5 &&& m) (a6 &&& m) (a7 &&& m) := by
  unfold E8
  rw [and256 h0 hm, and256 h1 hm, and256 h2 hm, and256 h3 hm, and256 h4 hm, and256 h5 hm, and256 h6 hm]
theorem h55 : ∀ x : Fin 256, ∀ c : Fin 2, (x.val / 2 + 128 * c.val) &&& 85 = x.val / 2 &&& 85 := by decide +kernel
theorem h55' {x c : Nat} (h : x < 256) (hc : c < 2) : (x / 2 + 128 * c) &&& 85 = x / 2 &&& 85 := h55 ⟨x, h⟩ ⟨c, hc⟩
theorem l55 : ∀ x : Fin 256, x.val / 2 &&& 85 ≤ x.val := by decide +kernel
theorem l55' {x : Nat} (h : x < 256) : x / 2 &&& 85 ≤ x := l55 ⟨x, h⟩
theorem h33 : ∀ x : Fin 256, ∀ c : Fin 4, (x.val / 4 + 64 * c.val) &&& 51 = x.val / 4 &&& 51 := by decide +kernel
theorem h33' {x c : Nat} (h : x < 256) (hc : c < 4) : (x / 4 + 64 * c) &&& 51 = x / 4 &&& 51 := h33 ⟨x, h⟩ ⟨c, hc⟩
def pB (x : Nat) : Nat := x % 2 + x / 2 % 2 + x / 4 % 2 + x / 8 % 2 + x / 16 % 2 + x / 32 % 2 + x / 64 % 2 + x / 128 % 2
def yB (x : Nat) : Nat := x - (x / 2 &&& 85)
def zB (x : Nat) : Nat := (x &&& 51) + (x / 4 &&& 51)
theorem zz : ∀ x : Fin 256, zB (yB x.val) ≤ 68 ∧ zB (yB x.val) % 16 ≤ 4 ∧ (zB (yB x.val) + zB (yB x.val) / 16) % 16 = pB x.val ∧ pB x.val ≤ 8 := by decide +kernel
theorem zz' {x : Nat} (h : x < 256) : zB (yB x) ≤ 68 ∧ zB (yB x) % 16 ≤ 4 ∧ (zB (yB x) + zB (yB x) / 16) % 16 = pB x ∧ pB x ≤ 8 := zz ⟨x, h⟩
set_option maxHeartbeats 4000000 in
set_option maxRecDepth 20000 in
theorem sw1 {a0 a1 a2 a3 a4 a5 a6 a7 : Nat} (h0 : a0 < 256) (h1 : a1 < 256) (h2 : a2 < 256) (h3 : a3 < 256) (h4 : a4 < 256) (h5 : a5 < 256) (h6 : a6 < 256) (h7 : a7 < 256) : E8 a0 a1 a2 a3 a4 a5 a6 a7 - (E8 a0 a1 a2 a3 a4 a5 a6 a7 / 2 &&& 6148914691236517205) = E8 (yB a0) (yB a1) (yB a2) (yB a3) (yB a4) (yB a5) (yB a6) (yB a7) := by
  have e : E8 a0 a1 a2 a3 a4 a5 a6 a7 / 2 = E8 (a0 / 2 + 128 * (a1 % 2)) (a1 / 2 + 128 * (a2 % 2)) (a2 / 2 + 128 * (a3 % 2)) (a3 / 2 + 128 * (a4 % 2)) (a4 / 2 + 128 * (a5 % 2)) (a5 / 2 + 128 * (a6 % 2)) (a6 / 2 + 128 * (a7 % 2)) (a7 / 2 + 128 * 0) := by unfold E8; omega
  rw [e, show 6148914691236517205 = E8 85 85 85 85 85 85 85 85 by decide, and8 (by omega) (by omega) (by omega) (by omega) (by omega) (by omega) (by omega) (by omega) (by omega)]
  rw [h55' h0 (by omega), h55' h1 (by omega), h55' h2 (by omega), h55' h3 (by omega), h55' h4 (by omega), h55' h5 (by omega), h55' h6 (by omega), h55' h7 (by omega)]
  have l0 := l55' h0
  have l1 := l55' h1
  have l2 := l55' h2
  have l3 := l55' h3
  have l4 := l55' h4
  have l5 := l55' h5
  have l6 := l55' h6
  have l7 := l55' h7
  unfold E8 yB
  generalize (a0 / 2 &&& 85) = b0 at *
  generalize (a1 / 2 &&& 85) = b1 at *
  generalize (a2 / 2 &&& 85) = b2 at *
  generalize (a3 / 2 &&& 85) = b3 at *
  generalize (a4 / 2 &&& 85) = b4 at *
  generalize (a5 / 2 &&& 85) = b5 at *
  generalize (a6 / 2 &&& 85) = b6 at *
  generalize (a7 / 2 &&& 85) = b7 at *
  omega
set_option maxHeartbeats 4000000 in
set_option maxRecDepth 20000 in
theorem sw2 {a0 a1 a2 a3 a4 a5 a6 a7 : Nat} (h0 : a0 < 256) (h1 : a1 < 256) (h2 : a2 < 256) (h3 : a3 < 256) (h4 : a4 < 256) (h5 : a5 < 256) (h6 : a6 < 256) (h7 : a7 < 256) : (E8 a0 a1 a2 a3 a4 a5 a6 a7 &&& 3689348814741910323) + (E8 a0 a1 a2 a3 a4 a5 a6 a7 / 4 &&& 3689348814741910323) = E8 (zB a0) (zB a1) (zB a2) (zB a3) (zB a4) (zB a5) (zB a6) (zB a7) := by
  have e : E8 a0 a1 a2 a3 a4 a5 a6 a7 / 4 = E8 (a0 / 4 + 64 * (a1 % 4)) (a1 / 4 + 64 * (a2 % 4)) (a2 / 4 + 64 * (a3 % 4)) (a3 / 4 + 64 * (a4 % 4)) (a4 / 4 + 64 * (a5 % 4)) (a5 / 4 + 64 * (a6 % 4)) (a6 / 4 + 64 * (a7 % 4)) (a7 / 4 + 64 * 0) := by unfold E8; omega
  rw [e, show 3689348814741910323 = E8 51 51 51 51 51 51 51 51 by decide, and8 h0 h1 h2 h3 h4 h5 h6 h7 (by omega), and8 (by omega) (by omega) (by omega) (by omega) (by omega) (by omega) (by omega) (by omega) (by omega)]
  rw [h33' h0 (by omega), h33' h1 (by omega), h33' h2 (by omega), h33' h3 (by omega), h33' h4 (by omega), h33' h5 (by omega), h33' h6 (by omega), h33' h7 (by omega)]
  unfold E8 zB
  generalize (a0 / 4 &&& 51) = b0
  generalize (a0 &&& 51) = d0
  generalize (a1 / 4 &&& 51) = b1
  generalize (a1 &&& 51) = d1
  generalize (a2 / 4 &&& 51) = b2
  generalize (a2 &&& 51) = d2
  generalize (a3 / 4 &&& 51) = b3
  generalize (a3 &&& 51) = d3
  generalize (a4 / 4 &&& 51) = b4
  generalize (a4 &&& 51) = d4
  generalize (a5 / 4 &&& 51) = b5
  generalize (a5 &&& 51) = d5
  generalize (a6 / 4 &&& 51) = b6
  generalize (a6 &&& 51) = d6
  generalize (a7 / 4 &&& 51) = b7
  generalize (a7 &&& 51) = d7
  omega
theorem md16 {a b : Nat} : (a + a / 16 + 16 * b) &&& 15 = (a + a / 16) % 16 := by
  have := Nat.and_two_pow_sub_one_eq_mod (a + a / 16 + 16 * b) 4
  rw [show (15 : Nat) = 2 ^ 4 - 1 by decide, this]
  omega
set_option maxHeartbeats 4000000 in
set_option maxRecDepth 20000 in
theorem sw3 {a0 a1 a2 a3 a4 a5 a6 a7 : Nat} (h0 : a0 ≤ 68 ∧ a0 % 16 ≤ 4) (h1 : a1 ≤ 68 ∧ a1 % 16 ≤ 4) (h2 : a2 ≤ 68 ∧ a2 % 16 ≤ 4) (h3 : a3 ≤ 68 ∧ a3 % 16 ≤ 4) (h4 : a4 ≤ 68 ∧ a4 % 16 ≤ 4) (h5 : a5 ≤ 68 ∧ a5 % 16 ≤ 4) (h6 : a6 ≤ 68 ∧ a6 % 16 ≤ 4) (h7 : a7 ≤ 68 ∧ a7 % 16 ≤ 4) : ((E8 a0 a1 a2 a3 a4 a5 a6 a7 + E8 a0 a1 a2 a3 a4 a5 a6 a7 / 16) &&& 1085102592571150095) = E8 ((a0 + a0 / 16) % 16) ((a1 + a1 / 16) % 16) ((a2 + a2 / 16) % 16) ((a3 + a3 / 16) % 16) ((a4 + a4 / 16) % 16) ((a5 + a5 / 16) % 16) ((a6 + a6 / 16) % 16) ((a7 + a7 / 16) % 16) := by
  have e : E8 a0 a1 a2 a3 a4 a5 a6 a7 + E8 a0 a1 a2 a3 a4 a5 a6 a7 / 16 = E8 (a0 + a0 / 16 + 16 * (a1 % 16)) (a1 + a1 / 16 + 16 * (a2 % 16)) (a2 + a2 / 16 + 16 * (a3 % 16)) (a3 + a3 / 16 + 16 * (a4 % 16)) (a4 + a4 / 16 + 16 * (a5 % 16)) (a5 + a5 / 16 + 16 * (a6 % 16)) (a6 + a6 / 16 + 16 * (a7 % 16)) (a7 + a7 / 16 + 16 * 0) := by unfold E8; omega
  rw [e, show 1085102592571150095 = E8 15 15 15 15 15 15 15 15 by decide, and8 (by omega) (by omega) (by omega) (by omega) (by omega) (by omega) (by omega) (by omega) (by omega)]
  rw [md16, md16, md16, md16, md16, md16, md16, md16]
theorem dv1 {a R : Nat} (h : a < 256) : (a + 256 * R) / 256 = R := by omega
theorem dv2 {a b R : Nat} (h : a < 256) (h' : b < 256) : (a + 256 * (b + 256 * R)) / 65536 = R := by omega
theorem dv4 {a b c d R : Nat} (h : a < 256) (h' : b < 256) (h2 : c < 256) (h3 : d < 256) : (a + 256 * (b + 256 * (c + 256 * (d + 256 * R)))) / 4294967296 = R := by omega
theorem md1 {a R : Nat} (h : a < 128) : (a + 256 * R) % 128 = a := by omega
theorem lt1 {a R N : Nat} (h : a < 256) (h' : R < N) : a + 256 * R < 256 * N := by omega
theorem E8_lt {a0 a1 a2 a3 a4 a5 a6 a7 : Nat} (h0 : a0 < 256) (h1 : a1 < 256) (h2 : a2 < 256) (h3 : a3 < 256) (h4 : a4 < 256) (h5 : a5 < 256) (h6 : a6 < 256) (h7 : a7 < 256) : E8 a0 a1 a2 a3 a4 a5 a6 a7 < 18446744073709551616 := by
  unfold E8
  exact lt1 h0 (N := 72057594037927936) (lt1 h1 (N := 281474976710656) (lt1 h2 (N := 1099511627776) (lt1 h3 (N := 4294967296) (lt1 h4 (N := 16777216) (lt1 h5 (N := 65536) (lt1 h6 (N := 256) h7))))))
theorem E8_add {a0 a1 a2 a3 a4 a5 a6 a7 b0 b1 b2 b3 b4 b5 b6 b7 : Nat} : E8 a0 a1 a2 a3 a4 a5 a6 a7 + E8 b0 b1 b2 b3 b4 b5 b6 b7 = E8 (a0 + b0) (a1 + b1) (a2 + b2) (a3 + b3) (a4 + b4) (a5 + b5) (a6 + b6) (a7 + b7) := by
  unfold E8
  simp only [Nat.mul_add, Nat.add_assoc, Nat.add_left_comm]
theorem sw4 {a0 a1 a2 a3 a4 a5 a6 a7 : Nat} (h0 : a0 ≤ 8) (h1 : a1 ≤ 8) (h2 : a2 ≤ 8) (h3 : a3 ≤ 8) (h4 : a4 ≤ 8) (h5 : a5 ≤ 8) (h6 : a6 ≤ 8) (h7 : a7 ≤ 8) {x y z : Nat} (hx : x = E8 a0 a1 a2 a3 a4 a5 a6 a7 + E8 a0 a1 a2 a3 a4 a5 a6 a7 / 256) (hy : y = x + x / 65536) (hz : z = y + y / 4294967296) : z < 18446744073709551616 ∧ y < 18446744073709551616 ∧ x < 18446744073709551616 ∧ z % 128 = a0 + a1 + a2 + a3 + a4 + a5 + a6 + a7 := by
  have d1 : E8 a0 a1 a2 a3 a4 a5 a6 a7 / 256 = E8 a1 a2 a3 a4 a5 a6 a7 0 := dv1 (by omega)
  have ex : x = E8 (a0 + a1) (a1 + a2) (a2 + a3) (a3 + a4) (a4 + a5) (a5 + a6) (a6 + a7) (a7 + 0) := by rw [hx, d1, E8_add]
  have d2 : x / 65536 = E8 (a2 + a3) (a3 + a4) (a4 + a5) (a5 + a6) (a6 + a7) (a7 + 0) 0 0 := by rw [ex]; exact dv2 (by omega) (by omega)
  have ey : y = E8 (a0 + a1 + (a2 + a3)) (a1 + a2 + (a3 + a4)) (a2 + a3 + (a4 + a5)) (a3 + a4 + (a5 + a6)) (a4 + a5 + (a6 + a7)) (a5 + a6 + (a7 + 0)) (a6 + a7 + 0) (a7 + 0 + 0) := by rw [hy, d2, ex, E8_add]
  have d3 : y / 4294967296 = E8 (a4 + a5 + (a6 + a7)) (a5 + a6 + (a7 + 0)) (a6 + a7 + 0) (a7 + 0 + 0) 0 0 0 0 := by rw [ey]; exact dv4 (by omega) (by omega) (by omega) (by omega)
  have ez : z = E8 (a0 + a1 + (a2 + a3) + (a4 + a5 + (a6 + a7))) (a1 + a2 + (a3 + a4) + (a5 + a6 + (a7 + 0))) (a2 + a3 + (a4 + a5) + (a6 + a7 + 0)) (a3 + a4 + (a5 + a6) + (a7 + 0 + 0)) (a4 + a5 + (a6 + a7) + 0) (a5 + a6 + (a7 + 0) + 0) (a6 + a7 + 0 + 0) (a7 + 0 + 0 + 0) := by rw [hz, d3, ey, E8_add]
  refine ⟨by rw [ez]; exact E8_lt (by omega) (by omega) (by omega) (by omega) (by omega) (by omega) (by omega) (by omega), by rw [ey]; exact E8_lt (by omega) (by omega) (by omega) (by omega) (by omega) (by omega) (by omega) (by omega), by rw [ex]; exact E8_lt (by omega) (by omega) (by omega) (by omega) (by omega) (by omega) (by omega) (by omega), ?_⟩
  rw [ez]
  have := md1 (a := a0 + a1 + (a2 + a3) + (a4 + a5 + (a6 + a7))) (R := (a1 + a2 + (a3 + a4) + (a5 + a6 + (a7 + 0))) + 256 * ((a2 + a3 + (a4 + a5) + (a6 + a7 + 0)) + 256 * ((a3 + a4 + (a5 + a6) + (a7 + 0 + 0)) + 256 * ((a4 + a5 + (a6 + a7) + 0) + 256 * ((a5 + a6 + (a7 + 0) + 0) + 256 * ((a6 + a7 + 0 + 0) + 256 * (a7 + 0 + 0 + 0))))))) (by omega)
  unfold E8
  rw [this]
  omega
theorem tb_U (x : Int) (i : Nat) : (if tb x (i : Int) = true then (1 : Int) else 0) = ((U x / 2 ^ i % 2 : Nat) : Int) := by
  unfold tb U
  rw [Int.toNat_natCast, ← BitVec.testBit_toNat, Nat.testBit_eq_decide_div_mod_eq]
  by_cases h : (Int64.ofInt x).toBitVec.toNat / 2 ^ i % 2 = 1
  · rw [if_pos (decide_eq_true h), h]; rfl
  · rw [if_neg (fun z => h (of_decide_eq_true z))]
    have := Nat.mod_lt ((Int64.ofInt x).toBitVec.toNat / 2 ^ i) (show 2 > 0 by decide)
    omega
theorem sm_8 (f : Int → Int) (k : Nat) : sm f (k + 8) = sm f k + (f (k : Int) + f ((k + 1 : Nat) : Int) + f ((k + 2 : Nat) : Int) + f ((k + 3 : Nat) : Int) + f ((k + 4 : Nat) : Int) + f ((k + 5 : Nat) : Int) + f ((k + 6 : Nat) : Int) + f ((k + 7 : Nat) : Int)) := by
  show sm f k + f (k : Int) + f ((k + 1 : Nat) : Int) + f ((k + 2 : Nat) : Int) + f ((k + 3 : Nat) : Int) + f ((k + 4 : Nat) : Int) + f ((k + 5 : Nat) : Int) + f ((k + 6 : Nat) : Int) + f ((k + 7 : Nat) : Int) = _
  omega
theorem sm_byte (x : Int) (k : Nat) : sm (fun i => if tb x i = true then 1 else 0) (k + 8) = sm (fun i => if tb x i = true then 1 else 0) k + ((pB (U x / 2 ^ k % 256) : Nat) : Int) := by
  rw [sm_8]
  simp only [tb_U]
  have e : ∀ j, U x / 2 ^ (k + j) = U x / 2 ^ k / 2 ^ j := fun j => by rw [Nat.pow_add, Nat.div_div_eq_div_mul]
  rw [e 1, e 2, e 3, e 4, e 5, e 6, e 7]
  unfold pB
  generalize U x / 2 ^ k = Y
  omega
theorem pc_bytes (x : Int) : pc x = ((pB (U x / 2 ^ 0 % 256) + pB (U x / 2 ^ 8 % 256) + pB (U x / 2 ^ 16 % 256) + pB (U x / 2 ^ 24 % 256) + pB (U x / 2 ^ 32 % 256) + pB (U x / 2 ^ 40 % 256) + pB (U x / 2 ^ 48 % 256) + pB (U x / 2 ^ 56 % 256) : Nat) : Int) := by
  unfold pc
  have h0 : sm (fun i => if tb x i = true then 1 else 0) 8 = sm (fun i => if tb x i = true then 1 else 0) 0 + ((pB (U x / 2 ^ 0 % 256) : Nat) : Int) := sm_byte x 0
  have h1 : sm (fun i => if tb x i = true then 1 else 0) 16 = sm (fun i => if tb x i = true then 1 else 0) 8 + ((pB (U x / 2 ^ 8 % 256) : Nat) : Int) := sm_byte x 8
  have h2 : sm (fun i => if tb x i = true then 1 else 0) 24 = sm (fun i => if tb x i = true then 1 else 0) 16 + ((pB (U x / 2 ^ 16 % 256) : Nat) : Int) := sm_byte x 16
  have h3 : sm (fun i => if tb x i = true then 1 else 0) 32 = sm (fun i => if tb x i = true then 1 else 0) 24 + ((pB (U x / 2 ^ 24 % 256) : Nat) : Int) := sm_byte x 24
  have h4 : sm (fun i => if tb x i = true then 1 else 0) 40 = sm (fun i => if tb x i = true then 1 else 0) 32 + ((pB (U x / 2 ^ 32 % 256) : Nat) : Int) := sm_byte x 32
  have h5 : sm (fun i => if tb x i = true then 1 else 0) 48 = sm (fun i => if tb x i = true then 1 else 0) 40 + ((pB (U x / 2 ^ 40 % 256) : Nat) : Int) := sm_byte x 40
  have h6 : sm (fun i => if tb x i = true then 1 else 0) 56 = sm (fun i => if tb x i = true then 1 else 0) 48 + ((pB (U x / 2 ^ 48 % 256) : Nat) : Int) := sm_byte x 48
  have h7 : sm (fun i => if tb x i = true then 1 else 0) 64 = sm (fun i => if tb x i = true then 1 else 0) 56 + ((pB (U x / 2 ^ 56 % 256) : Nat) : Int) := sm_byte x 56
  have hz : sm (fun i => if tb x i = true then 1 else 0) 0 = 0 := rfl
  rw [h7, h6, h5, h4, h3, h2, h1, h0, hz]
  omega
theorem iand127 {x : Int} (h0 : -2147483648 ≤ x) (h1 : x < 2147483648) : iand x 127 = x % 128 := by
  unfold iand
  have e15 : (Int32.ofInt 127).toBitVec = 127#32 := by decide
  have e1 : (Int32.ofInt x &&& Int32.ofInt 127).toBitVec = (Int32.ofInt x).toBitVec &&& 127#32 := by rw [Int32.toBitVec_and, e15]
  have e2 : ((Int32.ofInt x).toBitVec &&& 127#32).toNat = (Int32.ofInt x).toBitVec.toNat % 128 := by
    rw [BitVec.toNat_and]
    exact Nat.and_two_pow_sub_one_eq_mod _ 7
  have e3 : ((Int32.ofInt x).toBitVec.toNat : Int) = x % 4294967296 := by
    show ((BitVec.ofInt 32 x).toNat : Int) = _
    rw [BitVec.toNat_ofInt]
    omega
  show (Int32.ofInt x &&& Int32.ofInt 127).toBitVec.toInt = x % 128
  rw [e1, BitVec.toInt_eq_toNat_cond, e2]
  have : (Int32.ofInt x).toBitVec.toNat % 128 < 128 := Nat.mod_lt _ (by decide)
  rw [if_pos (by omega)]
  omega
theorem w32_mod (x : Int) : (-2147483648 ≤ w32 x ∧ w32 x < 2147483648) ∧ w32 x % 4294967296 = x % 4294967296 := by
  unfold w32
  have e : (Int32.ofInt x).toInt = x.bmod (2 ^ 32) := by rw [Int32.toInt_ofInt]
  rw [e]
  have := Int.bmod_def x (2 ^ 32)
  rw [this]
  split <;> omega
set_option maxHeartbeats 4000000 in
set_option maxRecDepth 20000 in
theorem s_bitCount (x : Int) (M : Mem) : fJ13_bitCount_95d88 x M = some (pc x, M) := by
  unfold fJ13_bitCount_95d88
  rw [ob, ob, ob, ob, ob, ob]
  congr 2
  have hlt := U_lt x
  rw [pc_bytes]
  have b0 : U x / 2 ^ 0 % 256 < 256 := Nat.mod_lt _ (by decide)
  have b1 : U x / 2 ^ 8 % 256 < 256 := Nat.mod_lt _ (by decide)
  have b2 : U x / 2 ^ 16 % 256 < 256 := Nat.mod_lt _ (by decide)
  have b3 : U x / 2 ^ 24 % 256 < 256 := Nat.mod_lt _ (by decide)
  have b4 : U x / 2 ^ 32 % 256 < 256 := Nat.mod_lt _ (by decide)
  have b5 : U x / 2 ^ 40 % 256 < 256 := Nat.mod_lt _ (by decide)
  have b6 : U x / 2 ^ 48 % 256 < 256 := Nat.mod_lt _ (by decide)
  have b7 : U x / 2 ^ 56 % 256 < 256 := Nat.mod_lt _ (by decide)
  have eX : U x = E8 (U x / 2 ^ 0 % 256) (U x / 2 ^ 8 % 256) (U x / 2 ^ 16 % 256) (U x / 2 ^ 24 % 256) (U x / 2 ^ 32 % 256) (U x / 2 ^ 40 % 256) (U x / 2 ^ 48 % 256) (U x / 2 ^ 56 % 256) := by unfold E8; omega
  generalize U x / 2 ^ 0 % 256 = x0 at *
  generalize U x / 2 ^ 8 % 256 = x1 at *
  generalize U x / 2 ^ 16 % 256 = x2 at *
  generalize U x / 2 ^ 24 % 256 = x3 at *
  generalize U x / 2 ^ 32 % 256 = x4 at *
  generalize U x / 2 ^ 40 % 256 = x5 at *
  generalize U x / 2 ^ 48 % 256 = x6 at *
  generalize U x / 2 ^ 56 % 256 = x7 at *
  have k1 : U 6148914691236517205 = 6148914691236517205 := by decide
  have k2 : U 3689348814741910323 = 3689348814741910323 := by decide
  have k3 : U 1085102592571150095 = 1085102592571150095 := by decide
  have s1 := sw1 b0 b1 b2 b3 b4 b5 b6 b7
  generalize h1 : w64 (x - (land (lushr x 1) 6148914691236517205)) = v1
  have u1 : U v1 = E8 (yB x0) (yB x1) (yB x2) (yB x3) (yB x4) (yB x5) (yB x6) (yB x7) := by
    have q : U (land (lushr x 1) 6148914691236517205) = E8 x0 x1 x2 x3 x4 x5 x6 x7 / 2 &&& 6148914691236517205 := by
      rw [U_land, U_lushr x (by omega) (by omega), k1, eX]; rfl
    have q2 : E8 x0 x1 x2 x3 x4 x5 x6 x7 / 2 &&& 6148914691236517205 ≤ E8 x0 x1 x2 x3 x4 x5 x6 x7 := by
      have := @Nat.and_le_left (E8 x0 x1 x2 x3 x4 x5 x6 x7 / 2) 6148914691236517205
      omega
    rw [← h1, U_w64, U_sub _ _ (by rw [q, eX]; exact q2), q, eX, s1]
  have y0 : yB x0 < 256 := by unfold yB; omega
  have y1 : yB x1 < 256 := by unfold yB; omega
  have y2 : yB x2 < 256 := by unfold yB; omega
  have y3 : yB x3 < 256 := by unfold yB; omega
  have y4 : yB x4 < 256 := by unfold yB; omega
  have y5 : yB x5 < 256 := by unfold yB; omega
  have y6 : yB x6 < 256 := by unfold yB; omega
  have y7 : yB x7 < 256 := by unfold yB; omega
  have z0 := zz' b0
  have z1 := zz' b1
  have z2 := zz' b2
  have z3 := zz' b3
  have z4 := zz' b4
  have z5 := zz' b5
  have z6 := zz' b6
  have z7 := zz' b7
  have s2 := sw2 y0 y1 y2 y3 y4 y5 y6 y7
  generalize h2 : w64 ((land v1 3689348814741910323) + (land (lushr v1 2) 3689348814741910323)) = v2
  have u2 : U v2 = E8 (zB (yB x0)) (zB (yB x1)) (zB (yB x2)) (zB (yB x3)) (zB (yB x4)) (zB (yB x5)) (zB (yB x6)) (zB (yB x7)) := by
    rw [← h2, U_w64, U_add, U_land, U_land, U_lushr v1 (by omega) (by omega), k2, u1]
    show ((E8 (yB x0) (yB x1) (yB x2) (yB x3) (yB x4) (yB x5) (yB x6) (yB x7) &&& 3689348814741910323) + (E8 (yB x0) (yB x1) (yB x2) (yB x3) (yB x4) (yB x5) (yB x6) (yB x7) / 4 &&& 3689348814741910323)) % 18446744073709551616 = _
    rw [s2]
    exact Nat.mod_eq_of_lt (E8_lt (by omega) (by omega) (by omega) (by omega) (by omega) (by omega) (by omega) (by omega))
  have s3 := sw3 ⟨z0.1, z0.2.1⟩ ⟨z1.1, z1.2.1⟩ ⟨z2.1, z2.2.1⟩ ⟨z3.1, z3.2.1⟩ ⟨z4.1, z4.2.1⟩ ⟨z5.1, z5.2.1⟩ ⟨z6.1, z6.2.1⟩ ⟨z7.1, z7.2.1⟩
  rw [z0.2.2.1, z1.2.2.1, z2.2.2.1, z3.2.2.1, z4.2.2.1, z5.2.2.1, z6.2.2.1, z7.2.2.1] at s3
  generalize h3 : land (w64 (v2 + (lushr v2 4))) 1085102592571150095 = v3
  have u3 : U v3 = E8 (pB x0) (pB x1) (pB x2) (pB x3) (pB x4) (pB x5) (pB x6) (pB x7) := by
    rw [← h3, U_land, U_w64, U_add, U_lushr v2 (by omega) (by omega), k3, u2]
    have : (E8 (zB (yB x0)) (zB (yB x1)) (zB (yB x2)) (zB (yB x3)) (zB (yB x4)) (zB (yB x5)) (zB (yB x6)) (zB (yB x7)) + E8 (zB (yB x0)) (zB (yB x1)) (zB (yB x2)) (zB (yB x3)) (zB (yB x4)) (zB (yB x5)) (zB (yB x6)) (zB (yB x7)) / 2 ^ (Int.toNat 4)) % 18446744073709551616 = E8 (zB (yB x0)) (zB (yB x1)) (zB (yB x2)) (zB (yB x3)) (zB (yB x4)) (zB (yB x5)) (zB (yB x6)) (zB (yB x7)) + E8 (zB (yB x0)) (zB (yB x1)) (zB (yB x2)) (zB (yB x3)) (zB (yB x4)) (zB (yB x5)) (zB (yB x6)) (zB (yB x7)) / 16 := by
      show (E8 (zB (yB x0)) (zB (yB x1)) (zB (yB x2)) (zB (yB x3)) (zB (yB x4)) (zB (yB x5)) (zB (yB x6)) (zB (yB x7)) + E8 (zB (yB x0)) (zB (yB x1)) (zB (yB x2)) (zB (yB x3)) (zB (yB x4)) (zB (yB x5)) (zB (yB x6)) (zB (yB x7)) / 16) % 18446744073709551616 = _
      unfold E8
      omega
    rw [this, s3]
  obtain ⟨q1, q2, q3, q4⟩ := sw4 z0.2.2.2 z1.2.2.2 z2.2.2.2 z3.2.2.2 z4.2.2.2 z5.2.2.2 z6.2.2.2 z7.2.2.2 rfl rfl rfl
  generalize h4 : w64 (v3 + (lushr v3 8)) = v4
  generalize h5 : w64 (v4 + (lushr v4 16)) = v5
  generalize h6 : w64 (v5 + (lushr v5 32)) = v6
  have u4 : U v4 = E8 (pB x0) (pB x1) (pB x2) (pB x3) (pB x4) (pB x5) (pB x6) (pB x7) + E8 (pB x0) (pB x1) (pB x2) (pB x3) (pB x4) (pB x5) (pB x6) (pB x7) / 256 := by
    rw [← h4, U_w64, U_add, U_lushr v3 (by omega) (by omega), u3]
    exact Nat.mod_eq_of_lt q3
  have u5 : U v5 = U v4 + U v4 / 65536 := by
    rw [← h5, U_w64, U_add, U_lushr v4 (by omega) (by omega), u4]
    exact Nat.mod_eq_of_lt q2
  have u6 : U v6 = U v5 + U v5 / 4294967296 := by
    rw [← h6, U_w64, U_add, U_lushr v5 (by omega) (by omega), u5, u4]
    exact Nat.mod_eq_of_lt q1
  rw [← u4, ← u5, ← u6] at q4
  obtain ⟨w1, w2⟩ := w32_mod v6
  rw [iand127 w1.1 w1.2, ← q4]
  have := U_int v6
  omega
