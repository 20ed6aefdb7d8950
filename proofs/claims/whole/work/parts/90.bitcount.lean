theorem and256 {a b m n : Nat} (ha : a < 256) (hm : m < 256) : (a + 256 * b) &&& (m + 256 * n) = (a &&& m) + 256 * (b &&& n) := by
  have h1 : ((a + 256 * b) &&& (m + 256 * n)) % 2 ^ 8 = a &&& m := by
    rw [Nat.and_mod_two_pow, show (a + 256 * b) % 2 ^ 8 = a by omega, show (m + 256 * n) % 2 ^ 8 = m by omega]
  have h2 : ((a + 256 * b) &&& (m + 256 * n)) / 2 ^ 8 = b &&& n := by
    rw [Nat.and_div_two_pow, show (a + 256 * b) / 2 ^ 8 = b by omega, show (m + 256 * n) / 2 ^ 8 = n by omega]
  omega
def E8 (a0 a1 a2 a3 a4 a5 a6 a7 : Nat) : Nat := a0 + 256 * (a1 + 256 * (a2 + 256 * (a3 + 256 * (a4 + 256 * (a5 + 256 * (a6 + 256 * a7))))))
theorem and8 {a0 a1 a2 a3 a4 a5 a6 a7 : Nat} {m : Nat} (h0 : a0 < 256) (h1 : a1 < 256) (h2 : a2 < 256) (h3 : a3 < 256) (h4 : a4 < 256) (h5 : a5 < 256) (h6 : a6 < 256) (h7 : a7 < 256) (hm : m < 256) : E8 a0 a1 a2 a3 a4 a5 a6 a7 &&& E8 m m m m m m m m = E8 (a0 &&& m) (a1 &&& m) (a2 &&& m) (a3 &&& m) (a4 &&& m) (a5 &&& m) (a6 &&& m) (a7 &&& m) := by
  unfold E8
  rw [and256 h0 hm, and256 h1 hm, and256 h2 hm, and256 h3 hm, and256 h4 hm, and256 h5 hm, and256 h6 hm]
theorem h55 : ∀ x : Fin 256, ∀ c : Fin 2, (x.val / 2 + 128 * c.val) &&& 85 = x.val / 2 &&& 85 := by decide +kernel
theorem h55' {x c : Nat} (h : x < 256) (hc : c < 2) : (x / 2 + 128 * c) &&& 85 = x / 2 &&& 85 := h55 ⟨x, h⟩ ⟨c, hc⟩
theorem l55 : ∀ x : Fin 256, x.val / 2 &&& 85 ≤ x.val := by decide +kernel
theorem l55' {x : Nat} (h : x < 256) : x / 2 &&& 85 ≤ x := l55 ⟨x, h⟩
theorem h33 : ∀ x : Fin 256, ∀ c : Fin 4, (x.val / 4 + 64 * c.val) &&& 51 = x.val / 4 &&& 51 := by decide +kernel
theorem h33' {x c : Nat} (h : x < 256) (hc : c < 4) : (x / 4 + 64 * c) &&& 51 = x / 4 &&& 51 := h33 ⟨x, h⟩ ⟨c, hc⟩
def pB (x : Nat) : Nat := x % 2 + x / 2 % 2 + x / 4 % 2 + x / 8 % 2 + x / 16 % 2 + x / 32 % 2 + x / 64 % 2 + x / 128 % 2
def yB (x : Nat) : Nat := x - (x / 2 &&& 85)
def zB (x : Nat) : Nat := (x &&& 51) + (x / 4 &&& 51)
theorem zz : ∀ x : Fin 256, zB (yB x.val) ≤ 68 ∧ zB (yB x.val) % 16 ≤ 4 ∧ (zB (yB x.val) + zB (yB x.val) / 16) % 16 = pB x.val ∧ pB x.val ≤ 8 := by decide +kernel
theorem zz' {x : Nat} (h : x < 256) : zB (yB x) ≤ 68 ∧ zB (yB x) % 16 ≤ 4 ∧ (zB (yB x) + zB (yB x) / 16) % 16 = pB x ∧ pB x ≤ 8 := zz ⟨x, h⟩
theorem sw1 {a0 a1 a2 a3 a4 a5 a6 a7 : Nat} (h0 : a0 < 256) (h1 : a1 < 256) (h2 : a2 < 256) (h3 : a3 < 256) (h4 : a4 < 256) (h5 : a5 < 256) (h6 : a6 < 256) (h7 : a7 < 256) : E8 a0 a1 a2 a3 a4 a5 a6 a7 - (E8 a0 a1 a2 a3 a4 a5 a6 a7 / 2 &&& 6148914691236517205) = E8 (yB a0) (yB a1) (yB a2) (yB a3) (yB a4) (yB a5) (yB a6) (yB a7) := by
  have e : E8 a0 a1 a2 a3 a4 a5 a6 a7 / 2 = E8 (a0 / 2 + 128 * (a1 % 2)) (a1 / 2 + 128 * (a2 % 2)) (a2 / 2 + 128 * (a3 % 2)) (a3 / 2 + 128 * (a4 % 2)) (a4 / 2 + 128 * (a5 % 2)) (a5 / 2 + 128 * (a6 % 2)) (a6 / 2 + 128 * (a7 % 2)) (a7 / 2 + 128 * 0) := by unfold E8; omega
  rw [e, show 6148914691236517205 = E8 85 85 85 85 85 85 85 85 by decide, and8 (by omega) (by omega) (by omega) (by omega) (by omega) (by omega) (by omega) (by omega) (by omega)]
  rw [h55' h0 (by omega), h55' h1 (by omega), h55' h2 (by omega), h55' h3 (by omega), h55' h4 (by omega), h55' h5 (by omega), h55' h6 (by omega), h55' h7 (by omega)]
  have l0 := l55' h0
  have l1 := l55' h1
  have l2 := l55' h2
  have l3 := l55' h3
  have l4 := l55' h4
  have l5 := l55' h5
  have l6 := l55' h6
  have l7 := l55' h7
  unfold E8 yB
  generalize (a0 / 2 &&& 85) = b0 at *
  generalize (a1 / 2 &&& 85) = b1 at *
  generalize (a2 / 2 &&& 85) = b2 at *
  generalize (a3 / 2 &&& 85) = b3 at *
  generalize (a4 / 2 &&& 85) = b4 at *
  generalize (a5 / 2 &&& 85) = b5 at *
  generalize (a6 / 2 &&& 85) = b6 at *
  generalize (a7 / 2 &&& 85) = b7 at *
  omega
theorem sw2 {a0 a1 a2 a3 a4 a5 a6 a7 : Nat} (h0 : a0 < 256) (h1 : a1 < 256) (h2 : a2 < 256) (h3 : a3 < 256) (h4 : a4 < 256) (h5 : a5 < 256) (h6 : a6 < 256) (h7 : a7 < 256) : (E8 a0 a1 a2 a3 a4 a5 a6 a7 &&& 3689348814741910323) + (E8 a0 a1 a2 a3 a4 a5 a6 a7 / 4 &&& 3689348814741910323) = E8 (zB a0) (zB a1) (zB a2) (zB a3) (zB a4) (zB a5) (zB a6) (zB a7) := by
  have e : E8 a0 a1 a2 a3 a4 a5 a6 a7 / 4 = E8 (a0 / 4 + 64 * (a1 % 4)) (a1 / 4 + 64 * (a2 % 4)) (a2 / 4 + 64 * (a3 % 4)) (a3 / 4 + 64 * (a4 % 4)) (a4 / 4 + 64 * (a5 % 4)) (a5 / 4 + 64 * (a6 % 4)) (a6 / 4 + 64 * (a7 % 4)) (a7 / 4 + 64 * 0) := by unfold E8; omega
  rw [e, show 3689348814741910323 = E8 51 51 51 51 51 51 51 51 by decide, and8 h0 h1 h2 h3 h4 h5 h6 h7 (by omega), and8 (by omega) (by omega) (by omega) (by omega) (by omega) (by omega) (by omega) (by omega) (by omega)]
  rw [h33' h0 (by omega), h33' h1 (by omega), h33' h2 (by omega), h33' h3 (by omega), h33' h4 (by omega), h33' h5 (by omega), h33' h6 (by omega), h33' h7 (by omega)]
  unfold E8 zB
  generalize (a0 / 4 &&& 51) = b0
  generalize (a0 &&& 51) = d0
  generalize (a1 / 4 &&& 51) = b1
  generalize (a1 &&& 51) = d1
  generalize (a2 / 4 &&& 51) = b2
  generalize (a2 &&& 51) = d2
  generalize (a3 / 4 &&& 51) = b3
  generalize (a3 &&& 51) = d3
  generalize (a4 / 4 &&& 51) = b4
  generalize (a4 &&& 51) = d4
  generalize (a5 / 4 &&& 51) = b5
  generalize (a5 &&& 51) = d5
  generalize (a6 / 4 &&& 51) = b6
  generalize (a6 &&& 51) = d6
  generalize (a7 / 4 &&& 51) = b7
  generalize (a7 &&& 51) = d7
  omega
theorem md16 {a b : Nat} : (a + a / 16 + 16 * b) &&& 15 = (a + a / 16) % 16 := by
  have := Nat.and_two_pow_sub_one_eq_mod (a + a / 16 + 16 * b) 4
  rw [show (15 : Nat) = 2 ^ 4 - 1 by decide, this]
  omega
theorem sw3 {a0 a1 a2 a3 a4 a5 a6 a7 : Nat} (h0 : a0 ≤ 68 ∧ a0 % 16 ≤ 4) (h1 : a1 ≤ 68 ∧ a1 % 16 ≤ 4) (h2 : a2 ≤ 68 ∧ a2 % 16 ≤ 4) (h3 : a3 ≤ 68 ∧ a3 % 16 ≤ 4) (h4 : a4 ≤ 68 ∧ a4 % 16 ≤ 4) (h5 : a5 ≤ 68 ∧ a5 % 16 ≤ 4) (h6 : a6 ≤ 68 ∧ a6 % 16 ≤ 4) (h7 : a7 ≤ 68 ∧ a7 % 16 ≤ 4) : ((E8 a0 a1 a2 a3 a4 a5 a6 a7 + E8 a0 a1 a2 a3 a4 a5 a6 a7 / 16) &&& 1085102592571150095) = E8 ((a0 + a0 / 16) % 16) ((a1 + a1 / 16) % 16) ((a2 + a2 / 16) % 16) ((a3 + a3 / 16) % 16) ((a4 + a4 / 16) % 16) ((a5 + a5 / 16) % 16) ((a6 + a6 / 16) % 16) ((a7 + a7 / 16) % 16) := by
  have e : E8 a0 a1 a2 a3 a4 a5 a6 a7 + E8 a0 a1 a2 a3 a4 a5 a6 a7 / 16 = E8 (a0 + a0 / 16 + 16 * (a1 % 16)) (a1 + a1 / 16 + 16 * (a2 % 16)) (a2 + a2 / 16 + 16 * (a3 % 16)) (a3 + a3 / 16 + 16 * (a4 % 16)) (a4 + a4 / 16 + 16 * (a5 % 16)) (a5 + a5 / 16 + 16 * (a6 % 16)) (a6 + a6 / 16 + 16 * (a7 % 16)) (a7 + a7 / 16 + 16 * 0) := by unfold E8; omega
  rw [e, show 1085102592571150095 = E8 15 15 15 15 15 15 15 15 by decide, and8 (by omega) (by omega) (by omega) (by omega) (by omega) (by omega) (by omega) (by omega) (by omega)]
  rw [md16, md16, md16, md16, md16, md16, md16, md16]
theorem dv1 {a R : Nat} (h : a < 256) : (a + 256 * R) / 256 = R := by omega
theorem dv2 {a b R : Nat} (h : a < 256) (h' : b < 256) : (a + 256 * (b + 256 * R)) / 65536 = R := by omega
theorem dv4 {a b c d R : Nat} (h : a < 256) (h' : b < 256) (h2 : c < 256) (h3 : d < 256) : (a + 256 * (b + 256 * (c + 256 * (d + 256 * R)))) / 4294967296 = R := by omega
theorem md1 {a R : Nat} (h : a < 128) : (a + 256 * R) % 128 = a := by omega
theorem E8_lt {a0 a1 a2 a3 a4 a5 a6 a7 : Nat} (h0 : a0 < 256) (h1 : a1 < 256) (h2 : a2 < 256) (h3 : a3 < 256) (h4 : a4 < 256) (h5 : a5 < 256) (h6 : a6 < 256) (h7 : a7 < 256) : E8 a0 a1 a2 a3 a4 a5 a6 a7 < 18446744073709551616 := by
  unfold E8
  have r6 : a6 + 256 * a7 < 65536 := by omega
  generalize a6 + 256 * a7 = x6 at *
  have r5 : a5 + 256 * x6 < 16777216 := by omega
  generalize a5 + 256 * x6 = x5 at *
  have r4 : a4 + 256 * x5 < 4294967296 := by omega
  generalize a4 + 256 * x5 = x4 at *
  have r3 : a3 + 256 * x4 < 1099511627776 := by omega
  generalize a3 + 256 * x4 = x3 at *
  have r2 : a2 + 256 * x3 < 281474976710656 := by omega
  generalize a2 + 256 * x3 = x2 at *
  have r1 : a1 + 256 * x2 < 72057594037927936 := by omega
  generalize a1 + 256 * x2 = x1 at *
  omega
theorem ad256 {a b c d e f : Nat} (h1 : a + b = e) (h2 : c + d = f) : (a + 256 * c) + (b + 256 * d) = e + 256 * f := by omega
theorem E8_add {a0 a1 a2 a3 a4 a5 a6 a7 b0 b1 b2 b3 b4 b5 b6 b7 : Nat} : E8 a0 a1 a2 a3 a4 a5 a6 a7 + E8 b0 b1 b2 b3 b4 b5 b6 b7 = E8 (a0 + b0) (a1 + b1) (a2 + b2) (a3 + b3) (a4 + b4) (a5 + b5) (a6 + b6) (a7 + b7) := by
  unfold E8
  exact ad256 rfl (ad256 rfl (ad256 rfl (ad256 rfl (ad256 rfl (ad256 rfl (ad256 rfl rfl))))))
theorem sw4 {a0 a1 a2 a3 a4 a5 a6 a7 : Nat} (h0 : a0 ≤ 8) (h1 : a1 ≤ 8) (h2 : a2 ≤ 8) (h3 : a3 ≤ 8) (h4 : a4 ≤ 8) (h5 : a5 ≤ 8) (h6 : a6 ≤ 8) (h7 : a7 ≤ 8) {x y z : Nat} (hx : x = E8 a0 a1 a2 a3 a4 a5 a6 a7 + E8 a0 a1 a2 a3 a4 a5 a6 a7 / 256) (hy : y = x + x / 65536) (hz : z = y + y / 4294967296) : z < 18446744073709551616 ∧ y < 18446744073709551616 ∧ x < 18446744073709551616 ∧ z % 128 = a0 + a1 + a2 + a3 + a4 + a5 + a6 + a7 := by
  have z0 : ∀ t : Nat, t + 256 * 0 = t := fun t => by omega
  have d1 : E8 a0 a1 a2 a3 a4 a5 a6 a7 / 256 = E8 a1 a2 a3 a4 a5 a6 a7 0 := by
    unfold E8
    rw [dv1 (by omega), z0]
  have ex : x = E8 (a0 + a1) (a1 + a2) (a2 + a3) (a3 + a4) (a4 + a5) (a5 + a6) (a6 + a7) (a7 + 0) := by rw [hx, d1, E8_add]
  have d2 : x / 65536 = E8 (a2 + a3) (a3 + a4) (a4 + a5) (a5 + a6) (a6 + a7) (a7 + 0) 0 0 := by
    rw [ex]
    unfold E8
    rw [dv2 (by omega) (by omega), z0]
  have ey : y = E8 (a0 + a1 + (a2 + a3)) (a1 + a2 + (a3 + a4)) (a2 + a3 + (a4 + a5)) (a3 + a4 + (a5 + a6)) (a4 + a5 + (a6 + a7)) (a5 + a6 + (a7 + 0)) (a6 + a7 + 0) (a7 + 0 + 0) := by rw [hy, d2, ex, E8_add]
  have d3 : y / 4294967296 = E8 (a4 + a5 + (a6 + a7)) (a5 + a6 + (a7 + 0)) (a6 + a7 + 0) (a7 + 0 + 0) 0 0 0 0 := by
    rw [ey]
    unfold E8
    rw [dv4 (by omega) (by omega) (by omega) (by omega), z0]
  have ez : z = E8 (a0 + a1 + (a2 + a3) + (a4 + a5 + (a6 + a7))) (a1 + a2 + (a3 + a4) + (a5 + a6 + (a7 + 0))) (a2 + a3 + (a4 + a5) + (a6 + a7 + 0)) (a3 + a4 + (a5 + a6) + (a7 + 0 + 0)) (a4 + a5 + (a6 + a7) + 0) (a5 + a6 + (a7 + 0) + 0) (a6 + a7 + 0 + 0) (a7 + 0 + 0 + 0) := by rw [hz, d3, ey, E8_add]
  refine ⟨by rw [ez]; exact E8_lt (by omega) (by omega) (by omega) (by omega) (by omega) (by omega) (by omega) (by omega), by rw [ey]; exact E8_lt (by omega) (by omega) (by omega) (by omega) (by omega) (by omega) (by omega) (by omega), by rw [ex]; exact E8_lt (by omega) (by omega) (by omega) (by omega) (by omega) (by omega) (by omega) (by omega), ?_⟩
  rw [ez]
  have := md1 (a := a0 + a1 + (a2 + a3) + (a4 + a5 + (a6 + a7))) (R := (a1 + a2 + (a3 + a4) + (a5 + a6 + (a7 + 0))) + 256 * ((a2 + a3 + (a4 + a5) + (a6 + a7 + 0)) + 256 * ((a3 + a4 + (a5 + a6) + (a7 + 0 + 0)) + 256 * ((a4 + a5 + (a6 + a7) + 0) + 256 * ((a5 + a6 + (a7 + 0) + 0) + 256 * ((a6 + a7 + 0 + 0) + 256 * (a7 + 0 + 0 + 0))))))) (by omega)
  unfold E8
  rw [this]
  omega
theorem tb_U (x : Int) (i : Nat) : (if tb x (i : Int) = true then (1 : Int) else 0) = ((U x / 2 ^ i % 2 : Nat) : Int) := by
  unfold tb U
  rw [Int.toNat_natCast, ← BitVec.testBit_toNat, Nat.testBit_eq_decide_div_mod_eq]
  by_cases h : (Int64.ofInt x).toBitVec.toNat / 2 ^ i % 2 = 1
  · rw [if_pos (decide_eq_true h), h]; rfl
  · rw [if_neg (fun z => h (of_decide_eq_true z))]
    have := Nat.mod_lt ((Int64.ofInt x).toBitVec.toNat / 2 ^ i) (show 2 > 0 by decide)
    omega
theorem sm_8 (f : Int → Int) (k : Nat) : sm f (k + 8) = sm f k + (f (k : Int) + f ((k + 1 : Nat) : Int) + f ((k + 2 : Nat) : Int) + f ((k + 3 : Nat) : Int) + f ((k + 4 : Nat) : Int) + f ((k + 5 : Nat) : Int) + f ((k + 6 : Nat) : Int) + f ((k + 7 : Nat) : Int)) := by
  show sm f k + f (k : Int) + f ((k + 1 : Nat) : Int) + f ((k + 2 : Nat) : Int) + f ((k + 3 : Nat) : Int) + f ((k + 4 : Nat) : Int) + f ((k + 5 : Nat) : Int) + f ((k + 6 : Nat) : Int) + f ((k + 7 : Nat) : Int) = _
  omega
theorem sm_byte (x : Int) (k : Nat) : sm (fun i => if tb x i = true then 1 else 0) (k + 8) = sm (fun i => if tb x i = true then 1 else 0) k + ((pB (U x / 2 ^ k % 256) : Nat) : Int) := by
  rw [sm_8]
  simp only [tb_U]
  have e : ∀ j, U x / 2 ^ (k + j) = U x / 2 ^ k / 2 ^ j := fun j => by rw [Nat.pow_add, Nat.div_div_eq_div_mul]
  rw [e 1, e 2, e 3, e 4, e 5, e 6, e 7]
  unfold pB
  generalize U x / 2 ^ k = Y
  omega
theorem pc_bytes (x : Int) : pc x = ((pB (U x / 2 ^ 0 % 256) + pB (U x / 2 ^ 8 % 256) + pB (U x / 2 ^ 16 % 256) + pB (U x / 2 ^ 24 % 256) + pB (U x / 2 ^ 32 % 256) + pB (U x / 2 ^ 40 % 256) + pB (U x / 2 ^ 48 % 256) + pB (U x / 2 ^ 56 % 256) : Nat) : Int) := by
  unfold pc
  have h0 : sm (fun i => if tb x i = true then 1 else 0) 8 = sm (fun i => if tb x i = true then 1 else 0) 0 + ((pB (U x / 2 ^ 0 % 256) : Nat) : Int) := sm_byte x 0
  have h1 : sm (fun i => if tb x i = true then 1 else 0) 16 = sm (fun i => if tb x i = true then 1 else 0) 8 + ((pB (U x / 2 ^ 8 % 256) : Nat) : Int) := sm_byte x 8
  have h2 : sm (fun i => if tb x i = true then 1 else 0) 24 = sm (fun i => if tb x i = true then 1 else 0) 16 + ((pB (U x / 2 ^ 16 % 256) : Nat) : Int) := sm_byte x 16
  have h3 : sm (fun i => if tb x i = true then 1 else 0) 32 = sm (fun i => if tb x i = true then 1 else 0) 24 + ((pB (U x / 2 ^ 24 % 256) : Nat) : Int) := sm_byte x 24
  have h4 : sm (fun i => if tb x i = true then 1 else 0) 40 = sm (fun i => if tb x i = true then 1 else 0) 32 + ((pB (U x / 2 ^ 32 % 256) : Nat) : Int) := sm_byte x 32
  have h5 : sm (fun i => if tb x i = true then 1 else 0) 48 = sm (fun i => if tb x i = true then 1 else 0) 40 + ((pB (U x / 2 ^ 40 % 256) : Nat) : Int) := sm_byte x 40
  have h6 : sm (fun i => if tb x i = true then 1 else 0) 56 = sm (fun i => if tb x i = true then 1 else 0) 48 + ((pB (U x / 2 ^ 48 % 256) : Nat) : Int) := sm_byte x 48
  have h7 : sm (fun i => if tb x i = true then 1 else 0) 64 = sm (fun i => if tb x i = true then 1 else 0) 56 + ((pB (U x / 2 ^ 56 % 256) : Nat) : Int) := sm_byte x 56
  have hz : sm (fun i => if tb x i = true then 1 else 0) 0 = 0 := rfl
  rw [h7, h6, h5, h4, h3, h2, h1, h0, hz]
  omega
