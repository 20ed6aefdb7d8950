theorem U_k1 : U 6148914691236517205 = 6148914691236517205 := by have := U_int 6148914691236517205; omega
theorem U_k2 : U 3689348814741910323 = 3689348814741910323 := by have := U_int 3689348814741910323; omega
theorem U_k3 : U 1085102592571150095 = 1085102592571150095 := by have := U_int 1085102592571150095; omega
theorem U_s1 (a : Int) : U (lushr a 1) = U a / 2 := by
  rw [U_lushr a (by omega) (by omega), show (2 : Nat) ^ (1 : Int).toNat = 2 by decide]
theorem U_s2 (a : Int) : U (lushr a 2) = U a / 4 := by
  rw [U_lushr a (by omega) (by omega), show (2 : Nat) ^ (2 : Int).toNat = 4 by decide]
theorem U_s4 (a : Int) : U (lushr a 4) = U a / 16 := by
  rw [U_lushr a (by omega) (by omega), show (2 : Nat) ^ (4 : Int).toNat = 16 by decide]
theorem U_s8 (a : Int) : U (lushr a 8) = U a / 256 := by
  rw [U_lushr a (by omega) (by omega), show (2 : Nat) ^ (8 : Int).toNat = 256 by decide]
theorem U_s16 (a : Int) : U (lushr a 16) = U a / 65536 := by
  rw [U_lushr a (by omega) (by omega), show (2 : Nat) ^ (16 : Int).toNat = 65536 by decide]
theorem U_s32 (a : Int) : U (lushr a 32) = U a / 4294967296 := by
  rw [U_lushr a (by omega) (by omega), show (2 : Nat) ^ (32 : Int).toNat = 4294967296 by decide]
theorem bytes8 (X : Nat) (h : X < 18446744073709551616) : X = E8 (X / 2 ^ 0 % 256) (X / 2 ^ 8 % 256) (X / 2 ^ 16 % 256) (X / 2 ^ 24 % 256) (X / 2 ^ 32 % 256) (X / 2 ^ 40 % 256) (X / 2 ^ 48 % 256) (X / 2 ^ 56 % 256) := by
  unfold E8
  have a1 : X / 2 ^ 0 = X := by simp
  have st : ∀ k, X / 2 ^ (k + 8) = X / 2 ^ k / 256 := fun k => by rw [Nat.pow_add, Nat.div_div_eq_div_mul]
  have h1 : X = X % 256 + 256 * (X / 2 ^ 8) := by omega
  have h2 : X / 2 ^ 16 = X / 2 ^ 8 / 256 := st 8
  have h3 : X / 2 ^ 24 = X / 2 ^ 16 / 256 := st 16
  have h4 : X / 2 ^ 32 = X / 2 ^ 24 / 256 := st 24
  have h5 : X / 2 ^ 40 = X / 2 ^ 32 / 256 := st 32
  have h6 : X / 2 ^ 48 = X / 2 ^ 40 / 256 := st 40
  have h7 : X / 2 ^ 56 = X / 2 ^ 48 / 256 := st 48
  rw [a1]
  clear st a1
  generalize X / 2 ^ 8 = y1 at *
  generalize X / 2 ^ 16 = y2 at *
  generalize X / 2 ^ 24 = y3 at *
  generalize X / 2 ^ 32 = y4 at *
  generalize X / 2 ^ 40 = y5 at *
  generalize X / 2 ^ 48 = y6 at *
  generalize X / 2 ^ 56 = y7 at *
  have g7 : y7 % 256 = y7 := by omega
  rw [g7, show y6 % 256 + 256 * y7 = y6 by omega, show y5 % 256 + 256 * y6 = y5 by omega, show y4 % 256 + 256 * y5 = y4 by omega, show y3 % 256 + 256 * y4 = y3 by omega, show y2 % 256 + 256 * y3 = y2 by omega, show y1 % 256 + 256 * y2 = y1 by omega]
  omega
theorem bc1 (x : Int) {x0 x1 x2 x3 x4 x5 x6 x7 : Nat} (b0 : x0 < 256) (b1 : x1 < 256) (b2 : x2 < 256) (b3 : x3 < 256) (b4 : x4 < 256) (b5 : x5 < 256) (b6 : x6 < 256) (b7 : x7 < 256) (eX : U x = E8 x0 x1 x2 x3 x4 x5 x6 x7) : U (w64 (x - (land (lushr x 1) 6148914691236517205))) = E8 (yB x0) (yB x1) (yB x2) (yB x3) (yB x4) (yB x5) (yB x6) (yB x7) := by
  have q : U (land (lushr x 1) 6148914691236517205) = U x / 2 &&& 6148914691236517205 := by
    rw [U_land, U_s1, U_k1]
  have q2 : U x / 2 &&& 6148914691236517205 ≤ U x := Nat.le_trans Nat.and_le_left (Nat.div_le_self _ _)
  rw [U_w64, U_sub _ _ (by rw [q]; exact q2), q, eX]
  exact sw1 b0 b1 b2 b3 b4 b5 b6 b7
theorem yB_lt {x : Nat} (h : x < 256) : yB x < 256 := by unfold yB; omega
theorem bc2 (v : Int) {x0 x1 x2 x3 x4 x5 x6 x7 : Nat} (b0 : x0 < 256) (b1 : x1 < 256) (b2 : x2 < 256) (b3 : x3 < 256) (b4 : x4 < 256) (b5 : x5 < 256) (b6 : x6 < 256) (b7 : x7 < 256) (eX : U v = E8 (yB x0) (yB x1) (yB x2) (yB x3) (yB x4) (yB x5) (yB x6) (yB x7)) : U (w64 ((land v 3689348814741910323) + (land (lushr v 2) 3689348814741910323))) = E8 (zB (yB x0)) (zB (yB x1)) (zB (yB x2)) (zB (yB x3)) (zB (yB x4)) (zB (yB x5)) (zB (yB x6)) (zB (yB x7)) := by
  have z0 := zz' b0
  have z1 := zz' b1
  have z2 := zz' b2
  have z3 := zz' b3
  have z4 := zz' b4
  have z5 := zz' b5
  have z6 := zz' b6
  have z7 := zz' b7
  rw [U_w64, U_add, U_land, U_land, U_s2, U_k2, eX, sw2 (yB_lt b0) (yB_lt b1) (yB_lt b2) (yB_lt b3) (yB_lt b4) (yB_lt b5) (yB_lt b6) (yB_lt b7)]
  exact Nat.mod_eq_of_lt (E8_lt (by omega) (by omega) (by omega) (by omega) (by omega) (by omega) (by omega) (by omega))
theorem E8_lt8 {x0 x1 x2 x3 x4 x5 x6 x7 : Nat} (b0 : x0 ≤ 68) (b1 : x1 ≤ 68) (b2 : x2 ≤ 68) (b3 : x3 ≤ 68) (b4 : x4 ≤ 68) (b5 : x5 ≤ 68) (b6 : x6 ≤ 68) (b7 : x7 ≤ 68) : E8 x0 x1 x2 x3 x4 x5 x6 x7 < 9223372036854775808 := by
  have := E8_lt (a0 := x0) (a1 := x1) (a2 := x2) (a3 := x3) (a4 := x4) (a5 := x5) (a6 := x6) (a7 := x7 + 128) (by omega) (by omega) (by omega) (by omega) (by omega) (by omega) (by omega) (by omega)
  have e : E8 x0 x1 x2 x3 x4 x5 x6 (x7 + 128) = E8 x0 x1 x2 x3 x4 x5 x6 x7 + E8 0 0 0 0 0 0 0 128 := by rw [E8_add]; simp only [Nat.add_zero]
  rw [e, show E8 0 0 0 0 0 0 0 128 = 9223372036854775808 by decide] at this
  omega
theorem bc3 (v : Int) {x0 x1 x2 x3 x4 x5 x6 x7 : Nat} (b0 : x0 < 256) (b1 : x1 < 256) (b2 : x2 < 256) (b3 : x3 < 256) (b4 : x4 < 256) (b5 : x5 < 256) (b6 : x6 < 256) (b7 : x7 < 256) (eX : U v = E8 (zB (yB x0)) (zB (yB x1)) (zB (yB x2)) (zB (yB x3)) (zB (yB x4)) (zB (yB x5)) (zB (yB x6)) (zB (yB x7))) : U (land (w64 (v + (lushr v 4))) 1085102592571150095) = E8 (pB x0) (pB x1) (pB x2) (pB x3) (pB x4) (pB x5) (pB x6) (pB x7) := by
  have z0 := zz' b0
  have z1 := zz' b1
  have z2 := zz' b2
  have z3 := zz' b3
  have z4 := zz' b4
  have z5 := zz' b5
  have z6 := zz' b6
  have z7 := zz' b7
  have lt := E8_lt8 z0.1 z1.1 z2.1 z3.1 z4.1 z5.1 z6.1 z7.1
  have s3 := sw3 ⟨z0.1, z0.2.1⟩ ⟨z1.1, z1.2.1⟩ ⟨z2.1, z2.2.1⟩ ⟨z3.1, z3.2.1⟩ ⟨z4.1, z4.2.1⟩ ⟨z5.1, z5.2.1⟩ ⟨z6.1, z6.2.1⟩ ⟨z7.1, z7.2.1⟩
  rw [z0.2.2.1, z1.2.2.1, z2.2.2.1, z3.2.2.1, z4.2.2.1, z5.2.2.1, z6.2.2.1, z7.2.2.1] at s3
  rw [U_land, U_w64, U_add, U_s4, U_k3, eX, Nat.mod_eq_of_lt, s3]
  generalize E8 (zB (yB x0)) (zB (yB x1)) (zB (yB x2)) (zB (yB x3)) (zB (yB x4)) (zB (yB x5)) (zB (yB x6)) (zB (yB x7)) = E at lt
  omega
theorem bc4 (v : Int) {x0 x1 x2 x3 x4 x5 x6 x7 : Nat} (b0 : x0 < 256) (b1 : x1 < 256) (b2 : x2 < 256) (b3 : x3 < 256) (b4 : x4 < 256) (b5 : x5 < 256) (b6 : x6 < 256) (b7 : x7 < 256) (eX : U v = E8 (pB x0) (pB x1) (pB x2) (pB x3) (pB x4) (pB x5) (pB x6) (pB x7)) {v4 v5 v6 : Int} (h4 : v4 = w64 (v + lushr v 8)) (h5 : v5 = w64 (v4 + lushr v4 16)) (h6 : v6 = w64 (v5 + lushr v5 32)) : U v6 % 128 = pB x0 + pB x1 + pB x2 + pB x3 + pB x4 + pB x5 + pB x6 + pB x7 := by
  have z0 := (zz' b0).2.2.2
  have z1 := (zz' b1).2.2.2
  have z2 := (zz' b2).2.2.2
  have z3 := (zz' b3).2.2.2
  have z4 := (zz' b4).2.2.2
  have z5 := (zz' b5).2.2.2
  have z6 := (zz' b6).2.2.2
  have z7 := (zz' b7).2.2.2
  obtain ⟨q1, q2, q3, q4⟩ := sw4 z0 z1 z2 z3 z4 z5 z6 z7 (x := U v + U v / 256) (by rw [eX]) (y := U v + U v / 256 + (U v + U v / 256) / 65536) rfl rfl
  have u4 : U v4 = U v + U v / 256 := by
    rw [h4, U_w64, U_add, U_s8]
    exact Nat.mod_eq_of_lt q3
  have u5 : U v5 = U v4 + U v4 / 65536 := by
    rw [h5, U_w64, U_add, U_s16, u4]
    exact Nat.mod_eq_of_lt q2
  have u6 : U v6 = U v5 + U v5 / 4294967296 := by
    rw [h6, U_w64, U_add, U_s32, u5, u4]
    exact Nat.mod_eq_of_lt q1
  rw [u6, u5, u4]
  exact q4
theorem s_bitCount (x : Int) (M : Mem) : fJ13_bitCount_95d88 x M = some (pc x, M) := by
  unfold fJ13_bitCount_95d88
  rw [ob, ob, ob, ob, ob, ob]
  have eX := bytes8 (U x) (U_lt x)
  have P := pc_bytes x
  have b0 : U x / 2 ^ 0 % 256 < 256 := Nat.mod_lt _ (by decide)
  have b1 : U x / 2 ^ 8 % 256 < 256 := Nat.mod_lt _ (by decide)
  have b2 : U x / 2 ^ 16 % 256 < 256 := Nat.mod_lt _ (by decide)
  have b3 : U x / 2 ^ 24 % 256 < 256 := Nat.mod_lt _ (by decide)
  have b4 : U x / 2 ^ 32 % 256 < 256 := Nat.mod_lt _ (by decide)
  have b5 : U x / 2 ^ 40 % 256 < 256 := Nat.mod_lt _ (by decide)
  have b6 : U x / 2 ^ 48 % 256 < 256 := Nat.mod_lt _ (by decide)
  have b7 : U x / 2 ^ 56 % 256 < 256 := Nat.mod_lt _ (by decide)
  have u1 := bc1 x b0 b1 b2 b3 b4 b5 b6 b7 eX
  have u2 := bc2 _ b0 b1 b2 b3 b4 b5 b6 b7 u1
  have u3 := bc3 _ b0 b1 b2 b3 b4 b5 b6 b7 u2
  have u4 := bc4 _ b0 b1 b2 b3 b4 b5 b6 b7 u3 rfl rfl rfl
  rw [← u4] at P
  rw [P]
  have fin : ∀ v : Int, iand (w32 v) 127 = ((U v % 128 : Nat) : Int) := fun v => by
    obtain ⟨w1, w2⟩ := w32_mod v
    rw [iand127 w1.1 w1.2]
    have := U_int v
    omega
  rw [fin]
