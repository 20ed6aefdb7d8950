/-! SETS of few -/
def t3 (x i : Int) : Bool := (Int32.ofInt x).toBitVec.getLsbD i.toNat
theorem t3_ior (a b i : Int) : t3 (ior a b) i = (t3 a i || t3 b i) := by
  unfold t3 ior
  rw [Int32.ofInt_toInt, Int32.toBitVec_or, BitVec.getLsbD_or]
theorem t3_iand (a b i : Int) : t3 (iand a b) i = (t3 a i && t3 b i) := by
  unfold t3 iand
  rw [Int32.ofInt_toInt, Int32.toBitVec_and, BitVec.getLsbD_and]
theorem t3_ixor (a b i : Int) : t3 (ixor a b) i = (t3 a i ^^ t3 b i) := by
  unfold t3 ixor
  rw [Int32.ofInt_toInt, Int32.toBitVec_xor, BitVec.getLsbD_xor]
theorem k31 {k : Int} (h0 : 0 ≤ k) (h1 : k < 32) : ∃ j : Fin 32, k = (j.val : Int) := ⟨⟨k.toNat, by omega⟩, by simp; omega⟩
theorem t3_m1 {i : Int} (h0 : 0 ≤ i) (h1 : i < 32) : t3 (-1) i = true := by
  have key : ∀ b : Fin 32, (Int32.ofInt (-1)).toBitVec.getLsbD b.val = true := by decide +kernel
  obtain ⟨b, rfl⟩ := k31 h0 h1
  unfold t3
  rw [show ((b.val : Int)).toNat = b.val by simp, key b]
theorem t3_0 (i : Int) : t3 0 i = false := by
  unfold t3
  rw [show (Int32.ofInt 0).toBitVec = 0#32 by decide, BitVec.getLsbD_zero]
theorem t3_not {a i : Int} (h0 : 0 ≤ i) (h1 : i < 32) : t3 (ixor a (-1)) i = !t3 a i := by
  rw [t3_ixor, t3_m1 h0 h1, Bool.xor_true]
theorem t3_shl1 {k i : Int} (hk0 : 0 ≤ k) (hk1 : k < 32) (h0 : 0 ≤ i) (h1 : i < 32) : t3 (ishl 1 k) i = decide (i = k) := by
  have key : ∀ a b : Fin 32, (Int32.ofInt (ishl 1 (a.val : Int))).toBitVec.getLsbD b.val = decide (b.val = a.val) := by decide +kernel
  obtain ⟨a, rfl⟩ := k31 hk0 hk1
  obtain ⟨b, rfl⟩ := k31 h0 h1
  have := key a b
  unfold t3
  rw [show ((b.val : Int)).toNat = b.val by simp, this]
  apply decide_eq_decide.mpr
  omega
theorem t3_ext {x y : Int} (hx : i32 x) (hy : i32 y) (h : ∀ i, 0 ≤ i → i < 32 → t3 x i = t3 y i) : x = y := by
  have e : (Int32.ofInt x).toBitVec = (Int32.ofInt y).toBitVec := by
    apply BitVec.eq_of_getLsbD_eq
    intro i hi
    have := h (i : Int) (by omega) (by omega)
    unfold t3 at this
    rw [show ((i : Int)).toNat = i by simp] at this
    exact this
  have e2 : Int32.ofInt x = Int32.ofInt y := Int32.toBitVec.inj e
  rw [← i32_to hx, ← i32_to hy, e2]
theorem i32_0 : i32 0 := ⟨by omega, by omega⟩
theorem i32_1 : i32 1 := ⟨by omega, by omega⟩
theorem i32_iand (a b : Int) : i32 (iand a b) := i32_of _
theorem iand1 (y : Int) : iand y 1 = if t3 y 0 = true then 1 else 0 := by
  apply t3_ext (i32_iand _ _)
  · split
    · exact i32_1
    · exact i32_0
  · intro i h0 h1
    have t1 : ∀ k : Fin 32, (Int32.ofInt 1).toBitVec.getLsbD k.val = decide (k.val = 0) := by decide
    have h2 : t3 1 i = decide (i = 0) := by
      obtain ⟨b, rfl⟩ := k31 h0 h1
      unfold t3
      rw [show ((b.val : Int)).toNat = b.val by simp, t1 b]
      apply decide_eq_decide.mpr
      omega
    rw [t3_iand, h2]
    by_cases hi : i = 0
    · subst hi
      by_cases hb : t3 y 0 = true
      · rw [if_pos hb, hb, h2]; rfl
      · rw [if_neg hb, t3_0]; simp at hb; rw [hb]; rfl
    · have : decide (i = 0) = false := by simpa using hi
      rw [this, Bool.and_false]
      split
      · rw [h2, this]
      · rw [t3_0]
theorem t3_iushr0 {s v : Int} (h0 : 0 ≤ v) (h1 : v < 32) : t3 (iushr s v) 0 = t3 s v := by
  obtain ⟨b, rfl⟩ := k31 h0 h1
  unfold t3 iushr
  rw [Int32.ofInt_toInt]
  have key : ∀ b : Fin 32, ((Int32.ofInt (b.val : Int)).toUInt32 &&& Int32.toUInt32 31).toBitVec.toNat = b.val := by decide +kernel
  show (((Int32.ofInt s).toUInt32 >>> ((Int32.ofInt (b.val : Int)).toUInt32 &&& Int32.toUInt32 31)).toBitVec).getLsbD _ = _
  rw [UInt32.toBitVec_shiftRight]
  rw [show ((b.val : Int)).toNat = b.val by simp]
  rw [BitVec.ushiftRight_eq', BitVec.getLsbD_ushiftRight]
  have k2 := key b
  have e : (((Int32.ofInt (b.val : Int)).toUInt32 &&& Int32.toUInt32 31).toBitVec % 32).toNat = b.val := by
    rw [BitVec.toNat_umod, k2]
    have := b.isLt
    show b.val % 32 = b.val
    omega
  rw [e]
  show (Int32.ofInt s).toBitVec.getLsbD (b.val + 0) = _
  rw [Nat.add_zero]
theorem t3_ishr0 {s v : Int} (h0 : 0 ≤ v) (h1 : v < 32) : t3 (ishr s v) 0 = t3 s v := by
  obtain ⟨b, rfl⟩ := k31 h0 h1
  unfold t3 ishr
  rw [Int32.ofInt_toInt]
  have key : ∀ b : Fin 32, ((Int32.ofInt (b.val : Int) &&& 31).toBitVec.smod 32).toNat = b.val := by decide +kernel
  rw [Int32.toBitVec_shiftRight]
  rw [show ((b.val : Int)).toNat = b.val by simp]
  rw [BitVec.sshiftRight_eq', BitVec.getLsbD_sshiftRight, key b]
  have := b.isLt
  simp [this]
theorem bitU {s v : Int} (h0 : 0 ≤ v) (h1 : v < 32) : iand (iushr s v) 1 = if t3 s v = true then 1 else 0 := by
  rw [iand1, t3_iushr0 h0 h1]
theorem bitS {s v : Int} (h0 : 0 ≤ v) (h1 : v < 32) : iand (ishr s v) 1 = if t3 s v = true then 1 else 0 := by
  rw [iand1, t3_ishr0 h0 h1]
theorem sub3 {a p : Int} : iand a (ixor p (-1)) = 0 ↔ ∀ i, 0 ≤ i → i < 32 → t3 a i = true → t3 p i = true := by
  constructor
  · intro h i h0 h1 ha
    have : t3 (iand a (ixor p (-1))) i = false := by rw [h, t3_0]
    rw [t3_iand, t3_not h0 h1, ha] at this
    simpa using this
  · intro h
    apply t3_ext (i32_iand _ _) i32_0
    intro i h0 h1
    rw [t3_iand, t3_not h0 h1, t3_0]
    by_cases ha : t3 a i = true
    · rw [h i h0 h1 ha, Bool.not_true, Bool.and_false]
    · simp at ha; rw [ha, Bool.false_and]
theorem t3_nat {x i : Int} (h0 : 0 ≤ x) (h1 : x < 2147483648) (i0 : 0 ≤ i) : t3 x i = x.toNat.testBit i.toNat := by
  unfold t3
  rw [← BitVec.testBit_toNat]
  have : (Int32.ofInt x).toBitVec.toNat = x.toNat := by
    show (BitVec.ofInt 32 x).toNat = _
    rw [BitVec.toNat_ofInt]
    omega
  rw [this]
/-- how many sets of so many there are -/
def W2 (k : Int) : Int := ((2 ^ k.toNat : Nat) : Int)
theorem W_shl {k : Int} (h0 : 0 ≤ k) (h1 : k ≤ 12) : ishl 1 k = W2 k := by
  have key : ∀ b : Fin 13, ishl 1 (b.val : Int) = ((2 ^ b.val : Nat) : Int) := by decide +kernel
  obtain ⟨b, rfl⟩ : ∃ b : Fin 13, k = (b.val : Int) := ⟨⟨k.toNat, by omega⟩, by simp; omega⟩
  unfold W2
  rw [key b, show ((b.val : Int)).toNat = b.val by simp]
theorem W_bd {k : Int} (h0 : 0 ≤ k) (h1 : k ≤ 12) : 1 ≤ W2 k ∧ W2 k ≤ 4096 := by
  have key : ∀ b : Fin 13, 1 ≤ ((2 ^ b.val : Nat) : Int) ∧ ((2 ^ b.val : Nat) : Int) ≤ 4096 := by decide +kernel
  obtain ⟨b, rfl⟩ : ∃ b : Fin 13, k = (b.val : Int) := ⟨⟨k.toNat, by omega⟩, by simp; omega⟩
  unfold W2
  rw [show ((b.val : Int)).toNat = b.val by simp]
  exact key b
theorem W_lt {S m : Int} (h0 : 0 ≤ S) (hS : S < 2147483648) (m0 : 0 ≤ m) : S < W2 m ↔ ∀ i, m ≤ i → i < 32 → t3 S i = false := by
  constructor
  · intro h i i0 i1
    rw [t3_nat h0 hS (by omega)]
    apply Nat.testBit_lt_two_pow
    have h1 : S.toNat < 2 ^ m.toNat := by unfold W2 at h; omega
    exact Nat.lt_of_lt_of_le h1 (Nat.pow_le_pow_right (by decide) (by omega))
  · intro h
    unfold W2
    have : S.toNat < 2 ^ m.toNat := by
      apply Nat.lt_pow_two_of_testBit
      intro i hi
      by_cases hi2 : i < 32
      · have := h (i : Int) (by omega) (by omega)
        rw [t3_nat h0 hS (by omega)] at this
        rw [Int.toNat_natCast] at this
        exact this
      · apply Nat.testBit_lt_two_pow
        have h3 : S.toNat < 2 ^ 31 := by omega
        exact Nat.lt_of_lt_of_le h3 (Nat.pow_le_pow_right (by decide) (by omega))
    omega
theorem ior_add {S k : Int} (h0 : 0 ≤ S) (h1 : S < 4096) (k0 : 0 ≤ k) (k1 : k < 12) (h : t3 S k = false) : ior S (ishl 1 k) = S + W2 k := by
  have wb := W_bd k0 (by omega)
  have e : (Int32.ofInt S).toBitVec &&& (Int32.ofInt (ishl 1 k)).toBitVec = 0#32 := by
    apply BitVec.eq_of_getLsbD_eq
    intro i hi
    rw [BitVec.getLsbD_and, BitVec.getLsbD_zero]
    have a := t3_shl1 (k := k) (i := (i : Int)) k0 (by omega) (by omega) (by omega)
    unfold t3 at a h
    rw [Int.toNat_natCast] at a
    rw [a]
    by_cases z : (i : Int) = k
    · rw [← z, Int.toNat_natCast] at h
      rw [h, Bool.false_and]
    · rw [decide_eq_false z, Bool.and_false]
  unfold ior
  show (Int32.ofInt S ||| Int32.ofInt (ishl 1 k)).toInt = _
  have e2 : Int32.ofInt S ||| Int32.ofInt (ishl 1 k) = Int32.ofInt S + Int32.ofInt (ishl 1 k) := by
    apply Int32.toBitVec.inj
    rw [Int32.toBitVec_or, Int32.toBitVec_add, BitVec.add_eq_or_of_and_eq_zero _ _ e]
  rw [e2, ← Int32.ofInt_add, W_shl k0 (by omega)]
  exact w32_id (by omega) (by omega)
/-- one taken out -/
theorem set_sub {S k : Int} (h0 : 0 ≤ S) (h1 : S < 4096) (k0 : 0 ≤ k) (k1 : k < 12) (h : t3 S k = true) : W2 k ≤ S ∧ t3 (S - W2 k) k = false ∧ ∀ i, 0 ≤ i → i < 32 → t3 (S - W2 k) i = (t3 S i && !decide (i = k)) := by
  have wb := W_bd k0 (by omega)
  generalize hT : iand S (ixor (ishl 1 k) (-1)) = T
  have tb' : ∀ i, 0 ≤ i → i < 32 → t3 T i = (t3 S i && !decide (i = k)) := fun i a b => by
    rw [← hT, t3_iand, t3_not a b, t3_shl1 k0 (by omega) a b]
  have tk : t3 T k = false := by rw [tb' k k0 (by omega), decide_eq_true rfl, Bool.not_true, Bool.and_false]
  have iT : i32 T := by rw [← hT]; exact i32_iand _ _
  have nS : (Int32.ofInt S).toBitVec.toNat = S.toNat := by
    show (BitVec.ofInt 32 S).toNat = _
    rw [BitVec.toNat_ofInt]; omega
  have T0 : 0 ≤ T ∧ T < 4096 := by
    have e : (Int32.ofInt T).toBitVec.toNat ≤ S.toNat := by
      rw [← nS, ← hT]
      unfold iand
      rw [Int32.ofInt_toInt, Int32.toBitVec_and, BitVec.toNat_and]
      exact Nat.and_le_left
    have e2 : T = (Int32.ofInt T).toBitVec.toInt := (i32_to iT).symm
    rw [BitVec.toInt_eq_toNat_cond] at e2
    rw [if_pos (by omega)] at e2
    omega
  have e := ior_add T0.1 T0.2 k0 k1 tk
  have e3 : ior T (ishl 1 k) = S := by
    apply t3_ext (show i32 (ior T (ishl 1 k)) from i32_of _) ⟨by omega, by omega⟩
    intro i a b
    rw [t3_ior, tb' i a b, t3_shl1 k0 (by omega) a b]
    by_cases z : i = k
    · rw [decide_eq_true z, z, h]; rfl
    · rw [decide_eq_false z]; simp
  rw [e3] at e
  have : S - W2 k = T := by omega
  rw [this]
  exact ⟨by omega, tk, tb'⟩
theorem set_add {S k : Int} (h0 : 0 ≤ S) (h1 : S < 4096) (k0 : 0 ≤ k) (k1 : k < 12) (h : t3 S k = false) : ∀ i, 0 ≤ i → i < 32 → t3 (S + W2 k) i = (t3 S i || decide (i = k)) := by
  intro i a b
  rw [← ior_add h0 h1 k0 k1 h, t3_ior, t3_shl1 k0 (by omega) a b]
theorem set_add_lt {S k m : Int} (h0 : 0 ≤ S) (m0 : 0 ≤ m) (m1 : m ≤ 12) (h1 : S < W2 m) (k0 : 0 ≤ k) (k1 : k < m) (h : t3 S k = false) : S + W2 k < W2 m := by
  have wb := W_bd m0 m1
  have wk := W_bd k0 (by omega)
  rw [W_lt (by omega) (by omega) m0]
  intro i a b
  rw [set_add h0 (by omega) k0 (by omega) h i (by omega) b, (W_lt h0 (by omega) m0).mp h1 i a b, decide_eq_false (by omega)]; rfl
theorem set_pre {i j : Int} (i0 : 0 ≤ i) (i1 : i ≤ 12) (j0 : 0 ≤ j) : t3 (W2 i - 1) j = decide (j < i) := by
  have wb := W_bd i0 i1
  rw [t3_nat (by omega) (by omega) j0]
  have : (W2 i - 1).toNat = 2 ^ i.toNat - 1 := by unfold W2; omega
  rw [this, Nat.testBit_two_pow_sub_one]
  apply decide_eq_decide.mpr
  omega
