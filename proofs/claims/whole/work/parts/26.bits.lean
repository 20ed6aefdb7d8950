/-! SETS as long numbers -/
def tb (x i : Int) : Bool := (Int64.ofInt x).toBitVec.getLsbD i.toNat
theorem tb_lor (a b i : Int) : tb (lor a b) i = (tb a i || tb b i) := by
  unfold tb lor
  rw [Int64.ofInt_toInt, Int64.toBitVec_or, BitVec.getLsbD_or]
theorem tb_land (a b i : Int) : tb (land a b) i = (tb a i && tb b i) := by
  unfold tb land
  rw [Int64.ofInt_toInt, Int64.toBitVec_and, BitVec.getLsbD_and]
theorem tb_lxor (a b i : Int) : tb (lxor a b) i = (tb a i ^^ tb b i) := by
  unfold tb lxor
  rw [Int64.ofInt_toInt, Int64.toBitVec_xor, BitVec.getLsbD_xor]
theorem tb_m1 {i : Int} (h0 : 0 ≤ i) (h1 : i < 64) : tb (-1) i = true := by
  have : ∀ k : Fin 64, (Int64.ofInt (-1)).toBitVec.getLsbD k.val = true := by decide
  exact this ⟨i.toNat, by omega⟩
theorem tb_0 (i : Int) : tb 0 i = false := by
  unfold tb
  have : (Int64.ofInt 0).toBitVec = 0#64 := by decide
  rw [this]
  exact BitVec.getLsbD_zero
theorem tb_not {a i : Int} (h0 : 0 ≤ i) (h1 : i < 64) : tb (lxor a (-1)) i = !tb a i := by
  rw [tb_lxor, tb_m1 h0 h1]
  cases tb a i <;> rfl
theorem i64_land (a b : Int) : i64 (land a b) := i64_of _
theorem i64_lor (a b : Int) : i64 (lor a b) := i64_of _
theorem i64_lxor (a b : Int) : i64 (lxor a b) := i64_of _
theorem i64_lshl (a b : Int) : i64 (lshl a b) := i64_of _
theorem i64_lshr (a b : Int) : i64 (lshr a b) := i64_of _
theorem i64_lushr (a b : Int) : i64 (lushr a b) := i64_of _
theorem i64_0 : i64 0 := ⟨by omega, by omega⟩
theorem i64_1 : i64 1 := ⟨by omega, by omega⟩
theorem k63 {k : Int} (h0 : 0 ≤ k) (h1 : k < 64) : ∃ j : Fin 64, k = (j.val : Int) := ⟨⟨k.toNat, by omega⟩, by simp; omega⟩
theorem tb_shl1 {k i : Int} (hk0 : 0 ≤ k) (hk1 : k < 64) (h0 : 0 ≤ i) (h1 : i < 64) : tb (lshl 1 k) i = decide (i = k) := by
  have key : ∀ a b : Fin 64, (Int64.ofInt (lshl 1 (a.val : Int))).toBitVec.getLsbD b.val = decide (b.val = a.val) := by decide +kernel
  obtain ⟨a, rfl⟩ := k63 hk0 hk1
  obtain ⟨b, rfl⟩ := k63 h0 h1
  have := key a b
  unfold tb
  rw [show ((b.val : Int)).toNat = b.val by simp, this]
  apply decide_eq_decide.mpr
  omega
theorem tb_ext {x y : Int} (hx : i64 x) (hy : i64 y) (h : ∀ i, 0 ≤ i → i < 64 → tb x i = tb y i) : x = y := by
  have e : (Int64.ofInt x).toBitVec = (Int64.ofInt y).toBitVec := by
    apply BitVec.eq_of_getLsbD_eq
    intro i hi
    have := h (i : Int) (by omega) (by omega)
    unfold tb at this
    rw [show ((i : Int)).toNat = i by simp] at this
    exact this
  have e2 : Int64.ofInt x = Int64.ofInt y := Int64.toBitVec.inj e
  rw [← i64_to hx, ← i64_to hy, e2]
theorem tb_z {x : Int} (hx : i64 x) : x = 0 ↔ ∀ i, 0 ≤ i → i < 64 → tb x i = false := by
  constructor
  · rintro rfl i _ _
    exact tb_0 i
  · intro h
    exact tb_ext hx i64_0 (fun i a b => by rw [h i a b, tb_0])
/-- is one in the set? -/
theorem land1 {y : Int} (hy : i64 y) : land y 1 = if tb y 0 = true then 1 else 0 := by
  apply tb_ext (i64_land _ _)
  · split
    · exact i64_1
    · exact i64_0
  · intro i h0 h1
    have t1 : ∀ k : Fin 64, (Int64.ofInt 1).toBitVec.getLsbD k.val = decide (k.val = 0) := by decide
    have h2 : tb 1 i = decide (i = 0) := by
      obtain ⟨b, rfl⟩ := k63 h0 h1
      unfold tb
      rw [show ((b.val : Int)).toNat = b.val by simp, t1 b]
      apply decide_eq_decide.mpr
      omega
    rw [tb_land, h2]
    by_cases hi : i = 0
    · subst hi
      by_cases hb : tb y 0 = true
      · rw [if_pos hb, hb, h2]; rfl
      · rw [if_neg hb, tb_0]; simp at hb; rw [hb]; rfl
    · have : decide (i = 0) = false := by simpa using hi
      rw [this, Bool.and_false]
      split
      · rw [h2, this]
      · rw [tb_0]
theorem tb_lushr0 {s v : Int} (h0 : 0 ≤ v) (h1 : v < 64) : tb (lushr s v) 0 = tb s v := by
  obtain ⟨b, rfl⟩ := k63 h0 h1
  unfold tb lushr
  rw [Int64.ofInt_toInt]
  have key : ∀ b : Fin 64, ((Int32.ofInt (b.val : Int)).toInt64.toUInt64 &&& Int64.toUInt64 63).toBitVec.toNat = b.val := by decide +kernel
  show (((Int64.ofInt s).toUInt64 >>> ((Int32.ofInt (b.val : Int)).toInt64.toUInt64 &&& Int64.toUInt64 63)).toBitVec).getLsbD _ = _
  rw [UInt64.toBitVec_shiftRight]
  rw [show ((b.val : Int)).toNat = b.val by simp]
  rw [BitVec.ushiftRight_eq', BitVec.getLsbD_ushiftRight]
  have k2 := key b
  have e : (((Int32.ofInt (b.val : Int)).toInt64.toUInt64 &&& Int64.toUInt64 63).toBitVec % 64).toNat = b.val := by
    rw [BitVec.toNat_umod, k2]
    have := b.isLt
    show b.val % 64 = b.val
    omega
  rw [e]
  show (Int64.ofInt s).toBitVec.getLsbD (b.val + 0) = _
  rw [Nat.add_zero]
theorem tb_lshr0 {s v : Int} (h0 : 0 ≤ v) (h1 : v < 64) : tb (lshr s v) 0 = tb s v := by
  obtain ⟨b, rfl⟩ := k63 h0 h1
  unfold tb lshr
  rw [Int64.ofInt_toInt]
  have key : ∀ b : Fin 64, (((Int32.ofInt (b.val : Int)).toInt64 &&& 63).toBitVec.smod 64).toNat = b.val := by decide +kernel
  rw [Int64.toBitVec_shiftRight]
  rw [show ((b.val : Int)).toNat = b.val by simp]
  rw [BitVec.sshiftRight_eq', BitVec.getLsbD_sshiftRight, key b]
  have := b.isLt
  simp [this]
theorem hasU {s v : Int} (h0 : 0 ≤ v) (h1 : v < 64) : land (lushr s v) 1 = if tb s v = true then 1 else 0 := by
  rw [land1 (i64_lushr _ _), tb_lushr0 h0 h1]
theorem hasS {s v : Int} (h0 : 0 ≤ v) (h1 : v < 64) : land (lshr s v) 1 = if tb s v = true then 1 else 0 := by
  rw [land1 (i64_lshr _ _), tb_lshr0 h0 h1]
/-- the class's test: in the set or not -/
theorem hasU0 {s v : Int} (h0 : 0 ≤ v) (h1 : v < 64) : lc (land (lushr s v) 1) 0 = 0 ↔ tb s v = false := by
  rw [lc_eq (i64_land _ _) i64_0, hasU h0 h1]
  cases tb s v <;> simp
theorem hasS1 {s v : Int} (h0 : 0 ≤ v) (h1 : v < 64) : lc (land (lshr s v) 1) 1 = 0 ↔ tb s v = true := by
  rw [lc_eq (i64_land _ _) i64_1, hasS h0 h1]
  cases tb s v <;> simp
/-- all of a set are in another -/
theorem subS {a p : Int} : lc (land a (lxor p (-1))) 0 = 0 ↔ ∀ i, 0 ≤ i → i < 64 → tb a i = true → tb p i = true := by
  rw [lc_eq (i64_land _ _) i64_0, tb_z (i64_land _ _)]
  constructor
  · intro h i h0 h1 ha
    have := h i h0 h1
    rw [tb_land, tb_not h0 h1, ha] at this
    cases hp : tb p i
    · rw [hp] at this; cases this
    · rfl
  · intro h i h0 h1
    rw [tb_land, tb_not h0 h1]
    cases ha : tb a i
    · rfl
    · rw [h i h0 h1 ha]; rfl
