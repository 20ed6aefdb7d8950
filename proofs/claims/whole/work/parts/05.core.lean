/-! CORE. Memory: what an id's slot holds, as a number (a pointer: the id pointed to). Values: int, long, a reference to an id. -/
abbrev Mem : Type := Nat → Int → Int
abbrev Vl : Type := Int ⊕ (Int ⊕ Nat)
abbrev zi (x : Int) : Vl := .inl x
abbrev zl (x : Int) : Vl := .inr (.inl x)
abbrev zr (a : Nat) : Vl := .inr (.inr a)
def kd (a : Nat) : Nat × Nat := kdL.getD a (9, 0)
def ft (c k : Nat) : Nat := (ftL.getD c []).getD k 9
def ptr (a k : Nat) : Option Nat := (ptL.getD a []).getD k none
def i32 (x : Int) : Prop := -2147483648 ≤ x ∧ x ≤ 2147483647
def i64 (x : Int) : Prop := -9223372036854775808 ≤ x ∧ x ≤ 9223372036854775807
def w32 (x : Int) : Int := (Int32.ofInt x).toInt
def w64 (x : Int) : Int := (Int64.ofInt x).toInt
theorem w32_in (x : Int) : i32 (w32 x) := by
  have h1 := (Int32.ofInt x).toInt_lt
  have h2 := (Int32.ofInt x).le_toInt
  unfold i32 w32
  omega
theorem w64_in (x : Int) : i64 (w64 x) := by
  have h1 := (Int64.ofInt x).toInt_lt
  have h2 := (Int64.ofInt x).le_toInt
  unfold i64 w64
  omega
theorem w32_id {x : Int} (h : -2147483648 ≤ x) (h2 : x ≤ 2147483647) : w32 x = x := Int32.toInt_ofInt_of_le (by omega) (by omega)
theorem w64_id {x : Int} (h : -9223372036854775808 ≤ x) (h2 : x ≤ 9223372036854775807) : w64 x = x := Int64.toInt_ofInt_of_le (by omega) (by omega)
theorem w32_of (x : Int) : Int32.ofInt (w32 x) = Int32.ofInt x := Int32.ofInt_toInt _
theorem w64_of (x : Int) : Int64.ofInt (w64 x) = Int64.ofInt x := Int64.ofInt_toInt _
theorem of_w32 (x : Int32) : w32 x.toInt = x.toInt := by unfold w32; rw [Int32.ofInt_toInt]
theorem i32_of (x : Int32) : i32 x.toInt := by
  have h1 := x.toInt_lt
  have h2 := x.le_toInt
  unfold i32
  omega
theorem i64_of (x : Int64) : i64 x.toInt := by
  have h1 := x.toInt_lt
  have h2 := x.le_toInt
  unfold i64
  omega
theorem i64_32 {x : Int} (h : i32 x) : i64 x := by unfold i32 at h; unfold i64; omega
theorem i32_to {x : Int} (h : i32 x) : (Int32.ofInt x).toInt = x := w32_id h.1 h.2
theorem i64_to {x : Int} (h : i64 x) : (Int64.ofInt x).toInt = x := w64_id h.1 h.2
theorem i32_lt {a b : Int} (ha : i32 a) (hb : i32 b) : Int32.ofInt a < Int32.ofInt b ↔ a < b := by
  rw [Int32.lt_iff_toInt_lt, i32_to ha, i32_to hb]
theorem i32_le {a b : Int} (ha : i32 a) (hb : i32 b) : Int32.ofInt a ≤ Int32.ofInt b ↔ a ≤ b := by
  rw [Int32.le_iff_toInt_le, i32_to ha, i32_to hb]
theorem i32_eq {a b : Int} (ha : i32 a) (hb : i32 b) : Int32.ofInt a = Int32.ofInt b ↔ a = b := by
  rw [← Int32.toInt_inj, i32_to ha, i32_to hb]
/-- the address of an id is ad's; the length of the one array that is made anew (id 115) stands in the memory itself -/
def len (M : Mem) (a : Nat) : Int := if a = 115 then M 1000 0 else ((kd a).2 : Int)
def wr (M : Mem) (a : Nat) (i x : Int) : Mem := fun b j => if b = a then (if j = i then x else M b j) else M b j
theorem wr_ne {M : Mem} {a b : Nat} {i x : Int} (h : b ≠ a) : wr M a i x b = M b := by
  funext j
  simp [wr, h]
theorem wr_at {M : Mem} {a : Nat} {i j x : Int} : wr M a i x a j = if j = i then x else M a j := by simp [wr]
def toV (ad : Nat → Nat) : Vl → Value
  | .inl x => .int (Int32.ofInt x)
  | .inr (.inl x) => .long (Int64.ofInt x)
  | .inr (.inr a) => .ref (ad a)
def okV : Vl → Prop
  | .inl x => i32 x
  | .inr (.inl x) => i64 x
  | .inr (.inr _) => True
def fvl (ad : Nat → Nat) (t : Nat) (x : Int) : Value := match t with
  | 0 => .int (Int32.ofInt x)
  | 1 => .int (Int32.ofInt x)
  | 2 => .long (Int64.ofInt x)
  | _ => .ref (ad x.toNat)
def nf (c : Nat) : Nat := (ftL.getD c []).length
def ent (cA : Nat → ClassId) (ad : Nat → Nat) (M : Mem) (a : Nat) : va_E := match (kd a).1 with
  | 0 => .inr ((kd a).2, (List.range (nf (kd a).2)).map (fun k => fvl ad (ft (kd a).2 k) (M a k)))
  | 4 => .inl (cA 4, (len M a).toNat, .inr (.inl (fun j => Int64.ofInt (M a j))))
  | 5 => .inl (cA 5, (len M a).toNat, .inr (.inr (.inr (.inr (fun j => some (ad (M a j).toNat))))))
  | k => .inl (cA k, (len M a).toNat, .inl (fun j => Int32.ofInt (M a j)))
def toW (cA : Nat → ClassId) (ad : Nat → Nat) (M : Mem) : va_W := (List.range NN).map (fun a => (ad a, ent cA ad M a))
theorem toW_get {cA : Nat → ClassId} {ad : Nat → Nat} {M : Mem} {a : Nat} (h : a < NN) : (toW cA ad M)[a]? = some (ad a, ent cA ad M a) := by
  unfold toW
  rw [List.getElem?_map, List.getElem?_range h]
  rfl
theorem toW_lt {cA : Nat → ClassId} {ad : Nat → Nat} {M : Mem} {a : Nat} {q : Nat × va_E} (h : (toW cA ad M)[a]? = some q) : a < NN ∧ q = (ad a, ent cA ad M a) := by
  have hl : a < NN := by
    have := (List.getElem?_eq_some_iff.mp h).1
    simpa [toW] using this
  rw [toW_get hl] at h
  exact ⟨hl, (Option.some.inj h).symm⟩
theorem ent_ne {cA : Nat → ClassId} {ad : Nat → Nat} {M : Mem} {a b : Nat} {i x : Int} (h : b ≠ a) (ha : a < NN) : ent cA ad (wr M a i x) b = ent cA ad M b := by
  have h1 : (wr M a i x) b = M b := wr_ne h
  have h2 : len (wr M a i x) b = len M b := by
    unfold len
    rw [wr_ne (show (1000 : Nat) ≠ a from fun q => by rw [← q] at ha; exact absurd ha (by decide))]
  unfold ent
  rw [h1, h2]
theorem toW_set {cA : Nat → ClassId} {ad : Nat → Nat} {M : Mem} {a : Nat} {i x : Int} (h : a < NN) : (toW cA ad M).set a (ad a, ent cA ad (wr M a i x) a) = toW cA ad (wr M a i x) := by
  apply List.ext_getElem?
  intro b
  by_cases hb : b = a
  · subst hb
    rw [List.getElem?_set_self (by simpa [toW] using h), toW_get h]
  · rw [List.getElem?_set_ne (Ne.symm hb)]
    by_cases hl : b < NN
    · rw [toW_get hl, toW_get hl, ent_ne hb h]
    · have e1 : (toW cA ad M)[b]? = none := by simp [toW]; omega
      have e2 : (toW cA ad (wr M a i x))[b]? = none := by simp [toW]; omega
      rw [e1, e2]
/-- the ids' addresses are apart -/
def injA (ad : Nat → Nat) : Prop := ∀ a b, a < NN → b < NN → ad a = ad b → a = b
/-- the addresses of the ids -/
def Fr (ad : Nat → Nat) : Nat → Prop := fun q => ∃ a, a < NN ∧ q = ad a
theorem toW_D {cA : Nat → ClassId} {ad : Nat → Nat} {M : Mem} (h : injA ad) : va_D (Fr ad) (toW cA ad M) := by
  refine ⟨fun i j p q hi hj e => ?_, fun k q hk => ?_⟩
  · obtain ⟨h1, rfl⟩ := toW_lt hi
    obtain ⟨h2, rfl⟩ := toW_lt hj
    exact h i j h1 h2 e
  · obtain ⟨h1, rfl⟩ := toW_lt hk
    exact ⟨k, h1, rfl⟩
def is32 (a : Nat) (i : Int) : Bool := match (kd a).1 with
  | 0 => decide (ft (kd a).2 i.toNat = 0) || decide (ft (kd a).2 i.toNat = 1)
  | 4 => false
  | 5 => false
  | _ => true
def okM (M : Mem) : Prop := (∀ a i, i64 (M a i)) ∧ (∀ a i, is32 a i = true → i32 (M a i)) ∧ (∀ (a k r : Nat), ptr a k = some r → M a k = (r : Int)) ∧ (0 ≤ M 1000 0 ∧ M 1000 0 < 2147483648)
/-- the words that a contract's list may hold -/
def gt : List Cond := lw_tbl.filter goodWord
/-- the words that no list of words may hold: links among nest mates -/
def nestW : List Cond := tables_1.filter (fun w => match w with
  | .fieldLinkNest _ _ _ _ _ _ => true
  | .methodLinkNest _ _ _ _ => true
  | _ => false)
def NWs (U : State) : Prop := ∀ w ∈ nestW, va_Nw w U
def tysL (cA : Nat → ClassId) : List (ClassId × FieldType) := [(cA 1, .int), (cA 2, .boolean), (cA 3, .byte), (cA 4, .long), (cA 5, .array .int)]
/-- the world: the heap holds the memory, the tables are as they must be -/
def World (D : va_G) (cA : Nat → ClassId) (ad : Nat → Nat) (M : Mem) (U : State) : Prop := va_P D vwCl (toW cA ad M) U.heap ∧ va_K D vwCl (tysL cA) U ∧ NWs U
def okO (r : Option Vl × Mem) : Prop := okM r.2 ∧ ∀ v, r.1 = some v → okV v
def Post (D : va_G) (cA : Nat → ClassId) (ad : Nat → Nat) (r : Option Vl × Mem) : Array Value → State → Outcome → State → Prop := fun _ st oc t =>
  oc = .returned (r.1.map (toV ad)) ∧ World D cA ad r.2 t ∧ okO r ∧ va_F (Fr ad) st t
