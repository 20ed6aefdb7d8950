/-! SUMS, and how many a set has -/
def sm (f : Int → Int) : Nat → Int
  | 0 => 0
  | k + 1 => sm f k + f k
theorem sm_s {f : Int → Int} {i : Int} (h : 0 ≤ i) : sm f (i + 1).toNat = sm f i.toNat + f i := by
  rw [show (i + 1).toNat = i.toNat + 1 by omega]
  show sm f i.toNat + f (i.toNat : Int) = _
  rw [show ((i.toNat : Nat) : Int) = i by omega]
theorem sm_0 {f : Int → Int} : sm f (0 : Int).toNat = 0 := rfl
theorem sm_congr {f g : Int → Int} {k : Nat} (h : ∀ i : Int, 0 ≤ i → i < k → f i = g i) : sm f k = sm g k := by
  induction k with
  | zero => rfl
  | succ k ih =>
    show sm f k + f k = sm g k + g k
    rw [ih (fun i a b => h i a (by omega)), h k (by omega) (by omega)]
theorem sm_add {f g : Int → Int} {k : Nat} : sm (fun i => f i + g i) k = sm f k + sm g k := by
  induction k with
  | zero => rfl
  | succ k ih =>
    show sm (fun i => f i + g i) k + (f k + g k) = (sm f k + f k) + (sm g k + g k)
    omega
theorem sm_z {f : Int → Int} {k : Nat} (h : ∀ i : Int, 0 ≤ i → i < k → f i = 0) : sm f k = 0 := by
  induction k with
  | zero => rfl
  | succ k ih =>
    show sm f k + f k = 0
    rw [ih (fun i a b => h i a (by omega)), h k (by omega) (by omega)]
    rfl
theorem sm_one {f : Int → Int} {k : Nat} {a : Int} (h0 : 0 ≤ a) (h1 : a < k) : sm (fun i => if i = a then f i else 0) k = f a := by
  induction k with
  | zero => omega
  | succ k ih =>
    show sm (fun i => if i = a then f i else 0) k + (if (k : Int) = a then f k else 0) = f a
    by_cases h : (k : Int) = a
    · rw [if_pos h, h, sm_z (fun i i0 i1 => if_neg (by omega))]
      omega
    · rw [if_neg h, ih (by omega)]
      omega
theorem sm_le {f g : Int → Int} {k : Nat} (h : ∀ i : Int, 0 ≤ i → i < k → f i ≤ g i) : sm f k ≤ sm g k := by
  induction k with
  | zero => exact Int.le_refl _
  | succ k ih =>
    have := ih (fun i a b => h i a (by omega))
    have := h k (by omega) (by omega)
    show sm f k + f k ≤ sm g k + g k
    omega
theorem sm_bd {f : Int → Int} {c : Int} {k : Nat} (h : ∀ i : Int, 0 ≤ i → i < k → 0 ≤ f i ∧ f i ≤ c) : 0 ≤ sm f k ∧ sm f k ≤ c * k := by
  induction k with
  | zero => exact ⟨Int.le_refl _, by show (0 : Int) ≤ _; simp⟩
  | succ k ih =>
    have h1 := ih (fun i a b => h i a (by omega))
    have h2 := h k (by omega) (by omega)
    have : c * ((k + 1 : Nat) : Int) = c * k + c := by rw [show ((k + 1 : Nat) : Int) = (k : Int) + 1 by omega, Int.mul_add, Int.mul_one]
    show 0 ≤ sm f k + f k ∧ sm f k + f k ≤ _
    rw [this]
    omega
/-- a sum over a row of different ones is the sum over the set of them -/
theorem sm_row {f row : Int → Int} {P : Int → Prop} [DecidablePred P] {c : Int} {k : Nat} (hc : 0 ≤ c) (h1 : ∀ j, 0 ≤ j → j < c → 0 ≤ row j ∧ row j < k ∧ P (row j)) (h2 : ∀ s : Int, 0 ≤ s → s < k → P s → ∃ j, 0 ≤ j ∧ j < c ∧ row j = s) (h3 : ∀ i j, 0 ≤ i → i < j → j < c → row i ≠ row j) : sm (fun s => if P s then f s else 0) k = sm (fun j => f (row j)) c.toNat := by
  classical
  have key : ∀ d : Nat, (d : Int) ≤ c → sm (fun s => if (∃ j, 0 ≤ j ∧ j < (d : Int) ∧ row j = s) then f s else 0) k = sm (fun j => f (row j)) d := by
    intro d
    induction d with
    | zero =>
      intro _
      rw [sm_z (fun i _ _ => if_neg (fun ⟨j, j0, j1, _⟩ => by omega))]
      rfl
    | succ d ih =>
      intro hd
      have q := h1 d (by omega) (by omega)
      have e : sm (fun s => if (∃ j, 0 ≤ j ∧ j < ((d + 1 : Nat) : Int) ∧ row j = s) then f s else 0) k = sm (fun s => (if (∃ j, 0 ≤ j ∧ j < (d : Int) ∧ row j = s) then f s else 0) + (if s = row d then f s else 0)) k := by
        apply sm_congr
        intro s s0 s1
        by_cases hs : s = row d
        · subst hs
          rw [if_pos ⟨d, by omega, by omega, rfl⟩, if_neg (fun ⟨j, j0, j1, e⟩ => h3 j d j0 j1 (by omega) e), if_pos rfl]
          omega
        · rw [if_neg hs, Int.add_zero]
          congr 1
          apply propext
          constructor
          · rintro ⟨j, j0, j1, e⟩
            refine ⟨j, j0, ?_, e⟩
            by_cases hj : j = d
            · subst hj; exact absurd e.symm hs
            · omega
          · rintro ⟨j, j0, j1, e⟩
            exact ⟨j, j0, by omega, e⟩
      rw [e, sm_add, ih (by omega), sm_one q.1 q.2.1]
      rfl
  have := key c.toNat (by omega)
  rw [← this]
  apply sm_congr
  intro s s0 s1
  by_cases hp : P s
  · obtain ⟨j, j0, j1, e⟩ := h2 s s0 s1 hp
    rw [if_pos hp, if_pos ⟨j, j0, by omega, e⟩]
  · rw [if_neg hp, if_neg (fun ⟨j, j0, j1, e⟩ => hp (by rw [← e]; exact (h1 j j0 (by omega)).2.2))]
/-- how many a set has -/
def pc (x : Int) : Int := sm (fun i => if tb x i = true then 1 else 0) 64
theorem pc_bd (x : Int) : 0 ≤ pc x ∧ pc x ≤ 64 := by
  have := sm_bd (f := fun i => if tb x i = true then 1 else 0) (c := 1) (k := 64) (fun i _ _ => by split <;> omega)
  unfold pc
  omega
theorem pc_0 : pc 0 = 0 := sm_z (fun i _ _ => by rw [tb_0]; rfl)
theorem pc_ins {x v : Int} (h0 : 0 ≤ v) (h1 : v < 64) (h : tb x v = false) : pc (lor x (lshl 1 v)) = pc x + 1 := by
  unfold pc
  have e : sm (fun i => if tb (lor x (lshl 1 v)) i = true then 1 else 0) 64 = sm (fun i => (if tb x i = true then 1 else 0) + (if i = v then (fun _ => (1 : Int)) i else 0)) 64 := by
    apply sm_congr
    intro i i0 i1
    rw [tb_lor, tb_shl1 h0 h1 i0 (by omega)]
    by_cases hi : i = v
    · subst hi; rw [h]; simp
    · simp [hi]
  rw [e, sm_add, sm_one h0 (by omega)]
theorem pc_sub {x y : Int} (hx : i64 x) (hy : i64 y) (h : ∀ i, 0 ≤ i → i < 64 → tb x i = true → tb y i = true) : pc x ≤ pc y ∧ (pc x = pc y → x = y) := by
  have le : ∀ k : Nat, k ≤ 64 → sm (fun i => if tb x i = true then 1 else 0) k ≤ sm (fun i => if tb y i = true then 1 else 0) k ∧ (sm (fun i => if tb x i = true then 1 else 0) k = sm (fun i => if tb y i = true then 1 else 0) k → ∀ i, 0 ≤ i → i < (k : Int) → tb x i = tb y i) := by
    intro k
    induction k with
    | zero => intro _; exact ⟨Int.le_refl _, fun _ i a b => by omega⟩
    | succ k ih =>
      intro hk
      obtain ⟨a, b⟩ := ih (by omega)
      have hb := h k (by omega) (by omega)
      have e1 : sm (fun i => if tb x i = true then 1 else 0) (k + 1) = sm (fun i => if tb x i = true then 1 else 0) k + (if tb x k = true then 1 else 0) := rfl
      have e2 : sm (fun i => if tb y i = true then 1 else 0) (k + 1) = sm (fun i => if tb y i = true then 1 else 0) k + (if tb y k = true then 1 else 0) := rfl
      rw [e1, e2]
      cases h1 : tb x k <;> cases h2 : tb y k
      · simp only [Bool.false_eq_true, if_false]
        refine ⟨by omega, fun z i i0 i1 => ?_⟩
        by_cases hi : i = k
        · subst hi; rw [h1, h2]
        · exact b (by omega) i i0 (by omega)
      · simp only [Bool.false_eq_true, if_false, if_true]
        exact ⟨by omega, fun z => by omega⟩
      · rw [hb h1] at h2; cases h2
      · simp only [if_true]
        refine ⟨by omega, fun z i i0 i1 => ?_⟩
        by_cases hi : i = k
        · subst hi; rw [h1, h2]
        · exact b (by omega) i i0 (by omega)
  obtain ⟨a, b⟩ := le 64 (by omega)
  exact ⟨a, fun z => tb_ext hx hy (fun i i0 i1 => b z i i0 (by omega))⟩
theorem tb_ins {x v i : Int} (h0 : 0 ≤ v) (h1 : v < 64) (i0 : 0 ≤ i) (i1 : i < 64) : tb (lor x (lshl 1 v)) i = true ↔ tb x i = true ∨ i = v := by
  rw [tb_lor, tb_shl1 h0 h1 i0 i1, Bool.or_eq_true, decide_eq_true_eq]
/-! THE ORDER -/
/-- what an order hangs on: D 0: how many, needed, kept, fetch, alu; then how made, width, uniform, sources, users, height -/
def DW (D : Mem) : Prop := 0 ≤ D 0 0 ∧ D 0 0 ≤ 64 ∧ i64 (D 0 1) ∧ i64 (D 0 2) ∧ (∀ v, 0 ≤ v → v < 64 → tb (D 0 1) v = true → v < D 0 0) ∧ (∀ v, 0 ≤ v → v < 64 → tb (D 0 2) v = true → tb (D 0 1) v = true) ∧ (1 ≤ D 0 3 ∧ D 0 3 ≤ 8) ∧ (1 ≤ D 0 4 ∧ D 0 4 ≤ 16) ∧
  ∀ v, 0 ≤ v → v < D 0 0 → (0 ≤ D 1 v ∧ D 1 v ≤ 13) ∧ (D 2 v = 1 ∨ D 2 v = 2) ∧ (D 3 v = 0 ∨ D 3 v = 1) ∧ (i64 (D 4 v) ∧ ∀ s, 0 ≤ s → s < 64 → tb (D 4 v) s = true → s < v ∧ (tb (D 0 1) v = true → tb (D 0 1) s = true)) ∧ (i64 (D 5 v) ∧ ∀ u, 0 ≤ u → u < 64 → (tb (D 5 v) u = true ↔ u < D 0 0 ∧ tb (D 0 1) u = true ∧ tb (D 4 u) v = true)) ∧ (tb (D 0 1) v = true → tb (D 0 2) v = true ∨ ∃ u, 0 ≤ u ∧ u < 64 ∧ tb (D 5 v) u = true) ∧ (0 ≤ D 6 v ∧ D 6 v ≤ 64)
def gx (D : Mem) (pl v s : Int) : Int := if tb (D 0 2) s = false ∧ lc (land (D 5 s) (lxor (lor pl (lshl 1 v)) (-1))) 0 = 0 then D 2 s else 0
def gr (D : Mem) (pl v : Int) : Int := D 2 v - sm (fun s => if tb (D 4 v) s = true then gx D pl v s else 0) v.toNat
def ahd (D : Mem) (rule pl v w : Int) : Bool := if rule = 0 then decide (gr D pl v < gr D pl w ∨ (gr D pl v = gr D pl w ∧ D 6 w < D 6 v)) else if rule = 2 then decide (D 6 w < D 6 v) else if rule = 3 then decide (D 1 v = 7 ∧ ¬ D 1 w = 7) else false
def rdy (D : Mem) (pl v : Int) : Bool := decide (tb (D 0 1) v = true ∧ tb pl v = false ∧ lc (land (D 4 v) (lxor pl (-1))) 0 = 0)
def bst (D : Mem) (rule pl : Int) : Nat → Int
  | 0 => -1
  | k + 1 => if rdy D pl k = true ∧ (bst D rule pl k = -1 ∨ ahd D rule pl k (bst D rule pl k) = true) then k else bst D rule pl k
def pls (D : Mem) (rule : Int) : Nat → Int
  | 0 => 0
  | i + 1 => lor (pls D rule i) (lshl 1 (bst D rule (pls D rule i) (D 0 0).toNat))
def odr (D : Mem) (rule i : Int) : Int := bst D rule (pls D rule i.toNat) (D 0 0).toNat
theorem bst_s {D : Mem} {rule pl v : Int} (h : 0 ≤ v) : bst D rule pl (v + 1).toNat = if rdy D pl v = true ∧ (bst D rule pl v.toNat = -1 ∨ ahd D rule pl v (bst D rule pl v.toNat) = true) then v else bst D rule pl v.toNat := by
  rw [show (v + 1).toNat = v.toNat + 1 by omega]
  show (if rdy D pl (v.toNat : Int) = true ∧ _ then ((v.toNat : Nat) : Int) else _) = _
  rw [show ((v.toNat : Nat) : Int) = v by omega]
theorem bst_ok (D : Mem) (rule pl : Int) (k : Nat) : -1 ≤ bst D rule pl k ∧ bst D rule pl k < k ∧ (bst D rule pl k ≠ -1 → rdy D pl (bst D rule pl k) = true) ∧ (bst D rule pl k = -1 → ∀ j : Int, 0 ≤ j → j < k → rdy D pl j = false) := by
  induction k with
  | zero => exact ⟨by show (-1 : Int) ≤ -1; omega, by show (-1 : Int) < 0; omega, fun z => absurd rfl z, fun _ j a b => by omega⟩
  | succ k ih =>
    obtain ⟨a, b, c, d⟩ := ih
    have e : bst D rule pl (k + 1) = if rdy D pl k = true ∧ (bst D rule pl k = -1 ∨ ahd D rule pl k (bst D rule pl k) = true) then (k : Int) else bst D rule pl k := rfl
    rw [e]
    by_cases h : rdy D pl k = true ∧ (bst D rule pl k = -1 ∨ ahd D rule pl k (bst D rule pl k) = true)
    · rw [if_pos h]
      exact ⟨by omega, by omega, fun _ => h.1, fun z => by omega⟩
    · rw [if_neg h]
      refine ⟨a, by omega, c, fun z j j0 j1 => ?_⟩
      by_cases hj : j = k
      · subst hj
        cases hr : rdy D pl k
        · rfl
        · exact absurd ⟨hr, Or.inl z⟩ h
      · exact d z j j0 (by omega)
theorem gr_bd {D : Mem} (hD : DW D) {pl v : Int} (h0 : 0 ≤ v) (h1 : v < D 0 0) : -128 ≤ gr D pl v ∧ gr D pl v ≤ 2 := by
  unfold gr
  have hv := (hD.2.2.2.2.2.2.2.2 v h0 h1).2.1
  have n1 := hD.2.1
  have := sm_bd (f := fun s => if tb (D 4 v) s = true then gx D pl v s else 0) (c := 2) (k := v.toNat) (fun s a b => by
    have := (hD.2.2.2.2.2.2.2.2 s a (by omega)).2.1
    unfold gx
    split
    · split <;> omega
    · omega)
  omega
/-- an order that can be -/
def OrdV (D : Mem) (L : Int → Int) (c : Int) : Prop := c = pc (D 0 1) ∧ (∀ p, 0 ≤ p → p < c → 0 ≤ L p ∧ L p < D 0 0 ∧ tb (D 0 1) (L p) = true) ∧ (∀ p q, 0 ≤ p → p < q → q < c → L p ≠ L q) ∧ (∀ v, 0 ≤ v → v < D 0 0 → tb (D 0 1) v = true → ∃ p, 0 ≤ p ∧ p < c ∧ L p = v) ∧ (∀ p s, 0 ≤ p → p < c → 0 ≤ s → s < 64 → tb (D 4 (L p)) s = true → ∃ q, 0 ≤ q ∧ q < p ∧ L q = s)
theorem pls_ok {D : Mem} (hD : DW D) (rule : Int) : ∀ i : Nat, (i : Int) ≤ pc (D 0 1) → i64 (pls D rule i) ∧ pc (pls D rule i) = i ∧ (∀ v, 0 ≤ v → v < 64 → tb (pls D rule i) v = true → tb (D 0 1) v = true) ∧ (∀ v, 0 ≤ v → v < 64 → (tb (pls D rule i) v = true ↔ ∃ q : Int, 0 ≤ q ∧ q < i ∧ odr D rule q = v)) ∧ ((i : Int) < pc (D 0 1) → bst D rule (pls D rule i) (D 0 0).toNat ≠ -1) := by
  obtain ⟨n0, n1, iN, iK, hN, hK, -, -, hv⟩ := hD
  have more : ∀ pl, i64 pl → (∀ v, 0 ≤ v → v < 64 → tb pl v = true → tb (D 0 1) v = true) → pc pl < pc (D 0 1) → bst D rule pl (D 0 0).toNat ≠ -1 := by
    intro pl hi hs hlt hb
    have none := (bst_ok D rule pl (D 0 0).toNat).2.2.2 hb
    -- all needed ones are placed
    have all : ∀ (m : Nat) (v : Int), v < m → 0 ≤ v → v < D 0 0 → tb (D 0 1) v = true → tb pl v = true := by
      intro m
      induction m with
      | zero => intro v a b; omega
      | succ m ih =>
        intro v a b c d
        cases hp : tb pl v
        · have := none v b (by omega)
          have r : rdy D pl v = true := by
            unfold rdy
            rw [decide_eq_true_eq]
            refine ⟨d, hp, subS.mpr (fun s s0 s1 z => ?_)⟩
            have q := (hv v b c).2.2.2.1.2 s s0 s1 z
            exact ih s (by omega) s0 (by omega) (q.2 d)
          rw [r] at this; cases this
        · rfl
    have := pc_sub iN hi (fun v a b c => all (v.toNat + 1) v (by omega) a (hN v a b c) c)
    omega
  intro i
  induction i with
  | zero =>
    intro _
    refine ⟨i64_0, pc_0, fun v _ _ z => ?_, fun v _ _ => ⟨fun z => ?_, fun ⟨q, q0, q1, _⟩ => by omega⟩, fun hlt => more 0 i64_0 (fun v _ _ z => by rw [tb_0] at z; cases z) (by rw [pc_0]; exact hlt)⟩
    · have z' : tb 0 v = true := z
      rw [tb_0] at z'; cases z'
    · have z' : tb 0 v = true := z
      rw [tb_0] at z'; cases z'
  | succ i ih =>
    intro hi
    obtain ⟨a, b, c, d, e⟩ := ih (by omega)
    have nb := e (by omega)
    obtain ⟨b0, b1, b2, -⟩ := bst_ok D rule (pls D rule i) (D 0 0).toNat
    have rd := b2 nb
    unfold rdy at rd
    rw [decide_eq_true_eq] at rd
    have hx : pls D rule (i + 1) = lor (pls D rule i) (lshl 1 (bst D rule (pls D rule i) (D 0 0).toNat)) := rfl
    have ho : odr D rule (i : Int) = bst D rule (pls D rule i) (D 0 0).toNat := by unfold odr; rw [show ((i : Int)).toNat = i by simp]
    generalize bst D rule (pls D rule i) (D 0 0).toNat = w at *
    have hw0 : 0 ≤ w := by omega
    have hw1 : w < 64 := by omega
    rw [hx]
    have sub : ∀ v, 0 ≤ v → v < 64 → tb (lor (pls D rule i) (lshl 1 w)) v = true → tb (D 0 1) v = true := fun v v0 v1 z => by
      rcases (tb_ins hw0 hw1 v0 v1).mp z with z | rfl
      · exact c v v0 v1 z
      · exact rd.1
    have pcn := pc_ins hw0 hw1 rd.2.1
    refine ⟨i64_lor _ _, by rw [pcn, b]; omega, sub, fun v v0 v1 => ?_, fun hlt => more _ (i64_lor _ _) sub (by rw [pcn, b]; omega)⟩
    rw [tb_ins hw0 hw1 v0 v1, d v v0 v1]
    constructor
    · rintro (⟨q, q0, q1, z⟩ | rfl)
      · exact ⟨q, q0, by omega, z⟩
      · exact ⟨i, by omega, by omega, ho⟩
    · rintro ⟨q, q0, q1, z⟩
      by_cases hq : q = i
      · subst hq; exact Or.inr (by rw [← z, ho])
      · exact Or.inl ⟨q, q0, by omega, z⟩
theorem pls_all {D : Mem} (hD : DW D) (rule : Int) : pls D rule (pc (D 0 1)).toNat = D 0 1 := by
  have hb := pc_bd (D 0 1)
  obtain ⟨a, b, c, -, -⟩ := pls_ok hD rule (pc (D 0 1)).toNat (by omega)
  exact (pc_sub a hD.2.2.1 c).2 (by rw [b]; omega)
theorem pls_ne {D : Mem} (hD : DW D) (rule : Int) {i : Nat} (hi : (i : Int) < pc (D 0 1)) : pls D rule i ≠ D 0 1 := fun z => by
  have := (pls_ok hD rule i (by omega)).2.1
  rw [z] at this
  omega
theorem bst_all {D : Mem} {rule : Int} : bst D rule (D 0 1) (D 0 0).toNat = -1 := by
  by_cases h : bst D rule (D 0 1) (D 0 0).toNat = -1
  · exact h
  · have := (bst_ok D rule (D 0 1) (D 0 0).toNat).2.2.1 h
    unfold rdy at this
    rw [decide_eq_true_eq] at this
    rw [this.1] at this
    exact absurd this.2.1 (by decide)
theorem pc_n {D : Mem} (hD : DW D) : pc (D 0 1) ≤ D 0 0 := by
  obtain ⟨n0, n1, iN, iK, hN, -⟩ := hD
  have key : ∀ k : Nat, k ≤ 64 → sm (fun i => if tb (D 0 1) i = true then 1 else 0) k ≤ D 0 0 ∧ sm (fun i => if tb (D 0 1) i = true then 1 else 0) k ≤ k := by
    intro k
    induction k with
    | zero => intro _; exact ⟨n0, Int.le_refl _⟩
    | succ k ih =>
      intro hk
      obtain ⟨a, b⟩ := ih (by omega)
      have e1 : sm (fun i => if tb (D 0 1) i = true then 1 else 0) (k + 1) = sm (fun i => if tb (D 0 1) i = true then 1 else 0) k + (if tb (D 0 1) k = true then 1 else 0) := rfl
      rw [e1]
      by_cases hb : tb (D 0 1) k = true
      · have := hN k (by omega) (by omega) hb
        rw [if_pos hb]
        omega
      · rw [if_neg hb]
        omega
  exact (key 64 (by omega)).1
theorem odr_ok {D : Mem} (hD : DW D) (rule : Int) : OrdV D (odr D rule) (pc (D 0 1)) := by
  have hb := pc_bd (D 0 1)
  have P := pls_ok hD rule
  have n1 := hD.2.1
  have st : ∀ p : Int, 0 ≤ p → p < pc (D 0 1) → 0 ≤ odr D rule p ∧ odr D rule p < D 0 0 ∧ rdy D (pls D rule p.toNat) (odr D rule p) = true := fun p a b => by
    obtain ⟨b0, b1, b2, -⟩ := bst_ok D rule (pls D rule p.toNat) (D 0 0).toNat
    have := (P p.toNat (by omega)).2.2.2.2 (by omega)
    have hr := b2 this
    have n0 := hD.1
    unfold odr
    exact ⟨by omega, by omega, hr⟩
  have st2 : ∀ p : Int, 0 ≤ p → p < pc (D 0 1) → tb (D 0 1) (odr D rule p) = true ∧ tb (pls D rule p.toNat) (odr D rule p) = false ∧ lc (land (D 4 (odr D rule p)) (lxor (pls D rule p.toNat) (-1))) 0 = 0 := fun p a b => by
    have := (st p a b).2.2
    unfold rdy at this
    rw [decide_eq_true_eq] at this
    exact this
  refine ⟨rfl, fun p a b => ⟨(st p a b).1, (st p a b).2.1, (st2 p a b).1⟩, fun p q a b c e => ?_, fun v a b c => ?_, fun p s a b s0 s1 z => ?_⟩
  · have q1 := (st2 q (by omega) c).2.1
    have q2 := st q (by omega) c
    have := ((P q.toNat (by omega)).2.2.2.1 (odr D rule q) q2.1 (by omega)).mpr ⟨p, a, by omega, e⟩
    rw [this] at q1; cases q1
  · have := ((P (pc (D 0 1)).toNat (by omega)).2.2.2.1 v a (by omega)).mp (by rw [pls_all hD]; exact c)
    obtain ⟨q, q0, q1, e⟩ := this
    exact ⟨q, q0, by omega, e⟩
  · have := subS.mp (st2 p a b).2.2 s s0 s1 z
    obtain ⟨q, q0, q1, e⟩ := ((P p.toNat (by omega)).2.2.2.1 s s0 s1).mp this
    exact ⟨q, q0, by omega, e⟩
