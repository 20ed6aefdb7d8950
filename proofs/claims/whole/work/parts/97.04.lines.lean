/-! LINES as both keep them; G: 0 depth, 1 names told, 2 open lines, 3 second part, 4 types, 5 the end, 6 the else -/
def mkd (k : Int) : Int := if k = 0 then 6 else if k = 4 then 0 else if k = 5 then 1 else if k = 6 then 2 else if k = 7 then 3 else if k = 8 then 4 else 5
def aTy (A : Mem) (t : Nat) (G : Nat → Int → Int → Int) (i k : Int) : Int := if 0 ≤ A (t + 6) (3 * i + k) then G 4 i (A (t + 6) (3 * i + k)) else 0
def LnR (A B : Mem) (t : Nat) (off : Int) (G : Nat → Int → Int → Int) (i : Int) : Prop :=
  B 139 (12 * (off + i)) = mkd (A (t + 1) i) ∧ B 139 (12 * (off + i) + 3) = A (t + 2) i ∧ (0 ≤ A (t + 2) i ∧ A (t + 2) i ≤ 1000) ∧
  (A (t + 1) i = 0 → B 139 (12 * (off + i) + 1) = A (t + 3) i ∧ B 139 (12 * (off + i) + 2) = A (t + 9) i ∧ 0 ≤ A (t + 9) i ∧ A (t + 9) i < A t 10) ∧
  (A (t + 1) i = 4 → B 139 (12 * (off + i) + 1) = A (t + 3) i ∧ B 139 (12 * (off + i) + 2) = A (t + 4) i ∧ B 139 (12 * (off + i) + 4) = A (t + 5) i ∧ (2 ≤ A (t + 4) i ∧ A (t + 4) i ≤ 14) ∧ (0 ≤ A (t + 5) i ∧ A (t + 5) i ≤ 1000) ∧ ∀ k, 0 ≤ k → k < argc (A (t + 4) i) → ArR A B t off i k (G 1 i 0)) ∧
  (A (t + 1) i = 5 → B 139 (12 * (off + i) + 1) = A (t + 3) i ∧ B 139 (12 * (off + i) + 2) = A (t + 9) i ∧ (0 ≤ A (t + 9) i ∧ A (t + 9) i < A t 16) ∧ ArR A B t off i 0 (G 1 i 0)) ∧
  (A (t + 1) i = 7 → B 139 (12 * (off + i) + 1) = A (t + 9) i ∧ 2 ≤ A (t + 9) i ∧ A (t + 9) i ≤ 9) ∧
  (A (t + 1) i = 9 → ArR A B t off i 0 (G 1 i 0)) ∧
  B 139 (12 * (off + i) + 11) = if A (t + 1) i = 6 ∨ A (t + 1) i = 8 then G 0 i 0 - 1 else G 0 i 0
def samG (G : Nat → Int → Int → Int) (i : Int) : Prop := G 0 (i + 1) 0 = G 0 i 0 ∧ ∀ l, 0 ≤ l → l < G 0 i 0 → G 2 (i + 1) l = G 2 i l ∧ G 3 (i + 1) l = G 3 i l
def pshG (G : Nat → Int → Int → Int) (i : Int) : Prop := G 0 (i + 1) 0 = G 0 i 0 + 1 ∧ G 2 (i + 1) (G 0 i 0) = i ∧ G 3 (i + 1) (G 0 i 0) = 0 ∧ ∀ l, 0 ≤ l → l < G 0 i 0 → G 2 (i + 1) l = G 2 i l ∧ G 3 (i + 1) l = G 3 i l
def OpT (A : Mem) (t : Nat) (G : Nat → Int → Int → Int) (i md : Int) : Prop := (A (t + 4) i ≤ 9 → ∀ k, 0 ≤ k → k < argc (A (t + 4) i) → aTy A t G i k = 0) ∧ (10 ≤ A (t + 4) i → A (t + 4) i ≤ 12 → ∀ k, 0 ≤ k → k < argc (A (t + 4) i) → aTy A t G i k = 1) ∧ (A (t + 4) i = 13 → aTy A t G i 0 = 1 ∧ aTy A t G i 1 = md ∧ aTy A t G i 2 = md) ∧ (A (t + 4) i = 14 → aTy A t G i 0 = md) ∧ (A (t + 4) i ≤ 7 → md = 0) ∧ (8 ≤ A (t + 4) i → A (t + 4) i ≤ 12 → md = 1)
def LnT (A : Mem) (t : Nat) (G : Nat → Int → Int → Int) (i : Int) : Prop :=
  (A (t + 1) i = 0 ∨ A (t + 1) i = 4 ∨ A (t + 1) i = 5 ∨ A (t + 1) i = 6 ∨ A (t + 1) i = 7 ∨ A (t + 1) i = 8 ∨ A (t + 1) i = 9) ∧
  (∀ s, 0 ≤ s → s < G 1 i 0 → s < G 1 (i + 1) 0 → G 4 (i + 1) s = G 4 i s) ∧
  (A (t + 1) i = 0 → G 0 i 0 = 0 ∧ A (t + 3) i = G 1 i 0 ∧ G 1 (i + 1) 0 = G 1 i 0 + 1 ∧ G 4 (i + 1) (G 1 i 0) = 0 ∧ samG G i) ∧
  (A (t + 1) i = 4 → (0 ≤ A (t + 3) i ∧ A (t + 3) i ≤ G 1 i 0) ∧ G 1 (i + 1) 0 = (if A (t + 3) i = G 1 i 0 then G 1 i 0 + 1 else G 1 i 0) ∧ OpT A t G i (G 4 (i + 1) (A (t + 3) i)) ∧ samG G i) ∧
  (A (t + 1) i = 9 → G 1 (i + 1) 0 = G 1 i 0 ∧ aTy A t G i 0 = 0 ∧ samG G i ∧ ∀ l, 0 ≤ l → l < G 0 i 0 → A (t + 1) (G 2 i l) ≠ 5) ∧
  (A (t + 1) i = 5 → A (t + 3) i = G 1 i 0 ∧ aTy A t G i 0 = 1 ∧ G 1 (i + 1) 0 = G 1 i 0 ∧ pshG G i) ∧
  (A (t + 1) i = 7 → G 1 (i + 1) 0 = G 1 i 0 ∧ pshG G i) ∧
  (A (t + 1) i = 6 → 1 ≤ G 0 i 0 ∧ A (t + 1) (G 2 i (G 0 i 0 - 1)) = 5 ∧ G 3 i (G 0 i 0 - 1) = 0 ∧ G 0 (i + 1) 0 = G 0 i 0 ∧ (∀ l, 0 ≤ l → l < G 0 i 0 → G 2 (i + 1) l = G 2 i l) ∧ (∀ l, 0 ≤ l → l < G 0 i 0 - 1 → G 3 (i + 1) l = G 3 i l) ∧ G 3 (i + 1) (G 0 i 0 - 1) = 1 ∧ G 1 (i + 1) 0 = G 1 (G 2 i (G 0 i 0 - 1)) 0) ∧
  (A (t + 1) i = 8 → 1 ≤ G 0 i 0 ∧ A (t + 8) i = G 2 i (G 0 i 0 - 1) ∧ G 0 (i + 1) 0 = G 0 i 0 - 1 ∧ (∀ l, 0 ≤ l → l < G 0 i 0 - 1 → G 2 (i + 1) l = G 2 i l ∧ G 3 (i + 1) l = G 3 i l) ∧ G 1 (i + 1) 0 = if A (t + 1) (G 2 i (G 0 i 0 - 1)) = 5 then G 1 (G 2 i (G 0 i 0 - 1)) 0 else G 1 i 0)
def LnO (A : Mem) (t : Nat) (G : Nat → Int → Int → Int) (i : Int) : Prop := (0 ≤ G 0 i 0 ∧ G 0 i 0 ≤ 4) ∧ (0 ≤ G 1 i 0 ∧ G 1 i 0 ≤ 20) ∧ (∀ s, 0 ≤ s → s < G 1 i 0 → G 4 i s = 0 ∨ G 4 i s = 1) ∧ ∀ l, 0 ≤ l → l < G 0 i 0 → (0 ≤ G 2 i l ∧ G 2 i l < i) ∧ G 0 (G 2 i l) 0 = l ∧ (A (t + 1) (G 2 i l) = 5 ∨ A (t + 1) (G 2 i l) = 7) ∧ (G 3 i l = 0 ∨ G 3 i l = 1) ∧ (A (t + 1) (G 2 i l) = 7 → G 3 i l = 0) ∧ G 1 (G 2 i l) 0 ≤ G 1 i 0 ∧ (∀ s, 0 ≤ s → s < G 1 (G 2 i l) 0 → G 4 i s = G 4 (G 2 i l) s) ∧ ∀ k, 0 ≤ k → k < l → G 2 i k = G 2 (G 2 i l) k ∧ G 3 i k = G 3 (G 2 i l) k
def LnP (A B : Mem) (t : Nat) (off : Int) (G : Nat → Int → Int → Int) (c i : Int) : Prop :=
  (A (t + 1) i = 5 → (G 6 i 0 = -1 ∨ (i < G 6 i 0 ∧ G 6 i 0 < c ∧ A (t + 1) (G 6 i 0) = 6 ∧ G 0 (G 6 i 0) 0 = G 0 i 0 + 1 ∧ G 2 (G 6 i 0) (G 0 i 0) = i)) ∧ (G 5 i 0 = -1 ∨ (i < G 5 i 0 ∧ G 5 i 0 < c ∧ A (t + 1) (G 5 i 0) = 8 ∧ G 0 (G 5 i 0) 0 = G 0 i 0 + 1 ∧ G 2 (G 5 i 0) (G 0 i 0) = i ∧ G 3 (G 5 i 0) (G 0 i 0) = (if G 6 i 0 = -1 then 0 else 1) ∧ B 139 (12 * (off + i) + 9) = G 5 i 0)) ∧ A (t + 8) i = (if G 6 i 0 = -1 then G 5 i 0 else G 6 i 0) ∧ B 139 (12 * (off + i) + 7) = (if G 6 i 0 = -1 then 0 else G 6 i 0)) ∧
  (A (t + 1) i = 6 → A (t + 8) i = G 5 (G 2 i (G 0 i 0 - 1)) 0 ∧ G 6 (G 2 i (G 0 i 0 - 1)) 0 = i ∧ B 139 (12 * (off + i) + 7) = G 2 i (G 0 i 0 - 1)) ∧
  (A (t + 1) i = 8 → G 5 (G 2 i (G 0 i 0 - 1)) 0 = i ∧ B 139 (12 * (off + i) + 7) = G 2 i (G 0 i 0 - 1) ∧ B 139 (12 * (off + i) + 1) = if A (t + 1) (G 2 i (G 0 i 0 - 1)) = 7 then 1 else if G 3 i (G 0 i 0 - 1) = 1 then 2 else 0)
def LnS (A B : Mem) (t : Nat) (off : Int) (G : Nat → Int → Int → Int) (c : Int) : Prop := (∀ i, 0 ≤ i → i < c → LnR A B t off G i ∧ LnT A t G i ∧ LnP A B t off G c i) ∧ (∀ i, 0 ≤ i → i ≤ c → LnO A t G i) ∧ (∀ l, 0 ≤ l → l < G 0 c 0 → G 5 (G 2 c l) 0 = -1 ∧ (A (t + 1) (G 2 c l) = 5 → (G 3 c l = 1 ↔ G 6 (G 2 c l) 0 ≠ -1))) ∧ G 1 0 0 = 0
/-- what stays of the lines before -/
def LnF (A A' B B' : Mem) (t : Nat) (off c : Int) : Prop := (∀ i, 0 ≤ i → i < c → A' (t + 1) i = A (t + 1) i ∧ A' (t + 2) i = A (t + 2) i ∧ A' (t + 3) i = A (t + 3) i ∧ A' (t + 4) i = A (t + 4) i ∧ A' (t + 5) i = A (t + 5) i ∧ A' (t + 9) i = A (t + 9) i) ∧ (∀ y, 0 ≤ y → y < 3 * c → A' (t + 6) y = A (t + 6) y ∧ A' (t + 7) y = A (t + 7) y) ∧ A t 10 ≤ A' t 10 ∧ A t 16 ≤ A' t 16 ∧ ∀ i k, 0 ≤ i → i < c → 0 ≤ k → k < 12 → ((k ≠ 7 ∧ k ≠ 9) ∨ (A (t + 1) i ≠ 5 ∧ A (t + 1) i ≠ 7)) → B' 139 (12 * (off + i) + k) = B 139 (12 * (off + i) + k)
def GEq (G G' : Nat → Int → Int → Int) (c : Int) : Prop := ∀ a i l, a ≤ 4 → i ≤ c → G' a i l = G a i l
theorem argc3 (k : Int) : argc k ≤ 3 := (argc_bd k).2
theorem ArR_fr {A A' B B' : Mem} {t : Nat} {off c i k m : Int} (h : ArR A B t off i k m) (f : LnF A A' B B' t off c) (i0 : 0 ≤ i) (i1 : i < c) (k0 : 0 ≤ k) (k1 : k < 3) (hk : k = 0 ∨ A (t + 1) i = 4) : ArR A' B' t off i k m := by
  have f1 := f.2.1 (3 * i + k) (by omega) (by omega)
  have f2 := f.2.2.2.2 i (5 + 2 * k) i0 i1 (by omega) (by omega) (by omega)
  have f3 := f.2.2.2.2 i (6 + 2 * k) i0 i1 (by omega) (by omega) (by omega)
  unfold ArR at *
  rw [show 12 * (off + i) + 6 + 2 * k = 12 * (off + i) + (6 + 2 * k) by omega, show 12 * (off + i) + 5 + 2 * k = 12 * (off + i) + (5 + 2 * k) by omega] at h ⊢
  rw [f1.1, f1.2, f2, f3]
  exact h
theorem LnR_fr {A A' B B' : Mem} {t : Nat} {off c i : Int} {G G' : Nat → Int → Int → Int} (h : LnR A B t off G i) (f : LnF A A' B B' t off c) (g : GEq G G' c) (i0 : 0 ≤ i) (i1 : i < c) : LnR A' B' t off G' i := by
  obtain ⟨a1, a2, a3, a4, a5, a9⟩ := f.1 i i0 i1
  have g0 : G' 0 i 0 = G 0 i 0 := g 0 i 0 (by omega) (by omega)
  have g1 : G' 1 i 0 = G 1 i 0 := g 1 i 0 (by omega) (by omega)
  have b : ∀ k, 0 ≤ k → k < 12 → ((k ≠ 7 ∧ k ≠ 9) ∨ (A (t + 1) i ≠ 5 ∧ A (t + 1) i ≠ 7)) → B' 139 (12 * (off + i) + k) = B 139 (12 * (off + i) + k) := fun k x y z => f.2.2.2.2 i k i0 i1 x y z
  have b0 := b 0 (by omega) (by omega) (by omega)
  rw [Int.add_zero] at b0
  have f10 := f.2.2.1
  have f16 := f.2.2.2.1
  obtain ⟨h1, h2, h3, h4, h5, h6, h7, h8, h9⟩ := h
  unfold LnR
  rw [a1, a2, a3, a4, a5, a9, g0, g1, b0, b 1 (by omega) (by omega) (by omega), b 2 (by omega) (by omega) (by omega), b 3 (by omega) (by omega) (by omega), b 4 (by omega) (by omega) (by omega), b 11 (by omega) (by omega) (by omega)]
  refine ⟨h1, h2, h3, fun z => ?_, fun z => ?_, fun z => ?_, h7, fun z => ?_, h9⟩
  · obtain ⟨x1, x2, x3, x4⟩ := h4 z
    exact ⟨x1, x2, x3, by omega⟩
  · obtain ⟨x1, x2, x3, x4, x5, x6⟩ := h5 z
    exact ⟨x1, x2, x3, x4, x5, fun k k0 k1 => ArR_fr (x6 k k0 k1) f i0 i1 k0 (by have := argc3 (A (t + 4) i); omega) (Or.inr z)⟩
  · obtain ⟨x1, x2, x3, x4⟩ := h6 z
    exact ⟨x1, x2, by omega, ArR_fr x4 f i0 i1 (by omega) (by omega) (Or.inl rfl)⟩
  · exact ArR_fr (h8 z) f i0 i1 (by omega) (by omega) (Or.inl rfl)
theorem aTy_fr {A A' B B' : Mem} {t : Nat} {off c i k : Int} {G G' : Nat → Int → Int → Int} (f : LnF A A' B B' t off c) (g : GEq G G' c) (i0 : 0 ≤ i) (i1 : i < c) (k0 : 0 ≤ k) (k1 : k < 3) : aTy A' t G' i k = aTy A t G i k := by
  unfold aTy
  rw [(f.2.1 (3 * i + k) (by omega) (by omega)).1, g 4 i _ (by omega) (by omega)]
theorem OpT_fr {A A' B B' : Mem} {t : Nat} {off c i md : Int} {G G' : Nat → Int → Int → Int} (h : OpT A t G i md) (f : LnF A A' B B' t off c) (g : GEq G G' c) (i0 : 0 ≤ i) (i1 : i < c) : OpT A' t G' i md := by
  obtain ⟨a1, a2, a3, a4, a5, a9⟩ := f.1 i i0 i1
  have e : ∀ k, 0 ≤ k → k < 3 → aTy A' t G' i k = aTy A t G i k := fun k x y => aTy_fr f g i0 i1 x y
  have l := argc3 (A (t + 4) i)
  unfold OpT at *
  rw [a4, e 0 (by omega) (by omega), e 1 (by omega) (by omega), e 2 (by omega) (by omega)]
  exact ⟨fun z k x y => by rw [e k x (by omega)]; exact h.1 z k x y, fun z w k x y => by rw [e k x (by omega)]; exact h.2.1 z w k x y, h.2.2⟩
theorem LnT_fr {A A' B B' : Mem} {t : Nat} {off c i : Int} {G G' : Nat → Int → Int → Int} (h : LnT A t G i) (o : LnO A t G i) (f : LnF A A' B B' t off c) (g : GEq G G' c) (i0 : 0 ≤ i) (i1 : i < c) (h8 : A (t + 1) i = 8 → A' (t + 8) i = A (t + 8) i) : LnT A' t G' i := by
  obtain ⟨a1, a2, a3, a4, a5, a9⟩ := f.1 i i0 i1
  have e0 : ∀ a l, a ≤ 4 → G' a i l = G a i l := fun a l x => g a i l x (by omega)
  have e1 : ∀ a l, a ≤ 4 → G' a (i + 1) l = G a (i + 1) l := fun a l x => g a (i + 1) l x (by omega)
  obtain ⟨k0, k1, k2, k3, k4, k5, k6, k7, k8⟩ := h
  have eo : ∀ a, a ≤ 4 → 1 ≤ G 0 i 0 → G' a (G 2 i (G 0 i 0 - 1)) 0 = G a (G 2 i (G 0 i 0 - 1)) 0 := fun a x y => g a _ 0 x (by have := (o.2.2.2 (G 0 i 0 - 1) (by omega) (by omega)).1; omega)
  have ek : 1 ≤ G 0 i 0 → A' (t + 1) (G 2 i (G 0 i 0 - 1)) = A (t + 1) (G 2 i (G 0 i 0 - 1)) := fun y => by
    have := (o.2.2.2 (G 0 i 0 - 1) (by omega) (by omega)).1
    exact (f.1 _ this.1 (by omega)).1
  have at0 := aTy_fr (k := 0) f g i0 i1 (by omega) (by omega)
  unfold LnT samG pshG
  rw [a1, a3, at0]
  simp only [e0 0 _ (by omega), e0 1 _ (by omega), e0 2 _ (by omega), e0 3 _ (by omega), e0 4 _ (by omega), e1 0 _ (by omega), e1 1 _ (by omega), e1 2 _ (by omega), e1 3 _ (by omega), e1 4 _ (by omega)]
  refine ⟨k0, k1, k2, fun z => ?_, fun z => ?_, k5, k6, fun z => ?_, fun z => ?_⟩
  · obtain ⟨x1, x2, x3, x4⟩ := k3 z
    exact ⟨x1, x2, OpT_fr x3 f g i0 i1, x4⟩
  · obtain ⟨x1, x2, x3, x4⟩ := k4 z
    refine ⟨x1, x2, x3, fun l l0 l1 => ?_⟩
    have := (o.2.2.2 l l0 l1).1
    rw [(f.1 _ this.1 (by omega)).1]
    exact x4 l l0 l1
  · obtain ⟨x1, x2, x3, x4, x5, x6, x7, x8⟩ := k7 z
    rw [ek x1, eo 1 (by omega) x1]
    exact ⟨x1, x2, x3, x4, x5, x6, x7, x8⟩
  · obtain ⟨x1, x2, x3, x4, x5⟩ := k8 z
    rw [ek x1, eo 1 (by omega) x1, h8 z]
    exact ⟨x1, x2, x3, x4, x5⟩
theorem LnO_fr {A A' B B' : Mem} {t : Nat} {off c i : Int} {G G' : Nat → Int → Int → Int} (h : LnO A t G i) (f : LnF A A' B B' t off c) (g : GEq G G' c) (i1 : i ≤ c) : LnO A' t G' i := by
  have e0 : ∀ a l, a ≤ 4 → G' a i l = G a i l := fun a l x => g a i l x (by omega)
  obtain ⟨h1, h2, h3, h4⟩ := h
  unfold LnO
  simp only [e0 0 _ (by omega), e0 1 _ (by omega), e0 2 _ (by omega), e0 3 _ (by omega), e0 4 _ (by omega)]
  refine ⟨h1, h2, h3, fun l l0 l1 => ?_⟩
  obtain ⟨x1, x2, x3, x4, x5, x6, x7, x8⟩ := h4 l l0 l1
  have eo : ∀ a k, a ≤ 4 → G' a (G 2 i l) k = G a (G 2 i l) k := fun a k x => g a _ k x (by omega)
  rw [(f.1 _ x1.1 (by omega)).1, eo 0 _ (by omega), eo 1 _ (by omega)]
  refine ⟨x1, x2, x3, x4, x5, x6, fun s s0 s1 => ?_, fun k k0 k1 => ?_⟩
  · rw [eo 4 _ (by omega)]; exact x7 s s0 s1
  · rw [eo 2 _ (by omega), eo 3 _ (by omega)]; exact x8 k k0 k1
/-- the partners of the lines before, where none has come or gone -/
theorem LnP_fr {A A' B B' : Mem} {t : Nat} {off c i : Int} {G G' : Nat → Int → Int → Int} (h : LnP A B t off G c i) (o : LnO A t G i) (T : LnT A t G i) (f : LnF A A' B B' t off c) (g : GEq G G' c) (i0 : 0 ≤ i) (i1 : i < c) (g5 : ∀ x, 0 ≤ x → x < c → G' 5 x 0 = G 5 x 0 ∧ G' 6 x 0 = G 6 x 0) (a8 : ∀ x, 0 ≤ x → x < c → A' (t + 8) x = A (t + 8) x) (b79 : ∀ x, 0 ≤ x → x < c → B' 139 (12 * (off + x) + 7) = B 139 (12 * (off + x) + 7) ∧ B' 139 (12 * (off + x) + 9) = B 139 (12 * (off + x) + 9)) : LnP A' B' t off G' (c + 1) i := by
  obtain ⟨a1, a2, a3, a4, a5, a9⟩ := f.1 i i0 i1
  have e0 : ∀ a l, a ≤ 4 → G' a i l = G a i l := fun a l x => g a i l x (by omega)
  obtain ⟨h5, h6, h8⟩ := h
  have go := g5 i i0 i1
  have bb := b79 i i0 i1
  unfold LnP
  rw [a1, a8 i i0 i1, go.1, go.2, bb.1, bb.2]
  simp only [e0 0 _ (by omega), e0 2 _ (by omega), e0 3 _ (by omega)]
  refine ⟨fun z => ?_, fun z => ?_, fun z => ?_⟩
  · obtain ⟨x1, x2, x3, x4⟩ := h5 z
    refine ⟨?_, ?_, x3, x4⟩
    · rcases x1 with y | ⟨y1, y2, y3, y4, y5⟩
      · exact Or.inl y
      · refine Or.inr ⟨y1, by omega, ?_, ?_, ?_⟩
        · rw [(f.1 _ (by omega) y2).1]; exact y3
        · rw [g 0 _ _ (by omega) (by omega)]; exact y4
        · rw [g 2 _ _ (by omega) (by omega)]; exact y5
    · rcases x2 with y | ⟨y1, y2, y3, y4, y5, y6, y7⟩
      · exact Or.inl y
      · refine Or.inr ⟨y1, by omega, ?_, ?_, ?_, ?_, y7⟩
        · rw [(f.1 _ (by omega) y2).1]; exact y3
        · rw [g 0 _ _ (by omega) (by omega)]; exact y4
        · rw [g 2 _ _ (by omega) (by omega)]; exact y5
        · rw [g 3 _ _ (by omega) (by omega)]; exact y6
  · have d1 := (T.2.2.2.2.2.2.2.1 z).1
    have oo := (o.2.2.2 (G 0 i 0 - 1) (by omega) (by omega)).1
    rw [(g5 _ oo.1 (by omega)).1, (g5 _ oo.1 (by omega)).2]
    exact h6 z
  · have d1 := (T.2.2.2.2.2.2.2.2 z).1
    have oo := (o.2.2.2 (G 0 i 0 - 1) (by omega) (by omega)).1
    rw [(g5 _ oo.1 (by omega)).1, (f.1 _ oo.1 (by omega)).1, (f.2.2.2.2 i 1 i0 i1 (by omega) (by omega) (by omega))]
    exact h8 z
/-- one line more, no partner changed -/
theorem LnS_ext {A A' B B' : Mem} {t : Nat} {off c : Int} {G G' : Nat → Int → Int → Int} (c0 : 0 ≤ c) (h : LnS A B t off G c) (f : LnF A A' B B' t off c) (g : GEq G G' c) (g5 : ∀ x, 0 ≤ x → x < c → G' 5 x 0 = G 5 x 0 ∧ G' 6 x 0 = G 6 x 0) (a8 : ∀ x, 0 ≤ x → x < c → A' (t + 8) x = A (t + 8) x) (b79 : ∀ x, 0 ≤ x → x < c → B' 139 (12 * (off + x) + 7) = B 139 (12 * (off + x) + 7) ∧ B' 139 (12 * (off + x) + 9) = B 139 (12 * (off + x) + 9)) (hR : LnR A' B' t off G' c) (hT : LnT A' t G' c) (hP : LnP A' B' t off G' (c + 1) c) (hO : LnO A' t G' (c + 1)) (hop : ∀ l, 0 ≤ l → l < G' 0 (c + 1) 0 → G' 5 (G' 2 (c + 1) l) 0 = -1 ∧ (A' (t + 1) (G' 2 (c + 1) l) = 5 → (G' 3 (c + 1) l = 1 ↔ G' 6 (G' 2 (c + 1) l) 0 ≠ -1))) : LnS A' B' t off G' (c + 1) := by
  obtain ⟨h1, h2, h3⟩ := h
  refine ⟨fun i i0 i1 => ?_, fun i i0 i1 => ?_, hop, by rw [g 1 0 0 (by omega) c0]; exact h3.2⟩
  · by_cases e : i = c
    · rw [e]; exact ⟨hR, hT, hP⟩
    · obtain ⟨x1, x2, x3⟩ := h1 i i0 (by omega)
      have o := h2 i i0 (by omega)
      exact ⟨LnR_fr x1 f g i0 (by omega), LnT_fr x2 o f g i0 (by omega) (fun _ => a8 i i0 (by omega)), LnP_fr x3 o x2 f g i0 (by omega) g5 a8 b79⟩
  · by_cases e : i = c + 1
    · rw [e]; exact hO
    · exact LnO_fr (h2 i i0 (by omega)) f g (by omega)
