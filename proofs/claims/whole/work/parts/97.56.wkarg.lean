/-! WALKING: an argument's number, an op's -/
def wNm (G : Nat → Int → Int → Int) (i : Int) (a b : Mem) : Prop := ∀ s, 0 ≤ s → s < G 1 i 0 → a 58 s = b 145 s ∧ (-99999 ≤ a 58 s ∧ a 58 s ≤ 99999) ∧ (G 4 i s = 1 → a 58 s = 0 ∨ a 58 s = 1)
def wlx (M : Mem) (t : Nat) (a : Mem) (i k : Int) : Int := if M (t + 6) (3 * i + k) < 0 then -1 - M (t + 6) (3 * i + k) else a 58 (M (t + 6) (3 * i + k))
set_option maxHeartbeats 4000000 in
set_option maxRecDepth 20000 in
theorem wl_arg {M a b : Mem} {t : Nat} {G : Nat → Int → Int → Int} {i k : Int} (ht : t = 5 ∨ t = 119) (hA : ArR M M t 0 i k (G 1 i 0)) (e6 : a (t + 6) = M (t + 6)) (e139 : b 139 = M 139) (i0 : 0 ≤ i) (i1 : i < 200) (k0 : 0 ≤ k) (k3 : k < 3) (m20 : G 1 i 0 ≤ 20) (hN : wNm G i a b) : fX4_argNumber t i k a = some (wlx M t a i k, a) ∧ fX12_argNumber (12 * i + 5 + 2 * k) b = some (wlx M t a i k, b) ∧ (-99999 ≤ wlx M t a i k ∧ wlx M t a i k ≤ 99999) ∧ (aTy M t G i k = 1 → wlx M t a i k = 0 ∨ wlx M t a i k = 1) := by
  obtain ⟨r1, r2, r3, r4, r5, r6⟩ := hA
  rw [Int.zero_add] at r1
  have e : b 139 (12 * i + 5 + 2 * k) = -1 - M (t + 6) (3 * i + k) := by rw [e139]; exact r1
  have ea : a (t + 6) (3 * i + k) = M (t + 6) (3 * i + k) := by rw [e6]
  unfold fX4_argNumber fX12_argNumber aTy wlx
  rw [w32_id (show -2147483648 ≤ 3 * i by omega) (by omega), w32_id (show -2147483648 ≤ 3 * i + k by omega) (by omega), tl6 ht _ _ (by omega) (by omega), ob, ea, ld139 _ _ (by omega) (by omega), ob, e]
  by_cases z : M (t + 6) (3 * i + k) < 0
  · rw [if_pos z, ixorn r3 z, ob, if_pos (show (0 : Int) ≤ -1 - M (t + 6) (3 * i + k) by omega), ob, ob, if_neg (show ¬ (0 ≤ M (t + 6) (3 * i + k)) by omega), if_pos z]
    exact ⟨rfl, rfl, by omega, fun q => by omega⟩
  · obtain ⟨x1, x2, x3⟩ := hN (M (t + 6) (3 * i + k)) (by omega) r4
    rw [if_neg z, ld58 _ _ (by omega) (by omega), ob, ob, if_neg (show ¬ ((0 : Int) ≤ -1 - M (t + 6) (3 * i + k)) by omega), ob, show -1 - (-1 - M (t + 6) (3 * i + k)) = M (t + 6) (3 * i + k) by omega, w32_id (by omega) (by omega), ld145 _ _ (by omega) (by omega), ob, ob, ← x1, if_pos (show 0 ≤ M (t + 6) (3 * i + k) by omega), if_neg z]
    exact ⟨rfl, rfl, x2, x3⟩
set_option maxHeartbeats 4000000 in
set_option maxRecDepth 20000 in
theorem mdF_fl {k a b c : Int} {cell : Int → Int} (h8 : 8 ≤ k) (hk : k ≤ 14) (ha : 10 ≤ k → k ≤ 12 → a = 0 ∨ a = 1) (hb : k = 10 ∨ k = 11 → b = 0 ∨ b = 1) (h13 : k = 13 → (b = 0 ∨ b = 1) ∧ (c = 0 ∨ c = 1)) (h14 : k = 14 → a = 0 ∨ a = 1) : mdF k a b c cell = 0 ∨ mdF k a b c cell = 1 := by
  have : k = 8 ∨ k = 9 ∨ k = 10 ∨ k = 11 ∨ k = 12 ∨ k = 13 ∨ k = 14 := by omega
  rcases this with rfl | rfl | rfl | rfl | rfl | rfl | rfl
  · unfold mdF
    simp only [Nat.reduceAdd, reduceIte, Int.reduceEq, Int.reduceLT, Int.reduceLE, Int.reduceNeg, Int.reduceAdd, Int.reduceSub, Int.reduceMul, Int.reduceNe, or_true, true_or, or_false, false_or, or_self, and_true, true_and, and_false, false_and, and_self, not_true_eq_false, not_false_eq_true, ne_eq, Bool.false_eq_true, Bool.true_eq_false, decide_true, decide_false]
    split
    · exact Or.inl rfl
    · exact Or.inr rfl
  · unfold mdF
    simp only [Nat.reduceAdd, reduceIte, Int.reduceEq, Int.reduceLT, Int.reduceLE, Int.reduceNeg, Int.reduceAdd, Int.reduceSub, Int.reduceMul, Int.reduceNe, or_true, true_or, or_false, false_or, or_self, and_true, true_and, and_false, false_and, and_self, not_true_eq_false, not_false_eq_true, ne_eq, Bool.false_eq_true, Bool.true_eq_false, decide_true, decide_false]
    split
    · exact Or.inr rfl
    · exact Or.inl rfl
  · have x := ha (by omega) (by omega)
    have y := hb (by omega)
    unfold mdF
    simp only [Nat.reduceAdd, reduceIte, Int.reduceEq, Int.reduceLT, Int.reduceLE, Int.reduceNeg, Int.reduceAdd, Int.reduceSub, Int.reduceMul, Int.reduceNe, or_true, true_or, or_false, false_or, or_self, and_true, true_and, and_false, false_and, and_self, not_true_eq_false, not_false_eq_true, ne_eq, Bool.false_eq_true, Bool.true_eq_false, decide_true, decide_false]
    omega
  · have x := ha (by omega) (by omega)
    have y := hb (by omega)
    unfold mdF
    simp only [Nat.reduceAdd, reduceIte, Int.reduceEq, Int.reduceLT, Int.reduceLE, Int.reduceNeg, Int.reduceAdd, Int.reduceSub, Int.reduceMul, Int.reduceNe, or_true, true_or, or_false, false_or, or_self, and_true, true_and, and_false, false_and, and_self, not_true_eq_false, not_false_eq_true, ne_eq, Bool.false_eq_true, Bool.true_eq_false, decide_true, decide_false]
    omega
  · have x := ha (by omega) (by omega)
    unfold mdF
    simp only [Nat.reduceAdd, reduceIte, Int.reduceEq, Int.reduceLT, Int.reduceLE, Int.reduceNeg, Int.reduceAdd, Int.reduceSub, Int.reduceMul, Int.reduceNe, or_true, true_or, or_false, false_or, or_self, and_true, true_and, and_false, false_and, and_self, not_true_eq_false, not_false_eq_true, ne_eq, Bool.false_eq_true, Bool.true_eq_false, decide_true, decide_false]
    omega
  · have x := h13 rfl
    unfold mdF
    simp only [Nat.reduceAdd, reduceIte, Int.reduceEq, Int.reduceLT, Int.reduceLE, Int.reduceNeg, Int.reduceAdd, Int.reduceSub, Int.reduceMul, Int.reduceNe, or_true, true_or, or_false, false_or, or_self, and_true, true_and, and_false, false_and, and_self, not_true_eq_false, not_false_eq_true, ne_eq, Bool.false_eq_true, Bool.true_eq_false, decide_true, decide_false]
    split
    · exact x.1
    · exact x.2
  · have x := h14 rfl
    unfold mdF
    simp only [Nat.reduceAdd, reduceIte, Int.reduceEq, Int.reduceLT, Int.reduceLE, Int.reduceNeg, Int.reduceAdd, Int.reduceSub, Int.reduceMul, Int.reduceNe, or_true, true_or, or_false, false_or, or_self, and_true, true_and, and_false, false_and, and_self, not_true_eq_false, not_false_eq_true, ne_eq, Bool.false_eq_true, Bool.true_eq_false, decide_true, decide_false]
    exact x
theorem mdF_cell {k a b c : Int} {cell cell' : Int → Int} (h : ∀ i, 0 ≤ i → i < 16 → cell' i = cell i) : mdF k a b c cell' = mdF k a b c cell := by
  unfold mdF
  rw [h (a % 16) (by omega) (by omega)]
theorem s_made14 {a b c : Int} {M : Mem} : fX11_made 14 a b c M = some (mdF 14 a b c (M 55), M) := by
  unfold fX11_made mdF
  simp only [Nat.reduceAdd, reduceIte, Int.reduceEq, Int.reduceLT, Int.reduceLE, Int.reduceNeg, Int.reduceAdd, Int.reduceSub, Int.reduceMul, Int.reduceNe, or_true, true_or, or_false, false_or, or_self, and_true, true_and, and_false, false_and, and_self, not_true_eq_false, not_false_eq_true, ne_eq, Bool.false_eq_true, Bool.true_eq_false, decide_true, decide_false]
set_option maxHeartbeats 4000000 in
set_option maxRecDepth 20000 in
theorem wl_take {a : Mem} {t : Nat} {i v : Int} {xs : Int → Int} (h : ∀ k, 0 ≤ k → k < argc v → ∀ m : Mem, (∀ d, d ≠ 61 → m d = a d) → fX4_argNumber t i k m = some (xs k, m)) : ∃ r, lp (fX4_walkIs_b1 i t v) (0, a) = some r ∧ (∀ d, d ≠ 61 → r d = a d) ∧ ∀ k, 0 ≤ k → k < argc v → r 61 k = xs k := by
  have ab := argc_bd v
  refine lp_ind (fun s : Int × Mem => 0 ≤ s.1 ∧ s.1 ≤ argc v ∧ (∀ d, d ≠ 61 → s.2 d = a d) ∧ ∀ k, 0 ≤ k → k < s.1 → s.2 61 k = xs k) (fun r : Mem => (∀ d, d ≠ 61 → r d = a d) ∧ ∀ k, 0 ≤ k → k < argc v → r 61 k = xs k) (fun s => (argc v - s.1).toNat) ?_ _ ?_
  · rintro ⟨k, m⟩ ⟨k0, k1, hfr, hk⟩
    dsimp only at k0 k1 hfr hk
    unfold fX4_walkIs_b1
    rw [s_X11_argsOf, ob]
    dsimp only
    by_cases z : argc v ≤ k
    · rw [if_pos z]
      exact Or.inr ⟨m, rfl, hfr, fun j x y => hk j x (by omega)⟩
    · rw [if_neg z, h k k0 (by omega) m hfr, ob]
      dsimp only
      rw [st61 _ _ _ k0 (by omega), ob, w32_id (by omega) (by omega)]
      refine Or.inl ⟨_, rfl, ⟨by dsimp only; omega, by dsimp only; omega, fun d hd => by dsimp only; rw [wr_ne hd]; exact hfr d hd, fun j x y => ?_⟩, by dsimp only; omega⟩
      dsimp only at y ⊢
      rw [wr_at]
      by_cases e : j = k
      · rw [if_pos e, e]
      · rw [if_neg e]; exact hk j x (by omega)
  · exact ⟨Int.le_refl _, ab.1, fun _ _ => rfl, fun k x y => by dsimp only at y; omega⟩
