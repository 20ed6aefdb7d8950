/-! WHAT IS MADE of numbers -/
def mdF (k a b c : Int) (cell : Int → Int) : Int := if k = 2 then cl5 (a + b) else if k = 3 then cl5 (a - b) else if k = 4 then cl5 (a * b) else if k = 5 ∨ k = 10 then min a b else if k = 6 ∨ k = 11 then max a b else if k = 7 then cell (a % 16) else if k = 8 then (if b ≤ a then 0 else 1) else if k = 9 then (if a = b then 1 else 0) else if k = 12 then 1 - a else if k = 13 then (if a = 1 then b else c) else a
theorem mul_b {a b : Int} (ha : -99999 ≤ a ∧ a ≤ 99999) (hb : -99999 ≤ b ∧ b ≤ 99999) : -9223372036854775808 ≤ a * b ∧ a * b < 9223372036854775808 := by
  have := mul_bd ha hb
  omega
theorem mdF_bd {k a b c : Int} {cell : Int → Int} (ha : -99999 ≤ a ∧ a ≤ 99999) (hb : -99999 ≤ b ∧ b ≤ 99999) (hc : -99999 ≤ c ∧ c ≤ 99999) (hf : k = 12 → a = 0 ∨ a = 1) (hcl : ∀ i, 0 ≤ i → i < 16 → 0 ≤ cell i ∧ cell i ≤ 999) : -99999 ≤ mdF k a b c cell ∧ mdF k a b c cell ≤ 99999 := by
  have h1 := cl5_bd (a + b)
  have h2 := cl5_bd (a - b)
  have h3 := cl5_bd (a * b)
  have h4 := hcl (a % 16) (by omega) (by omega)
  unfold mdF
  repeat' split
  all_goals (try omega)
theorem s_X11_made {k a b c : Int} {M : Mem} (ha : -99999 ≤ a ∧ a ≤ 99999) (hb : -99999 ≤ b ∧ b ≤ 99999) : fX11_made k a b c M = some (mdF k a b c (M 55), M) := by
  have hm := mul_b ha hb
  unfold fX11_made mdF
  rw [w64_id (show -9223372036854775808 ≤ a + b by omega) (by omega), w64_id (show -9223372036854775808 ≤ a - b by omega) (by omega), w64_id hm.1 (by omega), s_X11_held, s_X11_held, s_X11_held, s_floorMod16 ha.1 ha.2, imin_eq, imax_eq, w32_id (show -2147483648 ≤ 1 - a by omega) (by omega)]
  simp only [ob, obi]
  rw [ld55 _ _ (by omega) (by omega)]
  simp only [ob, oite]
theorem s_X12_worked {k a b c : Int} {M : Mem} (hk : 2 ≤ k) (hk2 : k ≤ 13) (ha : -99999 ≤ a ∧ a ≤ 99999) (hb : -99999 ≤ b ∧ b ≤ 99999) : fX12_worked k a b c M = some (mdF k a b c (M 152), M) := by
  have hm := mul_b ha hb
  unfold fX12_worked mdF
  rw [w64_id (show -9223372036854775808 ≤ a + b by omega) (by omega), w64_id (show -9223372036854775808 ≤ a - b by omega) (by omega), w64_id hm.1 (by omega), s_X12_held ⟨by omega, by omega⟩, s_X12_held ⟨by omega, by omega⟩, s_X12_held ⟨hm.1, by omega⟩, iand15 (by omega) (by omega), s_X12_lesser, s_X12_greater, w32_id (show -2147483648 ≤ 1 - a by omega) (by omega)]
  simp only [ob, obi]
  rw [ld152 _ _ (by omega) (by omega)]
  simp only [ob, oite]
  by_cases h13 : k = 13
  · simp only [h13, Nat.reduceAdd, reduceIte, Int.reduceEq, Int.reduceLT, Int.reduceLE, Int.reduceNeg, Int.reduceAdd, Int.reduceSub, Int.reduceMul, Int.reduceNe, or_true, true_or, or_false, false_or, or_self, and_true, true_and, and_false, false_and, and_self, not_true_eq_false, not_false_eq_true, ne_eq, Bool.false_eq_true, Bool.true_eq_false, decide_true, decide_false]
  · have e : k = 2 ∨ k = 3 ∨ k = 4 ∨ k = 5 ∨ k = 6 ∨ k = 7 ∨ k = 8 ∨ k = 9 ∨ k = 10 ∨ k = 11 ∨ k = 12 := by omega
    rcases e with e | e | e | e | e | e | e | e | e | e | e <;> simp only [e, Nat.reduceAdd, reduceIte, Int.reduceEq, Int.reduceLT, Int.reduceLE, Int.reduceNeg, Int.reduceAdd, Int.reduceSub, Int.reduceMul, Int.reduceNe, or_true, true_or, or_false, false_or, or_self, and_true, true_and, and_false, false_and, and_self, not_true_eq_false, not_false_eq_true, ne_eq, Bool.false_eq_true, Bool.true_eq_false, decide_true, decide_false]
