set_option maxHeartbeats 4000000 in
theorem s_X2_putPair {g : Nat} {v a b : Int} {M : Mem} (hg : g = 62 ∨ g = 88) (h0 : 0 ≤ v) (h1 : v < 64) (a0 : 0 ≤ a) (a1 : a < 64) (b0 : 0 ≤ b) (b1 : b < 64) (hla : -99999 ≤ M (g + 1) a ∧ M (g + 1) a ≤ 99999) (hga : -99999 ≤ M (g + 2) a ∧ M (g + 2) a ≤ 99999) (hlb : -99999 ≤ M (g + 1) b ∧ M (g + 1) b ≤ 99999) (hgb : -99999 ≤ M (g + 2) b ∧ M (g + 2) b ≤ 99999)
    (ea : M 46 (3 * v) = a) (eb : M 46 (3 * v + 1) = b) (hk : M 45 v = 2 ∨ M 45 v = 3 ∨ M 45 v = 4 ∨ M 45 v = 5 ∨ M 45 v = 6 ∨ M 45 v = 8 ∨ M 45 v = 9 ∨ M 45 v = 10 ∨ M 45 v = 11) :
    fX2_putPair g v a b M = some (wr (wr M (g + 1) v (lF (M 45) (M 46) (M 52) (M (g + 1)) (M (g + 2)) v)) (g + 2) v (gF (M 45) (M 46) (M 53) (M (g + 1)) (M (g + 2)) v)) := by
  unfold fX2_putPair lF gF
  rw [ea, eb]
  have hp := s_X2_putProduct hg h0 h1 a0 a1 b0 b1 hla hga hlb hgb
  have e1 : ldI M (g + 1) a = some (M (g + 1) a) := by rcases hg with rfl | rfl <;> simp (disch := omega) only [Nat.reduceAdd, reduceIte, Int.reduceEq, Int.reduceLT, Int.reduceLE, Int.reduceNeg, Int.reduceAdd, Int.reduceSub, Int.reduceMul, Int.reduceNe, or_true, true_or, or_false, false_or, or_self, and_true, true_and, and_false, false_and, and_self, not_true_eq_false, not_false_eq_true, ne_eq, LD]
  have e2 : ldI M (g + 2) a = some (M (g + 2) a) := by rcases hg with rfl | rfl <;> simp (disch := omega) only [Nat.reduceAdd, reduceIte, Int.reduceEq, Int.reduceLT, Int.reduceLE, Int.reduceNeg, Int.reduceAdd, Int.reduceSub, Int.reduceMul, Int.reduceNe, or_true, true_or, or_false, false_or, or_self, and_true, true_and, and_false, false_and, and_self, not_true_eq_false, not_false_eq_true, ne_eq, LD]
  have e3 : ldI M (g + 1) b = some (M (g + 1) b) := by rcases hg with rfl | rfl <;> simp (disch := omega) only [Nat.reduceAdd, reduceIte, Int.reduceEq, Int.reduceLT, Int.reduceLE, Int.reduceNeg, Int.reduceAdd, Int.reduceSub, Int.reduceMul, Int.reduceNe, or_true, true_or, or_false, false_or, or_self, and_true, true_and, and_false, false_and, and_self, not_true_eq_false, not_false_eq_true, ne_eq, LD]
  have e4 : ldI M (g + 2) b = some (M (g + 2) b) := by rcases hg with rfl | rfl <;> simp (disch := omega) only [Nat.reduceAdd, reduceIte, Int.reduceEq, Int.reduceLT, Int.reduceLE, Int.reduceNeg, Int.reduceAdd, Int.reduceSub, Int.reduceMul, Int.reduceNe, or_true, true_or, or_false, false_or, or_self, and_true, true_and, and_false, false_and, and_self, not_true_eq_false, not_false_eq_true, ne_eq, LD]
  have e5 : ldI M 45 v = some (M 45 v) := by simp (disch := omega) only [Nat.reduceAdd, reduceIte, Int.reduceEq, Int.reduceLT, Int.reduceLE, Int.reduceNeg, Int.reduceAdd, Int.reduceSub, Int.reduceMul, Int.reduceNe, or_true, true_or, or_false, false_or, or_self, and_true, true_and, and_false, false_and, and_self, not_true_eq_false, not_false_eq_true, ne_eq, LD]
  simp only [e1, e2, e3, e4, e5, ob]
  rcases hk with h | h | h | h | h | h | h | h | h
  · simp (disch := omega) only [Nat.reduceAdd, reduceIte, Int.reduceEq, Int.reduceLT, Int.reduceLE, Int.reduceNeg, Int.reduceAdd, Int.reduceSub, Int.reduceMul, Int.reduceNe, or_true, true_or, or_false, false_or, or_self, and_true, true_and, and_false, false_and, and_self, not_true_eq_false, not_false_eq_true, ne_eq, h, ob, w64_id, s_X11_held, s_X2_put hg h0 h1]
  · simp (disch := omega) only [Nat.reduceAdd, reduceIte, Int.reduceEq, Int.reduceLT, Int.reduceLE, Int.reduceNeg, Int.reduceAdd, Int.reduceSub, Int.reduceMul, Int.reduceNe, or_true, true_or, or_false, false_or, or_self, and_true, true_and, and_false, false_and, and_self, not_true_eq_false, not_false_eq_true, ne_eq, h, ob, w64_id, s_X11_held, s_X2_put hg h0 h1]
  · simp only [Nat.reduceAdd, reduceIte, Int.reduceEq, Int.reduceLT, Int.reduceLE, Int.reduceNeg, Int.reduceAdd, Int.reduceSub, Int.reduceMul, Int.reduceNe, or_true, true_or, or_false, false_or, or_self, and_true, true_and, and_false, false_and, and_self, not_true_eq_false, not_false_eq_true, ne_eq, h, hp, ob]
  · simp only [Nat.reduceAdd, reduceIte, Int.reduceEq, Int.reduceLT, Int.reduceLE, Int.reduceNeg, Int.reduceAdd, Int.reduceSub, Int.reduceMul, Int.reduceNe, or_true, true_or, or_false, false_or, or_self, and_true, true_and, and_false, false_and, and_self, not_true_eq_false, not_false_eq_true, ne_eq, h, ob, imin_eq, s_X2_put hg h0 h1]
  · simp only [Nat.reduceAdd, reduceIte, Int.reduceEq, Int.reduceLT, Int.reduceLE, Int.reduceNeg, Int.reduceAdd, Int.reduceSub, Int.reduceMul, Int.reduceNe, or_true, true_or, or_false, false_or, or_self, and_true, true_and, and_false, false_and, and_self, not_true_eq_false, not_false_eq_true, ne_eq, h, ob, imax_eq, s_X2_put hg h0 h1]
  · simp only [Nat.reduceAdd, reduceIte, Int.reduceEq, Int.reduceLT, Int.reduceLE, Int.reduceNeg, Int.reduceAdd, Int.reduceSub, Int.reduceMul, Int.reduceNe, or_true, true_or, or_false, false_or, or_self, and_true, true_and, and_false, false_and, and_self, not_true_eq_false, not_false_eq_true, ne_eq, h, ob, obi, s_X2_putFlag hg h0 h1]
    repeat' split
    all_goals first | rfl | (exfalso; omega) | contradiction
  · simp only [Nat.reduceAdd, reduceIte, Int.reduceEq, Int.reduceLT, Int.reduceLE, Int.reduceNeg, Int.reduceAdd, Int.reduceSub, Int.reduceMul, Int.reduceNe, or_true, true_or, or_false, false_or, or_self, and_true, true_and, and_false, false_and, and_self, not_true_eq_false, not_false_eq_true, ne_eq, h, ob, obi, s_X2_putFlag hg h0 h1]
    repeat' split
    all_goals first | rfl | (exfalso; omega) | contradiction
  · simp only [Nat.reduceAdd, reduceIte, Int.reduceEq, Int.reduceLT, Int.reduceLE, Int.reduceNeg, Int.reduceAdd, Int.reduceSub, Int.reduceMul, Int.reduceNe, or_true, true_or, or_false, false_or, or_self, and_true, true_and, and_false, false_and, and_self, not_true_eq_false, not_false_eq_true, ne_eq, h, ob, imin_eq, s_X2_put hg h0 h1]
  · simp only [Nat.reduceAdd, reduceIte, Int.reduceEq, Int.reduceLT, Int.reduceLE, Int.reduceNeg, Int.reduceAdd, Int.reduceSub, Int.reduceMul, Int.reduceNe, or_true, true_or, or_false, false_or, or_self, and_true, true_and, and_false, false_and, and_self, not_true_eq_false, not_false_eq_true, ne_eq, h, ob, imax_eq, s_X2_put hg h0 h1]
set_option maxHeartbeats 4000000 in
theorem s_X2_putPick {g : Nat} {v a b c : Int} {M : Mem} (hg : g = 62 ∨ g = 88) (h0 : 0 ≤ v) (h1 : v < 64) (a0 : 0 ≤ a) (a1 : a < 64) (b0 : 0 ≤ b) (b1 : b < 64) (c0 : 0 ≤ c) (c1 : c < 64)
    (ea : M 46 (3 * v) = a) (eb : M 46 (3 * v + 1) = b) (ec : M 46 (3 * v + 2) = c) (hk : M 45 v = 13) :
    fX2_putPick g v a b c M = some (wr (wr M (g + 1) v (lF (M 45) (M 46) (M 52) (M (g + 1)) (M (g + 2)) v)) (g + 2) v (gF (M 45) (M 46) (M 53) (M (g + 1)) (M (g + 2)) v)) := by
  unfold fX2_putPick lF gF
  rw [ea, eb, ec]
  have e1 : ldI M (g + 1) a = some (M (g + 1) a) := by rcases hg with rfl | rfl <;> simp (disch := omega) only [Nat.reduceAdd, reduceIte, Int.reduceEq, Int.reduceLT, Int.reduceLE, Int.reduceNeg, Int.reduceAdd, Int.reduceSub, Int.reduceMul, Int.reduceNe, or_true, true_or, or_false, false_or, or_self, and_true, true_and, and_false, false_and, and_self, not_true_eq_false, not_false_eq_true, ne_eq, LD]
  have e3 : ldI M (g + 1) b = some (M (g + 1) b) := by rcases hg with rfl | rfl <;> simp (disch := omega) only [Nat.reduceAdd, reduceIte, Int.reduceEq, Int.reduceLT, Int.reduceLE, Int.reduceNeg, Int.reduceAdd, Int.reduceSub, Int.reduceMul, Int.reduceNe, or_true, true_or, or_false, false_or, or_self, and_true, true_and, and_false, false_and, and_self, not_true_eq_false, not_false_eq_true, ne_eq, LD]
  have e4 : ldI M (g + 2) b = some (M (g + 2) b) := by rcases hg with rfl | rfl <;> simp (disch := omega) only [Nat.reduceAdd, reduceIte, Int.reduceEq, Int.reduceLT, Int.reduceLE, Int.reduceNeg, Int.reduceAdd, Int.reduceSub, Int.reduceMul, Int.reduceNe, or_true, true_or, or_false, false_or, or_self, and_true, true_and, and_false, false_and, and_self, not_true_eq_false, not_false_eq_true, ne_eq, LD]
  have e5 : ldI M (g + 1) c = some (M (g + 1) c) := by rcases hg with rfl | rfl <;> simp (disch := omega) only [Nat.reduceAdd, reduceIte, Int.reduceEq, Int.reduceLT, Int.reduceLE, Int.reduceNeg, Int.reduceAdd, Int.reduceSub, Int.reduceMul, Int.reduceNe, or_true, true_or, or_false, false_or, or_self, and_true, true_and, and_false, false_and, and_self, not_true_eq_false, not_false_eq_true, ne_eq, LD]
  have e6 : ldI M (g + 2) c = some (M (g + 2) c) := by rcases hg with rfl | rfl <;> simp (disch := omega) only [Nat.reduceAdd, reduceIte, Int.reduceEq, Int.reduceLT, Int.reduceLE, Int.reduceNeg, Int.reduceAdd, Int.reduceSub, Int.reduceMul, Int.reduceNe, or_true, true_or, or_false, false_or, or_self, and_true, true_and, and_false, false_and, and_self, not_true_eq_false, not_false_eq_true, ne_eq, LD]
  simp only [s_X2_isKnown hg a0 a1, hk, ob]
  by_cases hq : M (g + 1) a = M (g + 2) a
  · simp only [Nat.reduceAdd, reduceIte, Int.reduceEq, Int.reduceLT, Int.reduceLE, Int.reduceNeg, Int.reduceAdd, Int.reduceSub, Int.reduceMul, Int.reduceNe, or_true, true_or, or_false, false_or, or_self, and_true, true_and, and_false, false_and, and_self, not_true_eq_false, not_false_eq_true, ne_eq, hq, e1, ob]
    by_cases hz : M (g + 2) a = 1
    · simp only [Nat.reduceAdd, reduceIte, Int.reduceEq, Int.reduceLT, Int.reduceLE, Int.reduceNeg, Int.reduceAdd, Int.reduceSub, Int.reduceMul, Int.reduceNe, or_true, true_or, or_false, false_or, or_self, and_true, true_and, and_false, false_and, and_self, not_true_eq_false, not_false_eq_true, ne_eq, hz, ob, e3, e4, s_X2_put hg h0 h1]
    · simp only [Nat.reduceAdd, reduceIte, Int.reduceEq, Int.reduceLT, Int.reduceLE, Int.reduceNeg, Int.reduceAdd, Int.reduceSub, Int.reduceMul, Int.reduceNe, or_true, true_or, or_false, false_or, or_self, and_true, true_and, and_false, false_and, and_self, not_true_eq_false, not_false_eq_true, ne_eq, hz, ob, e5, e6, s_X2_put hg h0 h1]
  · simp only [Nat.reduceAdd, reduceIte, Int.reduceEq, Int.reduceLT, Int.reduceLE, Int.reduceNeg, Int.reduceAdd, Int.reduceSub, Int.reduceMul, Int.reduceNe, or_true, true_or, or_false, false_or, or_self, and_true, true_and, and_false, false_and, and_self, not_true_eq_false, not_false_eq_true, ne_eq, hq, ob, e3, e4, e5, e6, imin_eq, imax_eq, s_X2_put hg h0 h1]
/-- the ranges are as the document's formulas say -/
def RgOK (n : Int) (mk ag lo hi L G : Int → Int) : Prop := ∀ v, 0 ≤ v → v < n → L v = lF mk ag lo L G v ∧ G v = gF mk ag hi L G v
def RgB (n : Int) (L G : Int → Int) : Prop := ∀ v, 0 ≤ v → v < n → (-99999 ≤ L v ∧ L v ≤ 99999) ∧ -99999 ≤ G v ∧ G v ≤ 99999
def In9 (nI : Int) (lo hi : Int → Int) : Prop := ∀ i, 0 ≤ i → i < nI → 0 ≤ lo i ∧ lo i ≤ hi i ∧ hi i ≤ 999
theorem lF_congr {mk ag lo L G L' G' : Int → Int} {n nI : Int} {F : Int → Int} (hV : Val n mk ag F nI) {v : Int} (h0 : 0 ≤ v) (h1 : v < n) (hL : ∀ w, 0 ≤ w → w < v → L' w = L w) (hG : ∀ w, 0 ≤ w → w < v → G' w = G w) : lF mk ag lo L' G' v = lF mk ag lo L G v := by
  obtain ⟨k0, k1, -, -, k4, k5, k6, -⟩ := hV.2.2.2.2 v h0 h1
  unfold lF
  rcases kinds k0 k1 with h | h | h | h | h | h | h | h | h | h | h | h | h | h
  · simp only [Nat.reduceAdd, reduceIte, Int.reduceEq, Int.reduceLT, Int.reduceLE, Int.reduceNeg, Int.reduceAdd, Int.reduceSub, Int.reduceMul, Int.reduceNe, or_true, true_or, or_false, false_or, or_self, and_true, true_and, and_false, false_and, and_self, not_true_eq_false, not_false_eq_true, ne_eq, h]
  · simp only [Nat.reduceAdd, reduceIte, Int.reduceEq, Int.reduceLT, Int.reduceLE, Int.reduceNeg, Int.reduceAdd, Int.reduceSub, Int.reduceMul, Int.reduceNe, or_true, true_or, or_false, false_or, or_self, and_true, true_and, and_false, false_and, and_self, not_true_eq_false, not_false_eq_true, ne_eq, h]
  all_goals have q4 := k4 (by omega)
  all_goals have l4 := hL _ q4.1 q4.2
  all_goals have g4 := hG _ q4.1 q4.2
  all_goals try have q5 := k5 (by omega) (by omega) (by omega)
  all_goals try have l5 := hL _ q5.1 q5.2
  all_goals try have g5 := hG _ q5.1 q5.2
  all_goals try have q6 := k6 (by omega)
  all_goals try have l6 := hL _ q6.1 q6.2
  all_goals try have g6 := hG _ q6.1 q6.2
  all_goals (try simp only [Nat.reduceAdd, reduceIte, Int.reduceEq, Int.reduceLT, Int.reduceLE, Int.reduceNeg, Int.reduceAdd, Int.reduceSub, Int.reduceMul, Int.reduceNe, or_true, true_or, or_false, false_or, or_self, and_true, true_and, and_false, false_and, and_self, not_true_eq_false, not_false_eq_true, ne_eq, h, l4, g4, l5, g5, l6, g6])
  all_goals first | rfl | (simp only [Nat.reduceAdd, reduceIte, Int.reduceEq, Int.reduceLT, Int.reduceLE, Int.reduceNeg, Int.reduceAdd, Int.reduceSub, Int.reduceMul, Int.reduceNe, or_true, true_or, or_false, false_or, or_self, and_true, true_and, and_false, false_and, and_self, not_true_eq_false, not_false_eq_true, ne_eq, h, l4, g4, l5, g5]; done) | (simp only [Nat.reduceAdd, reduceIte, Int.reduceEq, Int.reduceLT, Int.reduceLE, Int.reduceNeg, Int.reduceAdd, Int.reduceSub, Int.reduceMul, Int.reduceNe, or_true, true_or, or_false, false_or, or_self, and_true, true_and, and_false, false_and, and_self, not_true_eq_false, not_false_eq_true, ne_eq, h, l4, g4]; done)
theorem gF_congr {mk ag hi L G L' G' : Int → Int} {n nI : Int} {F : Int → Int} (hV : Val n mk ag F nI) {v : Int} (h0 : 0 ≤ v) (h1 : v < n) (hL : ∀ w, 0 ≤ w → w < v → L' w = L w) (hG : ∀ w, 0 ≤ w → w < v → G' w = G w) : gF mk ag hi L' G' v = gF mk ag hi L G v := by
  obtain ⟨k0, k1, -, -, k4, k5, k6, -⟩ := hV.2.2.2.2 v h0 h1
  unfold gF
  rcases kinds k0 k1 with h | h | h | h | h | h | h | h | h | h | h | h | h | h
  · simp only [Nat.reduceAdd, reduceIte, Int.reduceEq, Int.reduceLT, Int.reduceLE, Int.reduceNeg, Int.reduceAdd, Int.reduceSub, Int.reduceMul, Int.reduceNe, or_true, true_or, or_false, false_or, or_self, and_true, true_and, and_false, false_and, and_self, not_true_eq_false, not_false_eq_true, ne_eq, h]
  · simp only [Nat.reduceAdd, reduceIte, Int.reduceEq, Int.reduceLT, Int.reduceLE, Int.reduceNeg, Int.reduceAdd, Int.reduceSub, Int.reduceMul, Int.reduceNe, or_true, true_or, or_false, false_or, or_self, and_true, true_and, and_false, false_and, and_self, not_true_eq_false, not_false_eq_true, ne_eq, h]
  all_goals have q4 := k4 (by omega)
  all_goals have l4 := hL _ q4.1 q4.2
  all_goals have g4 := hG _ q4.1 q4.2
  all_goals try have q5 := k5 (by omega) (by omega) (by omega)
  all_goals try have l5 := hL _ q5.1 q5.2
  all_goals try have g5 := hG _ q5.1 q5.2
  all_goals try have q6 := k6 (by omega)
  all_goals try have l6 := hL _ q6.1 q6.2
  all_goals try have g6 := hG _ q6.1 q6.2
  all_goals (try simp only [Nat.reduceAdd, reduceIte, Int.reduceEq, Int.reduceLT, Int.reduceLE, Int.reduceNeg, Int.reduceAdd, Int.reduceSub, Int.reduceMul, Int.reduceNe, or_true, true_or, or_false, false_or, or_self, and_true, true_and, and_false, false_and, and_self, not_true_eq_false, not_false_eq_true, ne_eq, h, l4, g4, l5, g5, l6, g6])
  all_goals first | rfl | (simp only [Nat.reduceAdd, reduceIte, Int.reduceEq, Int.reduceLT, Int.reduceLE, Int.reduceNeg, Int.reduceAdd, Int.reduceSub, Int.reduceMul, Int.reduceNe, or_true, true_or, or_false, false_or, or_self, and_true, true_and, and_false, false_and, and_self, not_true_eq_false, not_false_eq_true, ne_eq, h, l4, g4, l5, g5]; done) | (simp only [Nat.reduceAdd, reduceIte, Int.reduceEq, Int.reduceLT, Int.reduceLE, Int.reduceNeg, Int.reduceAdd, Int.reduceSub, Int.reduceMul, Int.reduceNe, or_true, true_or, or_false, false_or, or_self, and_true, true_and, and_false, false_and, and_self, not_true_eq_false, not_false_eq_true, ne_eq, h, l4, g4]; done)

/-- ranges are bounded, their ends in order; flags lie within 0 and 1 -/
theorem rg_all {n nI : Int} {mk ag F lo hi L G : Int → Int} (hV : Val n mk ag F nI) (hI : In9 nI lo hi) (hR : RgOK n mk ag lo hi L G) : ∀ (k : Nat) (v : Int), v < k → 0 ≤ v → v < n → ((-99999 ≤ L v ∧ L v ≤ 99999) ∧ -99999 ≤ G v ∧ G v ≤ 99999) ∧ L v ≤ G v ∧ (F v = 1 → 0 ≤ L v ∧ G v ≤ 1) := by
  intro k
  induction k with
  | zero => intro v h1 h2; omega
  | succ k ih =>
    intro v hvk h0 h1
    obtain ⟨k0, k1, k2, k3, k4, k5, k6, -, -, kF, t1, t2, t3⟩ := hV.2.2.2.2 v h0 h1
    obtain ⟨eL, eG⟩ := hR v h0 h1
    have up := fun w (a : 0 ≤ w) (b : w < v) => ih w (by omega) a (by omega)
    rw [eL, eG]
    have cm : ∀ x y : Int, x ≤ y → cl5 x ≤ cl5 y := fun x y h => by unfold cl5; omega
    unfold lF gF
    rcases kinds k0 k1 with h | h | h | h | h | h | h | h | h | h | h | h | h | h
    · have := hI _ (k2 h).1 (k2 h).2
      simp only [Nat.reduceAdd, reduceIte, Int.reduceEq, Int.reduceLT, Int.reduceLE, Int.reduceNeg, Int.reduceAdd, Int.reduceSub, Int.reduceMul, Int.reduceNe, or_true, true_or, or_false, false_or, or_self, and_true, true_and, and_false, false_and, and_self, not_true_eq_false, not_false_eq_true, ne_eq, h] at kF ⊢
      omega
    · have := k3 h
      simp only [Nat.reduceAdd, reduceIte, Int.reduceEq, Int.reduceLT, Int.reduceLE, Int.reduceNeg, Int.reduceAdd, Int.reduceSub, Int.reduceMul, Int.reduceNe, or_true, true_or, or_false, false_or, or_self, and_true, true_and, and_false, false_and, and_self, not_true_eq_false, not_false_eq_true, ne_eq, h] at kF ⊢
      omega
    all_goals have q4 := k4 (by omega)
    all_goals have u4 := up _ q4.1 q4.2
    · have q5 := k5 (by omega) (by omega) (by omega)
      have u5 := up _ q5.1 q5.2
      have b1 := cl5_bd (L (ag (3 * v)) + L (ag (3 * v + 1)))
      have b2 := cl5_bd (G (ag (3 * v)) + G (ag (3 * v + 1)))
      have b3 := cm _ _ (show L (ag (3 * v)) + L (ag (3 * v + 1)) ≤ G (ag (3 * v)) + G (ag (3 * v + 1)) by omega)
      simp only [Nat.reduceAdd, reduceIte, Int.reduceEq, Int.reduceLT, Int.reduceLE, Int.reduceNeg, Int.reduceAdd, Int.reduceSub, Int.reduceMul, Int.reduceNe, or_true, true_or, or_false, false_or, or_self, and_true, true_and, and_false, false_and, and_self, not_true_eq_false, not_false_eq_true, ne_eq, h] at kF ⊢
      omega
    · have q5 := k5 (by omega) (by omega) (by omega)
      have u5 := up _ q5.1 q5.2
      have b1 := cl5_bd (L (ag (3 * v)) - G (ag (3 * v + 1)))
      have b2 := cl5_bd (G (ag (3 * v)) - L (ag (3 * v + 1)))
      have b3 := cm _ _ (show L (ag (3 * v)) - G (ag (3 * v + 1)) ≤ G (ag (3 * v)) - L (ag (3 * v + 1)) by omega)
      simp only [Nat.reduceAdd, reduceIte, Int.reduceEq, Int.reduceLT, Int.reduceLE, Int.reduceNeg, Int.reduceAdd, Int.reduceSub, Int.reduceMul, Int.reduceNe, or_true, true_or, or_false, false_or, or_self, and_true, true_and, and_false, false_and, and_self, not_true_eq_false, not_false_eq_true, ne_eq, h] at kF ⊢
      omega
    · have b1 := cl5_bd (L (ag (3 * v)) * L (ag (3 * v + 1)))
      have b2 := cl5_bd (L (ag (3 * v)) * G (ag (3 * v + 1)))
      have b3 := cl5_bd (G (ag (3 * v)) * L (ag (3 * v + 1)))
      have b4 := cl5_bd (G (ag (3 * v)) * G (ag (3 * v + 1)))
      simp only [Nat.reduceAdd, reduceIte, Int.reduceEq, Int.reduceLT, Int.reduceLE, Int.reduceNeg, Int.reduceAdd, Int.reduceSub, Int.reduceMul, Int.reduceNe, or_true, true_or, or_false, false_or, or_self, and_true, true_and, and_false, false_and, and_self, not_true_eq_false, not_false_eq_true, ne_eq, h] at kF ⊢
      omega
    · have q5 := k5 (by omega) (by omega) (by omega)
      have u5 := up _ q5.1 q5.2
      simp only [Nat.reduceAdd, reduceIte, Int.reduceEq, Int.reduceLT, Int.reduceLE, Int.reduceNeg, Int.reduceAdd, Int.reduceSub, Int.reduceMul, Int.reduceNe, or_true, true_or, or_false, false_or, or_self, and_true, true_and, and_false, false_and, and_self, not_true_eq_false, not_false_eq_true, ne_eq, h] at kF ⊢
      omega
    · have q5 := k5 (by omega) (by omega) (by omega)
      have u5 := up _ q5.1 q5.2
      simp only [Nat.reduceAdd, reduceIte, Int.reduceEq, Int.reduceLT, Int.reduceLE, Int.reduceNeg, Int.reduceAdd, Int.reduceSub, Int.reduceMul, Int.reduceNe, or_true, true_or, or_false, false_or, or_self, and_true, true_and, and_false, false_and, and_self, not_true_eq_false, not_false_eq_true, ne_eq, h] at kF ⊢
      omega
    · simp only [Nat.reduceAdd, reduceIte, Int.reduceEq, Int.reduceLT, Int.reduceLE, Int.reduceNeg, Int.reduceAdd, Int.reduceSub, Int.reduceMul, Int.reduceNe, or_true, true_or, or_false, false_or, or_self, and_true, true_and, and_false, false_and, and_self, not_true_eq_false, not_false_eq_true, ne_eq, h] at kF ⊢
      omega
    · have q5 := k5 (by omega) (by omega) (by omega)
      have u5 := up _ q5.1 q5.2
      simp only [Nat.reduceAdd, reduceIte, Int.reduceEq, Int.reduceLT, Int.reduceLE, Int.reduceNeg, Int.reduceAdd, Int.reduceSub, Int.reduceMul, Int.reduceNe, or_true, true_or, or_false, false_or, or_self, and_true, true_and, and_false, false_and, and_self, not_true_eq_false, not_false_eq_true, ne_eq, h]
      repeat' split
      all_goals omega
    · have q5 := k5 (by omega) (by omega) (by omega)
      have u5 := up _ q5.1 q5.2
      simp only [Nat.reduceAdd, reduceIte, Int.reduceEq, Int.reduceLT, Int.reduceLE, Int.reduceNeg, Int.reduceAdd, Int.reduceSub, Int.reduceMul, Int.reduceNe, or_true, true_or, or_false, false_or, or_self, and_true, true_and, and_false, false_and, and_self, not_true_eq_false, not_false_eq_true, ne_eq, h]
      repeat' split
      all_goals omega
    · have q5 := k5 (by omega) (by omega) (by omega)
      have u5 := up _ q5.1 q5.2
      have f1 := t1 (by omega)
      have f2 := t2 (by omega)
      simp only [Nat.reduceAdd, reduceIte, Int.reduceEq, Int.reduceLT, Int.reduceLE, Int.reduceNeg, Int.reduceAdd, Int.reduceSub, Int.reduceMul, Int.reduceNe, or_true, true_or, or_false, false_or, or_self, and_true, true_and, and_false, false_and, and_self, not_true_eq_false, not_false_eq_true, ne_eq, h]
      omega
    · have q5 := k5 (by omega) (by omega) (by omega)
      have u5 := up _ q5.1 q5.2
      have f1 := t1 (by omega)
      have f2 := t2 (by omega)
      simp only [Nat.reduceAdd, reduceIte, Int.reduceEq, Int.reduceLT, Int.reduceLE, Int.reduceNeg, Int.reduceAdd, Int.reduceSub, Int.reduceMul, Int.reduceNe, or_true, true_or, or_false, false_or, or_self, and_true, true_and, and_false, false_and, and_self, not_true_eq_false, not_false_eq_true, ne_eq, h]
      omega
    · have f1 := t1 (by omega)
      simp only [Nat.reduceAdd, reduceIte, Int.reduceEq, Int.reduceLT, Int.reduceLE, Int.reduceNeg, Int.reduceAdd, Int.reduceSub, Int.reduceMul, Int.reduceNe, or_true, true_or, or_false, false_or, or_self, and_true, true_and, and_false, false_and, and_self, not_true_eq_false, not_false_eq_true, ne_eq, h]
      omega
    · have q5 := k5 (by omega) (by omega) (by omega)
      have q6 := k6 h
      have u5 := up _ q5.1 q5.2
      have u6 := up _ q6.1 q6.2
      have f3 := t3 h
      rw [if_pos h] at kF
      simp only [Nat.reduceAdd, reduceIte, Int.reduceEq, Int.reduceLT, Int.reduceLE, Int.reduceNeg, Int.reduceAdd, Int.reduceSub, Int.reduceMul, Int.reduceNe, or_true, true_or, or_false, false_or, or_self, and_true, true_and, and_false, false_and, and_self, not_true_eq_false, not_false_eq_true, ne_eq, h]
      repeat' split
      all_goals omega
theorem rg_ok {n nI : Int} {mk ag F lo hi L G : Int → Int} (hV : Val n mk ag F nI) (hI : In9 nI lo hi) (hR : RgOK n mk ag lo hi L G) {v : Int} (h0 : 0 ≤ v) (h1 : v < n) : ((-99999 ≤ L v ∧ L v ≤ 99999) ∧ -99999 ≤ G v ∧ G v ≤ 99999) ∧ L v ≤ G v ∧ (F v = 1 → 0 ≤ L v ∧ G v ≤ 1) := rg_all hV hI hR (v.toNat + 1) v (by omega) h0 h1
theorem Rg_uniq {n nI : Int} {mk ag F lo hi L G L' G' : Int → Int} (hV : Val n mk ag F nI) (hR : RgOK n mk ag lo hi L G) (hR' : RgOK n mk ag lo hi L' G') : ∀ (k : Nat) (v : Int), v < k → 0 ≤ v → v < n → L' v = L v ∧ G' v = G v := by
  intro k
  induction k with
  | zero => intro v h1 h2; omega
  | succ k ih =>
    intro v hvk h0 h1
    obtain ⟨eL, eG⟩ := hR v h0 h1
    obtain ⟨eL', eG'⟩ := hR' v h0 h1
    have hl : ∀ w, 0 ≤ w → w < v → L' w = L w := fun w a b => (ih w (by omega) a (by omega)).1
    have hg : ∀ w, 0 ≤ w → w < v → G' w = G w := fun w a b => (ih w (by omega) a (by omega)).2
    exact ⟨by rw [eL, eL', lF_congr hV h0 h1 hl hg], by rw [eG, eG', gF_congr hV h0 h1 hl hg]⟩

/-- Facts.reckon: ranges and widths of all values -/
def WdOK (n : Int) (F L G Wd : Int → Int) : Prop := ∀ v, 0 ≤ v → v < n → Wd v = if F v = 0 ∧ ¬ (-512 ≤ L v ∧ G v ≤ 511) then 2 else 1
theorem RgOK_step {n nI : Int} {mk ag F lo hi L G L' G' : Int → Int} (hV : Val n mk ag F nI) {v : Int} (h0 : 0 ≤ v) (h1 : v < n) (hR : RgOK v mk ag lo hi L G) (eL : ∀ w, 0 ≤ w → w < v → L' w = L w) (eG : ∀ w, 0 ≤ w → w < v → G' w = G w) (hl : L' v = lF mk ag lo L G v) (hg : G' v = gF mk ag hi L G v) : RgOK (v + 1) mk ag lo hi L' G' := by
  intro w w0 w1
  by_cases hw : w = v
  · subst hw
    exact ⟨by rw [hl, lF_congr hV h0 h1 eL eG], by rw [hg, gF_congr hV h0 h1 eL eG]⟩
  · have hwv : w < v := by omega
    obtain ⟨a, b⟩ := hR w w0 hwv
    have e1 : ∀ u, 0 ≤ u → u < w → L' u = L u := fun u p q => eL u p (by omega)
    have e2 : ∀ u, 0 ≤ u → u < w → G' u = G u := fun u p q => eG u p (by omega)
    exact ⟨by rw [eL w w0 hwv, a, lF_congr hV w0 (by omega) e1 e2], by rw [eG w w0 hwv, b, gF_congr hV w0 (by omega) e1 e2]⟩
theorem Val_le {n m nI : Int} {mk ag F : Int → Int} (hV : Val n mk ag F nI) (h0 : 0 ≤ m) (h : m ≤ n) : Val m mk ag F nI := ⟨h0, by have := hV.2.1; omega, hV.2.2.1, hV.2.2.2.1, fun v a b => hV.2.2.2.2 v a (by omega)⟩
