/-! THE REFERENCE'S RANGES -/
/-- the reference's rows of values -/
def MV (M : Mem) (n : Int) (mk ag : Int → Int) : Prop := M 138 8 = n ∧ ∀ v, 0 ≤ v → v < n → M 138 (36 + 4 * v) = mk v ∧ M 138 (36 + 4 * v + 1) = ag (3 * v) ∧ M 138 (36 + 4 * v + 1 + 1) = ag (3 * v + 1) ∧ M 138 (36 + 4 * v + 1 + 2) = ag (3 * v + 2)
theorem MV_fr {M M' : Mem} {n : Int} {mk ag : Int → Int} (h : MV M n mk ag) (e : M' 138 = M 138) : MV M' n mk ag := by unfold MV; rw [e]; exact h
theorem s_X12_values {M : Mem} : fX12_values M = some (M 138 8, M) := by
  unfold fX12_values
  simp (disch := omega) only [LD, ob]
theorem s_X12_howOf {M : Mem} {n v : Int} {mk ag : Int → Int} (hM : MV M n mk ag) (h0 : 0 ≤ v) (h1 : v < n) (h2 : n ≤ 64) : fX12_howOf v M = some (mk v, M) := by
  unfold fX12_howOf
  simp (disch := omega) only [w32_id, LD, ob, (hM.2 v h0 h1).1]
theorem s_X12_argOf0 {M : Mem} {n v : Int} {mk ag : Int → Int} (hM : MV M n mk ag) (h0 : 0 ≤ v) (h1 : v < n) (h2 : n ≤ 64) : fX12_argOf v 0 M = some (ag (3 * v), M) := by
  unfold fX12_argOf
  simp (disch := omega) only [w32_id, LD, ob, Int.add_zero, (hM.2 v h0 h1).2.1]
theorem s_X12_argOf1 {M : Mem} {n v : Int} {mk ag : Int → Int} (hM : MV M n mk ag) (h0 : 0 ≤ v) (h1 : v < n) (h2 : n ≤ 64) : fX12_argOf v 1 M = some (ag (3 * v + 1), M) := by
  unfold fX12_argOf
  simp (disch := omega) only [w32_id, LD, ob, (hM.2 v h0 h1).2.2.1]
theorem s_X12_argOf2 {M : Mem} {n v : Int} {mk ag : Int → Int} (hM : MV M n mk ag) (h0 : 0 ≤ v) (h1 : v < n) (h2 : n ≤ 64) : fX12_argOf v 2 M = some (ag (3 * v + 2), M) := by
  unfold fX12_argOf
  simp (disch := omega) only [w32_id, LD, ob, (hM.2 v h0 h1).2.2.2]
/-- an argument's end of a range; of none: 0 -/
def atA (L : Int → Int) (a : Int) : Int := if 0 ≤ a then L a else 0
theorem s_X12_lowOf0 {M : Mem} {n v : Int} {mk ag : Int → Int} (hM : MV M n mk ag) (h0 : 0 ≤ v) (h1 : v < n) (h2 : n ≤ 64) (ha : ag (3 * v) < 64) : fX12_lowOf v 0 M = some (atA (M 153) (ag (3 * v)), M) := by
  unfold fX12_lowOf atA
  simp only [s_X12_argOf0 hM h0 h1 h2, ob]
  split
  · simp (disch := omega) only [LD, ob]
  · rfl
theorem s_X12_lowOf1 {M : Mem} {n v : Int} {mk ag : Int → Int} (hM : MV M n mk ag) (h0 : 0 ≤ v) (h1 : v < n) (h2 : n ≤ 64) (ha : ag (3 * v + 1) < 64) : fX12_lowOf v 1 M = some (atA (M 153) (ag (3 * v + 1)), M) := by
  unfold fX12_lowOf atA
  simp only [s_X12_argOf1 hM h0 h1 h2, ob]
  split
  · simp (disch := omega) only [LD, ob]
  · rfl
theorem s_X12_lowOf2 {M : Mem} {n v : Int} {mk ag : Int → Int} (hM : MV M n mk ag) (h0 : 0 ≤ v) (h1 : v < n) (h2 : n ≤ 64) (ha : ag (3 * v + 2) < 64) : fX12_lowOf v 2 M = some (atA (M 153) (ag (3 * v + 2)), M) := by
  unfold fX12_lowOf atA
  simp only [s_X12_argOf2 hM h0 h1 h2, ob]
  split
  · simp (disch := omega) only [LD, ob]
  · rfl
theorem s_X12_highOf0 {M : Mem} {n v : Int} {mk ag : Int → Int} (hM : MV M n mk ag) (h0 : 0 ≤ v) (h1 : v < n) (h2 : n ≤ 64) (ha : ag (3 * v) < 64) : fX12_highOf v 0 M = some (atA (M 154) (ag (3 * v)), M) := by
  unfold fX12_highOf atA
  simp only [s_X12_argOf0 hM h0 h1 h2, ob]
  split
  · simp (disch := omega) only [LD, ob]
  · rfl
theorem s_X12_highOf1 {M : Mem} {n v : Int} {mk ag : Int → Int} (hM : MV M n mk ag) (h0 : 0 ≤ v) (h1 : v < n) (h2 : n ≤ 64) (ha : ag (3 * v + 1) < 64) : fX12_highOf v 1 M = some (atA (M 154) (ag (3 * v + 1)), M) := by
  unfold fX12_highOf atA
  simp only [s_X12_argOf1 hM h0 h1 h2, ob]
  split
  · simp (disch := omega) only [LD, ob]
  · rfl
theorem s_X12_highOf2 {M : Mem} {n v : Int} {mk ag : Int → Int} (hM : MV M n mk ag) (h0 : 0 ≤ v) (h1 : v < n) (h2 : n ≤ 64) (ha : ag (3 * v + 2) < 64) : fX12_highOf v 2 M = some (atA (M 154) (ag (3 * v + 2)), M) := by
  unfold fX12_highOf atA
  simp only [s_X12_argOf2 hM h0 h1 h2, ob]
  split
  · simp (disch := omega) only [LD, ob]
  · rfl
theorem s_X12_lesser {a b : Int} {M : Mem} : fX12_lesser a b M = some (min a b, M) := by
  unfold fX12_lesser
  simp only [obi, ob]
  split <;> congr 2 <;> omega
theorem s_X12_greater {a b : Int} {M : Mem} : fX12_greater a b M = some (max a b, M) := by
  unfold fX12_greater
  simp only [obi, ob]
  split <;> congr 2 <;> omega
theorem s_X12_rangeIs {v x y : Int} {M : Mem} (h0 : 0 ≤ v) (h1 : v < 64) : fX12_rangeIs v x y M = some (wr (wr M 153 v x) 154 v y) := by
  unfold fX12_rangeIs
  simp (disch := omega) only [ST, ob]
theorem irm2 {k : Int} (h0 : 0 ≤ k) (h1 : k < 4) : irm k 2 = if k = 0 ∨ k = 2 then 0 else 1 := by
  have : k = 0 ∨ k = 1 ∨ k = 2 ∨ k = 3 := by omega
  rcases this with rfl | rfl | rfl | rfl <;> decide
set_option maxHeartbeats 4000000 in
set_option maxRecDepth 20000 in
theorem s_X12_timesRange {M : Mem} {n v : Int} {mk ag : Int → Int} (hM : MV M n mk ag) (h0 : 0 ≤ v) (h1 : v < n) (h2 : n ≤ 64) (ha : 0 ≤ ag (3 * v) ∧ ag (3 * v) < 64) (hb : 0 ≤ ag (3 * v + 1) ∧ ag (3 * v + 1) < 64)
    (hla : -99999 ≤ M 153 (ag (3 * v)) ∧ M 153 (ag (3 * v)) ≤ 99999) (hga : -99999 ≤ M 154 (ag (3 * v)) ∧ M 154 (ag (3 * v)) ≤ 99999) (hlb : -99999 ≤ M 153 (ag (3 * v + 1)) ∧ M 153 (ag (3 * v + 1)) ≤ 99999) (hgb : -99999 ≤ M 154 (ag (3 * v + 1)) ∧ M 154 (ag (3 * v + 1)) ≤ 99999) :
    fX12_timesRange v M = some (wr (wr M 153 v (min (min (cl5 (M 153 (ag (3 * v)) * M 153 (ag (3 * v + 1)))) (cl5 (M 153 (ag (3 * v)) * M 154 (ag (3 * v + 1))))) (min (cl5 (M 154 (ag (3 * v)) * M 153 (ag (3 * v + 1)))) (cl5 (M 154 (ag (3 * v)) * M 154 (ag (3 * v + 1))))))) 154 v (max (max (cl5 (M 153 (ag (3 * v)) * M 153 (ag (3 * v + 1)))) (cl5 (M 153 (ag (3 * v)) * M 154 (ag (3 * v + 1))))) (max (cl5 (M 154 (ag (3 * v)) * M 153 (ag (3 * v + 1)))) (cl5 (M 154 (ag (3 * v)) * M 154 (ag (3 * v + 1))))))) := by
  have m1 := mul_bd hla hlb
  have m2 := mul_bd hla hgb
  have m3 := mul_bd hga hlb
  have m4 := mul_bd hga hgb
  have i1 : i64 (M 153 (ag (3 * v)) * M 153 (ag (3 * v + 1))) := ⟨by omega, by omega⟩
  have i2 : i64 (M 153 (ag (3 * v)) * M 154 (ag (3 * v + 1))) := ⟨by omega, by omega⟩
  have i3 : i64 (M 154 (ag (3 * v)) * M 153 (ag (3 * v + 1))) := ⟨by omega, by omega⟩
  have i4 : i64 (M 154 (ag (3 * v)) * M 154 (ag (3 * v + 1))) := ⟨by omega, by omega⟩
  have b1 := cl5_bd (M 153 (ag (3 * v)) * M 153 (ag (3 * v + 1)))
  have b2 := cl5_bd (M 153 (ag (3 * v)) * M 154 (ag (3 * v + 1)))
  have b3 := cl5_bd (M 154 (ag (3 * v)) * M 153 (ag (3 * v + 1)))
  have b4 := cl5_bd (M 154 (ag (3 * v)) * M 154 (ag (3 * v + 1)))
  have A0 : atA (M 153) (ag (3 * v)) = M 153 (ag (3 * v)) := if_pos ha.1
  have A1 : atA (M 153) (ag (3 * v + 1)) = M 153 (ag (3 * v + 1)) := if_pos hb.1
  have A2 : atA (M 154) (ag (3 * v)) = M 154 (ag (3 * v)) := if_pos ha.1
  have A3 : atA (M 154) (ag (3 * v + 1)) = M 154 (ag (3 * v + 1)) := if_pos hb.1
  have z0 : irm 0 2 = 0 := by decide
  have z1 : irm 1 2 = 1 := by decide
  have z2 : irm 2 2 = 0 := by decide
  have z3 : irm 3 2 = 1 := by decide
  unfold fX12_timesRange
  have L0 := s_X12_lowOf0 hM h0 h1 h2 ha.2
  have L1 := s_X12_lowOf1 hM h0 h1 h2 hb.2
  have H0 := s_X12_highOf0 hM h0 h1 h2 ha.2
  have H1 := s_X12_highOf1 hM h0 h1 h2 hb.2
  rw [A0] at L0
  rw [A1] at L1
  rw [A2] at H0
  rw [A3] at H1
  rw [lp_in (s' := (min 99999 (cl5 (M 153 (ag (3 * v)) * M 153 (ag (3 * v + 1)))), max (-99999) (cl5 (M 153 (ag (3 * v)) * M 153 (ag (3 * v + 1)))), 1, M)) (by
    unfold fX12_timesRange_b1
    simp (disch := omega) only [Nat.reduceAdd, reduceIte, Int.reduceEq, Int.reduceLT, Int.reduceLE, Int.reduceNeg, Int.reduceAdd, Int.reduceSub, Int.reduceMul, Int.reduceNe, or_true, true_or, or_false, false_or, or_self, and_true, true_and, and_false, false_and, and_self, not_true_eq_false, not_false_eq_true, ne_eq, L0, L1, H0, H1, ob, z0, w64_id, w32_id, s_X12_held i1, s_X12_lesser, s_X12_greater])]
  rw [lp_in (s' := (min (min 99999 (cl5 (M 153 (ag (3 * v)) * M 153 (ag (3 * v + 1))))) (cl5 (M 153 (ag (3 * v)) * M 154 (ag (3 * v + 1)))), max (max (-99999) (cl5 (M 153 (ag (3 * v)) * M 153 (ag (3 * v + 1))))) (cl5 (M 153 (ag (3 * v)) * M 154 (ag (3 * v + 1)))), 2, M)) (by
    unfold fX12_timesRange_b1
    simp (disch := omega) only [Nat.reduceAdd, reduceIte, Int.reduceEq, Int.reduceLT, Int.reduceLE, Int.reduceNeg, Int.reduceAdd, Int.reduceSub, Int.reduceMul, Int.reduceNe, or_true, true_or, or_false, false_or, or_self, and_true, true_and, and_false, false_and, and_self, not_true_eq_false, not_false_eq_true, ne_eq, L0, L1, H0, H1, ob, z1, w64_id, w32_id, s_X12_held i2, s_X12_lesser, s_X12_greater])]
  rw [lp_in (s' := (min (min (min 99999 (cl5 (M 153 (ag (3 * v)) * M 153 (ag (3 * v + 1))))) (cl5 (M 153 (ag (3 * v)) * M 154 (ag (3 * v + 1))))) (cl5 (M 154 (ag (3 * v)) * M 153 (ag (3 * v + 1)))), max (max (max (-99999) (cl5 (M 153 (ag (3 * v)) * M 153 (ag (3 * v + 1))))) (cl5 (M 153 (ag (3 * v)) * M 154 (ag (3 * v + 1))))) (cl5 (M 154 (ag (3 * v)) * M 153 (ag (3 * v + 1)))), 3, M)) (by
    unfold fX12_timesRange_b1
    simp (disch := omega) only [Nat.reduceAdd, reduceIte, Int.reduceEq, Int.reduceLT, Int.reduceLE, Int.reduceNeg, Int.reduceAdd, Int.reduceSub, Int.reduceMul, Int.reduceNe, or_true, true_or, or_false, false_or, or_self, and_true, true_and, and_false, false_and, and_self, not_true_eq_false, not_false_eq_true, ne_eq, L0, L1, H0, H1, ob, z2, w64_id, w32_id, s_X12_held i3, s_X12_lesser, s_X12_greater])]
  rw [lp_in (s' := (min (min (min (min 99999 (cl5 (M 153 (ag (3 * v)) * M 153 (ag (3 * v + 1))))) (cl5 (M 153 (ag (3 * v)) * M 154 (ag (3 * v + 1))))) (cl5 (M 154 (ag (3 * v)) * M 153 (ag (3 * v + 1))))) (cl5 (M 154 (ag (3 * v)) * M 154 (ag (3 * v + 1)))), max (max (max (max (-99999) (cl5 (M 153 (ag (3 * v)) * M 153 (ag (3 * v + 1))))) (cl5 (M 153 (ag (3 * v)) * M 154 (ag (3 * v + 1))))) (cl5 (M 154 (ag (3 * v)) * M 153 (ag (3 * v + 1))))) (cl5 (M 154 (ag (3 * v)) * M 154 (ag (3 * v + 1)))), 4, M)) (by
    unfold fX12_timesRange_b1
    simp (disch := omega) only [Nat.reduceAdd, reduceIte, Int.reduceEq, Int.reduceLT, Int.reduceLE, Int.reduceNeg, Int.reduceAdd, Int.reduceSub, Int.reduceMul, Int.reduceNe, or_true, true_or, or_false, false_or, or_self, and_true, true_and, and_false, false_and, and_self, not_true_eq_false, not_false_eq_true, ne_eq, L0, L1, H0, H1, ob, z3, w64_id, w32_id, s_X12_held i4, s_X12_lesser, s_X12_greater])]
  rw [lp_out (r := (_, _, M)) (by
    unfold fX12_timesRange_b1
    simp only [Nat.reduceAdd, reduceIte, Int.reduceEq, Int.reduceLT, Int.reduceLE, Int.reduceNeg, Int.reduceAdd, Int.reduceSub, Int.reduceMul, Int.reduceNe, or_true, true_or, or_false, false_or, or_self, and_true, true_and, and_false, false_and, and_self, not_true_eq_false, not_false_eq_true, ne_eq]
    rfl)]
  simp only [ob, s_X12_rangeIs h0 (show v < 64 by omega)]
  congr 2
  · congr 1
    omega
  · omega
