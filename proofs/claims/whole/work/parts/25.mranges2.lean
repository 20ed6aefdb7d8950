set_option maxHeartbeats 4000000 in
set_option maxRecDepth 20000 in
theorem s_X12_pickRange {M : Mem} {n v : Int} {mk ag lo hi : Int → Int} (hM : MV M n mk ag) (h0 : 0 ≤ v) (h1 : v < n) (h2 : n ≤ 64) (hk : mk v = 13) (ha : 0 ≤ ag (3 * v) ∧ ag (3 * v) < 64) (hb : 0 ≤ ag (3 * v + 1) ∧ ag (3 * v + 1) < 64) (hc : 0 ≤ ag (3 * v + 2) ∧ ag (3 * v + 2) < 64) (hf : 0 ≤ M 153 (ag (3 * v)) ∧ M 153 (ag (3 * v)) ≤ M 154 (ag (3 * v)) ∧ M 154 (ag (3 * v)) ≤ 1) :
    fX12_pickRange v M = some (wr (wr M 153 v (lF mk ag lo (M 153) (M 154) v)) 154 v (gF mk ag hi (M 153) (M 154) v)) := by
  have L0 := s_X12_lowOf0 hM h0 h1 h2 ha.2
  have L1 := s_X12_lowOf1 hM h0 h1 h2 hb.2
  have L2 := s_X12_lowOf2 hM h0 h1 h2 hc.2
  have H0 := s_X12_highOf0 hM h0 h1 h2 ha.2
  have H1 := s_X12_highOf1 hM h0 h1 h2 hb.2
  have H2 := s_X12_highOf2 hM h0 h1 h2 hc.2
  rw [show atA (M 153) (ag (3 * v)) = M 153 (ag (3 * v)) from if_pos ha.1] at L0
  rw [show atA (M 153) (ag (3 * v + 1)) = M 153 (ag (3 * v + 1)) from if_pos hb.1] at L1
  rw [show atA (M 153) (ag (3 * v + 2)) = M 153 (ag (3 * v + 2)) from if_pos hc.1] at L2
  rw [show atA (M 154) (ag (3 * v)) = M 154 (ag (3 * v)) from if_pos ha.1] at H0
  rw [show atA (M 154) (ag (3 * v + 1)) = M 154 (ag (3 * v + 1)) from if_pos hb.1] at H1
  rw [show atA (M 154) (ag (3 * v + 2)) = M 154 (ag (3 * v + 2)) from if_pos hc.1] at H2
  unfold fX12_pickRange
  simp only [L0, L1, L2, H0, H1, H2, ob]
  have hcase : (M 153 (ag (3 * v)) = 0 ∧ M 154 (ag (3 * v)) = 0) ∨ (M 153 (ag (3 * v)) = 0 ∧ M 154 (ag (3 * v)) = 1) ∨ (M 153 (ag (3 * v)) = 1 ∧ M 154 (ag (3 * v)) = 1) := by omega
  rcases hcase with ⟨c1, c2⟩ | ⟨c1, c2⟩ | ⟨c1, c2⟩
  · simp only [Nat.reduceAdd, reduceIte, Int.reduceEq, Int.reduceLT, Int.reduceLE, Int.reduceNeg, Int.reduceAdd, Int.reduceSub, Int.reduceMul, Int.reduceNe, or_true, true_or, or_false, false_or, or_self, and_true, true_and, and_false, false_and, and_self, not_true_eq_false, not_false_eq_true, ne_eq, c1, c2, ob, L0, L1, L2, H0, H1, H2, s_X12_rangeIs h0 (show v < 64 by omega), lF, gF, hk]
  · simp only [Nat.reduceAdd, reduceIte, Int.reduceEq, Int.reduceLT, Int.reduceLE, Int.reduceNeg, Int.reduceAdd, Int.reduceSub, Int.reduceMul, Int.reduceNe, or_true, true_or, or_false, false_or, or_self, and_true, true_and, and_false, false_and, and_self, not_true_eq_false, not_false_eq_true, ne_eq, c1, c2, ob, L0, L1, L2, H0, H1, H2, s_X12_lesser, s_X12_greater, s_X12_rangeIs h0 (show v < 64 by omega), lF, gF, hk, Bool.false_eq_true]
  · simp only [Nat.reduceAdd, reduceIte, Int.reduceEq, Int.reduceLT, Int.reduceLE, Int.reduceNeg, Int.reduceAdd, Int.reduceSub, Int.reduceMul, Int.reduceNe, or_true, true_or, or_false, false_or, or_self, and_true, true_and, and_false, false_and, and_self, not_true_eq_false, not_false_eq_true, ne_eq, c1, c2, ob, L0, L1, L2, H0, H1, H2, s_X12_rangeIs h0 (show v < 64 by omega), lF, gF, hk]
set_option maxHeartbeats 4000000 in
set_option maxRecDepth 20000 in
theorem s_X12_rangeOf {M : Mem} {n v nI : Int} {mk ag F lo hi : Int → Int} (hM : MV M n mk ag) (hV : Val n mk ag F nI) (h0 : 0 ≤ v) (h1 : v < n) (hk : 2 ≤ mk v) (hB : ∀ w, 0 ≤ w → w < v → (-99999 ≤ M 153 w ∧ M 153 w ≤ 99999) ∧ -99999 ≤ M 154 w ∧ M 154 w ≤ 99999) (hf : ∀ w, 0 ≤ w → w < v → F w = 1 → 0 ≤ M 153 w ∧ M 153 w ≤ M 154 w ∧ M 154 w ≤ 1) :
    fX12_rangeOf v M = some (wr (wr M 153 v (lF mk ag lo (M 153) (M 154) v)) 154 v (gF mk ag hi (M 153) (M 154) v)) := by
  have h2 := hV.2.1
  obtain ⟨k0, k1, -, -, k4, k5, k6, k7, k8, kF, t1, t2, t3⟩ := hV.2.2.2.2 v h0 h1
  have q4 := k4 hk
  have b4 := hB _ q4.1 q4.2
  have a1 : ag (3 * v + 1) < 64 := by
    by_cases h : mk v = 7 ∨ mk v = 12
    · have := k7 (Or.inr h); omega
    · have := k5 hk (by omega) (by omega); omega
  have L0 := s_X12_lowOf0 hM h0 h1 h2 (show ag (3 * v) < 64 by omega)
  have L1 := s_X12_lowOf1 hM h0 h1 h2 a1
  have H0 := s_X12_highOf0 hM h0 h1 h2 (show ag (3 * v) < 64 by omega)
  have H1 := s_X12_highOf1 hM h0 h1 h2 a1
  rw [show atA (M 153) (ag (3 * v)) = M 153 (ag (3 * v)) from if_pos q4.1] at L0
  rw [show atA (M 154) (ag (3 * v)) = M 154 (ag (3 * v)) from if_pos q4.1] at H0
  have hv64 : v < 64 := by omega
  unfold fX12_rangeOf
  simp only [L0, L1, H0, H1, ob, s_X12_howOf hM h0 h1 h2]
  have hc : mk v = 2 ∨ mk v = 3 ∨ mk v = 4 ∨ mk v = 5 ∨ mk v = 6 ∨ mk v = 7 ∨ mk v = 8 ∨ mk v = 9 ∨ mk v = 10 ∨ mk v = 11 ∨ mk v = 12 ∨ mk v = 13 := by omega
  by_cases h12 : mk v = 7 ∨ mk v = 12
  · rcases h12 with h | h
    · simp only [Nat.reduceAdd, reduceIte, Int.reduceEq, Int.reduceLT, Int.reduceLE, Int.reduceNeg, Int.reduceAdd, Int.reduceSub, Int.reduceMul, Int.reduceNe, or_true, true_or, or_false, false_or, or_self, and_true, true_and, and_false, false_and, and_self, not_true_eq_false, not_false_eq_true, ne_eq, h, ob, obi, s_X12_rangeIs h0 hv64, lF, gF, ite_self]
      repeat' split
      all_goals rfl
    · simp (disch := omega) only [Nat.reduceAdd, reduceIte, Int.reduceEq, Int.reduceLT, Int.reduceLE, Int.reduceNeg, Int.reduceAdd, Int.reduceSub, Int.reduceMul, Int.reduceNe, or_true, true_or, or_false, false_or, or_self, and_true, true_and, and_false, false_and, and_self, not_true_eq_false, not_false_eq_true, ne_eq, h, ob, obi, w32_id, s_X12_rangeIs h0 hv64, lF, gF, ite_self]
      repeat' split
      all_goals rfl
  · have q5 := k5 hk (by omega) (by omega)
    have b5 := hB _ q5.1 q5.2
    rw [show atA (M 153) (ag (3 * v + 1)) = M 153 (ag (3 * v + 1)) from if_pos q5.1, show atA (M 154) (ag (3 * v + 1)) = M 154 (ag (3 * v + 1)) from if_pos q5.1]
    have i1 : i64 (M 153 (ag (3 * v)) + M 153 (ag (3 * v + 1))) := ⟨by omega, by omega⟩
    have i2 : i64 (M 154 (ag (3 * v)) + M 154 (ag (3 * v + 1))) := ⟨by omega, by omega⟩
    have i3 : i64 (M 153 (ag (3 * v)) - M 154 (ag (3 * v + 1))) := ⟨by omega, by omega⟩
    have i4 : i64 (M 154 (ag (3 * v)) - M 153 (ag (3 * v + 1))) := ⟨by omega, by omega⟩
    have tm := s_X12_timesRange hM h0 h1 h2 ⟨q4.1, by omega⟩ ⟨q5.1, by omega⟩ b4.1 b4.2 b5.1 b5.2
    rcases hc with h | h | h | h | h | h | h | h | h | h | h | h
    · simp (disch := omega) only [Nat.reduceAdd, reduceIte, Int.reduceEq, Int.reduceLT, Int.reduceLE, Int.reduceNeg, Int.reduceAdd, Int.reduceSub, Int.reduceMul, Int.reduceNe, or_true, true_or, or_false, false_or, or_self, and_true, true_and, and_false, false_and, and_self, not_true_eq_false, not_false_eq_true, ne_eq, h, ob, obi, w64_id, s_X12_held i1, s_X12_held i2, s_X12_rangeIs h0 hv64, lF, gF, ite_self]
      repeat' split
      all_goals rfl
    · simp (disch := omega) only [Nat.reduceAdd, reduceIte, Int.reduceEq, Int.reduceLT, Int.reduceLE, Int.reduceNeg, Int.reduceAdd, Int.reduceSub, Int.reduceMul, Int.reduceNe, or_true, true_or, or_false, false_or, or_self, and_true, true_and, and_false, false_and, and_self, not_true_eq_false, not_false_eq_true, ne_eq, h, ob, obi, w64_id, s_X12_held i3, s_X12_held i4, s_X12_rangeIs h0 hv64, lF, gF, ite_self]
      repeat' split
      all_goals rfl
    · simp only [Nat.reduceAdd, reduceIte, Int.reduceEq, Int.reduceLT, Int.reduceLE, Int.reduceNeg, Int.reduceAdd, Int.reduceSub, Int.reduceMul, Int.reduceNe, or_true, true_or, or_false, false_or, or_self, and_true, true_and, and_false, false_and, and_self, not_true_eq_false, not_false_eq_true, ne_eq, h, ob, obi, tm, lF, gF, ite_self]
      repeat' split
      all_goals rfl
    · simp only [Nat.reduceAdd, reduceIte, Int.reduceEq, Int.reduceLT, Int.reduceLE, Int.reduceNeg, Int.reduceAdd, Int.reduceSub, Int.reduceMul, Int.reduceNe, or_true, true_or, or_false, false_or, or_self, and_true, true_and, and_false, false_and, and_self, not_true_eq_false, not_false_eq_true, ne_eq, h, ob, obi, s_X12_lesser, s_X12_rangeIs h0 hv64, lF, gF, ite_self]
      repeat' split
      all_goals rfl
    · simp only [Nat.reduceAdd, reduceIte, Int.reduceEq, Int.reduceLT, Int.reduceLE, Int.reduceNeg, Int.reduceAdd, Int.reduceSub, Int.reduceMul, Int.reduceNe, or_true, true_or, or_false, false_or, or_self, and_true, true_and, and_false, false_and, and_self, not_true_eq_false, not_false_eq_true, ne_eq, h, ob, obi, s_X12_greater, s_X12_rangeIs h0 hv64, lF, gF, ite_self]
      repeat' split
      all_goals rfl
    · exact absurd (Or.inl h) h12
    · simp only [Nat.reduceAdd, reduceIte, Int.reduceEq, Int.reduceLT, Int.reduceLE, Int.reduceNeg, Int.reduceAdd, Int.reduceSub, Int.reduceMul, Int.reduceNe, or_true, true_or, or_false, false_or, or_self, and_true, true_and, and_false, false_and, and_self, not_true_eq_false, not_false_eq_true, ne_eq, h, ob, obi, s_X12_rangeIs h0 hv64, lF, gF]
      repeat' split
      all_goals first | rfl | (exfalso; omega)
    · simp only [Nat.reduceAdd, reduceIte, Int.reduceEq, Int.reduceLT, Int.reduceLE, Int.reduceNeg, Int.reduceAdd, Int.reduceSub, Int.reduceMul, Int.reduceNe, or_true, true_or, or_false, false_or, or_self, and_true, true_and, and_false, false_and, and_self, not_true_eq_false, not_false_eq_true, ne_eq, h, ob, obi, s_X12_rangeIs h0 hv64, lF, gF]
      repeat' split
      all_goals first | rfl | (exfalso; omega) | contradiction
    · simp only [Nat.reduceAdd, reduceIte, Int.reduceEq, Int.reduceLT, Int.reduceLE, Int.reduceNeg, Int.reduceAdd, Int.reduceSub, Int.reduceMul, Int.reduceNe, or_true, true_or, or_false, false_or, or_self, and_true, true_and, and_false, false_and, and_self, not_true_eq_false, not_false_eq_true, ne_eq, h, ob, obi, s_X12_lesser, s_X12_rangeIs h0 hv64, lF, gF, ite_self]
      repeat' split
      all_goals rfl
    · simp only [Nat.reduceAdd, reduceIte, Int.reduceEq, Int.reduceLT, Int.reduceLE, Int.reduceNeg, Int.reduceAdd, Int.reduceSub, Int.reduceMul, Int.reduceNe, or_true, true_or, or_false, false_or, or_self, and_true, true_and, and_false, false_and, and_self, not_true_eq_false, not_false_eq_true, ne_eq, h, ob, obi, s_X12_greater, s_X12_rangeIs h0 hv64, lF, gF, ite_self]
      repeat' split
      all_goals rfl
    · exact absurd (Or.inr h) h12
    · have q6 := k6 h
      have pk := s_X12_pickRange (lo := lo) (hi := hi) hM h0 h1 h2 h ⟨q4.1, by omega⟩ ⟨q5.1, by omega⟩ ⟨q6.1, by omega⟩ (hf _ q4.1 q4.2 (t1 (by omega)))
      simp only [Nat.reduceAdd, reduceIte, Int.reduceEq, Int.reduceLT, Int.reduceLE, Int.reduceNeg, Int.reduceAdd, Int.reduceSub, Int.reduceMul, Int.reduceNe, or_true, true_or, or_false, false_or, or_self, and_true, true_and, and_false, false_and, and_self, not_true_eq_false, not_false_eq_true, ne_eq, h, ob, obi, pk, ite_self]
      repeat' split
      all_goals rfl
theorem F01 {n nI : Int} {mk ag F : Int → Int} (hV : Val n mk ag F nI) : ∀ (k : Nat) (v : Int), v < k → 0 ≤ v → v < n → F v = 0 ∨ F v = 1 := by
  intro k
  induction k with
  | zero => intro v h1 h2; omega
  | succ k ih =>
    intro v hvk h0 h1
    obtain ⟨k0, k1, -, -, k4, k5, k6, -, -, kF, -⟩ := hV.2.2.2.2 v h0 h1
    rw [kF]
    split
    · have q5 := k5 (by omega) (by omega) (by omega)
      exact ih _ (by omega) q5.1 (by omega)
    · split
      · exact Or.inr rfl
      · exact Or.inl rfl
theorem F_01 {n nI : Int} {mk ag F : Int → Int} (hV : Val n mk ag F nI) {v : Int} (h0 : 0 ≤ v) (h1 : v < n) : F v = 0 ∨ F v = 1 := F01 hV (v.toNat + 1) v (by omega) h0 h1
/-- uniform: of inputs that are given, of numbers, of what is made of uniform ones alone -/
def u1 (U : Int → Int) (q a : Int) : Int := if q = 0 then 0 else if a < 0 then 1 else if U a = 0 then 0 else 1
def uF (mk ag giv U : Int → Int) (v : Int) : Int := if mk v = 0 then (if giv (ag (3 * v)) = 1 then 1 else 0) else if mk v = 1 then 1 else u1 U (u1 U (u1 U 1 (ag (3 * v))) (ag (3 * v + 1))) (ag (3 * v + 2))
def UnOK (n : Int) (mk ag giv U : Int → Int) : Prop := ∀ v, 0 ≤ v → v < n → U v = uF mk ag giv U v
theorem u1_01 (U : Int → Int) (q a : Int) : u1 U q a = 0 ∨ u1 U q a = 1 := by
  unfold u1
  repeat' split
  all_goals omega
theorem uF_01 (mk ag giv U : Int → Int) (v : Int) : uF mk ag giv U v = 0 ∨ uF mk ag giv U v = 1 := by
  unfold uF
  split
  · split <;> omega
  · split
    · omega
    · exact u1_01 _ _ _
theorem u1_congr {U U' : Int → Int} {q a : Int} (h : 0 ≤ a → U' a = U a) : u1 U' q a = u1 U q a := by
  unfold u1
  by_cases ha : a < 0
  · simp only [ha, if_true]
  · rw [h (by omega)]
theorem uF_congr {n nI : Int} {mk ag F giv U U' : Int → Int} (hV : Val n mk ag F nI) {v : Int} (h0 : 0 ≤ v) (h1 : v < n) (h : ∀ w, 0 ≤ w → w < v → U' w = U w) : uF mk ag giv U' v = uF mk ag giv U v := by
  obtain ⟨k0, k1, -, -, k4, k5, k6, k7, k8, -⟩ := hV.2.2.2.2 v h0 h1
  unfold uF
  split
  · rfl
  · split
    · rfl
    · have q4 := k4 (by omega)
      rw [u1_congr (U := U) (U' := U') (a := ag (3 * v)) (fun _ => h _ q4.1 q4.2)]
      rw [u1_congr (U := U) (U' := U') (a := ag (3 * v + 1)) (fun hh => h _ hh (by
        by_cases hc : mk v = 7 ∨ mk v = 12
        · have := k7 (Or.inr hc); omega
        · exact (k5 (by omega) (by omega) (by omega)).2))]
      rw [u1_congr (U := U) (U' := U') (a := ag (3 * v + 2)) (fun hh => h _ hh (by
        by_cases hc : mk v = 13
        · exact (k6 hc).2
        · have := k8 hc; omega))]
theorem Un_uniq {n nI : Int} {mk ag F giv U U' : Int → Int} (hV : Val n mk ag F nI) (h : UnOK n mk ag giv U) (h' : UnOK n mk ag giv U') : ∀ (k : Nat) (v : Int), v < k → 0 ≤ v → v < n → U' v = U v := by
  intro k
  induction k with
  | zero => intro v h1 h2; omega
  | succ k ih =>
    intro v hvk h0 h1
    rw [h v h0 h1, h' v h0 h1, uF_congr hV h0 h1 (fun w a b => ih w (by omega) a (by omega))]
theorem Un_step {n nI : Int} {mk ag F giv U U' : Int → Int} (hV : Val n mk ag F nI) {v : Int} (h0 : 0 ≤ v) (h1 : v < n) (h : UnOK v mk ag giv U) (e : ∀ w, 0 ≤ w → w < v → U' w = U w) (hv : U' v = uF mk ag giv U v) : UnOK (v + 1) mk ag giv U' := by
  intro w w0 w1
  by_cases hw : w = v
  · subst hw
    rw [hv, uF_congr hV h0 h1 e]
  · rw [e w w0 (by omega), h w w0 (by omega), uF_congr hV w0 (by omega) (fun u a b => e u a (by omega))]
set_option maxHeartbeats 4000000 in
set_option maxRecDepth 20000 in
theorem s_X12_rw_b2 {m : Mem} {n nI v q : Int} {mk ag F : Int → Int} (hM : MV m n mk ag) (hV : Val n mk ag F nI) (h0 : 0 ≤ v) (h1 : v < n) (hq : q = 0 ∨ q = 1) : lp (fX12_rangesWith_b2 (mk v) v) (q, 0, m) = some ((if mk v < 2 then q else u1 (m 156) (u1 (m 156) (u1 (m 156) q (ag (3 * v))) (ag (3 * v + 1))) (ag (3 * v + 2))), m) := by
  have h2 := hV.2.1
  obtain ⟨k0, k1, -, -, k4, k5, k6, k7, k8, -⟩ := hV.2.2.2.2 v h0 h1
  by_cases hk : mk v < 2
  · rw [if_pos hk, lp_out (r := (q, m))]
    unfold fX12_rangesWith_b2
    simp only [Nat.reduceAdd, reduceIte, Int.reduceEq, Int.reduceLT, Int.reduceLE, Int.reduceNeg, Int.reduceAdd, Int.reduceSub, Int.reduceMul, Int.reduceNe, or_true, true_or, or_false, false_or, or_self, and_true, true_and, and_false, false_and, and_self, not_true_eq_false, not_false_eq_true, ne_eq, hk]
  · have q4 := k4 (by omega)
    have a1 : ag (3 * v + 1) < 64 := by
      by_cases h : mk v = 7 ∨ mk v = 12
      · have := k7 (Or.inr h); omega
      · have := k5 (by omega) (by omega) (by omega); omega
    have a2 : ag (3 * v + 2) < 64 := by
      by_cases h : mk v = 13
      · have := k6 h; omega
      · have := k8 h; omega
    have key : ∀ (q a k : Int), a < 64 → k < 3 → 0 ≤ k → fX12_argOf v k m = some (a, m) → fX12_rangesWith_b2 (mk v) v (q, k, m) = some (.inl (u1 (m 156) q a, k + 1, m)) := by
      intro q a k ha hk3 hk0 he
      unfold fX12_rangesWith_b2
      dsimp only
      rw [if_neg (by omega), if_neg hk]
      simp only [he, ob, obi]
      unfold u1
      split
      · simp (disch := omega) only [w32_id]
      · split
        · simp (disch := omega) only [w32_id]
        · simp (disch := omega) only [w32_id, LD, ob]
          split <;> rfl
    rw [if_neg hk, lp_in (key _ _ _ (by omega) (by omega) (by omega) (s_X12_argOf0 hM h0 h1 h2)), show (0 + 1 : Int) = 1 from rfl]
    rw [lp_in (key _ _ _ a1 (by omega) (by omega) (s_X12_argOf1 hM h0 h1 h2)), show (1 + 1 : Int) = 2 from rfl]
    rw [lp_in (key _ _ _ a2 (by omega) (by omega) (s_X12_argOf2 hM h0 h1 h2)), show (2 + 1 : Int) = 3 from rfl]
    rw [lp_out (r := (_, m))]
    unfold fX12_rangesWith_b2
    simp only [Nat.reduceAdd, reduceIte, Int.reduceEq, Int.reduceLT, Int.reduceLE, Int.reduceNeg, Int.reduceAdd, Int.reduceSub, Int.reduceMul, Int.reduceNe, or_true, true_or, or_false, false_or, or_self, and_true, true_and, and_false, false_and, and_self, not_true_eq_false, not_false_eq_true, ne_eq]
set_option maxHeartbeats 4000000 in
set_option maxRecDepth 20000 in
theorem s_X12_rangesWith {M : Mem} {n nI p1 p2 p3 : Int} {mk ag F giv lo hi : Int → Int} (hM : MV M n mk ag) (hV : Val n mk ag F nI) (hI : In9 nI lo hi) (hlo : ∀ i, 0 ≤ i → i < nI → lo i = if i = p1 then p2 else M 150 (2 * i)) (hhi : ∀ i, 0 ≤ i → i < nI → hi i = if i = p1 then p3 else M 150 (2 * i + 1)) (hgv : ∀ i, 0 ≤ i → i < nI → M 138 (10 + 3 * i + 2) = giv i) :
    ∃ M', fX12_rangesWith p1 p2 p3 M = some M' ∧ (∀ b, b ≠ 153 → b ≠ 154 → b ≠ 155 → b ≠ 156 → M' b = M b) ∧ RgOK n mk ag lo hi (M' 153) (M' 154) ∧ (∀ v, 0 ≤ v → v < n → M' 155 v = F v) ∧ UnOK n mk ag giv (M' 156) := by
  have n0 := hV.1
  have n1 := hV.2.1
  have nI6 := hV.2.2.2.1
  unfold fX12_rangesWith
  refine lp_bind (fun s => 0 ≤ s.1 ∧ s.1 ≤ n ∧ (∀ b, b ≠ 153 → b ≠ 154 → b ≠ 155 → b ≠ 156 → s.2 b = M b) ∧ RgOK s.1 mk ag lo hi (s.2 153) (s.2 154) ∧ (∀ v, 0 ≤ v → v < s.1 → s.2 155 v = F v) ∧ UnOK s.1 mk ag giv (s.2 156)) (fun r => (∀ b, b ≠ 153 → b ≠ 154 → b ≠ 155 → b ≠ 156 → r b = M b) ∧ RgOK n mk ag lo hi (r 153) (r 154) ∧ (∀ v, 0 ≤ v → v < n → r 155 v = F v) ∧ UnOK n mk ag giv (r 156)) (fun s => (n - s.1).toNat) ?_ ?_ ?_
  · rintro ⟨v, m⟩ ⟨h0, h1, hfr, hR, hF, hU⟩
    dsimp only at h0 h1 hfr hR hF hU
    unfold fX12_rangesWith_b1
    have e138 : m 138 = M 138 := hfr 138 (by omega) (by omega) (by omega) (by omega)
    have e150 : m 150 = M 150 := hfr 150 (by omega) (by omega) (by omega) (by omega)
    have hm : MV m n mk ag := MV_fr hM e138
    by_cases hv : n ≤ v
    · have : v = n := by omega
      subst this
      refine Or.inr ⟨m, ?_, hfr, hR, hF, hU⟩
      simp only [s_X12_values, ob, hm.1]
      rw [if_pos (Int.le_refl v)]
    · have hv1 : v < n := by omega
      have hv64 : v < 64 := by omega
      obtain ⟨k0, k1, k2, k3, k4, k5, k6, k7, k8, kF, t1, t2, t3⟩ := hV.2.2.2.2 v h0 hv1
      have hB := fun (w : Int) (a : 0 ≤ w) (b : w < v) => rg_ok (Val_le hV h0 h1) hI hR a b
      have f01 := F_01 hV h0 hv1
      have hu01 := uF_01 mk ag giv (m 156) v
      -- the flag
      have hflag : ∀ m' : Mem, m' 138 = m 138 → m' 155 = m 155 → ((if mk v = 13 then (fX12_argOf v 1 m').bind fun q13 => (ldZ q13.2 155 q13.1).bind fun v14 => some (v14, q13.2) else (fX12_makesFlag (mk v) m').bind fun q12 => some (q12.1, q12.2) : Option (Int × Mem))) = some (F v, m') := by
        intro m' e1 e2
        by_cases h13 : mk v = 13
        · have q5 := k5 (by omega) (by omega) (by omega)
          rw [if_pos h13]
          simp (disch := omega) only [s_X12_argOf1 (MV_fr hm e1) h0 hv1 n1, ob, LD, e2, hF _ q5.1 q5.2]
          rw [kF, if_pos h13]
        · rw [if_neg h13]
          unfold fX12_makesFlag
          rw [kF, if_neg h13]
          simp only [obi, ob, rz0, rz1]
          repeat' split
          all_goals first | rfl | (exfalso; omega)
      -- what the rows become, once both ends x, y are known
      have huni : ∀ m' : Mem, m' 138 = m 138 → ((if 0 < mk v then some 1 else (ldI m' 138 (w32 ((w32 (10 + (w32 (3 * (ag (3 * v)))))) + 2))).bind fun v17 => if v17 = 1 then some 1 else some 0 : Option Int)) = some (if mk v = 0 then (if giv (ag (3 * v)) = 1 then 1 else 0) else 1) := by
        intro m' e1
        by_cases h00 : mk v = 0
        · have q2 := k2 h00
          rw [if_neg (by omega), if_pos h00]
          simp (disch := omega) only [w32_id, LD, ob, e1, e138, hgv _ q2.1 q2.2]
          split <;> rfl
        · rw [if_pos (by omega), if_neg h00]
      have hb2 : ∀ m' : Mem, m' 138 = m 138 → m' 156 = m 156 → lp (fX12_rangesWith_b2 (mk v) v) ((if mk v = 0 then (if giv (ag (3 * v)) = 1 then 1 else 0) else 1), 0, m') = some (uF mk ag giv (m 156) v, m') := by
        intro m' e1 e2
        rw [s_X12_rw_b2 (MV_fr hm e1) hV h0 hv1 (by (repeat' split) <;> omega), e2]
        unfold uF
        by_cases h00 : mk v = 0
        · rw [if_pos (by omega), if_pos h00, if_pos h00]
        · by_cases h01 : mk v = 1
          · rw [if_pos (by omega), if_neg h00, if_neg h00, if_pos h01]
          · rw [if_neg (by omega), if_neg h00, if_neg h00, if_neg h01]
      -- inputs and numbers
      have fin : ∀ m' : Mem, m' = wr (wr (wr (wr m 153 v (lF mk ag lo (m 153) (m 154) v)) 154 v (gF mk ag hi (m 153) (m 154) v)) 155 v (F v)) 156 v (uF mk ag giv (m 156) v) → (∀ b, b ≠ 153 → b ≠ 154 → b ≠ 155 → b ≠ 156 → m' b = M b) ∧ RgOK (v + 1) mk ag lo hi (m' 153) (m' 154) ∧ (∀ w, 0 ≤ w → w < v + 1 → m' 155 w = F w) ∧ UnOK (v + 1) mk ag giv (m' 156) := by
        rintro m' rfl
        refine ⟨fun b b1 b2 b3 b4 => by simp (disch := omega) only [wr_ne, hfr], RgOK_step hV h0 hv1 hR (fun w a b => by simp (disch := omega) only [wr_ne, wr_at, if_neg]) (fun w a b => by simp (disch := omega) only [wr_ne, wr_at, if_neg]) (by simp (disch := omega) only [wr_ne, wr_at, Nat.reduceAdd, reduceIte, Int.reduceEq, Int.reduceLT, Int.reduceLE, Int.reduceNeg, Int.reduceAdd, Int.reduceSub, Int.reduceMul, Int.reduceNe, or_true, true_or, or_false, false_or, or_self, and_true, true_and, and_false, false_and, and_self, not_true_eq_false, not_false_eq_true, ne_eq]) (by simp (disch := omega) only [wr_ne, wr_at, Nat.reduceAdd, reduceIte, Int.reduceEq, Int.reduceLT, Int.reduceLE, Int.reduceNeg, Int.reduceAdd, Int.reduceSub, Int.reduceMul, Int.reduceNe, or_true, true_or, or_false, false_or, or_self, and_true, true_and, and_false, false_and, and_self, not_true_eq_false, not_false_eq_true, ne_eq]), fun w a b => ?_, Un_step hV h0 hv1 hU (fun w a b => by simp (disch := omega) only [wr_ne, wr_at, if_neg]) (by simp (disch := omega) only [wr_ne, wr_at, Nat.reduceAdd, reduceIte, Int.reduceEq, Int.reduceLT, Int.reduceLE, Int.reduceNeg, Int.reduceAdd, Int.reduceSub, Int.reduceMul, Int.reduceNe, or_true, true_or, or_false, false_or, or_self, and_true, true_and, and_false, false_and, and_self, not_true_eq_false, not_false_eq_true, ne_eq])⟩
        by_cases hw : w = v
        · subst hw
          simp (disch := omega) only [wr_ne, wr_at, Nat.reduceAdd, reduceIte, Int.reduceEq, Int.reduceLT, Int.reduceLE, Int.reduceNeg, Int.reduceAdd, Int.reduceSub, Int.reduceMul, Int.reduceNe, or_true, true_or, or_false, false_or, or_self, and_true, true_and, and_false, false_and, and_self, not_true_eq_false, not_false_eq_true, ne_eq]
        · simp (disch := omega) only [wr_ne, wr_at, if_neg, hF w a (by omega)]
      by_cases hk : mk v < 2
      · have hh : ((if mk v = 0 then ((if ag (3 * v) = p1 then some p2 else (ldI m 150 (w32 (2 * ag (3 * v)))).bind fun v6 => some v6 : Option Int)).bind fun q7 => ((if ag (3 * v) = p1 then some p3 else (ldI m 150 (w32 ((w32 (2 * ag (3 * v))) + 1))).bind fun v8 => some v8 : Option Int)).bind fun q9 => (fX12_rangeIs v q7 q9 m).bind fun q10 => some q10 else if mk v = 1 then (fX12_rangeIs v (ag (3 * v)) (ag (3 * v)) m).bind fun q5 => some q5 else some m : Option Mem)) = some (wr (wr m 153 v (lF mk ag lo (m 153) (m 154) v)) 154 v (gF mk ag hi (m 153) (m 154) v)) := by
          by_cases h00 : mk v = 0
          · have q2 := k2 h00
            simp only [Nat.reduceAdd, reduceIte, Int.reduceEq, Int.reduceLT, Int.reduceLE, Int.reduceNeg, Int.reduceAdd, Int.reduceSub, Int.reduceMul, Int.reduceNe, or_true, true_or, or_false, false_or, or_self, and_true, true_and, and_false, false_and, and_self, not_true_eq_false, not_false_eq_true, ne_eq, h00, lF, gF, hlo _ q2.1 q2.2, hhi _ q2.1 q2.2]
            by_cases hp : ag (3 * v) = p1
            · simp only [Nat.reduceAdd, reduceIte, Int.reduceEq, Int.reduceLT, Int.reduceLE, Int.reduceNeg, Int.reduceAdd, Int.reduceSub, Int.reduceMul, Int.reduceNe, or_true, true_or, or_false, false_or, or_self, and_true, true_and, and_false, false_and, and_self, not_true_eq_false, not_false_eq_true, ne_eq, hp, ob, s_X12_rangeIs h0 hv64]
            · simp (disch := omega) only [Nat.reduceAdd, reduceIte, Int.reduceEq, Int.reduceLT, Int.reduceLE, Int.reduceNeg, Int.reduceAdd, Int.reduceSub, Int.reduceMul, Int.reduceNe, or_true, true_or, or_false, false_or, or_self, and_true, true_and, and_false, false_and, and_self, not_true_eq_false, not_false_eq_true, ne_eq, hp, ob, LD, w32_id, e150, s_X12_rangeIs h0 hv64]
          · have h01 : mk v = 1 := by omega
            simp only [Nat.reduceAdd, reduceIte, Int.reduceEq, Int.reduceLT, Int.reduceLE, Int.reduceNeg, Int.reduceAdd, Int.reduceSub, Int.reduceMul, Int.reduceNe, or_true, true_or, or_false, false_or, or_self, and_true, true_and, and_false, false_and, and_self, not_true_eq_false, not_false_eq_true, ne_eq, h01, lF, gF, ob, s_X12_rangeIs h0 hv64]
        obtain ⟨g1, g2, g3, g4⟩ := fin _ rfl
        refine Or.inl ⟨(v + 1, wr (wr (wr (wr m 153 v (lF mk ag lo (m 153) (m 154) v)) 154 v (gF mk ag hi (m 153) (m 154) v)) 155 v (F v)) 156 v (uF mk ag giv (m 156) v)), ?_, ⟨by dsimp only; omega, by dsimp only; omega, g1, g2, g3, g4⟩, by dsimp only; omega⟩
        simp only [s_X12_values, ob, hm.1]
        rw [if_neg hv]
        simp only [s_X12_howOf hm h0 hv1 n1, s_X12_argOf0 hm h0 hv1 n1, ob, hh]
        rw [hflag _ (by simp (disch := omega) only [wr_ne]) (by simp (disch := omega) only [wr_ne])]
        simp (disch := omega) only [ob, ST, nz_ok f01]
        rw [huni _ (by simp (disch := omega) only [wr_ne])]
        simp only [ob]
        rw [hb2 _ (by simp (disch := omega) only [wr_ne]) (by simp (disch := omega) only [wr_ne])]
        simp (disch := omega) only [ob, ST, nz_ok hu01, w32_id]
        rw [if_pos hk]
        rfl
      · have hro := fun m' (e1 : m' 138 = m 138) (e2 : m' 153 = m 153) (e3 : m' 154 = m 154) => s_X12_rangeOf (M := m') (lo := lo) (hi := hi) (MV_fr hm e1) hV h0 hv1 (by omega) (fun w a b => by rw [e2, e3]; exact (hB w a b).1) (fun w a b c => by rw [e2, e3]; exact ⟨((hB w a b).2.2 c).1, (hB w a b).2.1, ((hB w a b).2.2 c).2⟩)
        have hcomm : wr (wr (wr (wr m 155 v (F v)) 156 v (uF mk ag giv (m 156) v)) 153 v (lF mk ag lo (m 153) (m 154) v)) 154 v (gF mk ag hi (m 153) (m 154) v) = wr (wr (wr (wr m 153 v (lF mk ag lo (m 153) (m 154) v)) 154 v (gF mk ag hi (m 153) (m 154) v)) 155 v (F v)) 156 v (uF mk ag giv (m 156) v) := by
          funext b j
          unfold wr
          by_cases b1 : b = 153
          · subst b1; simp
          · by_cases b2 : b = 154
            · subst b2; simp
            · by_cases b3 : b = 155
              · subst b3; simp
              · by_cases b4 : b = 156
                · subst b4; simp
                · simp [b1, b2, b3, b4]
        obtain ⟨g1, g2, g3, g4⟩ := fin _ rfl
        refine Or.inl ⟨(v + 1, wr (wr (wr (wr m 153 v (lF mk ag lo (m 153) (m 154) v)) 154 v (gF mk ag hi (m 153) (m 154) v)) 155 v (F v)) 156 v (uF mk ag giv (m 156) v)), ?_, ⟨by dsimp only; omega, by dsimp only; omega, g1, g2, g3, g4⟩, by dsimp only; omega⟩
        simp only [s_X12_values, ob, hm.1]
        rw [if_neg hv]
        simp only [s_X12_howOf hm h0 hv1 n1, s_X12_argOf0 hm h0 hv1 n1, ob]
        rw [if_neg (show ¬ mk v = 0 by omega), if_neg (show ¬ mk v = 1 by omega)]
        simp only [ob]
        rw [hflag _ rfl rfl]
        simp (disch := omega) only [ob, ST, nz_ok f01]
        rw [huni _ (by simp (disch := omega) only [wr_ne])]
        simp only [ob]
        rw [hb2 _ (by simp (disch := omega) only [wr_ne]) (by simp (disch := omega) only [wr_ne])]
        simp (disch := omega) only [ob, ST, nz_ok hu01, w32_id]
        rw [if_neg hk, hro _ (by simp (disch := omega) only [wr_ne]) (by simp (disch := omega) only [wr_ne]) (by simp (disch := omega) only [wr_ne])]
        simp (disch := omega) only [ob, wr_ne, hcomm]
  · exact ⟨by omega, hV.1, fun b _ _ _ _ => rfl, fun v a b => by dsimp only at b; omega, fun v a b => by dsimp only at b; omega, fun v a b => by dsimp only at b; omega⟩
  · intro r hr
    exact ⟨r, rfl, hr⟩
