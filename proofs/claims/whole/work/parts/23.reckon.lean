set_option maxHeartbeats 4000000 in
set_option maxRecDepth 20000 in
theorem s_X2_reckon {g : Nat} {M : Mem} {n nI : Int} (hg : g = 62 ∨ g = 88) (hn : M 44 0 = n) (hV : Val n (M 45) (M 46) (M 47) nI) (hI : In9 nI (M 52) (M 53)) :
    ∃ M', fX2_reckon g M = some M' ∧ (∀ b, b ≠ g + 1 → b ≠ g + 2 → b ≠ g + 3 → M' b = M b) ∧ RgOK n (M 45) (M 46) (M 52) (M 53) (M' (g + 1)) (M' (g + 2)) ∧ WdOK n (M 47) (M' (g + 1)) (M' (g + 2)) (M' (g + 3)) := by
  have hg2 : 62 ≤ g := by omega
  unfold fX2_reckon
  refine lp_bind (fun s => 0 ≤ s.1 ∧ s.1 ≤ n ∧ (∀ b, b ≠ g + 1 → b ≠ g + 2 → b ≠ g + 3 → s.2 b = M b) ∧ RgOK s.1 (M 45) (M 46) (M 52) (M 53) (s.2 (g + 1)) (s.2 (g + 2)) ∧ WdOK s.1 (M 47) (s.2 (g + 1)) (s.2 (g + 2)) (s.2 (g + 3))) (fun r => (∀ b, b ≠ g + 1 → b ≠ g + 2 → b ≠ g + 3 → r b = M b) ∧ RgOK n (M 45) (M 46) (M 52) (M 53) (r (g + 1)) (r (g + 2)) ∧ WdOK n (M 47) (r (g + 1)) (r (g + 2)) (r (g + 3))) (fun s => (n - s.1).toNat) ?_ ?_ ?_
  · rintro ⟨v, m⟩ ⟨h0, h1, hfr, hR, hW⟩
    unfold fX2_reckon_b1
    dsimp only at h0 h1 hfr hR hW ⊢
    have n0 := hV.1
    have n1 := hV.2.1
    have nI6 := hV.2.2.2.1
    have e44 : m 44 = M 44 := hfr 44 (by omega) (by omega) (by omega)
    have e45 : m 45 = M 45 := hfr 45 (by omega) (by omega) (by omega)
    have e46 : m 46 = M 46 := hfr 46 (by omega) (by omega) (by omega)
    have e47 : m 47 = M 47 := hfr 47 (by omega) (by omega) (by omega)
    have e52 : m 52 = M 52 := hfr 52 (by omega) (by omega) (by omega)
    have e53 : m 53 = M 53 := hfr 53 (by omega) (by omega) (by omega)
    by_cases hv : n ≤ v
    · have : v = n := by omega
      subst this
      refine Or.inr ⟨m, ?_, hfr, hR, hW⟩
      rw [if_pos (show m 44 0 ≤ v by rw [e44, hn]; exact hv)]
    · have hv1 : v < n := by omega
      have hv64 : v < 64 := by omega
      obtain ⟨k0, k1, k2, k3, k4, k5, k6, -, -, kF, -⟩ := hV.2.2.2.2 v h0 hv1
      have hB := fun (w : Int) (a : 0 ≤ w) (b : w < v) => (rg_ok (Val_le hV h0 h1) hI hR a b).1
      refine Or.inl ⟨(v + 1, wr (wr (wr m (g + 1) v (lF (M 45) (M 46) (M 52) (m (g + 1)) (m (g + 2)) v)) (g + 2) v (gF (M 45) (M 46) (M 53) (m (g + 1)) (m (g + 2)) v)) (g + 3) v (if M 47 v = 0 ∧ ¬ (-512 ≤ lF (M 45) (M 46) (M 52) (m (g + 1)) (m (g + 2)) v ∧ gF (M 45) (M 46) (M 53) (m (g + 1)) (m (g + 2)) v ≤ 511) then 2 else 1)), ?_, ⟨by omega, by omega, ?_, ?_, ?_⟩, by omega⟩
      · rw [if_neg (show ¬ m 44 0 ≤ v by rw [e44, hn]; exact hv)]
        simp (disch := omega) only [w32_id, LD, ob, e45, e46]
        have tail : ∀ (x y : Int), (((if (wr (wr m (g + 1) v x) (g + 2) v y) 47 v = 0 then (fX2_isLow g v (wr (wr m (g + 1) v x) (g + 2) v y)).bind fun q18 => if q18.1 = 0 then some (2, q18.2) else some (1, q18.2) else some (1, wr (wr m (g + 1) v x) (g + 2) v y) : Option (Int × Mem))).bind fun q19 => (stI q19.2 (g + 3) v q19.1).bind fun M20 => some (Sum.inl (v + 1, M20) : (Int × Mem) ⊕ Mem)) = some (Sum.inl (v + 1, wr (wr (wr m (g + 1) v x) (g + 2) v y) (g + 3) v (if M 47 v = 0 ∧ ¬ (-512 ≤ x ∧ y ≤ 511) then 2 else 1))) := by
          intro x y
          simp (disch := omega) only [LD, ob, obi, wr_ne, e47, s_X2_isLow hg h0 hv64, wr_at, Nat.reduceAdd, reduceIte, Int.reduceEq, Int.reduceLT, Int.reduceLE, Int.reduceNeg, Int.reduceAdd, Int.reduceSub, Int.reduceMul, Int.reduceNe, or_true, true_or, or_false, false_or, or_self, and_true, true_and, and_false, false_and, and_self, not_true_eq_false, not_false_eq_true, ne_eq, SGd hg]
          by_cases hF : M 47 v = 0
          · by_cases hx : -512 ≤ x ∧ y ≤ 511
            · simp only [Nat.reduceAdd, reduceIte, Int.reduceEq, Int.reduceLT, Int.reduceLE, Int.reduceNeg, Int.reduceAdd, Int.reduceSub, Int.reduceMul, Int.reduceNe, or_true, true_or, or_false, false_or, or_self, and_true, true_and, and_false, false_and, and_self, not_true_eq_false, not_false_eq_true, ne_eq, hF, hx]
            · have hx2 : ¬ (-512 ≤ x ∧ y ≤ 511) := hx
              simp only [Nat.reduceAdd, reduceIte, Int.reduceEq, Int.reduceLT, Int.reduceLE, Int.reduceNeg, Int.reduceAdd, Int.reduceSub, Int.reduceMul, Int.reduceNe, or_true, true_or, or_false, false_or, or_self, and_true, true_and, and_false, false_and, and_self, not_true_eq_false, not_false_eq_true, ne_eq, hF, hx2]
          · simp only [Nat.reduceAdd, reduceIte, Int.reduceEq, Int.reduceLT, Int.reduceLE, Int.reduceNeg, Int.reduceAdd, Int.reduceSub, Int.reduceMul, Int.reduceNe, or_true, true_or, or_false, false_or, or_self, and_true, true_and, and_false, false_and, and_self, not_true_eq_false, not_false_eq_true, ne_eq, hF]
        rcases kinds k0 k1 with h | h | h | h | h | h | h | h | h | h | h | h | h | h
        · have q := k2 h
          simp (disch := omega) only [Nat.reduceAdd, reduceIte, Int.reduceEq, Int.reduceLT, Int.reduceLE, Int.reduceNeg, Int.reduceAdd, Int.reduceSub, Int.reduceMul, Int.reduceNe, or_true, true_or, or_false, false_or, or_self, and_true, true_and, and_false, false_and, and_self, not_true_eq_false, not_false_eq_true, ne_eq, h, LD, ob, s_X2_put hg h0 hv64, e52, e53]
          rw [tail]
          simp only [lF, gF, Nat.reduceAdd, reduceIte, Int.reduceEq, Int.reduceLT, Int.reduceLE, Int.reduceNeg, Int.reduceAdd, Int.reduceSub, Int.reduceMul, Int.reduceNe, or_true, true_or, or_false, false_or, or_self, and_true, true_and, and_false, false_and, and_self, not_true_eq_false, not_false_eq_true, ne_eq, h]
        · simp (disch := omega) only [Nat.reduceAdd, reduceIte, Int.reduceEq, Int.reduceLT, Int.reduceLE, Int.reduceNeg, Int.reduceAdd, Int.reduceSub, Int.reduceMul, Int.reduceNe, or_true, true_or, or_false, false_or, or_self, and_true, true_and, and_false, false_and, and_self, not_true_eq_false, not_false_eq_true, ne_eq, h, LD, ob, s_X2_put hg h0 hv64]
          rw [tail]
          simp only [lF, gF, Nat.reduceAdd, reduceIte, Int.reduceEq, Int.reduceLT, Int.reduceLE, Int.reduceNeg, Int.reduceAdd, Int.reduceSub, Int.reduceMul, Int.reduceNe, or_true, true_or, or_false, false_or, or_self, and_true, true_and, and_false, false_and, and_self, not_true_eq_false, not_false_eq_true, ne_eq, h]
        all_goals have q4 := k4 (by omega)
        all_goals have b4 := hB _ q4.1 q4.2
        · have q5 := k5 (by omega) (by omega) (by omega)
          have b5 := hB _ q5.1 q5.2
          simp only [Nat.reduceAdd, reduceIte, Int.reduceEq, Int.reduceLT, Int.reduceLE, Int.reduceNeg, Int.reduceAdd, Int.reduceSub, Int.reduceMul, Int.reduceNe, or_true, true_or, or_false, false_or, or_self, and_true, true_and, and_false, false_and, and_self, not_true_eq_false, not_false_eq_true, ne_eq, h]
          rw [s_X2_putPair hg h0 hv64 q4.1 (by omega) q5.1 (by omega) b4.1 b4.2 b5.1 b5.2 (by rw [e46]) (by rw [e46]) (by rw [e45]; omega)]
          simp only [ob, e45, e46, e52, e53, tail]
        · have q5 := k5 (by omega) (by omega) (by omega)
          have b5 := hB _ q5.1 q5.2
          simp only [Nat.reduceAdd, reduceIte, Int.reduceEq, Int.reduceLT, Int.reduceLE, Int.reduceNeg, Int.reduceAdd, Int.reduceSub, Int.reduceMul, Int.reduceNe, or_true, true_or, or_false, false_or, or_self, and_true, true_and, and_false, false_and, and_self, not_true_eq_false, not_false_eq_true, ne_eq, h]
          rw [s_X2_putPair hg h0 hv64 q4.1 (by omega) q5.1 (by omega) b4.1 b4.2 b5.1 b5.2 (by rw [e46]) (by rw [e46]) (by rw [e45]; omega)]
          simp only [ob, e45, e46, e52, e53, tail]
        · have q5 := k5 (by omega) (by omega) (by omega)
          have b5 := hB _ q5.1 q5.2
          simp only [Nat.reduceAdd, reduceIte, Int.reduceEq, Int.reduceLT, Int.reduceLE, Int.reduceNeg, Int.reduceAdd, Int.reduceSub, Int.reduceMul, Int.reduceNe, or_true, true_or, or_false, false_or, or_self, and_true, true_and, and_false, false_and, and_self, not_true_eq_false, not_false_eq_true, ne_eq, h]
          rw [s_X2_putPair hg h0 hv64 q4.1 (by omega) q5.1 (by omega) b4.1 b4.2 b5.1 b5.2 (by rw [e46]) (by rw [e46]) (by rw [e45]; omega)]
          simp only [ob, e45, e46, e52, e53, tail]
        · have q5 := k5 (by omega) (by omega) (by omega)
          have b5 := hB _ q5.1 q5.2
          simp only [Nat.reduceAdd, reduceIte, Int.reduceEq, Int.reduceLT, Int.reduceLE, Int.reduceNeg, Int.reduceAdd, Int.reduceSub, Int.reduceMul, Int.reduceNe, or_true, true_or, or_false, false_or, or_self, and_true, true_and, and_false, false_and, and_self, not_true_eq_false, not_false_eq_true, ne_eq, h]
          rw [s_X2_putPair hg h0 hv64 q4.1 (by omega) q5.1 (by omega) b4.1 b4.2 b5.1 b5.2 (by rw [e46]) (by rw [e46]) (by rw [e45]; omega)]
          simp only [ob, e45, e46, e52, e53, tail]
        · have q5 := k5 (by omega) (by omega) (by omega)
          have b5 := hB _ q5.1 q5.2
          simp only [Nat.reduceAdd, reduceIte, Int.reduceEq, Int.reduceLT, Int.reduceLE, Int.reduceNeg, Int.reduceAdd, Int.reduceSub, Int.reduceMul, Int.reduceNe, or_true, true_or, or_false, false_or, or_self, and_true, true_and, and_false, false_and, and_self, not_true_eq_false, not_false_eq_true, ne_eq, h]
          rw [s_X2_putPair hg h0 hv64 q4.1 (by omega) q5.1 (by omega) b4.1 b4.2 b5.1 b5.2 (by rw [e46]) (by rw [e46]) (by rw [e45]; omega)]
          simp only [ob, e45, e46, e52, e53, tail]
        · simp (disch := omega) only [Nat.reduceAdd, reduceIte, Int.reduceEq, Int.reduceLT, Int.reduceLE, Int.reduceNeg, Int.reduceAdd, Int.reduceSub, Int.reduceMul, Int.reduceNe, or_true, true_or, or_false, false_or, or_self, and_true, true_and, and_false, false_and, and_self, not_true_eq_false, not_false_eq_true, ne_eq, h, ob, s_X2_put hg h0 hv64]
          rw [tail]
          simp only [lF, gF, Nat.reduceAdd, reduceIte, Int.reduceEq, Int.reduceLT, Int.reduceLE, Int.reduceNeg, Int.reduceAdd, Int.reduceSub, Int.reduceMul, Int.reduceNe, or_true, true_or, or_false, false_or, or_self, and_true, true_and, and_false, false_and, and_self, not_true_eq_false, not_false_eq_true, ne_eq, h]
        · have q5 := k5 (by omega) (by omega) (by omega)
          have b5 := hB _ q5.1 q5.2
          simp only [Nat.reduceAdd, reduceIte, Int.reduceEq, Int.reduceLT, Int.reduceLE, Int.reduceNeg, Int.reduceAdd, Int.reduceSub, Int.reduceMul, Int.reduceNe, or_true, true_or, or_false, false_or, or_self, and_true, true_and, and_false, false_and, and_self, not_true_eq_false, not_false_eq_true, ne_eq, h]
          rw [s_X2_putPair hg h0 hv64 q4.1 (by omega) q5.1 (by omega) b4.1 b4.2 b5.1 b5.2 (by rw [e46]) (by rw [e46]) (by rw [e45]; omega)]
          simp only [ob, e45, e46, e52, e53, tail]
        · have q5 := k5 (by omega) (by omega) (by omega)
          have b5 := hB _ q5.1 q5.2
          simp only [Nat.reduceAdd, reduceIte, Int.reduceEq, Int.reduceLT, Int.reduceLE, Int.reduceNeg, Int.reduceAdd, Int.reduceSub, Int.reduceMul, Int.reduceNe, or_true, true_or, or_false, false_or, or_self, and_true, true_and, and_false, false_and, and_self, not_true_eq_false, not_false_eq_true, ne_eq, h]
          rw [s_X2_putPair hg h0 hv64 q4.1 (by omega) q5.1 (by omega) b4.1 b4.2 b5.1 b5.2 (by rw [e46]) (by rw [e46]) (by rw [e45]; omega)]
          simp only [ob, e45, e46, e52, e53, tail]
        · have q5 := k5 (by omega) (by omega) (by omega)
          have b5 := hB _ q5.1 q5.2
          simp only [Nat.reduceAdd, reduceIte, Int.reduceEq, Int.reduceLT, Int.reduceLE, Int.reduceNeg, Int.reduceAdd, Int.reduceSub, Int.reduceMul, Int.reduceNe, or_true, true_or, or_false, false_or, or_self, and_true, true_and, and_false, false_and, and_self, not_true_eq_false, not_false_eq_true, ne_eq, h]
          rw [s_X2_putPair hg h0 hv64 q4.1 (by omega) q5.1 (by omega) b4.1 b4.2 b5.1 b5.2 (by rw [e46]) (by rw [e46]) (by rw [e45]; omega)]
          simp only [ob, e45, e46, e52, e53, tail]
        · have q5 := k5 (by omega) (by omega) (by omega)
          have b5 := hB _ q5.1 q5.2
          simp only [Nat.reduceAdd, reduceIte, Int.reduceEq, Int.reduceLT, Int.reduceLE, Int.reduceNeg, Int.reduceAdd, Int.reduceSub, Int.reduceMul, Int.reduceNe, or_true, true_or, or_false, false_or, or_self, and_true, true_and, and_false, false_and, and_self, not_true_eq_false, not_false_eq_true, ne_eq, h]
          rw [s_X2_putPair hg h0 hv64 q4.1 (by omega) q5.1 (by omega) b4.1 b4.2 b5.1 b5.2 (by rw [e46]) (by rw [e46]) (by rw [e45]; omega)]
          simp only [ob, e45, e46, e52, e53, tail]
        · simp (disch := omega) only [Nat.reduceAdd, reduceIte, Int.reduceEq, Int.reduceLT, Int.reduceLE, Int.reduceNeg, Int.reduceAdd, Int.reduceSub, Int.reduceMul, Int.reduceNe, or_true, true_or, or_false, false_or, or_self, and_true, true_and, and_false, false_and, and_self, not_true_eq_false, not_false_eq_true, ne_eq, h, ob, LGd hg, w32_id, s_X2_put hg h0 hv64]
          rw [tail]
          simp only [lF, gF, Nat.reduceAdd, reduceIte, Int.reduceEq, Int.reduceLT, Int.reduceLE, Int.reduceNeg, Int.reduceAdd, Int.reduceSub, Int.reduceMul, Int.reduceNe, or_true, true_or, or_false, false_or, or_self, and_true, true_and, and_false, false_and, and_self, not_true_eq_false, not_false_eq_true, ne_eq, h]
        · have q5 := k5 (by omega) (by omega) (by omega)
          have q6 := k6 h
          simp (disch := omega) only [Nat.reduceAdd, reduceIte, Int.reduceEq, Int.reduceLT, Int.reduceLE, Int.reduceNeg, Int.reduceAdd, Int.reduceSub, Int.reduceMul, Int.reduceNe, or_true, true_or, or_false, false_or, or_self, and_true, true_and, and_false, false_and, and_self, not_true_eq_false, not_false_eq_true, ne_eq, h, LD, ob, w32_id, e46]
          rw [s_X2_putPick hg h0 hv64 q4.1 (by omega) q5.1 (by omega) q6.1 (by omega) (by rw [e46]) (by rw [e46]) (by rw [e46]) (by rw [e45]; exact h)]
          simp only [ob, e45, e46, e52, e53, tail]
      · intro b b1 b2 b3
        simp (disch := omega) only [wr_ne, hfr]
      · refine RgOK_step hV h0 hv1 hR (fun w a b => ?_) (fun w a b => ?_) ?_ ?_
        · simp (disch := omega) only [wr_ne, wr_at, if_neg]
        · simp (disch := omega) only [wr_ne, wr_at, if_neg]
        · simp (disch := omega) only [wr_ne, wr_at, Nat.reduceAdd, reduceIte, Int.reduceEq, Int.reduceLT, Int.reduceLE, Int.reduceNeg, Int.reduceAdd, Int.reduceSub, Int.reduceMul, Int.reduceNe, or_true, true_or, or_false, false_or, or_self, and_true, true_and, and_false, false_and, and_self, not_true_eq_false, not_false_eq_true, ne_eq]
        · simp (disch := omega) only [wr_ne, wr_at, Nat.reduceAdd, reduceIte, Int.reduceEq, Int.reduceLT, Int.reduceLE, Int.reduceNeg, Int.reduceAdd, Int.reduceSub, Int.reduceMul, Int.reduceNe, or_true, true_or, or_false, false_or, or_self, and_true, true_and, and_false, false_and, and_self, not_true_eq_false, not_false_eq_true, ne_eq]
      · intro w w0 w1
        by_cases hw : w = v
        · subst hw
          simp (disch := omega) only [wr_ne, wr_at, Nat.reduceAdd, reduceIte, Int.reduceEq, Int.reduceLT, Int.reduceLE, Int.reduceNeg, Int.reduceAdd, Int.reduceSub, Int.reduceMul, Int.reduceNe, or_true, true_or, or_false, false_or, or_self, and_true, true_and, and_false, false_and, and_self, not_true_eq_false, not_false_eq_true, ne_eq]
        · have := hW w w0 (by omega)
          simp (disch := omega) only [wr_ne, wr_at, if_neg, this]
  · exact ⟨by omega, hV.1, fun b _ _ _ => rfl, fun v a b => by dsimp only at b; omega, fun v a b => by dsimp only at b; omega⟩
  · intro r hr
    exact ⟨r, rfl, hr⟩
