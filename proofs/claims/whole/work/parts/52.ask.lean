/-! QUESTIONS that only read -/
set_option maxHeartbeats 4000000 in
set_option maxRecDepth 20000 in
theorem q_shown {M : Mem} {t : Nat} {n nI nS : Int} (h : InvQ M t n nI nS) (i : Int) : Ans (fX11_shown i) (fX12_shown i) M := by
  obtain ⟨a1, a2, a3, a4, a5, a6, a7, a8, -⟩ := id h
  refine ⟨if 0 ≤ i ∧ i < nS then M 49 i else -1, M, wr M 132 0 0, ?_, ?_, Kp_th M 0⟩
  · unfold fX11_shown
    simp only [s_X11_isShown, a6, ob]
    by_cases hi : 0 ≤ i ∧ i < nS
    · have := a8.2.1
      simp (disch := omega) only [Nat.reduceAdd, reduceIte, Int.reduceEq, Int.reduceLT, Int.reduceLE, Int.reduceNeg, Int.reduceAdd, Int.reduceSub, Int.reduceMul, Int.reduceNe, or_true, true_or, or_false, false_or, or_self, and_true, true_and, and_false, false_and, and_self, not_true_eq_false, not_false_eq_true, ne_eq, Bool.false_eq_true, Bool.true_eq_false, decide_true, decide_false, hi, LD, ob]
    · simp only [Nat.reduceAdd, reduceIte, Int.reduceEq, Int.reduceLT, Int.reduceLE, Int.reduceNeg, Int.reduceAdd, Int.reduceSub, Int.reduceMul, Int.reduceNe, or_true, true_or, or_false, false_or, or_self, and_true, true_and, and_false, false_and, and_self, not_true_eq_false, not_false_eq_true, ne_eq, Bool.false_eq_true, Bool.true_eq_false, decide_true, decide_false, hi, ob]
  · unfold fX12_shown
    simp (disch := omega) only [pI_ok, ob, LD, wr_ne, a7.1]
    by_cases hi : 0 ≤ i ∧ i < nS
    · have h1 : ¬ i < 0 := by omega
      have h2 : ¬ nS ≤ i := by omega
      have := a8.2.1
      rw [if_neg h1, if_neg h2]
      simp (disch := omega) only [Nat.reduceAdd, reduceIte, Int.reduceEq, Int.reduceLT, Int.reduceLE, Int.reduceNeg, Int.reduceAdd, Int.reduceSub, Int.reduceMul, Int.reduceNe, or_true, true_or, or_false, false_or, or_self, and_true, true_and, and_false, false_and, and_self, not_true_eq_false, not_false_eq_true, ne_eq, Bool.false_eq_true, Bool.true_eq_false, decide_true, decide_false, hi, LD, ob, w32_id, wr_ne, a7.2 i hi.1 hi.2]
    · rw [if_neg hi]
      by_cases h1 : i < 0
      · simp only [Nat.reduceAdd, reduceIte, Int.reduceEq, Int.reduceLT, Int.reduceLE, Int.reduceNeg, Int.reduceAdd, Int.reduceSub, Int.reduceMul, Int.reduceNe, or_true, true_or, or_false, false_or, or_self, and_true, true_and, and_false, false_and, and_self, not_true_eq_false, not_false_eq_true, ne_eq, Bool.false_eq_true, Bool.true_eq_false, decide_true, decide_false, h1, ob]
      · have h2 : nS ≤ i := by omega
        simp only [Nat.reduceAdd, reduceIte, Int.reduceEq, Int.reduceLT, Int.reduceLE, Int.reduceNeg, Int.reduceAdd, Int.reduceSub, Int.reduceMul, Int.reduceNe, or_true, true_or, or_false, false_or, or_self, and_true, true_and, and_false, false_and, and_self, not_true_eq_false, not_false_eq_true, ne_eq, Bool.false_eq_true, Bool.true_eq_false, decide_true, decide_false, h1, h2, ob]
set_option maxHeartbeats 4000000 in
set_option maxRecDepth 20000 in
theorem q_parts {M : Mem} {t : Nat} {n nI nS : Int} (h : InvQ M t n nI nS) (i : Int) : Ans (fX11_parts i) (fX12_parts i) M := by
  obtain ⟨a1, a2, a3, a4, a5, a6, a7, a8, a9, a10, a11, a12, a13, a14, a15, a16, a17, a18, -⟩ := id h
  refine ⟨if 0 ≤ i ∧ i < M t 16 then M 50 i else -1, M, wr M 132 0 0, ?_, ?_, Kp_th M 0⟩
  · unfold fX11_parts
    simp only [gm_ok a1 a2, ob]
    by_cases h1 : i < 0
    · rw [if_pos h1, if_neg (by omega)]
    · rw [if_neg h1]
      by_cases h2 : i < M t 16
      · rw [if_pos h2, if_pos (by omega)]
        simp (disch := omega) only [LD, ob]
        rcases (a18 i (by omega) h2).2 with e | e <;> simp only [Nat.reduceAdd, reduceIte, Int.reduceEq, Int.reduceLT, Int.reduceLE, Int.reduceNeg, Int.reduceAdd, Int.reduceSub, Int.reduceMul, Int.reduceNe, or_true, true_or, or_false, false_or, or_self, and_true, true_and, and_false, false_and, and_self, not_true_eq_false, not_false_eq_true, ne_eq, Bool.false_eq_true, Bool.true_eq_false, decide_true, decide_false, e, ob]
      · rw [if_neg h2, if_neg (by omega)]
  · unfold fX12_parts
    simp (disch := omega) only [pI_ok, ob, LD, wr_ne, ← a17.1]
    by_cases hi : 0 ≤ i ∧ i < M t 16
    · have h1 : ¬ i < 0 := by omega
      have h2 : ¬ M t 16 ≤ i := by omega
      rw [if_neg h1, if_neg h2]
      simp (disch := omega) only [Nat.reduceAdd, reduceIte, Int.reduceEq, Int.reduceLT, Int.reduceLE, Int.reduceNeg, Int.reduceAdd, Int.reduceSub, Int.reduceMul, Int.reduceNe, or_true, true_or, or_false, false_or, or_self, and_true, true_and, and_false, false_and, and_self, not_true_eq_false, not_false_eq_true, ne_eq, Bool.false_eq_true, Bool.true_eq_false, decide_true, decide_false, hi, LD, ob, w32_id, wr_ne, (a18 i hi.1 hi.2).1]
    · rw [if_neg hi]
      by_cases h1 : i < 0
      · simp only [Nat.reduceAdd, reduceIte, Int.reduceEq, Int.reduceLT, Int.reduceLE, Int.reduceNeg, Int.reduceAdd, Int.reduceSub, Int.reduceMul, Int.reduceNe, or_true, true_or, or_false, false_or, or_self, and_true, true_and, and_false, false_and, and_self, not_true_eq_false, not_false_eq_true, ne_eq, Bool.false_eq_true, Bool.true_eq_false, decide_true, decide_false, h1, ob]
      · have h2 : M t 16 ≤ i := by omega
        simp only [Nat.reduceAdd, reduceIte, Int.reduceEq, Int.reduceLT, Int.reduceLE, Int.reduceNeg, Int.reduceAdd, Int.reduceSub, Int.reduceMul, Int.reduceNe, or_true, true_or, or_false, false_or, or_self, and_true, true_and, and_false, false_and, and_self, not_true_eq_false, not_false_eq_true, ne_eq, Bool.false_eq_true, Bool.true_eq_false, decide_true, decide_false, h1, h2, ob]
set_option maxHeartbeats 4000000 in
set_option maxRecDepth 20000 in
theorem q_input {M : Mem} {t : Nat} {n nI nS : Int} (h : InvQ M t n nI nS) (i w : Int) : Ans (fX11_input i w) (fX12_input i w) M := by
  obtain ⟨a1, a2, a3, a4, a5, a6, a7, a8, a9, a10, a11, -⟩ := id h
  have h6 := a4.2.2.2.1
  by_cases hi : 0 ≤ i ∧ i < nI
  · obtain ⟨b1, b2, b3, b4, b5⟩ := a11 i hi.1 hi.2
    refine ⟨if w = 0 then i else if w = 1 then M 52 i else if w = 2 then M 53 i else if w = 3 then M (t + 10) i else if 4 ≤ w ∧ w ≤ 7 then M 54 (4 * i + (w - 4)) else -1, M, wr M 132 0 0, ?_, ?_, Kp_th M 0⟩
    · unfold fX11_input
      simp only [s_X11_isInput a1 a2, a10.1, ob, hi, Nat.reduceAdd, reduceIte, Int.reduceEq, Int.reduceLT, Int.reduceLE, Int.reduceNeg, Int.reduceAdd, Int.reduceSub, Int.reduceMul, Int.reduceNe, or_true, true_or, or_false, false_or, or_self, and_true, true_and, and_false, false_and, and_self, not_true_eq_false, not_false_eq_true, ne_eq, Bool.false_eq_true, Bool.true_eq_false, decide_true, decide_false]
      by_cases w0 : w = 0
      · simp only [w0, Nat.reduceAdd, reduceIte, Int.reduceEq, Int.reduceLT, Int.reduceLE, Int.reduceNeg, Int.reduceAdd, Int.reduceSub, Int.reduceMul, Int.reduceNe, or_true, true_or, or_false, false_or, or_self, and_true, true_and, and_false, false_and, and_self, not_true_eq_false, not_false_eq_true, ne_eq, Bool.false_eq_true, Bool.true_eq_false, decide_true, decide_false]
      · by_cases w1 : w = 1
        · simp (disch := omega) only [w1, Nat.reduceAdd, reduceIte, Int.reduceEq, Int.reduceLT, Int.reduceLE, Int.reduceNeg, Int.reduceAdd, Int.reduceSub, Int.reduceMul, Int.reduceNe, or_true, true_or, or_false, false_or, or_self, and_true, true_and, and_false, false_and, and_self, not_true_eq_false, not_false_eq_true, ne_eq, Bool.false_eq_true, Bool.true_eq_false, decide_true, decide_false, LD, ob]
        · by_cases w2 : w = 2
          · simp (disch := omega) only [w2, Nat.reduceAdd, reduceIte, Int.reduceEq, Int.reduceLT, Int.reduceLE, Int.reduceNeg, Int.reduceAdd, Int.reduceSub, Int.reduceMul, Int.reduceNe, or_true, true_or, or_false, false_or, or_self, and_true, true_and, and_false, false_and, and_self, not_true_eq_false, not_false_eq_true, ne_eq, Bool.false_eq_true, Bool.true_eq_false, decide_true, decide_false, LD, ob]
          · by_cases w3 : w = 3
            · simp (disch := omega) only [w3, Nat.reduceAdd, reduceIte, Int.reduceEq, Int.reduceLT, Int.reduceLE, Int.reduceNeg, Int.reduceAdd, Int.reduceSub, Int.reduceMul, Int.reduceNe, or_true, true_or, or_false, false_or, or_self, and_true, true_and, and_false, false_and, and_self, not_true_eq_false, not_false_eq_true, ne_eq, Bool.false_eq_true, Bool.true_eq_false, decide_true, decide_false, gm_ok a1 a2, LTd a1, ob]
              rcases b4 with e | e <;> simp only [Nat.reduceAdd, reduceIte, Int.reduceEq, Int.reduceLT, Int.reduceLE, Int.reduceNeg, Int.reduceAdd, Int.reduceSub, Int.reduceMul, Int.reduceNe, or_true, true_or, or_false, false_or, or_self, and_true, true_and, and_false, false_and, and_self, not_true_eq_false, not_false_eq_true, ne_eq, Bool.false_eq_true, Bool.true_eq_false, decide_true, decide_false, e, ob]
            · simp only [w0, w1, w2, w3, Nat.reduceAdd, reduceIte, Int.reduceEq, Int.reduceLT, Int.reduceLE, Int.reduceNeg, Int.reduceAdd, Int.reduceSub, Int.reduceMul, Int.reduceNe, or_true, true_or, or_false, false_or, or_self, and_true, true_and, and_false, false_and, and_self, not_true_eq_false, not_false_eq_true, ne_eq, Bool.false_eq_true, Bool.true_eq_false, decide_true, decide_false]
              by_cases w4 : 4 ≤ w ∧ w ≤ 7
              · have : w = 4 ∨ w = 5 ∨ w = 6 ∨ w = 7 := by omega
                rw [if_pos this, if_pos w4]
                simp (disch := omega) only [w32_id, LD, ob]
                rw [show 4 * i + w - 4 = 4 * i + (w - 4) by omega]
              · have : ¬ (w = 4 ∨ w = 5 ∨ w = 6 ∨ w = 7) := by omega
                rw [if_neg this, if_neg w4]
    · unfold fX12_input
      simp (disch := omega) only [pI_ok, ob, s_X12_isInput, wr_ne, a10.2, hi, Nat.reduceAdd, reduceIte, Int.reduceEq, Int.reduceLT, Int.reduceLE, Int.reduceNeg, Int.reduceAdd, Int.reduceSub, Int.reduceMul, Int.reduceNe, or_true, true_or, or_false, false_or, or_self, and_true, true_and, and_false, false_and, and_self, not_true_eq_false, not_false_eq_true, ne_eq, Bool.false_eq_true, Bool.true_eq_false, decide_true, decide_false, s_X12_within]
      by_cases w0 : w = 0
      · simp only [w0, Nat.reduceAdd, reduceIte, Int.reduceEq, Int.reduceLT, Int.reduceLE, Int.reduceNeg, Int.reduceAdd, Int.reduceSub, Int.reduceMul, Int.reduceNe, or_true, true_or, or_false, false_or, or_self, and_true, true_and, and_false, false_and, and_self, not_true_eq_false, not_false_eq_true, ne_eq, Bool.false_eq_true, Bool.true_eq_false, decide_true, decide_false, ob]
      · by_cases w1 : w = 1
        · simp (disch := omega) only [w1, Nat.reduceAdd, reduceIte, Int.reduceEq, Int.reduceLT, Int.reduceLE, Int.reduceNeg, Int.reduceAdd, Int.reduceSub, Int.reduceMul, Int.reduceNe, or_true, true_or, or_false, false_or, or_self, and_true, true_and, and_false, false_and, and_self, not_true_eq_false, not_false_eq_true, ne_eq, Bool.false_eq_true, Bool.true_eq_false, decide_true, decide_false, LD, ob, w32_id, wr_ne]
          rw [show 2 * i + 1 - 1 = 2 * i by omega, b1]
        · by_cases w2 : w = 2
          · simp (disch := omega) only [w2, Nat.reduceAdd, reduceIte, Int.reduceEq, Int.reduceLT, Int.reduceLE, Int.reduceNeg, Int.reduceAdd, Int.reduceSub, Int.reduceMul, Int.reduceNe, or_true, true_or, or_false, false_or, or_self, and_true, true_and, and_false, false_and, and_self, not_true_eq_false, not_false_eq_true, ne_eq, Bool.false_eq_true, Bool.true_eq_false, decide_true, decide_false, LD, ob, w32_id, wr_ne]
            rw [show 2 * i + 2 - 1 = 2 * i + 1 by omega, b2]
          · by_cases w3 : w = 3
            · simp (disch := omega) only [w3, Nat.reduceAdd, reduceIte, Int.reduceEq, Int.reduceLT, Int.reduceLE, Int.reduceNeg, Int.reduceAdd, Int.reduceSub, Int.reduceMul, Int.reduceNe, or_true, true_or, or_false, false_or, or_self, and_true, true_and, and_false, false_and, and_self, not_true_eq_false, not_false_eq_true, ne_eq, Bool.false_eq_true, Bool.true_eq_false, decide_true, decide_false, LD, ob, w32_id, wr_ne, b3]
            · by_cases w4 : 4 ≤ w ∧ w ≤ 7
              · have e1 : 0 ≤ w ∧ w ≤ 7 := by omega
                have e2 : 3 ≤ w := by omega
                simp (disch := omega) only [w0, w1, w2, w3, w4, e1, e2, Nat.reduceAdd, reduceIte, Int.reduceEq, Int.reduceLT, Int.reduceLE, Int.reduceNeg, Int.reduceAdd, Int.reduceSub, Int.reduceMul, Int.reduceNe, or_true, true_or, or_false, false_or, or_self, and_true, true_and, and_false, false_and, and_self, not_true_eq_false, not_false_eq_true, ne_eq, Bool.false_eq_true, Bool.true_eq_false, decide_true, decide_false, LD, ob, w32_id, wr_ne]
                rw [show 4 * i + w - 4 = 4 * i + (w - 4) by omega, (b5 (w - 4) (by omega) (by omega)).1]
              · have e1 : ¬ (0 ≤ w ∧ w ≤ 7) := by omega
                simp only [w0, w1, w2, w3, w4, e1, Nat.reduceAdd, reduceIte, Int.reduceEq, Int.reduceLT, Int.reduceLE, Int.reduceNeg, Int.reduceAdd, Int.reduceSub, Int.reduceMul, Int.reduceNe, or_true, true_or, or_false, false_or, or_self, and_true, true_and, and_false, false_and, and_self, not_true_eq_false, not_false_eq_true, ne_eq, Bool.false_eq_true, Bool.true_eq_false, decide_true, decide_false]
  · refine ⟨-1, M, wr M 132 0 0, ?_, ?_, Kp_th M 0⟩
    · unfold fX11_input
      simp only [s_X11_isInput a1 a2, a10.1, ob, hi, Nat.reduceAdd, reduceIte, Int.reduceEq, Int.reduceLT, Int.reduceLE, Int.reduceNeg, Int.reduceAdd, Int.reduceSub, Int.reduceMul, Int.reduceNe, or_true, true_or, or_false, false_or, or_self, and_true, true_and, and_false, false_and, and_self, not_true_eq_false, not_false_eq_true, ne_eq, Bool.false_eq_true, Bool.true_eq_false, decide_true, decide_false]
    · unfold fX12_input
      simp (disch := omega) only [pI_ok, ob, s_X12_isInput, wr_ne, a10.2, hi, Nat.reduceAdd, reduceIte, Int.reduceEq, Int.reduceLT, Int.reduceLE, Int.reduceNeg, Int.reduceAdd, Int.reduceSub, Int.reduceMul, Int.reduceNe, or_true, true_or, or_false, false_or, or_self, and_true, true_and, and_false, false_and, and_self, not_true_eq_false, not_false_eq_true, ne_eq, Bool.false_eq_true, Bool.true_eq_false, decide_true, decide_false]
set_option maxHeartbeats 4000000 in
set_option maxRecDepth 20000 in
theorem m_rg {M M0 : Mem} {t : Nat} {n nI nS : Int} {D : Mem} (h : InvQ M t n nI nS) (c : Cch M t n nS D) (k : Kp M M0) : ∃ q, fX12_rangesWith (-1) 0 0 M0 = some q ∧ Kp M q ∧ ∀ v, 0 ≤ v → v < n → q 153 v = D 7 v ∧ q 154 v = D 8 v := by
  have h0 := InvQ_fr h k
  obtain ⟨a1, a2, a3, a4, a5, a6, a7, a8, a9, a10, a11, -⟩ := h0
  obtain ⟨q, f, fr, R, -, -⟩ := s_X12_rangesWith (M := M0) (p1 := -1) (p2 := 0) (p3 := 0) (lo := M0 52) (hi := M0 53) (giv := fun i => M0 138 (10 + 3 * i + 2)) a5 a4 a9 (fun i x y => by rw [if_neg (by omega), (a11 i x y).1]) (fun i x y => by rw [if_neg (by omega), (a11 i x y).2.1]) (fun i _ _ => rfl)
  refine ⟨q, f, Kp_trans k ⟨fun b hb => fr b (by unfold scr at hb; omega) (by unfold scr at hb; omega) (by unfold scr at hb; omega) (by unfold scr at hb; omega), by rw [fr 132 (by omega) (by omega) (by omega) (by omega)], by rw [fr 132 (by omega) (by omega) (by omega) (by omega)]⟩, fun v x y => ?_⟩
  have e : ∀ b : Nat, 44 ≤ b ∧ b ≤ 55 → M0 b = M b := fun b hb => k.1 b (by unfold scr; omega)
  rw [e 45 (by omega), e 46 (by omega), e 52 (by omega), e 53 (by omega)] at R
  exact Rg_uniq h.2.2.2.1 c.1.2.2.1 R (v.toNat + 1) v (by omega) x y
set_option maxHeartbeats 4000000 in
set_option maxRecDepth 20000 in
theorem q_range {M : Mem} {t : Nat} {n nI nS : Int} {D : Mem} (h : InvQ M t n nI nS) (c : Cch M t n nS D) (v w : Int) : Ans (fX11_range v w) (fX12_range v w) M := by
  obtain ⟨a1, a2, a3, a4, a5, -⟩ := id h
  have n1 := a4.2.1
  have d0 := c.1.1
  by_cases hv : 0 ≤ v ∧ v < n
  · by_cases hw : 0 ≤ w ∧ w ≤ 1
    · obtain ⟨q, f, kq, hq⟩ := m_rg h c (Kp_th M 0)
      obtain ⟨x1, x2, -⟩ := c.2.2.1.1 v hv.1 (by rw [d0]; exact hv.2)
      simp only [Nat.reduceAdd] at x1 x2
      have w1 : ¬ w < 0 := by omega
      refine ⟨if w = 0 then D 7 v else D 8 v, M, q, ?_, ?_, kq⟩
      · unfold fX11_range
        simp (disch := omega) only [s_X11_isValue, a3, hv, ob, Nat.reduceAdd, reduceIte, Int.reduceEq, Int.reduceLT, Int.reduceLE, Int.reduceNeg, Int.reduceAdd, Int.reduceSub, Int.reduceMul, Int.reduceNe, or_true, true_or, or_false, false_or, or_self, and_true, true_and, and_false, false_and, and_self, not_true_eq_false, not_false_eq_true, ne_eq, Bool.false_eq_true, Bool.true_eq_false, decide_true, decide_false, w1, hw, LD, x1, x2]
        by_cases w0 : w = 0 <;> simp only [w0, Nat.reduceAdd, reduceIte, Int.reduceEq, Int.reduceLT, Int.reduceLE, Int.reduceNeg, Int.reduceAdd, Int.reduceSub, Int.reduceMul, Int.reduceNe, or_true, true_or, or_false, false_or, or_self, and_true, true_and, and_false, false_and, and_self, not_true_eq_false, not_false_eq_true, ne_eq, Bool.false_eq_true, Bool.true_eq_false, decide_true, decide_false, ob]
      · unfold fX12_range
        simp (disch := omega) only [pI_ok, ob, s_X12_isValue, wr_ne, a5.1, hv, Nat.reduceAdd, reduceIte, Int.reduceEq, Int.reduceLT, Int.reduceLE, Int.reduceNeg, Int.reduceAdd, Int.reduceSub, Int.reduceMul, Int.reduceNe, or_true, true_or, or_false, false_or, or_self, and_true, true_and, and_false, false_and, and_self, not_true_eq_false, not_false_eq_true, ne_eq, Bool.false_eq_true, Bool.true_eq_false, decide_true, decide_false, s_X12_within, hw, f, LD, (hq v hv.1 hv.2).1, (hq v hv.1 hv.2).2]
        by_cases w0 : w = 0 <;> simp only [w0, Nat.reduceAdd, reduceIte, Int.reduceEq, Int.reduceLT, Int.reduceLE, Int.reduceNeg, Int.reduceAdd, Int.reduceSub, Int.reduceMul, Int.reduceNe, or_true, true_or, or_false, false_or, or_self, and_true, true_and, and_false, false_and, and_self, not_true_eq_false, not_false_eq_true, ne_eq, Bool.false_eq_true, Bool.true_eq_false, decide_true, decide_false, ob]
    · refine ⟨-2147483648, M, wr M 132 0 0, ?_, ?_, Kp_th M 0⟩
      · unfold fX11_range
        simp (disch := omega) only [s_X11_isValue, a3, hv, ob, Nat.reduceAdd, reduceIte, Int.reduceEq, Int.reduceLT, Int.reduceLE, Int.reduceNeg, Int.reduceAdd, Int.reduceSub, Int.reduceMul, Int.reduceNe, or_true, true_or, or_false, false_or, or_self, and_true, true_and, and_false, false_and, and_self, not_true_eq_false, not_false_eq_true, ne_eq, Bool.false_eq_true, Bool.true_eq_false, decide_true, decide_false]
        by_cases w0 : w < 0
        · rw [if_pos w0]
        · rw [if_neg w0, if_neg (by omega)]
      · unfold fX12_range
        simp (disch := omega) only [pI_ok, ob, s_X12_isValue, wr_ne, a5.1, hv, Nat.reduceAdd, reduceIte, Int.reduceEq, Int.reduceLT, Int.reduceLE, Int.reduceNeg, Int.reduceAdd, Int.reduceSub, Int.reduceMul, Int.reduceNe, or_true, true_or, or_false, false_or, or_self, and_true, true_and, and_false, false_and, and_self, not_true_eq_false, not_false_eq_true, ne_eq, Bool.false_eq_true, Bool.true_eq_false, decide_true, decide_false, s_X12_within, hw]
  · refine ⟨-2147483648, M, wr M 132 0 0, ?_, ?_, Kp_th M 0⟩
    · unfold fX11_range
      simp (disch := omega) only [s_X11_isValue, a3, hv, ob, Nat.reduceAdd, reduceIte, Int.reduceEq, Int.reduceLT, Int.reduceLE, Int.reduceNeg, Int.reduceAdd, Int.reduceSub, Int.reduceMul, Int.reduceNe, or_true, true_or, or_false, false_or, or_self, and_true, true_and, and_false, false_and, and_self, not_true_eq_false, not_false_eq_true, ne_eq, Bool.false_eq_true, Bool.true_eq_false, decide_true, decide_false]
    · unfold fX12_range
      simp (disch := omega) only [pI_ok, ob, s_X12_isValue, wr_ne, a5.1, hv, Nat.reduceAdd, reduceIte, Int.reduceEq, Int.reduceLT, Int.reduceLE, Int.reduceNeg, Int.reduceAdd, Int.reduceSub, Int.reduceMul, Int.reduceNe, or_true, true_or, or_false, false_or, or_self, and_true, true_and, and_false, false_and, and_self, not_true_eq_false, not_false_eq_true, ne_eq, Bool.false_eq_true, Bool.true_eq_false, decide_true, decide_false]
set_option maxHeartbeats 4000000 in
set_option maxRecDepth 20000 in
theorem q_value {M : Mem} {t : Nat} {n nI nS : Int} {D : Mem} (h : InvQ M t n nI nS) (c : Cch M t n nS D) (v w : Int) : Ans (fX11_value v w) (fX12_value v w) M := by
  obtain ⟨a1, a2, a3, a4, a5, -⟩ := id h
  have n1 := a4.2.1
  have d0 := c.1.1
  by_cases hv : 0 ≤ v ∧ v < n
  · obtain ⟨r, f, kr, md, mx⟩ := m_all0 h c (Kp_th M 0)
    have hD := Cch_DW h c
    have vD : v < D 0 0 := by rw [d0]; exact hv.2
    obtain ⟨x1, x2, x3, -⟩ := c.2.2.1.1 v hv.1 vD
    obtain ⟨y1, y2, y3, y4, y5, y6, -⟩ := c.2.1.2.2.2 v hv.1 vD
    obtain ⟨z1, z2, z3, z4, z5, z6⟩ := md.2.2.2.2.2 v hv.1 vD
    obtain ⟨u1, u2, u3, u4⟩ := mx v hv.1 vD
    have yN := c.2.1.2.1
    have zN := md.2.1
    have e138 : r 138 = M 138 := kr.1 138 (by unfold scr; omega)
    have mv : MV r n (M 45) (M 46) := MV_fr a5 e138
    simp only [Nat.reduceAdd] at x1 x2 x3 y1 y2 y3 y4 y5 y6 yN
    have hF := F_01 a4 hv.1 hv.2
    have hU := U_01 h hv.1 hv.2
    refine ⟨if w = 0 then M 45 v else if w = 1 ∨ w = 2 ∨ w = 3 then M 46 (3 * v + (w - 1)) else if w = 4 then M 47 v else if w = 5 then M 48 v else if w = 6 then (if D 7 v = D 8 v then 1 else 0) else if w = 7 then (if tb (D 0 1) v = true then 1 else 0) else if w = 8 then D 9 v else if w = 9 then D 6 v else if w = 10 then D 2 v else -2, M, r, ?_, ?_, kr⟩
    · unfold fX11_value
      simp only [s_X11_isValue, a3, hv, ob, Nat.reduceAdd, reduceIte, Int.reduceEq, Int.reduceLT, Int.reduceLE, Int.reduceNeg, Int.reduceAdd, Int.reduceSub, Int.reduceMul, Int.reduceNe, or_true, true_or, or_false, false_or, or_self, and_true, true_and, and_false, false_and, and_self, not_true_eq_false, not_false_eq_true, ne_eq, Bool.false_eq_true, Bool.true_eq_false, decide_true, decide_false]
      by_cases w0 : w = 0
      · simp (disch := omega) only [w0, Nat.reduceAdd, reduceIte, Int.reduceEq, Int.reduceLT, Int.reduceLE, Int.reduceNeg, Int.reduceAdd, Int.reduceSub, Int.reduceMul, Int.reduceNe, or_true, true_or, or_false, false_or, or_self, and_true, true_and, and_false, false_and, and_self, not_true_eq_false, not_false_eq_true, ne_eq, Bool.false_eq_true, Bool.true_eq_false, decide_true, decide_false, LD, ob]
      · by_cases w1 : w = 1 ∨ w = 2 ∨ w = 3
        · have : 3 * v + w - 1 = 3 * v + (w - 1) := by omega
          simp (disch := omega) only [w0, w1, Nat.reduceAdd, reduceIte, Int.reduceEq, Int.reduceLT, Int.reduceLE, Int.reduceNeg, Int.reduceAdd, Int.reduceSub, Int.reduceMul, Int.reduceNe, or_true, true_or, or_false, false_or, or_self, and_true, true_and, and_false, false_and, and_self, not_true_eq_false, not_false_eq_true, ne_eq, Bool.false_eq_true, Bool.true_eq_false, decide_true, decide_false, w32_id, LD, ob, this]
        · simp only [w0, w1, if_false]
          by_cases w4 : w = 4
          · simp (disch := omega) only [w4, Nat.reduceAdd, reduceIte, Int.reduceEq, Int.reduceLT, Int.reduceLE, Int.reduceNeg, Int.reduceAdd, Int.reduceSub, Int.reduceMul, Int.reduceNe, or_true, true_or, or_false, false_or, or_self, and_true, true_and, and_false, false_and, and_self, not_true_eq_false, not_false_eq_true, ne_eq, Bool.false_eq_true, Bool.true_eq_false, decide_true, decide_false, LD, ob]
            rcases hF with e | e <;> simp only [e, Nat.reduceAdd, reduceIte, Int.reduceEq, Int.reduceLT, Int.reduceLE, Int.reduceNeg, Int.reduceAdd, Int.reduceSub, Int.reduceMul, Int.reduceNe, or_true, true_or, or_false, false_or, or_self, and_true, true_and, and_false, false_and, and_self, not_true_eq_false, not_false_eq_true, ne_eq, Bool.false_eq_true, Bool.true_eq_false, decide_true, decide_false, ob]
          · by_cases w5 : w = 5
            · simp (disch := omega) only [w5, Nat.reduceAdd, reduceIte, Int.reduceEq, Int.reduceLT, Int.reduceLE, Int.reduceNeg, Int.reduceAdd, Int.reduceSub, Int.reduceMul, Int.reduceNe, or_true, true_or, or_false, false_or, or_self, and_true, true_and, and_false, false_and, and_self, not_true_eq_false, not_false_eq_true, ne_eq, Bool.false_eq_true, Bool.true_eq_false, decide_true, decide_false, LD, ob]
              rcases hU with e | e <;> simp only [e, Nat.reduceAdd, reduceIte, Int.reduceEq, Int.reduceLT, Int.reduceLE, Int.reduceNeg, Int.reduceAdd, Int.reduceSub, Int.reduceMul, Int.reduceNe, or_true, true_or, or_false, false_or, or_self, and_true, true_and, and_false, false_and, and_self, not_true_eq_false, not_false_eq_true, ne_eq, Bool.false_eq_true, Bool.true_eq_false, decide_true, decide_false, ob]
            · by_cases w6 : w = 6
              · simp (disch := omega) only [w6, Nat.reduceAdd, reduceIte, Int.reduceEq, Int.reduceLT, Int.reduceLE, Int.reduceNeg, Int.reduceAdd, Int.reduceSub, Int.reduceMul, Int.reduceNe, or_true, true_or, or_false, false_or, or_self, and_true, true_and, and_false, false_and, and_self, not_true_eq_false, not_false_eq_true, ne_eq, Bool.false_eq_true, Bool.true_eq_false, decide_true, decide_false, s_X2_isKnown (Or.inl rfl : (62 : Nat) = 62 ∨ (62 : Nat) = 88), ob, x1, x2]
                by_cases e : D 7 v = D 8 v <;> simp only [e, Nat.reduceAdd, reduceIte, Int.reduceEq, Int.reduceLT, Int.reduceLE, Int.reduceNeg, Int.reduceAdd, Int.reduceSub, Int.reduceMul, Int.reduceNe, or_true, true_or, or_false, false_or, or_self, and_true, true_and, and_false, false_and, and_self, not_true_eq_false, not_false_eq_true, ne_eq, Bool.false_eq_true, Bool.true_eq_false, decide_true, decide_false, ob]
              · by_cases w7 : w = 7
                · simp (disch := omega) only [w7, Nat.reduceAdd, reduceIte, Int.reduceEq, Int.reduceLT, Int.reduceLE, Int.reduceNeg, Int.reduceAdd, Int.reduceSub, Int.reduceMul, Int.reduceNe, or_true, true_or, or_false, false_or, or_self, and_true, true_and, and_false, false_and, and_self, not_true_eq_false, not_false_eq_true, ne_eq, Bool.false_eq_true, Bool.true_eq_false, decide_true, decide_false, s_X5_isNeeded, ob, yN]
                  by_cases e : tb (D 0 1) v = true <;> simp only [e, Nat.reduceAdd, reduceIte, Int.reduceEq, Int.reduceLT, Int.reduceLE, Int.reduceNeg, Int.reduceAdd, Int.reduceSub, Int.reduceMul, Int.reduceNe, or_true, true_or, or_false, false_or, or_self, and_true, true_and, and_false, false_and, and_self, not_true_eq_false, not_false_eq_true, ne_eq, Bool.false_eq_true, Bool.true_eq_false, decide_true, decide_false, ob]
                · by_cases w8 : w = 8
                  · simp (disch := omega) only [w8, Nat.reduceAdd, reduceIte, Int.reduceEq, Int.reduceLT, Int.reduceLE, Int.reduceNeg, Int.reduceAdd, Int.reduceSub, Int.reduceMul, Int.reduceNe, or_true, true_or, or_false, false_or, or_self, and_true, true_and, and_false, false_and, and_self, not_true_eq_false, not_false_eq_true, ne_eq, Bool.false_eq_true, Bool.true_eq_false, decide_true, decide_false, LD, ob, x3]
                  · by_cases w9 : w = 9
                    · simp (disch := omega) only [w9, Nat.reduceAdd, reduceIte, Int.reduceEq, Int.reduceLT, Int.reduceLE, Int.reduceNeg, Int.reduceAdd, Int.reduceSub, Int.reduceMul, Int.reduceNe, or_true, true_or, or_false, false_or, or_self, and_true, true_and, and_false, false_and, and_self, not_true_eq_false, not_false_eq_true, ne_eq, Bool.false_eq_true, Bool.true_eq_false, decide_true, decide_false, LD, ob, y6]
                    · by_cases w10 : w = 10
                      · simp (disch := omega) only [w10, Nat.reduceAdd, reduceIte, Int.reduceEq, Int.reduceLT, Int.reduceLE, Int.reduceNeg, Int.reduceAdd, Int.reduceSub, Int.reduceMul, Int.reduceNe, or_true, true_or, or_false, false_or, or_self, and_true, true_and, and_false, false_and, and_self, not_true_eq_false, not_false_eq_true, ne_eq, Bool.false_eq_true, Bool.true_eq_false, decide_true, decide_false, LD, ob, y2]
                      · simp only [w4, w5, w6, w7, w8, w9, w10, if_false]
    · unfold fX12_value
      have e8 : wr M 132 0 0 138 8 = n := by simp (disch := omega) only [wr_ne]; exact a5.1
      rw [pI_ok, ob, s_X12_isValue, ob, e8, if_pos hv, if_neg (show ¬ (1 : Int) = 0 by decide), f, ob]
      by_cases w0 : w = 0
      · simp (disch := omega) only [w0, Nat.reduceAdd, reduceIte, Int.reduceEq, Int.reduceLT, Int.reduceLE, Int.reduceNeg, Int.reduceAdd, Int.reduceSub, Int.reduceMul, Int.reduceNe, or_true, true_or, or_false, false_or, or_self, and_true, true_and, and_false, false_and, and_self, not_true_eq_false, not_false_eq_true, ne_eq, Bool.false_eq_true, Bool.true_eq_false, decide_true, decide_false, s_X12_howOf mv hv.1 hv.2 n1, ob]
      · by_cases w1 : w = 1 ∨ w = 2 ∨ w = 3
        · simp only [w0, w1, if_false, if_true]
          rcases w1 with rfl | rfl | rfl
          · simp (disch := omega) only [Nat.reduceAdd, reduceIte, Int.reduceEq, Int.reduceLT, Int.reduceLE, Int.reduceNeg, Int.reduceAdd, Int.reduceSub, Int.reduceMul, Int.reduceNe, or_true, true_or, or_false, false_or, or_self, and_true, true_and, and_false, false_and, and_self, not_true_eq_false, not_false_eq_true, ne_eq, Bool.false_eq_true, Bool.true_eq_false, decide_true, decide_false, w32_id, s_X12_argOf0 mv hv.1 hv.2 n1, ob, Int.add_zero]
          · simp (disch := omega) only [Nat.reduceAdd, reduceIte, Int.reduceEq, Int.reduceLT, Int.reduceLE, Int.reduceNeg, Int.reduceAdd, Int.reduceSub, Int.reduceMul, Int.reduceNe, or_true, true_or, or_false, false_or, or_self, and_true, true_and, and_false, false_and, and_self, not_true_eq_false, not_false_eq_true, ne_eq, Bool.false_eq_true, Bool.true_eq_false, decide_true, decide_false, w32_id, s_X12_argOf1 mv hv.1 hv.2 n1, ob]
          · simp (disch := omega) only [Nat.reduceAdd, reduceIte, Int.reduceEq, Int.reduceLT, Int.reduceLE, Int.reduceNeg, Int.reduceAdd, Int.reduceSub, Int.reduceMul, Int.reduceNe, or_true, true_or, or_false, false_or, or_self, and_true, true_and, and_false, false_and, and_self, not_true_eq_false, not_false_eq_true, ne_eq, Bool.false_eq_true, Bool.true_eq_false, decide_true, decide_false, w32_id, s_X12_argOf2 mv hv.1 hv.2 n1, ob]
        · simp only [w0, w1, if_false]
          by_cases w4 : w = 4
          · simp (disch := omega) only [w4, Nat.reduceAdd, reduceIte, Int.reduceEq, Int.reduceLT, Int.reduceLE, Int.reduceNeg, Int.reduceAdd, Int.reduceSub, Int.reduceMul, Int.reduceNe, or_true, true_or, or_false, false_or, or_self, and_true, true_and, and_false, false_and, and_self, not_true_eq_false, not_false_eq_true, ne_eq, Bool.false_eq_true, Bool.true_eq_false, decide_true, decide_false, LD, ob, u3]
            rcases hF with e | e <;> simp only [e, Nat.reduceAdd, reduceIte, Int.reduceEq, Int.reduceLT, Int.reduceLE, Int.reduceNeg, Int.reduceAdd, Int.reduceSub, Int.reduceMul, Int.reduceNe, or_true, true_or, or_false, false_or, or_self, and_true, true_and, and_false, false_and, and_self, not_true_eq_false, not_false_eq_true, ne_eq, Bool.false_eq_true, Bool.true_eq_false, decide_true, decide_false, ob]
          · by_cases w5 : w = 5
            · simp (disch := omega) only [w5, Nat.reduceAdd, reduceIte, Int.reduceEq, Int.reduceLT, Int.reduceLE, Int.reduceNeg, Int.reduceAdd, Int.reduceSub, Int.reduceMul, Int.reduceNe, or_true, true_or, or_false, false_or, or_self, and_true, true_and, and_false, false_and, and_self, not_true_eq_false, not_false_eq_true, ne_eq, Bool.false_eq_true, Bool.true_eq_false, decide_true, decide_false, LD, ob, z3, (c.1.2.1 v hv.1 hv.2).2]
              rcases hU with e | e <;> simp only [e, Nat.reduceAdd, reduceIte, Int.reduceEq, Int.reduceLT, Int.reduceLE, Int.reduceNeg, Int.reduceAdd, Int.reduceSub, Int.reduceMul, Int.reduceNe, or_true, true_or, or_false, false_or, or_self, and_true, true_and, and_false, false_and, and_self, not_true_eq_false, not_false_eq_true, ne_eq, Bool.false_eq_true, Bool.true_eq_false, decide_true, decide_false, ob]
            · by_cases w6 : w = 6
              · simp (disch := omega) only [w6, Nat.reduceAdd, reduceIte, Int.reduceEq, Int.reduceLT, Int.reduceLE, Int.reduceNeg, Int.reduceAdd, Int.reduceSub, Int.reduceMul, Int.reduceNe, or_true, true_or, or_false, false_or, or_self, and_true, true_and, and_false, false_and, and_self, not_true_eq_false, not_false_eq_true, ne_eq, Bool.false_eq_true, Bool.true_eq_false, decide_true, decide_false, s_X12_isKnown, ob, u1, u2]
                by_cases e : D 7 v = D 8 v <;> simp only [e, Nat.reduceAdd, reduceIte, Int.reduceEq, Int.reduceLT, Int.reduceLE, Int.reduceNeg, Int.reduceAdd, Int.reduceSub, Int.reduceMul, Int.reduceNe, or_true, true_or, or_false, false_or, or_self, and_true, true_and, and_false, false_and, and_self, not_true_eq_false, not_false_eq_true, ne_eq, Bool.false_eq_true, Bool.true_eq_false, decide_true, decide_false, ob]
              · by_cases w7 : w = 7
                · simp (disch := omega) only [w7, Nat.reduceAdd, reduceIte, Int.reduceEq, Int.reduceLT, Int.reduceLE, Int.reduceNeg, Int.reduceAdd, Int.reduceSub, Int.reduceMul, Int.reduceNe, or_true, true_or, or_false, false_or, or_self, and_true, true_and, and_false, false_and, and_self, not_true_eq_false, not_false_eq_true, ne_eq, Bool.false_eq_true, Bool.true_eq_false, decide_true, decide_false, s_X12_has, ob, zN]
                  by_cases e : tb (D 0 1) v = true <;> simp only [e, Nat.reduceAdd, reduceIte, Int.reduceEq, Int.reduceLT, Int.reduceLE, Int.reduceNeg, Int.reduceAdd, Int.reduceSub, Int.reduceMul, Int.reduceNe, or_true, true_or, or_false, false_or, or_self, and_true, true_and, and_false, false_and, and_self, not_true_eq_false, not_false_eq_true, ne_eq, Bool.false_eq_true, Bool.true_eq_false, decide_true, decide_false, ob]
                · by_cases w8 : w = 8
                  · simp (disch := omega) only [w8, Nat.reduceAdd, reduceIte, Int.reduceEq, Int.reduceLT, Int.reduceLE, Int.reduceNeg, Int.reduceAdd, Int.reduceSub, Int.reduceMul, Int.reduceNe, or_true, true_or, or_false, false_or, or_self, and_true, true_and, and_false, false_and, and_self, not_true_eq_false, not_false_eq_true, ne_eq, Bool.false_eq_true, Bool.true_eq_false, decide_true, decide_false, LD, ob, u4]
                  · by_cases w9 : w = 9
                    · simp (disch := omega) only [w9, Nat.reduceAdd, reduceIte, Int.reduceEq, Int.reduceLT, Int.reduceLE, Int.reduceNeg, Int.reduceAdd, Int.reduceSub, Int.reduceMul, Int.reduceNe, or_true, true_or, or_false, false_or, or_self, and_true, true_and, and_false, false_and, and_self, not_true_eq_false, not_false_eq_true, ne_eq, Bool.false_eq_true, Bool.true_eq_false, decide_true, decide_false, LD, ob, z6]
                    · by_cases w10 : w = 10
                      · simp (disch := omega) only [w10, Nat.reduceAdd, reduceIte, Int.reduceEq, Int.reduceLT, Int.reduceLE, Int.reduceNeg, Int.reduceAdd, Int.reduceSub, Int.reduceMul, Int.reduceNe, or_true, true_or, or_false, false_or, or_self, and_true, true_and, and_false, false_and, and_self, not_true_eq_false, not_false_eq_true, ne_eq, Bool.false_eq_true, Bool.true_eq_false, decide_true, decide_false, s_X12_width hD md hv.1 vD, ob]
                      · simp only [w4, w5, w6, w7, w8, w9, w10, if_false]
  · refine ⟨-2, M, wr M 132 0 0, ?_, ?_, Kp_th M 0⟩
    · unfold fX11_value
      simp (disch := omega) only [s_X11_isValue, a3, hv, ob, Nat.reduceAdd, reduceIte, Int.reduceEq, Int.reduceLT, Int.reduceLE, Int.reduceNeg, Int.reduceAdd, Int.reduceSub, Int.reduceMul, Int.reduceNe, or_true, true_or, or_false, false_or, or_self, and_true, true_and, and_false, false_and, and_self, not_true_eq_false, not_false_eq_true, ne_eq, Bool.false_eq_true, Bool.true_eq_false, decide_true, decide_false]
    · unfold fX12_value
      have e8 : wr M 132 0 0 138 8 = n := by simp (disch := omega) only [wr_ne]; exact a5.1
      rw [pI_ok, ob, s_X12_isValue, ob, e8, if_neg hv, if_pos rfl]
