set_option maxHeartbeats 4000000 in
set_option maxRecDepth 20000 in
theorem q_place {M : Mem} {t : Nat} {n nI nS : Int} {D : Mem} (h : InvQ M t n nI nS) (c : Cch M t n nS D) (v w : Int) : Ans (fX11_place v w) (fX12_place v w) M := by
  obtain ⟨a1, a2, a3, a4, a5, -⟩ := id h
  have hD := Cch_DW h c
  have n1 := hD.2.1
  have d0 := c.1.1
  have pb := pc_bd (D 0 1)
  obtain ⟨r, f, kr, md, mx, ms, mr⟩ := m_plans h c (Kp_th M 0)
  have cx := c.2.2.1
  unfold CX at cx
  simp only [Nat.reduceAdd] at cx
  have cv := c.2.1
  unfold CV at cv
  simp only [Nat.reduceAdd] at cv
  have s1 := c.2.2.2.1.1
  have cc := c.2.2.2.1.2.2.2.2.2.2
  have cm := ms.2.2.2.2
  simp only [CL, CC, Nat.reduceAdd] at s1 cc
  by_cases hv : (0 ≤ v ∧ v < D 0 0) ∧ tb (D 0 1) v = true
  · obtain ⟨⟨v0, v1⟩, hN⟩ := hv
    have fk0 := s_X12_farKin (C := M 72) (up := 0) hD md (Or.inl rfl) v0 v1 (cx.1 v v0 v1).2.2.2.1 (AhB_cl hD (fun v a b => (cx.1 v a b).2.2.2))
    have fk1 := s_X12_farKin (C := M 73) (up := 1) hD md (Or.inr rfl) v0 v1 (cx.2 v v0 v1).1 (BhB_cl cx.2)
    obtain ⟨p, p0, p1, pv⟩ := ms.2.1.2.2.2.1 v v0 v1 hN
    have x0 : M 77 v = p := by rw [← pv]; exact c.2.2.2.2.1 p p0 p1
    have y0 : r 163 v = p := by rw [← pv]; exact ms.2.2.1 p p0 p1
    have y1 : r 164 v = M 78 v := by rw [← pv]; exact E_eq h c ms p p0 p1
    have y2 : r 165 v = M 81 v := by rw [← pv]; exact R_eq h c ms mr p p0 p1
    have y3 : r 166 v = M 84 v := by rw [← pv, cc.2.2.2 p p0 p1, cm.2.2.2 p p0 p1]
    have b73 := pc_bd (M 73 v)
    refine ⟨if w = 0 then p else if w = 1 then M 78 v else if w = 2 then M 81 v else if w = 3 then M 84 v else if w = 4 then pc (M 72 v) else if w = 5 then pc (D 0 1) - 1 - pc (M 73 v) else -1, M, r, ?_, ?_, kr⟩
    · unfold fX11_place
      rw [s_X11_isValue, ob, cv.1, if_pos (show 0 ≤ v ∧ v < D 0 0 from ⟨v0, v1⟩), if_neg (show ¬ (1 : Int) = 0 by decide), s_X5_isNeeded v0 (by omega), ob]
      simp only [Nat.reduceAdd, cv.2.1, hN, if_true]
      rw [if_neg (show ¬ (1 : Int) = 0 by decide), ld77 _ _ v0 (by omega), ld78 _ _ v0 (by omega), ld81 _ _ v0 (by omega), ld84 _ _ v0 (by omega), ld72 _ _ v0 (by omega), ld73 _ _ v0 (by omega), x0, s1.1, w32_id (show -2147483648 ≤ pc (D 0 1) - 1 by omega) (by omega)]
      simp only [ob, s_bitCount]
      rw [w32_id (show -2147483648 ≤ pc (D 0 1) - 1 - pc (M 73 v) by omega) (by omega)]
      simp only [oite]
    · unfold fX12_place
      rw [pI_ok, ob, f, ob, s_X12_isNeeded hD md, ob, if_pos (show (0 ≤ v ∧ v < D 0 0) ∧ tb (D 0 1) v = true from ⟨⟨v0, v1⟩, hN⟩), if_neg (show ¬ (1 : Int) = 0 by decide)]
      dsimp only
      rw [ld163 _ _ v0 (by omega), ld164 _ _ v0 (by omega), ld165 _ _ v0 (by omega), ld166 _ _ v0 (by omega), y0, y1, y2, y3, ms.1.1, fk0, fk1, w32_id (show -2147483648 ≤ pc (D 0 1) - 1 by omega) (by omega)]
      simp only [ob, s_X12_manyOf]
      rw [w32_id (show -2147483648 ≤ pc (D 0 1) - 1 - pc (M 73 v) by omega) (by omega)]
      simp only [oite]
  · refine ⟨-1, M, r, ?_, ?_, kr⟩
    · unfold fX11_place
      rw [s_X11_isValue, ob, cv.1]
      by_cases h1 : 0 ≤ v ∧ v < D 0 0
      · have hN : ¬ tb (D 0 1) v = true := fun z => hv ⟨h1, z⟩
        rw [if_pos h1, if_neg (show ¬ (1 : Int) = 0 by decide), s_X5_isNeeded h1.1 (by omega), ob]
        simp only [Nat.reduceAdd, cv.2.1, hN, Nat.reduceAdd, reduceIte, Int.reduceEq, Int.reduceLT, Int.reduceLE, Int.reduceNeg, Int.reduceAdd, Int.reduceSub, Int.reduceMul, Int.reduceNe, or_true, true_or, or_false, false_or, or_self, and_true, true_and, and_false, false_and, and_self, not_true_eq_false, not_false_eq_true, ne_eq, Bool.false_eq_true, Bool.true_eq_false, decide_true, decide_false]
      · simp only [h1, Nat.reduceAdd, reduceIte, Int.reduceEq, Int.reduceLT, Int.reduceLE, Int.reduceNeg, Int.reduceAdd, Int.reduceSub, Int.reduceMul, Int.reduceNe, or_true, true_or, or_false, false_or, or_self, and_true, true_and, and_false, false_and, and_self, not_true_eq_false, not_false_eq_true, ne_eq, Bool.false_eq_true, Bool.true_eq_false, decide_true, decide_false]
    · unfold fX12_place
      rw [pI_ok, ob, f, ob, s_X12_isNeeded hD md, ob, if_neg hv, if_pos rfl]
