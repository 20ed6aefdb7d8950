theorem AhB_cl {M D : Mem} (hD : DW D) (h : ∀ v, 0 ≤ v → v < D 0 0 → AhB (D 4) (M 72) v) : ∀ v, 0 ≤ v → v < D 0 0 → ∀ y, 0 ≤ y → y < 64 → (tb (M 72 v) y = true ↔ ∃ s, 0 ≤ s ∧ s < 64 ∧ tb ((if (0 : Int) = 0 then D 4 else D 5) v) s = true ∧ (y = s ∨ tb (M 72 s) y = true)) := fun v a b y y0 y1 => by
  have n1 := hD.2.1
  rw [if_pos rfl, (h v a b).2 y y0 y1]
  constructor
  · rintro ⟨s, s0, s1, z⟩; exact ⟨s, s0, by omega, z⟩
  · rintro ⟨s, s0, s1, z1, z2⟩
    exact ⟨s, s0, ((hD.2.2.2.2.2.2.2.2 v a b).2.2.2.1.2 s s0 s1 z1).1, z1, z2⟩
theorem BhB_cl {M D : Mem} (h : BhOK (D 0 0) (D 5) (M 73)) : ∀ v, 0 ≤ v → v < D 0 0 → ∀ y, 0 ≤ y → y < 64 → (tb (M 73 v) y = true ↔ ∃ s, 0 ≤ s ∧ s < 64 ∧ tb ((if (1 : Int) = 0 then D 4 else D 5) v) s = true ∧ (y = s ∨ tb (M 73 s) y = true)) := fun v a b y y0 y1 => by
  rw [if_neg (by decide)]
  exact (h v a b).2 y y0 y1
theorem s_X12_isNeeded {v : Int} {M D : Mem} (hD : DW D) (hM : MD M D) : fX12_isNeeded v M = some (if (0 ≤ v ∧ v < D 0 0) ∧ tb (D 0 1) v = true then 1 else 0, M) := by
  have n1 := hD.2.1
  unfold fX12_isNeeded
  rw [s_X12_isValue, ob, hM.1]
  by_cases h : 0 ≤ v ∧ v < D 0 0
  · rw [if_pos h, if_neg (show ¬ (1 : Int) = 0 by decide), s_X12_has h.1 (by omega), ob]
    simp only [hM.2.1]
    by_cases e : tb (D 0 1) v = true
    · simp only [h, e, Nat.reduceAdd, reduceIte, Int.reduceEq, Int.reduceLT, Int.reduceLE, Int.reduceNeg, Int.reduceAdd, Int.reduceSub, Int.reduceMul, Int.reduceNe, or_true, true_or, or_false, false_or, or_self, and_true, true_and, and_false, false_and, and_self, not_true_eq_false, not_false_eq_true, ne_eq, Bool.false_eq_true, Bool.true_eq_false, decide_true, decide_false, ob, rz1]
    · simp only [h, e, Nat.reduceAdd, reduceIte, Int.reduceEq, Int.reduceLT, Int.reduceLE, Int.reduceNeg, Int.reduceAdd, Int.reduceSub, Int.reduceMul, Int.reduceNe, or_true, true_or, or_false, false_or, or_self, and_true, true_and, and_false, false_and, and_self, not_true_eq_false, not_false_eq_true, ne_eq, Bool.false_eq_true, Bool.true_eq_false, decide_true, decide_false, ob, rz0]
  · simp only [h, Nat.reduceAdd, reduceIte, Int.reduceEq, Int.reduceLT, Int.reduceLE, Int.reduceNeg, Int.reduceAdd, Int.reduceSub, Int.reduceMul, Int.reduceNe, or_true, true_or, or_false, false_or, or_self, and_true, true_and, and_false, false_and, and_self, not_true_eq_false, not_false_eq_true, ne_eq, Bool.false_eq_true, Bool.true_eq_false, decide_true, decide_false, ob, rz0]
set_option maxHeartbeats 4000000 in
set_option maxRecDepth 20000 in
theorem q_kin {M : Mem} {t : Nat} {n nI nS : Int} {D : Mem} (h : InvQ M t n nI nS) (c : Cch M t n nS D) (v w : Int) : Ans (fX11_kin v w) (fX12_kin v w) M := by
  obtain ⟨a1, a2, a3, a4, a5, -⟩ := id h
  have hD := Cch_DW h c
  have n1 := hD.2.1
  have d0 := c.1.1
  obtain ⟨r, f, kr, md, mx⟩ := m_all0 h c (Kp_th M 0)
  have cx := c.2.2.1
  unfold CX at cx
  simp only [Nat.reduceAdd] at cx
  have cv := c.2.1
  unfold CV at cv
  simp only [Nat.reduceAdd] at cv
  by_cases hv : (0 ≤ v ∧ v < D 0 0) ∧ tb (D 0 1) v = true
  · obtain ⟨⟨v0, v1⟩, hN⟩ := hv
    obtain ⟨y1, y2, y3, y4, y5, y6, -⟩ := cv.2.2.2 v v0 v1
    obtain ⟨z1, z2, z3, z4, z5, z6⟩ := md.2.2.2.2.2 v v0 v1
    have fk0 := s_X12_farKin (C := M 72) (up := 0) hD md (Or.inl rfl) v0 v1 (cx.1 v v0 v1).2.2.2.1 (AhB_cl hD (fun v a b => (cx.1 v a b).2.2.2))
    have fk1 := s_X12_farKin (C := M 73) (up := 1) hD md (Or.inr rfl) v0 v1 (cx.2 v v0 v1).1 (BhB_cl cx.2)
    refine ⟨if w = 0 then D 4 v else if w = 1 then D 5 v else if w = 2 then M 72 v else if w = 3 then M 73 v else 0, M, r, ?_, ?_, kr⟩
    · unfold fX11_kin
      rw [s_X11_isValue, ob, cv.1, if_pos (show 0 ≤ v ∧ v < D 0 0 from ⟨v0, v1⟩), if_neg (show ¬ (1 : Int) = 0 by decide), s_X5_isNeeded v0 (by omega), ob]
      simp only [Nat.reduceAdd, cv.2.1, hN, if_true]
      rw [if_neg (show ¬ (1 : Int) = 0 by decide), ld70 _ _ v0 (by omega), ld71 _ _ v0 (by omega), ld72 _ _ v0 (by omega), ld73 _ _ v0 (by omega), y4, y5]
      simp only [ob, oite]
    · unfold fX12_kin
      rw [pI_ok, ob, f, ob, s_X12_isNeeded hD md, ob, if_pos (show (0 ≤ v ∧ v < D 0 0) ∧ tb (D 0 1) v = true from ⟨⟨v0, v1⟩, hN⟩), if_neg (show ¬ (1 : Int) = 0 by decide), s_X12_within, ob]
      by_cases hw : 0 ≤ w ∧ w ≤ 3
      · rw [if_pos hw, if_neg (show ¬ (1 : Int) = 0 by decide)]
        dsimp only
        rw [ld159 _ _ v0 (by omega), ld160 _ _ v0 (by omega), z4, z5]
        by_cases w0 : w = 0
        · simp only [w0, Nat.reduceAdd, reduceIte, Int.reduceEq, Int.reduceLT, Int.reduceLE, Int.reduceNeg, Int.reduceAdd, Int.reduceSub, Int.reduceMul, Int.reduceNe, or_true, true_or, or_false, false_or, or_self, and_true, true_and, and_false, false_and, and_self, not_true_eq_false, not_false_eq_true, ne_eq, Bool.false_eq_true, Bool.true_eq_false, decide_true, decide_false, ob]
        · by_cases w1 : w = 1
          · simp only [w1, Nat.reduceAdd, reduceIte, Int.reduceEq, Int.reduceLT, Int.reduceLE, Int.reduceNeg, Int.reduceAdd, Int.reduceSub, Int.reduceMul, Int.reduceNe, or_true, true_or, or_false, false_or, or_self, and_true, true_and, and_false, false_and, and_self, not_true_eq_false, not_false_eq_true, ne_eq, Bool.false_eq_true, Bool.true_eq_false, decide_true, decide_false, ob]
          · by_cases w2 : w = 2
            · simp only [w2, Nat.reduceAdd, reduceIte, Int.reduceEq, Int.reduceLT, Int.reduceLE, Int.reduceNeg, Int.reduceAdd, Int.reduceSub, Int.reduceMul, Int.reduceNe, or_true, true_or, or_false, false_or, or_self, and_true, true_and, and_false, false_and, and_self, not_true_eq_false, not_false_eq_true, ne_eq, Bool.false_eq_true, Bool.true_eq_false, decide_true, decide_false, ob, fk0]
            · have w3 : w = 3 := by omega
              simp only [w3, Nat.reduceAdd, reduceIte, Int.reduceEq, Int.reduceLT, Int.reduceLE, Int.reduceNeg, Int.reduceAdd, Int.reduceSub, Int.reduceMul, Int.reduceNe, or_true, true_or, or_false, false_or, or_self, and_true, true_and, and_false, false_and, and_self, not_true_eq_false, not_false_eq_true, ne_eq, Bool.false_eq_true, Bool.true_eq_false, decide_true, decide_false, ob, fk1]
      · have w0 : ¬ w = 0 := by omega
        have w1 : ¬ w = 1 := by omega
        have w2 : ¬ w = 2 := by omega
        have w3 : ¬ w = 3 := by omega
        simp only [hw, w0, w1, w2, w3, Nat.reduceAdd, reduceIte, Int.reduceEq, Int.reduceLT, Int.reduceLE, Int.reduceNeg, Int.reduceAdd, Int.reduceSub, Int.reduceMul, Int.reduceNe, or_true, true_or, or_false, false_or, or_self, and_true, true_and, and_false, false_and, and_self, not_true_eq_false, not_false_eq_true, ne_eq, Bool.false_eq_true, Bool.true_eq_false, decide_true, decide_false, ob]
  · refine ⟨0, M, r, ?_, ?_, kr⟩
    · unfold fX11_kin
      rw [s_X11_isValue, ob, cv.1]
      by_cases h1 : 0 ≤ v ∧ v < D 0 0
      · have hN : ¬ tb (D 0 1) v = true := fun z => hv ⟨h1, z⟩
        rw [if_pos h1, if_neg (show ¬ (1 : Int) = 0 by decide), s_X5_isNeeded h1.1 (by omega), ob]
        simp only [Nat.reduceAdd, cv.2.1, hN, Nat.reduceAdd, reduceIte, Int.reduceEq, Int.reduceLT, Int.reduceLE, Int.reduceNeg, Int.reduceAdd, Int.reduceSub, Int.reduceMul, Int.reduceNe, or_true, true_or, or_false, false_or, or_self, and_true, true_and, and_false, false_and, and_self, not_true_eq_false, not_false_eq_true, ne_eq, Bool.false_eq_true, Bool.true_eq_false, decide_true, decide_false]
      · simp only [h1, Nat.reduceAdd, reduceIte, Int.reduceEq, Int.reduceLT, Int.reduceLE, Int.reduceNeg, Int.reduceAdd, Int.reduceSub, Int.reduceMul, Int.reduceNe, or_true, true_or, or_false, false_or, or_self, and_true, true_and, and_false, false_and, and_self, not_true_eq_false, not_false_eq_true, ne_eq, Bool.false_eq_true, Bool.true_eq_false, decide_true, decide_false]
    · unfold fX12_kin
      rw [pI_ok, ob, f, ob, s_X12_isNeeded hD md, ob, if_neg hv, if_pos rfl]
