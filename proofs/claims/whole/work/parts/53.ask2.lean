set_option maxHeartbeats 4000000 in
set_option maxRecDepth 20000 in
theorem q_order {M : Mem} {t : Nat} {n nI nS : Int} {D : Mem} (h : InvQ M t n nI nS) (c : Cch M t n nS D) (p : Int) : Ans (fX11_order p) (fX12_order p) M := by
  obtain ⟨r, f, kr, md, mx, ms, mr⟩ := m_plans h c (Kp_th M 0)
  have pb := pc_bd (D 0 1)
  have s4 := c.2.2.2.1.1
  simp only [CL, Nat.reduceAdd] at s4
  refine ⟨if 0 ≤ p ∧ p < pc (D 0 1) then odr D (M 0 14) p else -1, M, r, ?_, ?_, kr⟩
  · unfold fX11_order
    rw [s_X11_isPlace, ob, s4.1]
    by_cases hp : 0 ≤ p ∧ p < pc (D 0 1)
    · simp (disch := omega) only [hp, Nat.reduceAdd, reduceIte, Int.reduceEq, Int.reduceLT, Int.reduceLE, Int.reduceNeg, Int.reduceAdd, Int.reduceSub, Int.reduceMul, Int.reduceNe, or_true, true_or, or_false, false_or, or_self, and_true, true_and, and_false, false_and, and_self, not_true_eq_false, not_false_eq_true, ne_eq, Bool.false_eq_true, Bool.true_eq_false, decide_true, decide_false, LD, ob, s4.2 p hp.1 hp.2]
    · simp only [hp, Nat.reduceAdd, reduceIte, Int.reduceEq, Int.reduceLT, Int.reduceLE, Int.reduceNeg, Int.reduceAdd, Int.reduceSub, Int.reduceMul, Int.reduceNe, or_true, true_or, or_false, false_or, or_self, and_true, true_and, and_false, false_and, and_self, not_true_eq_false, not_false_eq_true, ne_eq, Bool.false_eq_true, Bool.true_eq_false, decide_true, decide_false, ob]
  · unfold fX12_order
    rw [pI_ok, ob, f, ob, s_X12_within, ob, ms.1.1, w32_id (by omega) (by omega)]
    by_cases hp : 0 ≤ p ∧ p < pc (D 0 1)
    · have e : 0 ≤ p ∧ p ≤ pc (D 0 1) - 1 := by omega
      simp (disch := omega) only [hp, e, Nat.reduceAdd, reduceIte, Int.reduceEq, Int.reduceLT, Int.reduceLE, Int.reduceNeg, Int.reduceAdd, Int.reduceSub, Int.reduceMul, Int.reduceNe, or_true, true_or, or_false, false_or, or_self, and_true, true_and, and_false, false_and, and_self, not_true_eq_false, not_false_eq_true, ne_eq, Bool.false_eq_true, Bool.true_eq_false, decide_true, decide_false, LD, ob, ms.1.2 p hp.1 hp.2]
    · have e : ¬ (0 ≤ p ∧ p ≤ pc (D 0 1) - 1) := by omega
      simp only [hp, e, Nat.reduceAdd, reduceIte, Int.reduceEq, Int.reduceLT, Int.reduceLE, Int.reduceNeg, Int.reduceAdd, Int.reduceSub, Int.reduceMul, Int.reduceNe, or_true, true_or, or_false, false_or, or_self, and_true, true_and, and_false, false_and, and_self, not_true_eq_false, not_false_eq_true, ne_eq, Bool.false_eq_true, Bool.true_eq_false, decide_true, decide_false, ob]
theorem E_eq {M r : Mem} {t : Nat} {n nI nS : Int} {D : Mem} (h : InvQ M t n nI nS) (c : Cch M t n nS D) (ms : MSch r D (odr D (M 0 14)) (pc (D 0 1))) : ∀ k, 0 ≤ k → k < pc (D 0 1) → r 164 (odr D (M 0 14) k) = M 78 (odr D (M 0 14) k) := fun k a b => End_uniq (Cch_DW h c) ms.2.1 c.2.2.2.1.2.2.1 ms.2.2.2.1 a b
theorem R_eq {M r : Mem} {t : Nat} {n nI nS : Int} {D : Mem} (h : InvQ M t n nI nS) (c : Cch M t n nS D) (ms : MSch r D (odr D (M 0 14)) (pc (D 0 1))) (mr : MReg r D (odr D (M 0 14)) (pc (D 0 1))) : ∀ k, 0 ≤ k → k < pc (D 0 1) → r 165 (odr D (M 0 14) k) = M 81 (odr D (M 0 14) k) := fun k a b => Reg_uniq (Cch_DW h c) ms.2.1 (E_eq h c ms) c.2.2.2.1.2.2.2.2.1 mr.1 (k.toNat + 1) k (by omega) a b
set_option maxHeartbeats 4000000 in
set_option maxRecDepth 20000 in
theorem q_pressure {M : Mem} {t : Nat} {n nI nS : Int} {D : Mem} (h : InvQ M t n nI nS) (c : Cch M t n nS D) (f : Int) : Ans (fX11_pressure f) (fX12_pressure f) M := by
  obtain ⟨r, e, kr, md, mx, ms, mr⟩ := m_plans h c (Kp_th M 0)
  have s4 := c.2.2.2.1.2.2.2.1
  simp only [Nat.reduceAdd] at s4
  refine ⟨if 0 ≤ f ∧ f ≤ 2 then top D (odr D (M 0 14)) (M 78) (pc (D 0 1)) f else -1, M, r, ?_, ?_, kr⟩
  · unfold fX11_pressure
    by_cases hf : 0 ≤ f ∧ f ≤ 2
    · have e1 : ¬ f < 0 := by omega
      have e2 : ¬ 2 < f := by omega
      simp (disch := omega) only [hf, e1, e2, Nat.reduceAdd, reduceIte, Int.reduceEq, Int.reduceLT, Int.reduceLE, Int.reduceNeg, Int.reduceAdd, Int.reduceSub, Int.reduceMul, Int.reduceNe, or_true, true_or, or_false, false_or, or_self, and_true, true_and, and_false, false_and, and_self, not_true_eq_false, not_false_eq_true, ne_eq, Bool.false_eq_true, Bool.true_eq_false, decide_true, decide_false, LD, ob, (s4 f hf.1 hf.2).2]
    · rw [if_neg hf]
      by_cases e1 : f < 0
      · simp only [e1, Nat.reduceAdd, reduceIte, Int.reduceEq, Int.reduceLT, Int.reduceLE, Int.reduceNeg, Int.reduceAdd, Int.reduceSub, Int.reduceMul, Int.reduceNe, or_true, true_or, or_false, false_or, or_self, and_true, true_and, and_false, false_and, and_self, not_true_eq_false, not_false_eq_true, ne_eq, Bool.false_eq_true, Bool.true_eq_false, decide_true, decide_false, ob]
      · have e2 : 2 < f := by omega
        simp only [e1, e2, Nat.reduceAdd, reduceIte, Int.reduceEq, Int.reduceLT, Int.reduceLE, Int.reduceNeg, Int.reduceAdd, Int.reduceSub, Int.reduceMul, Int.reduceNe, or_true, true_or, or_false, false_or, or_self, and_true, true_and, and_false, false_and, and_self, not_true_eq_false, not_false_eq_true, ne_eq, Bool.false_eq_true, Bool.true_eq_false, decide_true, decide_false, ob]
  · unfold fX12_pressure
    rw [pI_ok, ob, e, ob, s_X12_within, ob]
    by_cases hf : 0 ≤ f ∧ f ≤ 2
    · simp (disch := omega) only [hf, Nat.reduceAdd, reduceIte, Int.reduceEq, Int.reduceLT, Int.reduceLE, Int.reduceNeg, Int.reduceAdd, Int.reduceSub, Int.reduceMul, Int.reduceNe, or_true, true_or, or_false, false_or, or_self, and_true, true_and, and_false, false_and, and_self, not_true_eq_false, not_false_eq_true, ne_eq, Bool.false_eq_true, Bool.true_eq_false, decide_true, decide_false, ob, s_X12_most (Cch_DW h c) md ms.1 ms.2.1]
      rw [top_congr (fun _ _ _ => rfl) (E_eq h c ms)]
    · simp only [hf, Nat.reduceAdd, reduceIte, Int.reduceEq, Int.reduceLT, Int.reduceLE, Int.reduceNeg, Int.reduceAdd, Int.reduceSub, Int.reduceMul, Int.reduceNe, or_true, true_or, or_false, false_or, or_self, and_true, true_and, and_false, false_and, and_self, not_true_eq_false, not_false_eq_true, ne_eq, Bool.false_eq_true, Bool.true_eq_false, decide_true, decide_false, ob]
set_option maxHeartbeats 4000000 in
set_option maxRecDepth 20000 in
theorem q_at {M : Mem} {t : Nat} {n nI nS : Int} {D : Mem} (h : InvQ M t n nI nS) (c : Cch M t n nS D) (p f : Int) : Ans (fX11_at p f) (fX12_at p f) M := by
  obtain ⟨r, e, kr, md, mx, ms, mr⟩ := m_plans h c (Kp_th M 0)
  have pb := pc_bd (D 0 1)
  have s1 := c.2.2.2.1.1
  have s4 := c.2.2.2.1.2.2.2.1
  simp only [CL, Nat.reduceAdd] at s1 s4
  refine ⟨if (0 ≤ p ∧ p < pc (D 0 1)) ∧ 0 ≤ f ∧ f ≤ 2 then prs D (odr D (M 0 14)) (M 78) p f else -1, M, r, ?_, ?_, kr⟩
  · unfold fX11_at
    rw [s_X11_isPlace, ob, s1.1]
    by_cases hp : 0 ≤ p ∧ p < pc (D 0 1)
    · by_cases hf : 0 ≤ f ∧ f ≤ 2
      · have e1 : ¬ f < 0 := by omega
        have e2 : ¬ 2 < f := by omega
        simp (disch := omega) only [hp, hf, e1, e2, Nat.reduceAdd, reduceIte, Int.reduceEq, Int.reduceLT, Int.reduceLE, Int.reduceNeg, Int.reduceAdd, Int.reduceSub, Int.reduceMul, Int.reduceNe, or_true, true_or, or_false, false_or, or_self, and_true, true_and, and_false, false_and, and_self, not_true_eq_false, not_false_eq_true, ne_eq, Bool.false_eq_true, Bool.true_eq_false, decide_true, decide_false, LD, ob, w32_id, (s4 f hf.1 hf.2).1 p hp.1 hp.2]
      · by_cases e1 : f < 0
        · simp only [hp, hf, e1, Nat.reduceAdd, reduceIte, Int.reduceEq, Int.reduceLT, Int.reduceLE, Int.reduceNeg, Int.reduceAdd, Int.reduceSub, Int.reduceMul, Int.reduceNe, or_true, true_or, or_false, false_or, or_self, and_true, true_and, and_false, false_and, and_self, not_true_eq_false, not_false_eq_true, ne_eq, Bool.false_eq_true, Bool.true_eq_false, decide_true, decide_false, ob]
        · have e2 : 2 < f := by omega
          simp only [hp, hf, e1, e2, Nat.reduceAdd, reduceIte, Int.reduceEq, Int.reduceLT, Int.reduceLE, Int.reduceNeg, Int.reduceAdd, Int.reduceSub, Int.reduceMul, Int.reduceNe, or_true, true_or, or_false, false_or, or_self, and_true, true_and, and_false, false_and, and_self, not_true_eq_false, not_false_eq_true, ne_eq, Bool.false_eq_true, Bool.true_eq_false, decide_true, decide_false, ob]
    · simp only [hp, Nat.reduceAdd, reduceIte, Int.reduceEq, Int.reduceLT, Int.reduceLE, Int.reduceNeg, Int.reduceAdd, Int.reduceSub, Int.reduceMul, Int.reduceNe, or_true, true_or, or_false, false_or, or_self, and_true, true_and, and_false, false_and, and_self, not_true_eq_false, not_false_eq_true, ne_eq, Bool.false_eq_true, Bool.true_eq_false, decide_true, decide_false, ob]
  · unfold fX12_at
    rw [pI_ok, ob, e, ob, s_X12_within, ob]
    by_cases hf : 0 ≤ f ∧ f ≤ 2
    · simp only [hf, Nat.reduceAdd, reduceIte, Int.reduceEq, Int.reduceLT, Int.reduceLE, Int.reduceNeg, Int.reduceAdd, Int.reduceSub, Int.reduceMul, Int.reduceNe, or_true, true_or, or_false, false_or, or_self, and_true, true_and, and_false, false_and, and_self, not_true_eq_false, not_false_eq_true, ne_eq, Bool.false_eq_true, Bool.true_eq_false, decide_true, decide_false, s_X12_within, ob, ms.1.1]
      rw [w32_id (show -2147483648 ≤ pc (D 0 1) - 1 by omega) (by omega)]
      by_cases hp : 0 ≤ p ∧ p < pc (D 0 1)
      · have e1 : 0 ≤ p ∧ p ≤ pc (D 0 1) - 1 := by omega
        simp (disch := omega) only [hp, e1, Nat.reduceAdd, reduceIte, Int.reduceEq, Int.reduceLT, Int.reduceLE, Int.reduceNeg, Int.reduceAdd, Int.reduceSub, Int.reduceMul, Int.reduceNe, or_true, true_or, or_false, false_or, or_self, and_true, true_and, and_false, false_and, and_self, not_true_eq_false, not_false_eq_true, ne_eq, Bool.false_eq_true, Bool.true_eq_false, decide_true, decide_false, ob, s_X12_livesAt (Cch_DW h c) md ms.1 ms.2.1 hp.1 hp.2]
        rw [prs_congr (fun _ _ _ => rfl) (E_eq h c ms) hp.2]
      · have e1 : ¬ (0 ≤ p ∧ p ≤ pc (D 0 1) - 1) := by omega
        simp only [hp, e1, Nat.reduceAdd, reduceIte, Int.reduceEq, Int.reduceLT, Int.reduceLE, Int.reduceNeg, Int.reduceAdd, Int.reduceSub, Int.reduceMul, Int.reduceNe, or_true, true_or, or_false, false_or, or_self, and_true, true_and, and_false, false_and, and_self, not_true_eq_false, not_false_eq_true, ne_eq, Bool.false_eq_true, Bool.true_eq_false, decide_true, decide_false, ob]
    · simp only [hf, Nat.reduceAdd, reduceIte, Int.reduceEq, Int.reduceLT, Int.reduceLE, Int.reduceNeg, Int.reduceAdd, Int.reduceSub, Int.reduceMul, Int.reduceNe, or_true, true_or, or_false, false_or, or_self, and_true, true_and, and_false, false_and, and_self, not_true_eq_false, not_false_eq_true, ne_eq, Bool.false_eq_true, Bool.true_eq_false, decide_true, decide_false, ob]
set_option maxHeartbeats 4000000 in
set_option maxRecDepth 20000 in
theorem q_used {M : Mem} {t : Nat} {n nI nS : Int} {D : Mem} (h : InvQ M t n nI nS) (c : Cch M t n nS D) (f : Int) : Ans (fX11_used f) (fX12_used f) M := by
  obtain ⟨r, e, kr, md, mx, ms, mr⟩ := m_plans h c (Kp_th M 0)
  have s6 := c.2.2.2.1.2.2.2.2.2.1
  simp only [Nat.reduceAdd] at s6
  refine ⟨if 0 ≤ f ∧ f ≤ 1 then hi D (odr D (M 0 14)) (M 81) (pc (D 0 1)) f else -1, M, r, ?_, ?_, kr⟩
  · unfold fX11_used
    by_cases hf : 0 ≤ f ∧ f ≤ 1
    · have e1 : ¬ f < 0 := by omega
      have e2 : ¬ 2 ≤ f := by omega
      simp (disch := omega) only [hf, e1, e2, Nat.reduceAdd, reduceIte, Int.reduceEq, Int.reduceLT, Int.reduceLE, Int.reduceNeg, Int.reduceAdd, Int.reduceSub, Int.reduceMul, Int.reduceNe, or_true, true_or, or_false, false_or, or_self, and_true, true_and, and_false, false_and, and_self, not_true_eq_false, not_false_eq_true, ne_eq, Bool.false_eq_true, Bool.true_eq_false, decide_true, decide_false, LD, ob, s6 f (show f = 0 ∨ f = 1 by omega)]
    · rw [if_neg hf]
      by_cases e1 : f < 0
      · simp only [e1, Nat.reduceAdd, reduceIte, Int.reduceEq, Int.reduceLT, Int.reduceLE, Int.reduceNeg, Int.reduceAdd, Int.reduceSub, Int.reduceMul, Int.reduceNe, or_true, true_or, or_false, false_or, or_self, and_true, true_and, and_false, false_and, and_self, not_true_eq_false, not_false_eq_true, ne_eq, Bool.false_eq_true, Bool.true_eq_false, decide_true, decide_false, ob]
      · have e2 : 2 ≤ f := by omega
        simp only [e1, e2, Nat.reduceAdd, reduceIte, Int.reduceEq, Int.reduceLT, Int.reduceLE, Int.reduceNeg, Int.reduceAdd, Int.reduceSub, Int.reduceMul, Int.reduceNe, or_true, true_or, or_false, false_or, or_self, and_true, true_and, and_false, false_and, and_self, not_true_eq_false, not_false_eq_true, ne_eq, Bool.false_eq_true, Bool.true_eq_false, decide_true, decide_false, ob]
  · unfold fX12_used
    rw [pI_ok, ob, e, ob, s_X12_within, ob]
    by_cases hf : 0 ≤ f ∧ f ≤ 1
    · simp (disch := omega) only [hf, Nat.reduceAdd, reduceIte, Int.reduceEq, Int.reduceLT, Int.reduceLE, Int.reduceNeg, Int.reduceAdd, Int.reduceSub, Int.reduceMul, Int.reduceNe, or_true, true_or, or_false, false_or, or_self, and_true, true_and, and_false, false_and, and_self, not_true_eq_false, not_false_eq_true, ne_eq, Bool.false_eq_true, Bool.true_eq_false, decide_true, decide_false, ob, LD, mr.2 f (show f = 0 ∨ f = 1 by omega)]
      rw [hi_congr (fun _ _ _ => rfl) (R_eq h c ms mr)]
    · simp only [hf, Nat.reduceAdd, reduceIte, Int.reduceEq, Int.reduceLT, Int.reduceLE, Int.reduceNeg, Int.reduceAdd, Int.reduceSub, Int.reduceMul, Int.reduceNe, or_true, true_or, or_false, false_or, or_self, and_true, true_and, and_false, false_and, and_self, not_true_eq_false, not_false_eq_true, ne_eq, Bool.false_eq_true, Bool.true_eq_false, decide_true, decide_false, ob]
set_option maxHeartbeats 4000000 in
set_option maxRecDepth 20000 in
theorem q_clause {M : Mem} {t : Nat} {n nI nS : Int} {D : Mem} (h : InvQ M t n nI nS) (c : Cch M t n nS D) (k w : Int) : Ans (fX11_clause k w) (fX12_clause k w) M := by
  obtain ⟨r, e, kr, md, mx, ms, mr⟩ := m_plans h c (Kp_th M 0)
  have hD := Cch_DW h c
  have n1 := hD.2.1
  have pb := pc_bd (D 0 1)
  have s1 := c.2.2.2.1.1
  have cc := c.2.2.2.1.2.2.2.2.2.2
  have cm := ms.2.2.2.2
  have hW := cutS_W hD ms.2.1 (pc (D 0 1)).toNat (by omega)
  rw [show (((pc (D 0 1)).toNat : Nat) : Int) = pc (D 0 1) by omega] at hW
  generalize cutS D (odr D (M 0 14)) (pc (D 0 1)).toNat = S at *
  simp only [CL, CC, Nat.reduceAdd] at s1 cc
  obtain ⟨b1, b2, b3, b4⟩ := cc
  obtain ⟨g1, g2, g3, g4⟩ := cm
  obtain ⟨w1, w2, w3, w4, w5, w6, w7⟩ := hW
  by_cases hk : 0 ≤ k ∧ k < S 0 0
  · have hk0 : ¬ k < 0 := by omega
    obtain ⟨x1, x2, x3⟩ := b3 k hk.1 hk.2
    obtain ⟨y1, y2, y3, y4⟩ := g3 k hk.1 hk.2
    have z := w6 k hk.1 hk.2
    have q := ms.2.1.2.1 (S 1 k) z.1 (by omega)
    have hm := (c.2.1.2.2.2 _ q.1 q.2.1).1
    have hkn : ((if D 1 (odr D (M 0 14) (S 1 k)) = 7 then some 1 else some 0 : Option Int)) = some (S 5 k) := by rw [← z.2.2.1]; unfold knd; split <;> rfl
    refine ⟨if w = 0 then S 5 k else if w = 1 then S 1 k else if w = 2 then S 2 k else if w = 3 then S 3 k else -1, M, r, ?_, ?_, kr⟩
    · unfold fX11_clause
      rw [if_neg hk0, b1, if_pos hk.2]
      by_cases v0 : w = 0
      · simp (disch := omega) only [v0, Nat.reduceAdd, reduceIte, Int.reduceEq, Int.reduceLT, Int.reduceLE, Int.reduceNeg, Int.reduceAdd, Int.reduceSub, Int.reduceMul, Int.reduceNe, or_true, true_or, or_false, false_or, or_self, and_true, true_and, and_false, false_and, and_self, not_true_eq_false, not_false_eq_true, ne_eq, Bool.false_eq_true, Bool.true_eq_false, decide_true, decide_false, LD, ob, x1, s1.2 _ z.1 (show S 1 k < pc (D 0 1) by omega), hm, hkn]
      · by_cases v1 : w = 1
        · simp (disch := omega) only [v1, Nat.reduceAdd, reduceIte, Int.reduceEq, Int.reduceLT, Int.reduceLE, Int.reduceNeg, Int.reduceAdd, Int.reduceSub, Int.reduceMul, Int.reduceNe, or_true, true_or, or_false, false_or, or_self, and_true, true_and, and_false, false_and, and_self, not_true_eq_false, not_false_eq_true, ne_eq, Bool.false_eq_true, Bool.true_eq_false, decide_true, decide_false, LD, ob, x1]
        · by_cases v2 : w = 2
          · simp (disch := omega) only [v2, Nat.reduceAdd, reduceIte, Int.reduceEq, Int.reduceLT, Int.reduceLE, Int.reduceNeg, Int.reduceAdd, Int.reduceSub, Int.reduceMul, Int.reduceNe, or_true, true_or, or_false, false_or, or_self, and_true, true_and, and_false, false_and, and_self, not_true_eq_false, not_false_eq_true, ne_eq, Bool.false_eq_true, Bool.true_eq_false, decide_true, decide_false, LD, ob, x2]
          · by_cases v3 : w = 3
            · simp (disch := omega) only [v3, Nat.reduceAdd, reduceIte, Int.reduceEq, Int.reduceLT, Int.reduceLE, Int.reduceNeg, Int.reduceAdd, Int.reduceSub, Int.reduceMul, Int.reduceNe, or_true, true_or, or_false, false_or, or_self, and_true, true_and, and_false, false_and, and_self, not_true_eq_false, not_false_eq_true, ne_eq, Bool.false_eq_true, Bool.true_eq_false, decide_true, decide_false, LD, ob, x3]
            · simp only [v0, v1, v2, v3, if_false]
    · unfold fX12_clause
      rw [pI_ok, ob, e, ob, s_X12_within, ob, g1, w32_id (by omega) (by omega)]
      have e1 : 0 ≤ k ∧ k ≤ S 0 0 - 1 := by omega
      simp only [e1, Nat.reduceAdd, reduceIte, Int.reduceEq, Int.reduceLT, Int.reduceLE, Int.reduceNeg, Int.reduceAdd, Int.reduceSub, Int.reduceMul, Int.reduceNe, or_true, true_or, or_false, false_or, or_self, and_true, true_and, and_false, false_and, and_self, not_true_eq_false, not_false_eq_true, ne_eq, Bool.false_eq_true, Bool.true_eq_false, decide_true, decide_false, s_X12_within, ob]
      by_cases hw : 0 ≤ w ∧ w ≤ 3
      · simp (disch := omega) only [hw, Nat.reduceAdd, reduceIte, Int.reduceEq, Int.reduceLT, Int.reduceLE, Int.reduceNeg, Int.reduceAdd, Int.reduceSub, Int.reduceMul, Int.reduceNe, or_true, true_or, or_false, false_or, or_self, and_true, true_and, and_false, false_and, and_self, not_true_eq_false, not_false_eq_true, ne_eq, Bool.false_eq_true, Bool.true_eq_false, decide_true, decide_false, w32_id, LD, ob]
        by_cases v0 : w = 0
        · simp only [v0, Nat.reduceAdd, reduceIte, Int.reduceEq, Int.reduceLT, Int.reduceLE, Int.reduceNeg, Int.reduceAdd, Int.reduceSub, Int.reduceMul, Int.reduceNe, or_true, true_or, or_false, false_or, or_self, and_true, true_and, and_false, false_and, and_self, not_true_eq_false, not_false_eq_true, ne_eq, Bool.false_eq_true, Bool.true_eq_false, decide_true, decide_false, Int.add_zero, y1]
        · by_cases v1 : w = 1
          · simp only [v1, Nat.reduceAdd, reduceIte, Int.reduceEq, Int.reduceLT, Int.reduceLE, Int.reduceNeg, Int.reduceAdd, Int.reduceSub, Int.reduceMul, Int.reduceNe, or_true, true_or, or_false, false_or, or_self, and_true, true_and, and_false, false_and, and_self, not_true_eq_false, not_false_eq_true, ne_eq, Bool.false_eq_true, Bool.true_eq_false, decide_true, decide_false, y2]
          · by_cases v2 : w = 2
            · simp only [v2, Nat.reduceAdd, reduceIte, Int.reduceEq, Int.reduceLT, Int.reduceLE, Int.reduceNeg, Int.reduceAdd, Int.reduceSub, Int.reduceMul, Int.reduceNe, or_true, true_or, or_false, false_or, or_self, and_true, true_and, and_false, false_and, and_self, not_true_eq_false, not_false_eq_true, ne_eq, Bool.false_eq_true, Bool.true_eq_false, decide_true, decide_false, y3]
            · have v3 : w = 3 := by omega
              simp only [v3, Nat.reduceAdd, reduceIte, Int.reduceEq, Int.reduceLT, Int.reduceLE, Int.reduceNeg, Int.reduceAdd, Int.reduceSub, Int.reduceMul, Int.reduceNe, or_true, true_or, or_false, false_or, or_self, and_true, true_and, and_false, false_and, and_self, not_true_eq_false, not_false_eq_true, ne_eq, Bool.false_eq_true, Bool.true_eq_false, decide_true, decide_false, y4]
      · have v0 : ¬ w = 0 := by omega
        have v1 : ¬ w = 1 := by omega
        have v2 : ¬ w = 2 := by omega
        have v3 : ¬ w = 3 := by omega
        simp only [hw, v0, v1, v2, v3, Nat.reduceAdd, reduceIte, Int.reduceEq, Int.reduceLT, Int.reduceLE, Int.reduceNeg, Int.reduceAdd, Int.reduceSub, Int.reduceMul, Int.reduceNe, or_true, true_or, or_false, false_or, or_self, and_true, true_and, and_false, false_and, and_self, not_true_eq_false, not_false_eq_true, ne_eq, Bool.false_eq_true, Bool.true_eq_false, decide_true, decide_false, ob]
  · refine ⟨-1, M, r, ?_, ?_, kr⟩
    · unfold fX11_clause
      rw [b1]
      by_cases hk0 : k < 0
      · rw [if_pos hk0]
      · rw [if_neg hk0, if_neg (by omega)]
    · unfold fX12_clause
      rw [pI_ok, ob, e, ob, s_X12_within, ob, g1, w32_id (by omega) (by omega)]
      have e1 : ¬ (0 ≤ k ∧ k ≤ S 0 0 - 1) := by omega
      simp only [e1, Nat.reduceAdd, reduceIte, Int.reduceEq, Int.reduceLT, Int.reduceLE, Int.reduceNeg, Int.reduceAdd, Int.reduceSub, Int.reduceMul, Int.reduceNe, or_true, true_or, or_false, false_or, or_self, and_true, true_and, and_false, false_and, and_self, not_true_eq_false, not_false_eq_true, ne_eq, Bool.false_eq_true, Bool.true_eq_false, decide_true, decide_false, ob]
