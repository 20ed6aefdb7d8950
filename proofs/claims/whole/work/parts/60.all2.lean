def BelP (D : Mem) (F sh : Int → Int) (nS w v : Int) : Prop := if w = 0 then tb (D 0 1) v = true else if w = 1 then D 3 v = 1 else if w = 2 then D 7 v = D 8 v else if w = 3 then (F v = 0 ∧ -512 ≤ D 7 v ∧ D 8 v ≤ 511) else if w = 4 then F v = 1 else if w = 5 then (∃ i, 0 ≤ i ∧ i < nS ∧ sh i = v) else if w = 6 then D 1 v = 7 else False
set_option maxHeartbeats 4000000 in
set_option maxRecDepth 20000 in
theorem s_X9_isShown {M : Mem} {nS v : Int} (hs : M 44 5 = nS) (h0 : 0 ≤ nS) (h8 : nS ≤ 8) : ((∃ i, 0 ≤ i ∧ i < nS ∧ M 49 i = v) → fX9_isShown v M = some (1, M)) ∧ ((¬ ∃ i, 0 ≤ i ∧ i < nS ∧ M 49 i = v) → fX9_isShown v M = some (0, M)) := by
  unfold fX9_isShown
  constructor
  · rintro ⟨i, i0, i1, e⟩
    have key : ∃ r, lp (fX9_isShown_b1 M v) 0 = some r ∧ r = .inr (1, M) := by
      refine lp_ind (fun s : Int => 0 ≤ s ∧ s ≤ i) (fun r : Unit ⊕ (Int × Mem) => r = .inr (1, M)) (fun s => (i - s).toNat) ?_ _ ⟨Int.le_refl _, i0⟩
      rintro s ⟨s0, s1⟩
      unfold fX9_isShown_b1
      simp (disch := omega) only [hs, LD, ob]
      rw [if_neg (by omega)]
      by_cases e1 : M 49 s = v
      · rw [if_pos e1]
        exact Or.inr ⟨_, rfl, rfl⟩
      · rw [if_neg e1]
        have : s ≠ i := fun z => e1 (by rw [z]; exact e)
        simp (disch := omega) only [w32_id]
        exact Or.inl ⟨_, rfl, ⟨by omega, by omega⟩, by omega⟩
    obtain ⟨r, e, rfl⟩ := key
    rw [e]; rfl
  · intro hn
    have key : ∃ r, lp (fX9_isShown_b1 M v) 0 = some r ∧ r = .inl () := by
      refine lp_ind (fun s : Int => 0 ≤ s ∧ s ≤ nS) (fun r : Unit ⊕ (Int × Mem) => r = .inl ()) (fun s => (nS - s).toNat) ?_ _ ⟨Int.le_refl _, h0⟩
      rintro s ⟨s0, s1⟩
      unfold fX9_isShown_b1
      simp (disch := omega) only [hs]
      by_cases e0 : nS ≤ s
      · rw [if_pos e0]
        exact Or.inr ⟨_, rfl, rfl⟩
      · rw [if_neg e0]
        simp (disch := omega) only [LD, ob]
        rw [if_neg (fun z => hn ⟨s, s0, by omega, z⟩)]
        simp (disch := omega) only [w32_id]
        exact Or.inl ⟨_, rfl, ⟨by omega, by omega⟩, by omega⟩
    obtain ⟨r, e, rfl⟩ := key
    rw [e]; rfl
set_option maxHeartbeats 4000000 in
set_option maxRecDepth 20000 in
theorem s_X11_belongs {M : Mem} {t : Nat} {n nI nS : Int} {D : Mem} (h : InvQ M t n nI nS) (c : Cch M t n nS D) (v w : Int) (v0 : 0 ≤ v) (v1 : v < n) : ∃ b, fX11_belongs v w M = some (b, M) ∧ (b = 0 ∨ b = 1) ∧ (b = 1 ↔ BelP D (M 47) (M 49) nS w v) := by
  obtain ⟨a1, a2, a3, a4, a5, a6, a7, a8, -⟩ := id h
  have n1 := a4.2.1
  have d0 := c.1.1
  have cx := c.2.2.1.1 v v0 (by omega)
  have cv := c.2.1
  unfold CV at cv
  simp only [Nat.reduceAdd] at cx cv
  obtain ⟨y1, y2, y3, -⟩ := cv.2.2.2 v v0 (by omega)
  have hF := F_01 a4 v0 v1
  have hU := U_01 h v0 v1
  unfold fX11_belongs BelP
  by_cases w0 : w = 0
  · simp (disch := omega) only [w0, Nat.reduceAdd, reduceIte, Int.reduceEq, Int.reduceLT, Int.reduceLE, Int.reduceNeg, Int.reduceAdd, Int.reduceSub, Int.reduceMul, Int.reduceNe, or_true, true_or, or_false, false_or, or_self, and_true, true_and, and_false, false_and, and_self, not_true_eq_false, not_false_eq_true, ne_eq, Bool.false_eq_true, Bool.true_eq_false, decide_true, decide_false, s_X5_isNeeded, ob, Nat.reduceAdd, cv.2.1]
    by_cases e : tb (D 0 1) v = true
    · exact ⟨1, by simp only [e, Nat.reduceAdd, reduceIte, Int.reduceEq, Int.reduceLT, Int.reduceLE, Int.reduceNeg, Int.reduceAdd, Int.reduceSub, Int.reduceMul, Int.reduceNe, or_true, true_or, or_false, false_or, or_self, and_true, true_and, and_false, false_and, and_self, not_true_eq_false, not_false_eq_true, ne_eq, Bool.false_eq_true, Bool.true_eq_false, decide_true, decide_false, rz1], Or.inr rfl, by simp only [e]⟩
    · exact ⟨0, by simp only [e, Nat.reduceAdd, reduceIte, Int.reduceEq, Int.reduceLT, Int.reduceLE, Int.reduceNeg, Int.reduceAdd, Int.reduceSub, Int.reduceMul, Int.reduceNe, or_true, true_or, or_false, false_or, or_self, and_true, true_and, and_false, false_and, and_self, not_true_eq_false, not_false_eq_true, ne_eq, Bool.false_eq_true, Bool.true_eq_false, decide_true, decide_false, rz0], Or.inl rfl, by simp only [e, Nat.reduceAdd, reduceIte, Int.reduceEq, Int.reduceLT, Int.reduceLE, Int.reduceNeg, Int.reduceAdd, Int.reduceSub, Int.reduceMul, Int.reduceNe, or_true, true_or, or_false, false_or, or_self, and_true, true_and, and_false, false_and, and_self, not_true_eq_false, not_false_eq_true, ne_eq, Bool.false_eq_true, Bool.true_eq_false, decide_true, decide_false]⟩
  · by_cases w1 : w = 1
    · simp (disch := omega) only [w1, Nat.reduceAdd, reduceIte, Int.reduceEq, Int.reduceLT, Int.reduceLE, Int.reduceNeg, Int.reduceAdd, Int.reduceSub, Int.reduceMul, Int.reduceNe, or_true, true_or, or_false, false_or, or_self, and_true, true_and, and_false, false_and, and_self, not_true_eq_false, not_false_eq_true, ne_eq, Bool.false_eq_true, Bool.true_eq_false, decide_true, decide_false, LD, ob]
      exact ⟨M 48 v, rz_ok hU, hU, by rw [y3]⟩
    · by_cases w2 : w = 2
      · simp (disch := omega) only [w2, Nat.reduceAdd, reduceIte, Int.reduceEq, Int.reduceLT, Int.reduceLE, Int.reduceNeg, Int.reduceAdd, Int.reduceSub, Int.reduceMul, Int.reduceNe, or_true, true_or, or_false, false_or, or_self, and_true, true_and, and_false, false_and, and_self, not_true_eq_false, not_false_eq_true, ne_eq, Bool.false_eq_true, Bool.true_eq_false, decide_true, decide_false, s_X2_isKnown (Or.inl rfl : (62 : Nat) = 62 ∨ (62 : Nat) = 88), ob, cx.1, cx.2.1]
        by_cases e : D 7 v = D 8 v
        · exact ⟨1, by simp only [e, Nat.reduceAdd, reduceIte, Int.reduceEq, Int.reduceLT, Int.reduceLE, Int.reduceNeg, Int.reduceAdd, Int.reduceSub, Int.reduceMul, Int.reduceNe, or_true, true_or, or_false, false_or, or_self, and_true, true_and, and_false, false_and, and_self, not_true_eq_false, not_false_eq_true, ne_eq, Bool.false_eq_true, Bool.true_eq_false, decide_true, decide_false, rz1], Or.inr rfl, by simp only [e]⟩
        · exact ⟨0, by simp only [e, Nat.reduceAdd, reduceIte, Int.reduceEq, Int.reduceLT, Int.reduceLE, Int.reduceNeg, Int.reduceAdd, Int.reduceSub, Int.reduceMul, Int.reduceNe, or_true, true_or, or_false, false_or, or_self, and_true, true_and, and_false, false_and, and_self, not_true_eq_false, not_false_eq_true, ne_eq, Bool.false_eq_true, Bool.true_eq_false, decide_true, decide_false, rz0], Or.inl rfl, by simp only [e, Nat.reduceAdd, reduceIte, Int.reduceEq, Int.reduceLT, Int.reduceLE, Int.reduceNeg, Int.reduceAdd, Int.reduceSub, Int.reduceMul, Int.reduceNe, or_true, true_or, or_false, false_or, or_self, and_true, true_and, and_false, false_and, and_self, not_true_eq_false, not_false_eq_true, ne_eq, Bool.false_eq_true, Bool.true_eq_false, decide_true, decide_false]⟩
      · by_cases w3 : w = 3
        · simp (disch := omega) only [w3, Nat.reduceAdd, reduceIte, Int.reduceEq, Int.reduceLT, Int.reduceLE, Int.reduceNeg, Int.reduceAdd, Int.reduceSub, Int.reduceMul, Int.reduceNe, or_true, true_or, or_false, false_or, or_self, and_true, true_and, and_false, false_and, and_self, not_true_eq_false, not_false_eq_true, ne_eq, Bool.false_eq_true, Bool.true_eq_false, decide_true, decide_false, s_X2_isLow (Or.inl rfl : (62 : Nat) = 62 ∨ (62 : Nat) = 88), ob, cx.1, cx.2.1]
          by_cases e : M 47 v = 0 ∧ -512 ≤ D 7 v ∧ D 8 v ≤ 511
          · exact ⟨1, by simp only [e, Nat.reduceAdd, reduceIte, Int.reduceEq, Int.reduceLT, Int.reduceLE, Int.reduceNeg, Int.reduceAdd, Int.reduceSub, Int.reduceMul, Int.reduceNe, or_true, true_or, or_false, false_or, or_self, and_true, true_and, and_false, false_and, and_self, not_true_eq_false, not_false_eq_true, ne_eq, Bool.false_eq_true, Bool.true_eq_false, decide_true, decide_false, rz1], Or.inr rfl, by simp only [e, Nat.reduceAdd, reduceIte, Int.reduceEq, Int.reduceLT, Int.reduceLE, Int.reduceNeg, Int.reduceAdd, Int.reduceSub, Int.reduceMul, Int.reduceNe, or_true, true_or, or_false, false_or, or_self, and_true, true_and, and_false, false_and, and_self, not_true_eq_false, not_false_eq_true, ne_eq, Bool.false_eq_true, Bool.true_eq_false, decide_true, decide_false]⟩
          · exact ⟨0, by simp only [e, Nat.reduceAdd, reduceIte, Int.reduceEq, Int.reduceLT, Int.reduceLE, Int.reduceNeg, Int.reduceAdd, Int.reduceSub, Int.reduceMul, Int.reduceNe, or_true, true_or, or_false, false_or, or_self, and_true, true_and, and_false, false_and, and_self, not_true_eq_false, not_false_eq_true, ne_eq, Bool.false_eq_true, Bool.true_eq_false, decide_true, decide_false, rz0], Or.inl rfl, by simp only [e, Nat.reduceAdd, reduceIte, Int.reduceEq, Int.reduceLT, Int.reduceLE, Int.reduceNeg, Int.reduceAdd, Int.reduceSub, Int.reduceMul, Int.reduceNe, or_true, true_or, or_false, false_or, or_self, and_true, true_and, and_false, false_and, and_self, not_true_eq_false, not_false_eq_true, ne_eq, Bool.false_eq_true, Bool.true_eq_false, decide_true, decide_false]⟩
        · by_cases w4 : w = 4
          · simp (disch := omega) only [w4, Nat.reduceAdd, reduceIte, Int.reduceEq, Int.reduceLT, Int.reduceLE, Int.reduceNeg, Int.reduceAdd, Int.reduceSub, Int.reduceMul, Int.reduceNe, or_true, true_or, or_false, false_or, or_self, and_true, true_and, and_false, false_and, and_self, not_true_eq_false, not_false_eq_true, ne_eq, Bool.false_eq_true, Bool.true_eq_false, decide_true, decide_false, LD, ob]
            exact ⟨M 47 v, rz_ok hF, hF, Iff.rfl⟩
          · by_cases w5 : w = 5
            · simp only [w5, Nat.reduceAdd, reduceIte, Int.reduceEq, Int.reduceLT, Int.reduceLE, Int.reduceNeg, Int.reduceAdd, Int.reduceSub, Int.reduceMul, Int.reduceNe, or_true, true_or, or_false, false_or, or_self, and_true, true_and, and_false, false_and, and_self, not_true_eq_false, not_false_eq_true, ne_eq, Bool.false_eq_true, Bool.true_eq_false, decide_true, decide_false]
              obtain ⟨q1, q2⟩ := s_X9_isShown (v := v) a6 a8.1 a8.2.1
              by_cases e : ∃ i, 0 ≤ i ∧ i < nS ∧ M 49 i = v
              · exact ⟨1, by rw [q1 e]; rfl, Or.inr rfl, ⟨fun _ => e, fun _ => rfl⟩⟩
              · exact ⟨0, by rw [q2 e]; rfl, Or.inl rfl, ⟨fun z => by omega, fun z => absurd z e⟩⟩
            · by_cases w6 : w = 6
              · simp (disch := omega) only [w6, Nat.reduceAdd, reduceIte, Int.reduceEq, Int.reduceLT, Int.reduceLE, Int.reduceNeg, Int.reduceAdd, Int.reduceSub, Int.reduceMul, Int.reduceNe, or_true, true_or, or_false, false_or, or_self, and_true, true_and, and_false, false_and, and_self, not_true_eq_false, not_false_eq_true, ne_eq, Bool.false_eq_true, Bool.true_eq_false, decide_true, decide_false, LD, ob, y1]
                by_cases e : D 1 v = 7
                · exact ⟨1, by simp only [e, Nat.reduceAdd, reduceIte, Int.reduceEq, Int.reduceLT, Int.reduceLE, Int.reduceNeg, Int.reduceAdd, Int.reduceSub, Int.reduceMul, Int.reduceNe, or_true, true_or, or_false, false_or, or_self, and_true, true_and, and_false, false_and, and_self, not_true_eq_false, not_false_eq_true, ne_eq, Bool.false_eq_true, Bool.true_eq_false, decide_true, decide_false, ob, rz1], Or.inr rfl, by simp only [e]⟩
                · exact ⟨0, by simp only [e, Nat.reduceAdd, reduceIte, Int.reduceEq, Int.reduceLT, Int.reduceLE, Int.reduceNeg, Int.reduceAdd, Int.reduceSub, Int.reduceMul, Int.reduceNe, or_true, true_or, or_false, false_or, or_self, and_true, true_and, and_false, false_and, and_self, not_true_eq_false, not_false_eq_true, ne_eq, Bool.false_eq_true, Bool.true_eq_false, decide_true, decide_false, ob, rz0], Or.inl rfl, by simp only [e, Nat.reduceAdd, reduceIte, Int.reduceEq, Int.reduceLT, Int.reduceLE, Int.reduceNeg, Int.reduceAdd, Int.reduceSub, Int.reduceMul, Int.reduceNe, or_true, true_or, or_false, false_or, or_self, and_true, true_and, and_false, false_and, and_self, not_true_eq_false, not_false_eq_true, ne_eq, Bool.false_eq_true, Bool.true_eq_false, decide_true, decide_false]⟩
              · simp only [w0, w1, w2, w3, w4, w5, w6, if_false]
                exact ⟨0, rfl, Or.inl rfl, ⟨fun z => by omega, fun z => z.elim⟩⟩
set_option maxHeartbeats 4000000 in
set_option maxRecDepth 20000 in
theorem s_X11_all {M : Mem} {t : Nat} {n nI nS : Int} {D : Mem} (h : InvQ M t n nI nS) (c : Cch M t n nS D) (w : Int) : ∃ x, fX11_all w M = some (x, M) ∧ i64 x ∧ ∀ y, 0 ≤ y → y < 64 → (tb x y = true ↔ y < n ∧ BelP D (M 47) (M 49) nS w y) := by
  have a3 := h.2.2.1
  have a4 := h.2.2.2.1
  have n0 := a4.1
  have n1 := a4.2.1
  have key : ∃ r, lp (fX11_all_b1 w) (0, 0, M) = some r ∧ (r.2 = M ∧ i64 r.1 ∧ ∀ y, 0 ≤ y → y < 64 → (tb r.1 y = true ↔ y < n ∧ BelP D (M 47) (M 49) nS w y)) := by
    refine lp_ind (fun s : Int × Int × Mem => 0 ≤ s.2.1 ∧ s.2.1 ≤ n ∧ s.2.2 = M ∧ i64 s.1 ∧ ∀ y, 0 ≤ y → y < 64 → (tb s.1 y = true ↔ y < s.2.1 ∧ BelP D (M 47) (M 49) nS w y)) (fun r : Int × Mem => r.2 = M ∧ i64 r.1 ∧ ∀ y, 0 ≤ y → y < 64 → (tb r.1 y = true ↔ y < n ∧ BelP D (M 47) (M 49) nS w y)) (fun s => (n - s.2.1).toNat) ?_ _ ?_
    · rintro ⟨x, v, m⟩ ⟨v0, v1, hm, ix, hx⟩
      dsimp only at v0 v1 hm ix hx
      subst hm
      unfold fX11_all_b1
      simp only [a3]
      by_cases hv : n ≤ v
      · rw [if_pos hv]
        have : v = n := by omega
        subst this
        exact Or.inr ⟨_, rfl, rfl, ix, hx⟩
      · rw [if_neg hv]
        obtain ⟨b, f, b01, bP⟩ := s_X11_belongs h c v w v0 (by omega)
        rw [f, ob]
        have st : ∀ y, (y < v + 1 ∧ BelP D (m 47) (m 49) nS w y) ↔ (y < v ∧ BelP D (m 47) (m 49) nS w y) ∨ (y = v ∧ b = 1) := fun y => by
          constructor
          · rintro ⟨z1, z2⟩
            by_cases e : y = v
            · subst e; exact Or.inr ⟨rfl, bP.mpr z2⟩
            · exact Or.inl ⟨by omega, z2⟩
          · rintro (⟨z1, z2⟩ | ⟨rfl, z⟩)
            · exact ⟨by omega, z2⟩
            · exact ⟨by omega, bP.mp z⟩
        rcases b01 with rfl | rfl
        · simp (disch := omega) only [Nat.reduceAdd, reduceIte, Int.reduceEq, Int.reduceLT, Int.reduceLE, Int.reduceNeg, Int.reduceAdd, Int.reduceSub, Int.reduceMul, Int.reduceNe, or_true, true_or, or_false, false_or, or_self, and_true, true_and, and_false, false_and, and_self, not_true_eq_false, not_false_eq_true, ne_eq, Bool.false_eq_true, Bool.true_eq_false, decide_true, decide_false, ob, w32_id]
          refine Or.inl ⟨_, rfl, ⟨by dsimp only; omega, by dsimp only; omega, rfl, ix, fun y y0 y1 => ?_⟩, by dsimp only; omega⟩
          dsimp only
          rw [st, hx y y0 y1]
          exact ⟨Or.inl, fun z => z.resolve_right (fun q => by omega)⟩
        · simp (disch := omega) only [Nat.reduceAdd, reduceIte, Int.reduceEq, Int.reduceLT, Int.reduceLE, Int.reduceNeg, Int.reduceAdd, Int.reduceSub, Int.reduceMul, Int.reduceNe, or_true, true_or, or_false, false_or, or_self, and_true, true_and, and_false, false_and, and_self, not_true_eq_false, not_false_eq_true, ne_eq, Bool.false_eq_true, Bool.true_eq_false, decide_true, decide_false, ob, w32_id]
          refine Or.inl ⟨_, rfl, ⟨by dsimp only; omega, by dsimp only; omega, rfl, i64_lor _ _, fun y y0 y1 => ?_⟩, by dsimp only; omega⟩
          dsimp only
          rw [st, tb_ins v0 (by omega) y0 y1, hx y y0 y1]
          exact ⟨fun z => z.imp id (fun q => ⟨q, rfl⟩), fun z => z.imp id (fun q => q.1)⟩
    · refine ⟨Int.le_refl _, n0, rfl, i64_0, fun y y0 y1 => ?_⟩
      dsimp only
      rw [tb_0]
      exact ⟨fun z => (by cases z), fun z => by omega⟩
  obtain ⟨⟨x, m⟩, e, rfl, ix, hx⟩ := key
  exact ⟨x, by unfold fX11_all; rw [e]; rfl, ix, hx⟩
