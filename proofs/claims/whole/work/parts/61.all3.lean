set_option maxHeartbeats 4000000 in
set_option maxRecDepth 20000 in
theorem s_X12_all_b1 {r D : Mem} {F sh : Int → Int} {nS w : Int} (hD : DW D) (md : MD r D) (mx : MX r D F) (hF : ∀ v, 0 ≤ v → v < D 0 0 → F v = 0 ∨ F v = 1) : ∃ x, lp (fX12_all_b1 w) (0, 0, r) = some (x, r) ∧ i64 x ∧ (w ≠ 0 → w ≠ 5 → ∀ y, 0 ≤ y → y < 64 → (tb x y = true ↔ y < D 0 0 ∧ BelP D F sh nS w y)) := by
  have n0 := hD.1
  have n1 := hD.2.1
  have key : ∃ q, lp (fX12_all_b1 w) (0, 0, r) = some q ∧ (q.2 = r ∧ i64 q.1 ∧ (w ≠ 0 → w ≠ 5 → ∀ y, 0 ≤ y → y < 64 → (tb q.1 y = true ↔ y < D 0 0 ∧ BelP D F sh nS w y))) := by
    refine lp_ind (fun s : Int × Int × Mem => 0 ≤ s.2.1 ∧ s.2.1 ≤ D 0 0 ∧ s.2.2 = r ∧ i64 s.1 ∧ (w ≠ 0 → w ≠ 5 → ∀ y, 0 ≤ y → y < 64 → (tb s.1 y = true ↔ y < s.2.1 ∧ BelP D F sh nS w y))) (fun q : Int × Mem => q.2 = r ∧ i64 q.1 ∧ (w ≠ 0 → w ≠ 5 → ∀ y, 0 ≤ y → y < 64 → (tb q.1 y = true ↔ y < D 0 0 ∧ BelP D F sh nS w y))) (fun s => (D 0 0 - s.2.1).toNat) ?_ _ ?_
    · rintro ⟨x, v, m⟩ ⟨v0, v1, hm, ix, hx⟩
      dsimp only at v0 v1 hm ix hx
      subst hm
      unfold fX12_all_b1
      simp only [s_X12_values, ob, md.1]
      by_cases hv : D 0 0 ≤ v
      · rw [if_pos hv]
        have : v = D 0 0 := by omega
        rw [this] at hx
        exact Or.inr ⟨_, rfl, rfl, ix, hx⟩
      · rw [if_neg hv]
        have hv1 : v < D 0 0 := by omega
        obtain ⟨z1, z2, z3, z4⟩ := mx v v0 hv1
        have y3 := (md.2.2.2.2.2 v v0 hv1).2.2.1
        have hU := (hD.2.2.2.2.2.2.2.2 v v0 hv1).2.2.1
        have hFv := hF v v0 hv1
        have hb : ∃ b, ((if w = 1 then (ldZ m 156 v).bind fun v9 => some (v9, m) else if w = 2 then (fX12_isKnown v m).bind fun q8 => some (q8.1, q8.2) else if w = 3 then (fX12_isLow v m).bind fun q7 => some (q7.1, q7.2) else if w = 4 then (ldZ m 155 v).bind fun v6 => some (v6, m) else if w = 6 then (fX12_howOf v m).bind fun q5 => if q5.1 = 7 then some (1, q5.2) else some (0, q5.2) else some (0, m) : Option (Int × Mem))) = some (b, m) ∧ (b = 0 ∨ b = 1) ∧ (w ≠ 0 → w ≠ 5 → (b = 1 ↔ BelP D F sh nS w v)) := by
          unfold BelP
          by_cases w1 : w = 1
          · simp (disch := omega) only [w1, Nat.reduceAdd, reduceIte, Int.reduceEq, Int.reduceLT, Int.reduceLE, Int.reduceNeg, Int.reduceAdd, Int.reduceSub, Int.reduceMul, Int.reduceNe, or_true, true_or, or_false, false_or, or_self, and_true, true_and, and_false, false_and, and_self, not_true_eq_false, not_false_eq_true, ne_eq, Bool.false_eq_true, Bool.true_eq_false, decide_true, decide_false, LD, ob, y3]
            exact ⟨D 3 v, rfl, hU, fun _ _ => Iff.rfl⟩
          · by_cases w2 : w = 2
            · simp (disch := omega) only [w2, Nat.reduceAdd, reduceIte, Int.reduceEq, Int.reduceLT, Int.reduceLE, Int.reduceNeg, Int.reduceAdd, Int.reduceSub, Int.reduceMul, Int.reduceNe, or_true, true_or, or_false, false_or, or_self, and_true, true_and, and_false, false_and, and_self, not_true_eq_false, not_false_eq_true, ne_eq, Bool.false_eq_true, Bool.true_eq_false, decide_true, decide_false, s_X12_isKnown, ob, z1, z2]
              by_cases e : D 7 v = D 8 v
              · exact ⟨1, by simp only [e, Nat.reduceAdd, reduceIte, Int.reduceEq, Int.reduceLT, Int.reduceLE, Int.reduceNeg, Int.reduceAdd, Int.reduceSub, Int.reduceMul, Int.reduceNe, or_true, true_or, or_false, false_or, or_self, and_true, true_and, and_false, false_and, and_self, not_true_eq_false, not_false_eq_true, ne_eq, Bool.false_eq_true, Bool.true_eq_false, decide_true, decide_false], Or.inr rfl, fun _ _ => by simp only [e]⟩
              · exact ⟨0, by simp only [e, Nat.reduceAdd, reduceIte, Int.reduceEq, Int.reduceLT, Int.reduceLE, Int.reduceNeg, Int.reduceAdd, Int.reduceSub, Int.reduceMul, Int.reduceNe, or_true, true_or, or_false, false_or, or_self, and_true, true_and, and_false, false_and, and_self, not_true_eq_false, not_false_eq_true, ne_eq, Bool.false_eq_true, Bool.true_eq_false, decide_true, decide_false], Or.inl rfl, fun _ _ => by simp only [e, Nat.reduceAdd, reduceIte, Int.reduceEq, Int.reduceLT, Int.reduceLE, Int.reduceNeg, Int.reduceAdd, Int.reduceSub, Int.reduceMul, Int.reduceNe, or_true, true_or, or_false, false_or, or_self, and_true, true_and, and_false, false_and, and_self, not_true_eq_false, not_false_eq_true, ne_eq, Bool.false_eq_true, Bool.true_eq_false, decide_true, decide_false]⟩
            · by_cases w3 : w = 3
              · simp (disch := omega) only [w3, Nat.reduceAdd, reduceIte, Int.reduceEq, Int.reduceLT, Int.reduceLE, Int.reduceNeg, Int.reduceAdd, Int.reduceSub, Int.reduceMul, Int.reduceNe, or_true, true_or, or_false, false_or, or_self, and_true, true_and, and_false, false_and, and_self, not_true_eq_false, not_false_eq_true, ne_eq, Bool.false_eq_true, Bool.true_eq_false, decide_true, decide_false, s_X12_isLow, ob, z1, z2, z3]
                by_cases e : F v = 0 ∧ -512 ≤ D 7 v ∧ D 8 v ≤ 511
                · exact ⟨1, by simp only [e, Nat.reduceAdd, reduceIte, Int.reduceEq, Int.reduceLT, Int.reduceLE, Int.reduceNeg, Int.reduceAdd, Int.reduceSub, Int.reduceMul, Int.reduceNe, or_true, true_or, or_false, false_or, or_self, and_true, true_and, and_false, false_and, and_self, not_true_eq_false, not_false_eq_true, ne_eq, Bool.false_eq_true, Bool.true_eq_false, decide_true, decide_false], Or.inr rfl, fun _ _ => by simp only [e, Nat.reduceAdd, reduceIte, Int.reduceEq, Int.reduceLT, Int.reduceLE, Int.reduceNeg, Int.reduceAdd, Int.reduceSub, Int.reduceMul, Int.reduceNe, or_true, true_or, or_false, false_or, or_self, and_true, true_and, and_false, false_and, and_self, not_true_eq_false, not_false_eq_true, ne_eq, Bool.false_eq_true, Bool.true_eq_false, decide_true, decide_false]⟩
                · exact ⟨0, by simp only [e, Nat.reduceAdd, reduceIte, Int.reduceEq, Int.reduceLT, Int.reduceLE, Int.reduceNeg, Int.reduceAdd, Int.reduceSub, Int.reduceMul, Int.reduceNe, or_true, true_or, or_false, false_or, or_self, and_true, true_and, and_false, false_and, and_self, not_true_eq_false, not_false_eq_true, ne_eq, Bool.false_eq_true, Bool.true_eq_false, decide_true, decide_false], Or.inl rfl, fun _ _ => by simp only [e, Nat.reduceAdd, reduceIte, Int.reduceEq, Int.reduceLT, Int.reduceLE, Int.reduceNeg, Int.reduceAdd, Int.reduceSub, Int.reduceMul, Int.reduceNe, or_true, true_or, or_false, false_or, or_self, and_true, true_and, and_false, false_and, and_self, not_true_eq_false, not_false_eq_true, ne_eq, Bool.false_eq_true, Bool.true_eq_false, decide_true, decide_false]⟩
              · by_cases w4 : w = 4
                · simp (disch := omega) only [w4, Nat.reduceAdd, reduceIte, Int.reduceEq, Int.reduceLT, Int.reduceLE, Int.reduceNeg, Int.reduceAdd, Int.reduceSub, Int.reduceMul, Int.reduceNe, or_true, true_or, or_false, false_or, or_self, and_true, true_and, and_false, false_and, and_self, not_true_eq_false, not_false_eq_true, ne_eq, Bool.false_eq_true, Bool.true_eq_false, decide_true, decide_false, LD, ob, z3]
                  exact ⟨F v, rfl, hFv, fun _ _ => Iff.rfl⟩
                · by_cases w6 : w = 6
                  · simp (disch := omega) only [w6, Nat.reduceAdd, reduceIte, Int.reduceEq, Int.reduceLT, Int.reduceLE, Int.reduceNeg, Int.reduceAdd, Int.reduceSub, Int.reduceMul, Int.reduceNe, or_true, true_or, or_false, false_or, or_self, and_true, true_and, and_false, false_and, and_self, not_true_eq_false, not_false_eq_true, ne_eq, Bool.false_eq_true, Bool.true_eq_false, decide_true, decide_false, s_X12_how hD md v0 hv1, ob]
                    by_cases e : D 1 v = 7
                    · exact ⟨1, by simp only [e, Nat.reduceAdd, reduceIte, Int.reduceEq, Int.reduceLT, Int.reduceLE, Int.reduceNeg, Int.reduceAdd, Int.reduceSub, Int.reduceMul, Int.reduceNe, or_true, true_or, or_false, false_or, or_self, and_true, true_and, and_false, false_and, and_self, not_true_eq_false, not_false_eq_true, ne_eq, Bool.false_eq_true, Bool.true_eq_false, decide_true, decide_false], Or.inr rfl, fun _ _ => by simp only [e]⟩
                    · exact ⟨0, by simp only [e, Nat.reduceAdd, reduceIte, Int.reduceEq, Int.reduceLT, Int.reduceLE, Int.reduceNeg, Int.reduceAdd, Int.reduceSub, Int.reduceMul, Int.reduceNe, or_true, true_or, or_false, false_or, or_self, and_true, true_and, and_false, false_and, and_self, not_true_eq_false, not_false_eq_true, ne_eq, Bool.false_eq_true, Bool.true_eq_false, decide_true, decide_false], Or.inl rfl, fun _ _ => by simp only [e, Nat.reduceAdd, reduceIte, Int.reduceEq, Int.reduceLT, Int.reduceLE, Int.reduceNeg, Int.reduceAdd, Int.reduceSub, Int.reduceMul, Int.reduceNe, or_true, true_or, or_false, false_or, or_self, and_true, true_and, and_false, false_and, and_self, not_true_eq_false, not_false_eq_true, ne_eq, Bool.false_eq_true, Bool.true_eq_false, decide_true, decide_false]⟩
                  · simp only [w1, w2, w3, w4, w6, if_false]
                    refine ⟨0, rfl, Or.inl rfl, fun w0 w5 => ?_⟩
                    rw [if_neg w0, if_neg w5]
                    exact ⟨fun z => by omega, fun z => z.elim⟩
        obtain ⟨b, fb, b01, bP⟩ := hb
        rw [fb, ob]
        have hq : ((if b = 0 then some 0 else some (lshl 1 v) : Option Int)) = some (if b = 0 then 0 else lshl 1 v) := by split <;> rfl
        simp (disch := omega) only [hq, ob, w32_id]
        refine Or.inl ⟨_, rfl, ⟨by dsimp only; omega, by dsimp only; omega, rfl, i64_lor _ _, fun w0 w5 y y0 y1 => ?_⟩, by dsimp only; omega⟩
        dsimp only
        have bq := bP w0 w5
        rw [tb_lor, Bool.or_eq_true, hx w0 w5 y y0 y1]
        have hbit : tb (if b = 0 then 0 else lshl 1 v) y = true ↔ y = v ∧ b = 1 := by
          rcases b01 with rfl | rfl
          · rw [if_pos rfl, tb_0]; exact ⟨fun z => (by cases z), fun z => by omega⟩
          · rw [if_neg (by decide), tb_shl1 v0 (by omega) y0 y1, decide_eq_true_eq]; exact ⟨fun z => ⟨z, rfl⟩, fun z => z.1⟩
        rw [hbit]
        constructor
        · rintro (⟨q1, q2⟩ | ⟨rfl, q⟩)
          · exact ⟨by omega, q2⟩
          · exact ⟨by omega, bq.mp q⟩
        · rintro ⟨q1, q2⟩
          by_cases e : y = v
          · subst e; exact Or.inr ⟨rfl, bq.mpr q2⟩
          · exact Or.inl ⟨by omega, q2⟩
    · refine ⟨Int.le_refl _, n0, rfl, i64_0, fun _ _ y y0 y1 => ?_⟩
      dsimp only
      rw [tb_0]
      exact ⟨fun z => (by cases z), fun z => by omega⟩
  obtain ⟨⟨x, m⟩, e, hm, ix, hx⟩ := key
  dsimp only at hm ix hx
  subst hm
  exact ⟨x, e, ix, hx⟩
set_option maxHeartbeats 4000000 in
set_option maxRecDepth 20000 in
theorem q_all {M : Mem} {t : Nat} {n nI nS : Int} {D : Mem} (h : InvQ M t n nI nS) (c : Cch M t n nS D) (w : Int) : Ans (fX11_all w) (fX12_all w) M := by
  obtain ⟨a1, a2, a3, a4, a5, a6, a7, a8, -⟩ := id h
  have hD := Cch_DW h c
  have n1 := hD.2.1
  have d0 := c.1.1
  obtain ⟨x, fx, ix, hx⟩ := s_X11_all h c w
  obtain ⟨r, f, kr, md, mx⟩ := m_all0 h c (Kp_th M 0)
  obtain ⟨y, fy, iy, hy⟩ := s_X12_all_b1 (sh := M 49) (nS := nS) (w := w) hD md mx (fun v a b => F_01 a4 a (by omega))
  refine ⟨x, M, r, fx, ?_, kr⟩
  unfold fX12_all
  rw [pI_ok, ob, f, ob, fy, ob]
  by_cases w0 : w = 0
  · rw [if_pos w0, ob]
    dsimp only
    rw [md.2.1]
    congr 2
    apply bits_eq hD.2.2.1 ix
    intro i i0 i1
    rw [hx i i0 i1]
    unfold BelP
    rw [if_pos w0]
    exact ⟨fun z => ⟨by have := hD.2.2.2.2.1 i i0 i1 z; omega, z⟩, fun z => z.2⟩
  · rw [if_neg w0]
    by_cases w5 : w = 5
    · obtain ⟨s, fs, is, hs⟩ := s_X12_shownSet (M := r) (n := n) (only := -1) (MS_fr a7 (kr.1 138 (by unfold scr; omega))) (by omega) a8 (by omega)
      rw [if_pos w5]
      dsimp only
      rw [fs, ob, ob]
      congr 2
      apply bits_eq is ix
      intro i i0 i1
      rw [hx i i0 i1, hs i i0 i1]
      unfold BelP
      simp only [w5, Nat.reduceAdd, reduceIte, Int.reduceEq, Int.reduceLT, Int.reduceLE, Int.reduceNeg, Int.reduceAdd, Int.reduceSub, Int.reduceMul, Int.reduceNe, or_true, true_or, or_false, false_or, or_self, and_true, true_and, and_false, false_and, and_self, not_true_eq_false, not_false_eq_true, ne_eq, Bool.false_eq_true, Bool.true_eq_false, decide_true, decide_false]
      constructor
      · rintro ⟨k, k0, k1, e⟩
        have := a8.2.2 k k0 k1
        exact ⟨by omega, k, k0, k1, e⟩
      · rintro ⟨-, k, k0, k1, e⟩
        exact ⟨k, k0, k1, e⟩
    · rw [if_neg w5, ob]
      congr 2
      apply bits_eq iy ix
      intro i i0 i1
      rw [hx i i0 i1, hy w0 w5 i i0 i1, d0]
