/-! THE CLASS'S ORDER -/
def CV (g : Nat) (M D : Mem) : Prop := M 44 0 = D 0 0 ∧ M (g + 4) 3 = D 0 1 ∧ M (g + 4) 4 = D 0 2 ∧ ∀ v, 0 ≤ v → v < D 0 0 → M 45 v = D 1 v ∧ M (g + 3) v = D 2 v ∧ M 48 v = D 3 v ∧ M (g + 8) v = D 4 v ∧ M (g + 9) v = D 5 v ∧ M (g + 12) v = D 6 v ∧ SrcR (M (g + 8)) (M (g + 6)) (M (g + 7)) v
theorem CV_fr {g : Nat} {M M' D : Mem} (hg : g = 62 ∨ g = 88) (h : CV g M D) (e : ∀ b, b < g + 13 ∨ g + 25 < b → M' b = M b) : CV g M' D := by
  unfold CV
  rw [e 44 (by omega), e 45 (by omega), e 48 (by omega), e (g + 3) (by omega), e (g + 4) (by omega), e (g + 6) (by omega), e (g + 7) (by omega), e (g + 8) (by omega), e (g + 9) (by omega), e (g + 12) (by omega)]
  exact h
theorem s_X5_isNeeded {g : Nat} {M : Mem} {v : Int} (h0 : 0 ≤ v) (h1 : v < 64) : fX5_isNeeded g v M = some (if tb (M (g + 4) 3) v = true then 1 else 0, M) := by
  unfold fX5_isNeeded
  simp (disch := omega) only [hasU0, obi, ob]
  cases tb (M (g + 4) 3) v <;> simp [rz0, rz1]
theorem s_X5_isKept {g : Nat} {M : Mem} {v : Int} (h0 : 0 ≤ v) (h1 : v < 64) : fX5_isKept g v M = some (if tb (M (g + 4) 4) v = true then 1 else 0, M) := by
  unfold fX5_isKept
  simp (disch := omega) only [hasU0, obi, ob]
  cases tb (M (g + 4) 4) v <;> simp [rz0, rz1]
set_option maxHeartbeats 4000000 in
set_option maxRecDepth 20000 in
theorem s_X7_growth {g : Nat} {M D : Mem} {v pl : Int} (hg : g = 62 ∨ g = 88) (hD : DW D) (hC : CV g M D) (h0 : 0 ≤ v) (h1 : v < D 0 0) : fX7_growth g v pl M = some (gr D pl v, M) := by
  obtain ⟨c1, c2, c3, c4⟩ := hC
  obtain ⟨d1, d2, d3, d4, d5, d6, r1, r2, r3, r4, r5⟩ := c4 v h0 h1
  have n1 := hD.2.1
  unfold fX7_growth
  simp (disch := omega) only [ob, LGd hg, d2]
  have hrow : sm (fun s => if tb (D 4 v) s = true then gx D pl v s else 0) v.toNat = sm (fun j => gx D pl v (M (g + 6) (3 * v + j))) (M (g + 7) v).toNat := by
    refine sm_row (row := fun j => M (g + 6) (3 * v + j)) (P := fun s => tb (D 4 v) s = true) r1 (fun j a b => ?_) (fun s a b z => ?_) (fun i j a b c => r5 i j a b c)
    · have := r3 j a b
      rw [d4] at this
      exact ⟨this.1, by omega, this.2.2⟩
    · exact r4 s a (by omega) (by rw [d4]; exact z)
  have hgx : ∀ j, 0 ≤ j → j < M (g + 7) v → 0 ≤ gx D pl v (M (g + 6) (3 * v + j)) ∧ gx D pl v (M (g + 6) (3 * v + j)) ≤ 2 := fun j a b => by
    have q := r3 j a b
    have := (hD.2.2.2.2.2.2.2.2 (M (g + 6) (3 * v + j)) q.1 (by omega)).2.1
    unfold gx
    split <;> omega
  have hsb : ∀ k : Int, 0 ≤ k → k ≤ M (g + 7) v → 0 ≤ sm (fun j => gx D pl v (M (g + 6) (3 * v + j))) k.toNat ∧ sm (fun j => gx D pl v (M (g + 6) (3 * v + j))) k.toNat ≤ 2 * k := fun k a b => by
    have := sm_bd (f := fun j => gx D pl v (M (g + 6) (3 * v + j))) (c := 2) (k := k.toNat) (fun i i0 i1 => hgx i i0 (by omega))
    omega
  have hW := (hD.2.2.2.2.2.2.2.2 v h0 h1).2.1
  suffices h : ∃ r, lp (fX7_growth_b1 g v (lor pl (lshl 1 v))) (D 2 v, 0, M) = some r ∧ r = (gr D pl v, M) by
    obtain ⟨r, e, rfl⟩ := h
    rw [e]; rfl
  refine lp_ind (fun s : Int × Int × Mem => 0 ≤ s.2.1 ∧ s.2.1 ≤ M (g + 7) v ∧ s.2.2 = M ∧ s.1 = D 2 v - sm (fun j => gx D pl v (M (g + 6) (3 * v + j))) s.2.1.toNat) (fun r => r = (gr D pl v, M)) (fun s => (M (g + 7) v - s.2.1).toNat) ?_ _ ?_
  · rintro ⟨x, k, m⟩ ⟨k0, k1, hm, hx⟩
    dsimp only at k0 k1 hm hx
    subst hm
    unfold fX7_growth_b1
    simp (disch := omega) only [LGd hg, ob]
    by_cases hk : m (g + 7) v ≤ k
    · have : k = m (g + 7) v := by omega
      rw [if_pos hk]
      refine Or.inr ⟨_, rfl, ?_⟩
      unfold gr
      rw [hrow, hx, this]
    · rw [if_neg hk]
      have q := r3 k k0 (by omega)
      have hb1 := hsb k k0 (by omega)
      have hb2 := hsb (k + 1) (by omega) (by omega)
      have hss := sm_s (f := fun j => gx D pl v (m (g + 6) (3 * v + j))) k0
      have hg1 := hgx k k0 (by omega)
      refine Or.inl ⟨(x - gx D pl v (m (g + 6) (3 * v + k)), k + 1, m), ?_, ⟨by dsimp only; omega, by dsimp only; omega, rfl, by dsimp only; rw [hss, hx]; omega⟩, by dsimp only; omega⟩
      generalize hs : m (g + 6) (3 * v + k) = s at *
      obtain ⟨-, s2, -, -, s5, -⟩ := c4 s q.1 (by omega)
      simp (disch := omega) only [w32_id, LGd hg, ob, hs, s5, s_X5_isKept, c3]
      unfold gx at hg1 hss ⊢
      by_cases e1 : lc (land (D 5 s) (lxor (lor pl (lshl 1 v)) (-1))) 0 = 0
      · by_cases e2 : tb (D 0 2) s = false
        · rw [if_pos ⟨e2, e1⟩] at hg1 hss
          simp (disch := omega) only [Nat.reduceAdd, reduceIte, Int.reduceEq, Int.reduceLT, Int.reduceLE, Int.reduceNeg, Int.reduceAdd, Int.reduceSub, Int.reduceMul, Int.reduceNe, or_true, true_or, or_false, false_or, or_self, and_true, true_and, and_false, false_and, and_self, not_true_eq_false, not_false_eq_true, ne_eq, e1, e2, Bool.false_eq_true, ob, LGd hg, s2, w32_id]
        · have e2' : tb (D 0 2) s = true := by cases h : tb (D 0 2) s <;> simp_all
          simp (disch := omega) only [Nat.reduceAdd, reduceIte, Int.reduceEq, Int.reduceLT, Int.reduceLE, Int.reduceNeg, Int.reduceAdd, Int.reduceSub, Int.reduceMul, Int.reduceNe, or_true, true_or, or_false, false_or, or_self, and_true, true_and, and_false, false_and, and_self, not_true_eq_false, not_false_eq_true, ne_eq, e1, e2', Bool.true_eq_false, ob, w32_id, Int.sub_zero]
      · simp (disch := omega) only [Nat.reduceAdd, reduceIte, Int.reduceEq, Int.reduceLT, Int.reduceLE, Int.reduceNeg, Int.reduceAdd, Int.reduceSub, Int.reduceMul, Int.reduceNe, or_true, true_or, or_false, false_or, or_self, and_true, true_and, and_false, false_and, and_self, not_true_eq_false, not_false_eq_true, ne_eq, e1, ob, w32_id, Int.sub_zero]
  · exact ⟨Int.le_refl _, r1, rfl, by show D 2 v = D 2 v - 0; omega⟩
theorem gr_cmp (a b : Int) (x y : Int) : decide (a < b ∨ (a = b ∧ x < y)) = if a - b < 0 then true else if a - b = 0 then decide (x < y) else false := by
  split
  · rw [decide_eq_true_eq]; omega
  · split
    · apply decide_eq_decide.mpr; omega
    · rw [decide_eq_false_iff_not]; omega
set_option maxHeartbeats 4000000 in
set_option maxRecDepth 20000 in
theorem s_X7_goesAhead {g : Nat} {M D : Mem} {v w rule pl : Int} (hg : g = 62 ∨ g = 88) (hD : DW D) (hC : CV g M D) (h0 : 0 ≤ v) (h1 : v < D 0 0) (w0 : 0 ≤ w) (w1 : w < D 0 0) : fX7_goesAhead g v w rule pl M = some (if ahd D rule pl v w = true then 1 else 0, M) := by
  have n1 := hD.2.1
  have b1 := gr_bd hD (pl := pl) h0 h1
  have b2 := gr_bd hD (pl := pl) w0 w1
  obtain ⟨d1, d2, d3, d4, d5, d6, -⟩ := hC.2.2.2 v h0 h1
  obtain ⟨y1, y2, y3, y4, y5, y6, -⟩ := hC.2.2.2 w w0 w1
  unfold fX7_goesAhead ahd
  by_cases r0 : rule = 0
  · rw [if_pos r0, if_pos r0, gr_cmp]
    simp (disch := omega) only [s_X7_growth hg hD hC h0 h1, s_X7_growth hg hD hC w0 w1, ob, w32_id, LGd hg, d6, y6]
    by_cases e1 : gr D pl v - gr D pl w < 0
    · simp only [Nat.reduceAdd, reduceIte, Int.reduceEq, Int.reduceLT, Int.reduceLE, Int.reduceNeg, Int.reduceAdd, Int.reduceSub, Int.reduceMul, Int.reduceNe, or_true, true_or, or_false, false_or, or_self, and_true, true_and, and_false, false_and, and_self, not_true_eq_false, not_false_eq_true, ne_eq, e1, ob, rz1]
    · by_cases e2 : gr D pl v - gr D pl w = 0
      · by_cases e3 : D 6 v ≤ D 6 w
        · have e4 : ¬ D 6 w < D 6 v := by omega
          simp only [Nat.reduceAdd, reduceIte, Int.reduceEq, Int.reduceLT, Int.reduceLE, Int.reduceNeg, Int.reduceAdd, Int.reduceSub, Int.reduceMul, Int.reduceNe, or_true, true_or, or_false, false_or, or_self, and_true, true_and, and_false, false_and, and_self, not_true_eq_false, not_false_eq_true, ne_eq, e2, e3, e4, ob, rz0, decide_false, Bool.false_eq_true]
        · have e4 : D 6 w < D 6 v := by omega
          simp only [Nat.reduceAdd, reduceIte, Int.reduceEq, Int.reduceLT, Int.reduceLE, Int.reduceNeg, Int.reduceAdd, Int.reduceSub, Int.reduceMul, Int.reduceNe, or_true, true_or, or_false, false_or, or_self, and_true, true_and, and_false, false_and, and_self, not_true_eq_false, not_false_eq_true, ne_eq, e2, e3, e4, ob, rz1, decide_true]
      · simp only [Nat.reduceAdd, reduceIte, Int.reduceEq, Int.reduceLT, Int.reduceLE, Int.reduceNeg, Int.reduceAdd, Int.reduceSub, Int.reduceMul, Int.reduceNe, or_true, true_or, or_false, false_or, or_self, and_true, true_and, and_false, false_and, and_self, not_true_eq_false, not_false_eq_true, ne_eq, e1, e2, ob, rz0, Bool.false_eq_true]
  · rw [if_neg r0, if_neg r0]
    by_cases r2 : rule = 2
    · rw [if_pos r2, if_pos r2]
      simp (disch := omega) only [ob, LGd hg, d6, y6]
      by_cases e3 : D 6 v ≤ D 6 w
      · have e4 : ¬ D 6 w < D 6 v := by omega
        simp only [Nat.reduceAdd, reduceIte, Int.reduceEq, Int.reduceLT, Int.reduceLE, Int.reduceNeg, Int.reduceAdd, Int.reduceSub, Int.reduceMul, Int.reduceNe, or_true, true_or, or_false, false_or, or_self, and_true, true_and, and_false, false_and, and_self, not_true_eq_false, not_false_eq_true, ne_eq, e3, e4, ob, rz0, decide_false, Bool.false_eq_true]
      · have e4 : D 6 w < D 6 v := by omega
        simp only [Nat.reduceAdd, reduceIte, Int.reduceEq, Int.reduceLT, Int.reduceLE, Int.reduceNeg, Int.reduceAdd, Int.reduceSub, Int.reduceMul, Int.reduceNe, or_true, true_or, or_false, false_or, or_self, and_true, true_and, and_false, false_and, and_self, not_true_eq_false, not_false_eq_true, ne_eq, e3, e4, ob, rz1, decide_true]
    · rw [if_neg r2, if_neg r2]
      by_cases r3 : rule = 3
      · rw [if_pos r3, if_pos r3]
        simp (disch := omega) only [ob, LD, d1, y1]
        by_cases e3 : D 1 v = 7
        · by_cases e4 : D 1 w = 7
          · simp only [Nat.reduceAdd, reduceIte, Int.reduceEq, Int.reduceLT, Int.reduceLE, Int.reduceNeg, Int.reduceAdd, Int.reduceSub, Int.reduceMul, Int.reduceNe, or_true, true_or, or_false, false_or, or_self, and_true, true_and, and_false, false_and, and_self, not_true_eq_false, not_false_eq_true, ne_eq, e3, e4, ob, rz0, decide_false, Bool.false_eq_true]
          · simp only [Nat.reduceAdd, reduceIte, Int.reduceEq, Int.reduceLT, Int.reduceLE, Int.reduceNeg, Int.reduceAdd, Int.reduceSub, Int.reduceMul, Int.reduceNe, or_true, true_or, or_false, false_or, or_self, and_true, true_and, and_false, false_and, and_self, not_true_eq_false, not_false_eq_true, ne_eq, e3, e4, ob, rz1, decide_true]
        · simp only [Nat.reduceAdd, reduceIte, Int.reduceEq, Int.reduceLT, Int.reduceLE, Int.reduceNeg, Int.reduceAdd, Int.reduceSub, Int.reduceMul, Int.reduceNe, or_true, true_or, or_false, false_or, or_self, and_true, true_and, and_false, false_and, and_self, not_true_eq_false, not_false_eq_true, ne_eq, e3, ob, rz0, decide_false, Bool.false_eq_true]
      · rw [if_neg r3, if_neg r3]
        rfl
set_option maxHeartbeats 4000000 in
set_option maxRecDepth 20000 in
theorem s_X7_choose {g : Nat} {M D : Mem} {rule pl : Int} (hg : g = 62 ∨ g = 88) (hD : DW D) (hC : CV g M D) : lp (fX7_arrange_b2 g rule pl) (-1, 0, M) = some (bst D rule pl (D 0 0).toNat, M) := by
  have n0 := hD.1
  have n1 := hD.2.1
  obtain ⟨c1, c2, c3, c4⟩ := id hC
  suffices h : ∃ r, lp (fX7_arrange_b2 g rule pl) (-1, 0, M) = some r ∧ r = (bst D rule pl (D 0 0).toNat, M) by
    obtain ⟨r, e, rfl⟩ := h
    exact e
  refine lp_ind (fun s : Int × Int × Mem => 0 ≤ s.2.1 ∧ s.2.1 ≤ D 0 0 ∧ s.2.2 = M ∧ s.1 = bst D rule pl s.2.1.toNat) (fun r => r = (bst D rule pl (D 0 0).toNat, M)) (fun s => (D 0 0 - s.2.1).toNat) ?_ _ ?_
  · rintro ⟨x, v, m⟩ ⟨h0, h1, hm, hx⟩
    dsimp only at h0 h1 hm hx
    subst hm
    unfold fX7_arrange_b2
    simp only [c1]
    by_cases hv : D 0 0 ≤ v
    · have : v = D 0 0 := by omega
      rw [if_pos hv]
      exact Or.inr ⟨_, rfl, by rw [hx, this]⟩
    · rw [if_neg hv]
      have hv1 : v < D 0 0 := by omega
      obtain ⟨d1, d2, d3, d4, d5, d6, -⟩ := c4 v h0 hv1
      obtain ⟨b0, b1, -, -⟩ := bst_ok D rule pl v.toNat
      rw [← hx] at b0 b1
      refine Or.inl ⟨(bst D rule pl (v + 1).toNat, v + 1, m), ?_, ⟨by dsimp only; omega, by dsimp only; omega, rfl, rfl⟩, by dsimp only; omega⟩
      rw [bst_s h0, ← hx]
      have hrd : ((if (if tb (D 0 1) v = true then (1 : Int) else 0) = 0 then some 0 else if (lc (land (lushr pl v) 1) 0) = 0 then (ldJ m (g + 8) v).bind fun v5 => if (lc (land v5 (lxor pl (-1))) 0) = 0 then some 1 else some 0 else some 0 : Option Int)) = some (if rdy D pl v = true then 1 else 0) := by
        unfold rdy
        simp (disch := omega) only [hasU0, LGd hg, ob, d4, decide_eq_true_eq]
        by_cases e1 : tb (D 0 1) v = true
        · cases e2 : tb pl v
          · by_cases e3 : lc (land (D 4 v) (lxor pl (-1))) 0 = 0
            · simp only [Nat.reduceAdd, reduceIte, Int.reduceEq, Int.reduceLT, Int.reduceLE, Int.reduceNeg, Int.reduceAdd, Int.reduceSub, Int.reduceMul, Int.reduceNe, or_true, true_or, or_false, false_or, or_self, and_true, true_and, and_false, false_and, and_self, not_true_eq_false, not_false_eq_true, ne_eq, e1, e3]
            · simp only [Nat.reduceAdd, reduceIte, Int.reduceEq, Int.reduceLT, Int.reduceLE, Int.reduceNeg, Int.reduceAdd, Int.reduceSub, Int.reduceMul, Int.reduceNe, or_true, true_or, or_false, false_or, or_self, and_true, true_and, and_false, false_and, and_self, not_true_eq_false, not_false_eq_true, ne_eq, e1, e3]
          · simp only [Nat.reduceAdd, reduceIte, Int.reduceEq, Int.reduceLT, Int.reduceLE, Int.reduceNeg, Int.reduceAdd, Int.reduceSub, Int.reduceMul, Int.reduceNe, or_true, true_or, or_false, false_or, or_self, and_true, true_and, and_false, false_and, and_self, not_true_eq_false, not_false_eq_true, ne_eq, e1, Bool.true_eq_false]
        · simp only [Nat.reduceAdd, reduceIte, Int.reduceEq, Int.reduceLT, Int.reduceLE, Int.reduceNeg, Int.reduceAdd, Int.reduceSub, Int.reduceMul, Int.reduceNe, or_true, true_or, or_false, false_or, or_self, and_true, true_and, and_false, false_and, and_self, not_true_eq_false, not_false_eq_true, ne_eq, Bool.false_eq_true, Bool.true_eq_false, decide_true, decide_false, e1]
      simp (disch := omega) only [s_X5_isNeeded, ob, c2, hrd]
      by_cases er : rdy D pl v = true
      · by_cases ex : x = -1
        · simp (disch := omega) only [Nat.reduceAdd, reduceIte, Int.reduceEq, Int.reduceLT, Int.reduceLE, Int.reduceNeg, Int.reduceAdd, Int.reduceSub, Int.reduceMul, Int.reduceNe, or_true, true_or, or_false, false_or, or_self, and_true, true_and, and_false, false_and, and_self, not_true_eq_false, not_false_eq_true, ne_eq, er, ex, ob, w32_id]
        · simp (disch := omega) only [Nat.reduceAdd, reduceIte, Int.reduceEq, Int.reduceLT, Int.reduceLE, Int.reduceNeg, Int.reduceAdd, Int.reduceSub, Int.reduceMul, Int.reduceNe, or_true, true_or, or_false, false_or, or_self, and_true, true_and, and_false, false_and, and_self, not_true_eq_false, not_false_eq_true, ne_eq, er, ex, ob, w32_id, s_X7_goesAhead hg hD hC h0 hv1 (show 0 ≤ x by omega) (show x < D 0 0 by omega)]
          by_cases ea : ahd D rule pl v x = true
          · simp (disch := omega) only [Nat.reduceAdd, reduceIte, Int.reduceEq, Int.reduceLT, Int.reduceLE, Int.reduceNeg, Int.reduceAdd, Int.reduceSub, Int.reduceMul, Int.reduceNe, or_true, true_or, or_false, false_or, or_self, and_true, true_and, and_false, false_and, and_self, not_true_eq_false, not_false_eq_true, ne_eq, ea, ob, w32_id]
          · simp (disch := omega) only [Nat.reduceAdd, reduceIte, Int.reduceEq, Int.reduceLT, Int.reduceLE, Int.reduceNeg, Int.reduceAdd, Int.reduceSub, Int.reduceMul, Int.reduceNe, or_true, true_or, or_false, false_or, or_self, and_true, true_and, and_false, false_and, and_self, not_true_eq_false, not_false_eq_true, ne_eq, ea, ob, w32_id, Bool.false_eq_true]
      · simp (disch := omega) only [Nat.reduceAdd, reduceIte, Int.reduceEq, Int.reduceLT, Int.reduceLE, Int.reduceNeg, Int.reduceAdd, Int.reduceSub, Int.reduceMul, Int.reduceNe, or_true, true_or, or_false, false_or, or_self, and_true, true_and, and_false, false_and, and_self, not_true_eq_false, not_false_eq_true, ne_eq, er, ob, w32_id, Bool.false_eq_true]
  · exact ⟨Int.le_refl _, n0, rfl, rfl⟩
set_option maxHeartbeats 4000000 in
set_option maxRecDepth 20000 in
theorem s_X7_arrange {g : Nat} {M D : Mem} {rule : Int} (hg : g = 62 ∨ g = 88) (hD : DW D) (hC : CV g M D) :
    ∃ M', fX7_arrange g rule M = some M' ∧ (∀ b, b ≠ g + 13 → b ≠ g + 14 → b ≠ g + 15 → M' b = M b) ∧ (∀ k, k ≠ 4 → M' (g + 13) k = M (g + 13) k) ∧ M' (g + 13) 4 = pc (D 0 1) ∧ ∀ p, 0 ≤ p → p < pc (D 0 1) → M' (g + 14) p = odr D rule p ∧ M' (g + 15) (odr D rule p) = p := by
  have n0 := hD.1
  have n1 := hD.2.1
  have hg2 : 62 ≤ g := by omega
  have pn := pc_n hD
  have pb := pc_bd (D 0 1)
  have P := pls_ok hD rule
  have O := odr_ok hD rule
  unfold fX7_arrange
  simp only [pI_ok, ob]
  refine lp_bind (fun s : Int × Int × Mem => 0 ≤ s.2.1 ∧ s.2.1 ≤ D 0 0 ∧ (∀ b, b ≠ g + 13 → b ≠ g + 14 → b ≠ g + 15 → s.2.2 b = M b) ∧ (∀ k, k ≠ 4 → s.2.2 (g + 13) k = M (g + 13) k) ∧ s.2.2 (g + 13) 4 = min s.2.1 (pc (D 0 1)) ∧ s.1 = pls D rule (min s.2.1 (pc (D 0 1))).toNat ∧ ∀ p, 0 ≤ p → p < min s.2.1 (pc (D 0 1)) → s.2.2 (g + 14) p = odr D rule p ∧ s.2.2 (g + 15) (odr D rule p) = p)
    (fun r : Mem => (∀ b, b ≠ g + 13 → b ≠ g + 14 → b ≠ g + 15 → r b = M b) ∧ (∀ k, k ≠ 4 → r (g + 13) k = M (g + 13) k) ∧ r (g + 13) 4 = pc (D 0 1) ∧ ∀ p, 0 ≤ p → p < pc (D 0 1) → r (g + 14) p = odr D rule p ∧ r (g + 15) (odr D rule p) = p) (fun s => (D 0 0 - s.2.1).toNat) ?_ ?_ (fun r h => ⟨r, rfl, h⟩)
  · rintro ⟨pl, t, m⟩ ⟨t0, t1, hfr, hfk, hs, hp, hL⟩
    dsimp only at t0 t1 hfr hfk hs hp hL
    have hm : CV g m D := CV_fr hg hC (fun b hb => hfr b (by omega) (by omega) (by omega))
    unfold fX7_arrange_b1
    simp only [hm.1]
    by_cases ht : D 0 0 ≤ t
    · have hmin : min t (pc (D 0 1)) = pc (D 0 1) := by omega
      rw [if_pos ht]
      rw [hmin] at hs hL
      exact Or.inr ⟨m, rfl, hfr, hfk, hs, hL⟩
    · rw [if_neg ht]
      simp only [s_X7_choose hg hD hm, ob]
      by_cases hlt : t < pc (D 0 1)
      · have hmin : min t (pc (D 0 1)) = t := by omega
        have hmin1 : min (t + 1) (pc (D 0 1)) = t + 1 := by omega
        rw [hmin] at hs hp hL
        have ne : bst D rule pl (D 0 0).toNat ≠ -1 := by rw [hp]; exact (P t.toNat (by omega)).2.2.2.2 (by omega)
        have eo : odr D rule t = bst D rule pl (D 0 0).toNat := by unfold odr; rw [hp]
        have q := O.2.1 t t0 hlt
        rw [← eo] at ne ⊢
        rw [if_neg ne]
        unfold fX7_putAt
        simp (disch := omega) only [hs, SGd hg, ob, wr_ne, pI_ok, w32_id]
        refine Or.inl ⟨_, rfl, ⟨by dsimp only; omega, by dsimp only; omega, fun b b1 b2 b3 => ?_, fun k hk => ?_, ?_, ?_, fun p a b => ?_⟩, by dsimp only; omega⟩
        · simp (disch := omega) only [wr_ne, hfr]
        · simp (disch := omega) only [wr_ne, wr_at, if_neg, hfk]
        · dsimp only
          rw [hmin1]
          simp (disch := omega) only [wr_at, if_true]
        · dsimp only
          rw [hmin1, hp, eo, hp, show (t + 1).toNat = t.toNat + 1 by omega]
          rfl
        · dsimp only at b ⊢
          rw [hmin1] at b
          simp (disch := omega) only [wr_ne, wr_at]
          by_cases hpt : p = t
          · subst hpt; simp only [if_true, and_self]
          · have := O.2.2.1 p t a (by omega) hlt
            rw [if_neg hpt, if_neg this]
            exact hL p a (by omega)
      · have hmin : min t (pc (D 0 1)) = pc (D 0 1) := by omega
        have hmin1 : min (t + 1) (pc (D 0 1)) = pc (D 0 1) := by omega
        rw [hmin] at hs hp hL
        have e1 : bst D rule pl (D 0 0).toNat = -1 := by rw [hp, pls_all hD]; exact bst_all
        rw [e1, if_pos rfl]
        simp (disch := omega) only [ob, w32_id]
        refine Or.inl ⟨_, rfl, ⟨by dsimp only; omega, by dsimp only; omega, hfr, hfk, ?_, ?_, ?_⟩, by dsimp only; omega⟩
        · dsimp only; rw [hmin1]; exact hs
        · dsimp only; rw [hmin1]; exact hp
        · dsimp only; rw [hmin1]; exact hL
  · have hmin : min 0 (pc (D 0 1)) = 0 := by omega
    refine ⟨Int.le_refl _, n0, fun b b1 b2 b3 => by simp (disch := omega) only [wr_ne], fun k hk => by simp (disch := omega) only [wr_at, if_neg], ?_, ?_, fun p a b => by dsimp only at b; omega⟩
    · dsimp only; rw [hmin]; simp only [wr_at, if_true]
    · dsimp only; rw [hmin]; rfl
