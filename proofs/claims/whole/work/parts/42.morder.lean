/-! THE REFERENCE'S ORDER -/
def wOf (f l g : Int) : Int := if f = 0 ∧ ¬ (-512 ≤ l ∧ g ≤ 511) then 2 else 1
def MD (M D : Mem) : Prop := M 138 8 = D 0 0 ∧ M 132 38 = D 0 1 ∧ M 132 39 = D 0 2 ∧ M 138 3 = D 0 3 ∧ M 138 4 = D 0 4 ∧ ∀ v, 0 ≤ v → v < D 0 0 → M 138 (36 + 4 * v) = D 1 v ∧ (wOf (M 155 v) (M 153 v) (M 154 v) = D 2 v) ∧ M 156 v = D 3 v ∧ M 159 v = D 4 v ∧ M 160 v = D 5 v ∧ M 161 v = D 6 v
def SF (M M' : Mem) : Prop := (∀ b, b ≠ 132 → b < 162 ∨ 169 < b → M' b = M b) ∧ ∀ k, k ≠ 41 → k ≠ 48 → k ≠ 50 → M' 132 k = M 132 k
theorem SF_refl (M : Mem) : SF M M := ⟨fun _ _ _ => rfl, fun _ _ _ _ => rfl⟩
theorem SF_trans {A B C : Mem} (h : SF A B) (h' : SF B C) : SF A C := ⟨fun b b1 b2 => by rw [h'.1 b b1 b2, h.1 b b1 b2], fun k a b c => by rw [h'.2 k a b c, h.2 k a b c]⟩
theorem MD_fr {M M' D : Mem} (h : MD M D) (e : SF M M') : MD M' D := by
  unfold MD
  rw [e.1 138 (by omega) (by omega), e.1 153 (by omega) (by omega), e.1 154 (by omega) (by omega), e.1 155 (by omega) (by omega), e.1 156 (by omega) (by omega), e.1 159 (by omega) (by omega), e.1 160 (by omega) (by omega), e.1 161 (by omega) (by omega), e.2 38 (by omega) (by omega) (by omega), e.2 39 (by omega) (by omega) (by omega)]
  exact h
theorem s_X12_isLow {v : Int} {M : Mem} (h0 : 0 ≤ v) (h1 : v < 64) : fX12_isLow v M = some (if M 155 v = 0 ∧ -512 ≤ M 153 v ∧ M 154 v ≤ 511 then 1 else 0, M) := by
  unfold fX12_isLow
  simp (disch := omega) only [LD, ob]
  by_cases e1 : M 155 v = 0
  · by_cases e2 : M 153 v < -512
    · have : ¬ -512 ≤ M 153 v := by omega
      simp only [Nat.reduceAdd, reduceIte, Int.reduceEq, Int.reduceLT, Int.reduceLE, Int.reduceNeg, Int.reduceAdd, Int.reduceSub, Int.reduceMul, Int.reduceNe, or_true, true_or, or_false, false_or, or_self, and_true, true_and, and_false, false_and, and_self, not_true_eq_false, not_false_eq_true, ne_eq, Bool.false_eq_true, Bool.true_eq_false, decide_true, decide_false, e1, e2, this, ob, rz0]
    · have e2' : -512 ≤ M 153 v := by omega
      by_cases e3 : 511 < M 154 v
      · have : ¬ M 154 v ≤ 511 := by omega
        simp only [Nat.reduceAdd, reduceIte, Int.reduceEq, Int.reduceLT, Int.reduceLE, Int.reduceNeg, Int.reduceAdd, Int.reduceSub, Int.reduceMul, Int.reduceNe, or_true, true_or, or_false, false_or, or_self, and_true, true_and, and_false, false_and, and_self, not_true_eq_false, not_false_eq_true, ne_eq, Bool.false_eq_true, Bool.true_eq_false, decide_true, decide_false, e1, e2, e2', e3, this, ob, rz0]
      · have : M 154 v ≤ 511 := by omega
        simp only [Nat.reduceAdd, reduceIte, Int.reduceEq, Int.reduceLT, Int.reduceLE, Int.reduceNeg, Int.reduceAdd, Int.reduceSub, Int.reduceMul, Int.reduceNe, or_true, true_or, or_false, false_or, or_self, and_true, true_and, and_false, false_and, and_self, not_true_eq_false, not_false_eq_true, ne_eq, Bool.false_eq_true, Bool.true_eq_false, decide_true, decide_false, e1, e2, e2', e3, this, ob, rz1]
  · simp only [Nat.reduceAdd, reduceIte, Int.reduceEq, Int.reduceLT, Int.reduceLE, Int.reduceNeg, Int.reduceAdd, Int.reduceSub, Int.reduceMul, Int.reduceNe, or_true, true_or, or_false, false_or, or_self, and_true, true_and, and_false, false_and, and_self, not_true_eq_false, not_false_eq_true, ne_eq, Bool.false_eq_true, Bool.true_eq_false, decide_true, decide_false, e1, ob, rz0]
theorem s_X12_widthOf {v : Int} {M : Mem} (h0 : 0 ≤ v) (h1 : v < 64) : fX12_widthOf v M = some (wOf (M 155 v) (M 153 v) (M 154 v), M) := by
  unfold fX12_widthOf wOf
  simp (disch := omega) only [LD, ob, s_X12_isLow]
  by_cases e1 : M 155 v = 0
  · by_cases e2 : -512 ≤ M 153 v ∧ M 154 v ≤ 511
    · simp only [Nat.reduceAdd, reduceIte, Int.reduceEq, Int.reduceLT, Int.reduceLE, Int.reduceNeg, Int.reduceAdd, Int.reduceSub, Int.reduceMul, Int.reduceNe, or_true, true_or, or_false, false_or, or_self, and_true, true_and, and_false, false_and, and_self, not_true_eq_false, not_false_eq_true, ne_eq, Bool.false_eq_true, Bool.true_eq_false, decide_true, decide_false, e1, e2, ob]
    · simp only [Nat.reduceAdd, reduceIte, Int.reduceEq, Int.reduceLT, Int.reduceLE, Int.reduceNeg, Int.reduceAdd, Int.reduceSub, Int.reduceMul, Int.reduceNe, or_true, true_or, or_false, false_or, or_self, and_true, true_and, and_false, false_and, and_self, not_true_eq_false, not_false_eq_true, ne_eq, Bool.false_eq_true, Bool.true_eq_false, decide_true, decide_false, e1, e2, ob]
  · simp only [Nat.reduceAdd, reduceIte, Int.reduceEq, Int.reduceLT, Int.reduceLE, Int.reduceNeg, Int.reduceAdd, Int.reduceSub, Int.reduceMul, Int.reduceNe, or_true, true_or, or_false, false_or, or_self, and_true, true_and, and_false, false_and, and_self, not_true_eq_false, not_false_eq_true, ne_eq, Bool.false_eq_true, Bool.true_eq_false, decide_true, decide_false, e1, ob]
theorem s_X12_width {v : Int} {M D : Mem} (hD : DW D) (hM : MD M D) (h0 : 0 ≤ v) (h1 : v < D 0 0) : fX12_widthOf v M = some (D 2 v, M) := by
  have n1 := hD.2.1
  rw [s_X12_widthOf h0 (by omega), (hM.2.2.2.2.2 v h0 h1).2.1]
theorem s_X12_how {v : Int} {M D : Mem} (hD : DW D) (hM : MD M D) (h0 : 0 ≤ v) (h1 : v < D 0 0) : fX12_howOf v M = some (D 1 v, M) := by
  have n1 := hD.2.1
  unfold fX12_howOf
  simp (disch := omega) only [w32_id, LD, ob, (hM.2.2.2.2.2 v h0 h1).1]
theorem s_X12_file {v : Int} {M D : Mem} (hD : DW D) (hM : MD M D) (h0 : 0 ≤ v) (h1 : v < D 0 0) : fX12_fileOf v M = some (1 - D 3 v, M) := by
  have n1 := hD.2.1
  have hU := (hD.2.2.2.2.2.2.2.2 v h0 h1).2.2.1
  unfold fX12_fileOf
  simp (disch := omega) only [w32_id, LD, ob, (hM.2.2.2.2.2 v h0 h1).2.2.1]
  rcases hU with e | e <;> simp only [Nat.reduceAdd, reduceIte, Int.reduceEq, Int.reduceLT, Int.reduceLE, Int.reduceNeg, Int.reduceAdd, Int.reduceSub, Int.reduceMul, Int.reduceNe, or_true, true_or, or_false, false_or, or_self, and_true, true_and, and_false, false_and, and_self, not_true_eq_false, not_false_eq_true, ne_eq, Bool.false_eq_true, Bool.true_eq_false, decide_true, decide_false, e, ob]
set_option maxHeartbeats 4000000 in
set_option maxRecDepth 20000 in
theorem s_X12_growth {M D : Mem} {v pl : Int} (hD : DW D) (hM : MD M D) (h0 : 0 ≤ v) (h1 : v < D 0 0) : fX12_growth v pl M = some (gr D pl v, M) := by
  have n1 := hD.2.1
  obtain ⟨c1, c2, c3, -, -, c4⟩ := id hM
  obtain ⟨d1, d2, d3, d4, d5, d6⟩ := c4 v h0 h1
  have hW := (hD.2.2.2.2.2.2.2.2 v h0 h1).2.1
  unfold fX12_growth
  simp (disch := omega) only [ob, s_X12_width hD hM h0 h1]
  have hgx : ∀ s, 0 ≤ s → s < v → 0 ≤ (if tb (D 4 v) s = true then gx D pl v s else 0) ∧ (if tb (D 4 v) s = true then gx D pl v s else 0) ≤ 2 := fun s a b => by
    have := (hD.2.2.2.2.2.2.2.2 s a (by omega)).2.1
    unfold gx
    split
    · split <;> omega
    · omega
  have hsb : ∀ k : Int, 0 ≤ k → k ≤ v → 0 ≤ sm (fun s => if tb (D 4 v) s = true then gx D pl v s else 0) k.toNat ∧ sm (fun s => if tb (D 4 v) s = true then gx D pl v s else 0) k.toNat ≤ 2 * k := fun k a b => by
    have := sm_bd (f := fun s => if tb (D 4 v) s = true then gx D pl v s else 0) (c := 2) (k := k.toNat) (fun i i0 i1 => hgx i i0 (by omega))
    omega
  suffices h : ∃ r, lp (fX12_growth_b1 v pl) (D 2 v, 0, M) = some r ∧ r = (gr D pl v, M) by
    obtain ⟨r, e, rfl⟩ := h
    rw [e]; rfl
  refine lp_ind (fun s : Int × Int × Mem => 0 ≤ s.2.1 ∧ s.2.1 ≤ v ∧ s.2.2 = M ∧ s.1 = D 2 v - sm (fun s => if tb (D 4 v) s = true then gx D pl v s else 0) s.2.1.toNat) (fun r => r = (gr D pl v, M)) (fun s => (v - s.2.1).toNat) ?_ _ ?_
  · rintro ⟨x, k, m⟩ ⟨k0, k1, hm, hx⟩
    dsimp only at k0 k1 hm hx
    subst hm
    unfold fX12_growth_b1
    dsimp only
    by_cases hk : v ≤ k
    · have : k = v := by omega
      rw [if_pos hk]
      refine Or.inr ⟨_, rfl, ?_⟩
      unfold gr
      rw [hx, this]
    · rw [if_neg hk]
      have hb1 := hsb k k0 (by omega)
      have hb2 := hsb (k + 1) (by omega) (by omega)
      have hss := sm_s (f := fun s => if tb (D 4 v) s = true then gx D pl v s else 0) k0
      have hg1 := hgx k k0 (by omega)
      refine Or.inl ⟨(x - (if tb (D 4 v) k = true then gx D pl v k else 0), k + 1, m), ?_, ⟨by dsimp only; omega, by dsimp only; omega, rfl, by dsimp only; rw [hss, hx]; omega⟩, by dsimp only; omega⟩
      obtain ⟨-, s2, -, -, s5, -⟩ := c4 k k0 (by omega)
      have hk1 : k < D 0 0 := by omega
      simp (disch := omega) only [LD, ob, d4, s_X12_has]
      unfold gx at hg1 hss ⊢
      by_cases e0 : tb (D 4 v) k = true
      · by_cases e2 : tb (D 0 2) k = false
        · by_cases e1 : lc (land (D 5 k) (lxor (lor pl (lshl 1 v)) (-1))) 0 = 0
          · simp only [e0, e1, e2, Nat.reduceAdd, reduceIte, Int.reduceEq, Int.reduceLT, Int.reduceLE, Int.reduceNeg, Int.reduceAdd, Int.reduceSub, Int.reduceMul, Int.reduceNe, or_true, true_or, or_false, false_or, or_self, and_true, true_and, and_false, false_and, and_self, not_true_eq_false, not_false_eq_true, ne_eq, Bool.false_eq_true, Bool.true_eq_false, decide_true, decide_false] at hg1
            simp (disch := omega) only [Nat.reduceAdd, reduceIte, Int.reduceEq, Int.reduceLT, Int.reduceLE, Int.reduceNeg, Int.reduceAdd, Int.reduceSub, Int.reduceMul, Int.reduceNe, or_true, true_or, or_false, false_or, or_self, and_true, true_and, and_false, false_and, and_self, not_true_eq_false, not_false_eq_true, ne_eq, Bool.false_eq_true, Bool.true_eq_false, decide_true, decide_false, e0, e1, e2, c3, LD, s5, s_X12_has, ob, s_X12_width hD hM k0 hk1, w32_id]
          · simp (disch := omega) only [Nat.reduceAdd, reduceIte, Int.reduceEq, Int.reduceLT, Int.reduceLE, Int.reduceNeg, Int.reduceAdd, Int.reduceSub, Int.reduceMul, Int.reduceNe, or_true, true_or, or_false, false_or, or_self, and_true, true_and, and_false, false_and, and_self, not_true_eq_false, not_false_eq_true, ne_eq, Bool.false_eq_true, Bool.true_eq_false, decide_true, decide_false, e0, e1, e2, c3, LD, s5, s_X12_has, ob, w32_id, Int.sub_zero]
        · have e2' : tb (D 0 2) k = true := by cases h : tb (D 0 2) k <;> simp_all
          simp (disch := omega) only [Nat.reduceAdd, reduceIte, Int.reduceEq, Int.reduceLT, Int.reduceLE, Int.reduceNeg, Int.reduceAdd, Int.reduceSub, Int.reduceMul, Int.reduceNe, or_true, true_or, or_false, false_or, or_self, and_true, true_and, and_false, false_and, and_self, not_true_eq_false, not_false_eq_true, ne_eq, Bool.false_eq_true, Bool.true_eq_false, decide_true, decide_false, e0, e2', c3, s_X12_has, ob, w32_id, Int.sub_zero]
      · simp (disch := omega) only [Nat.reduceAdd, reduceIte, Int.reduceEq, Int.reduceLT, Int.reduceLE, Int.reduceNeg, Int.reduceAdd, Int.reduceSub, Int.reduceMul, Int.reduceNe, or_true, true_or, or_false, false_or, or_self, and_true, true_and, and_false, false_and, and_self, not_true_eq_false, not_false_eq_true, ne_eq, Bool.false_eq_true, Bool.true_eq_false, decide_true, decide_false, e0, ob, w32_id, Int.sub_zero]
  · exact ⟨Int.le_refl _, h0, rfl, by show D 2 v = D 2 v - 0; omega⟩
set_option maxHeartbeats 4000000 in
set_option maxRecDepth 20000 in
theorem s_X12_goesAhead {M D : Mem} {v w rule pl : Int} (hD : DW D) (hM : MD M D) (h0 : 0 ≤ v) (h1 : v < D 0 0) (w0 : 0 ≤ w) (w1 : w < D 0 0) : fX12_goesAhead v w rule pl M = some (if ahd D rule pl v w = true then 1 else 0, M) := by
  have n1 := hD.2.1
  have b1 := gr_bd hD (pl := pl) h0 h1
  have b2 := gr_bd hD (pl := pl) w0 w1
  obtain ⟨d1, d2, d3, d4, d5, d6⟩ := hM.2.2.2.2.2 v h0 h1
  obtain ⟨y1, y2, y3, y4, y5, y6⟩ := hM.2.2.2.2.2 w w0 w1
  unfold fX12_goesAhead ahd
  by_cases r0 : rule = 0
  · simp (disch := omega) only [r0, if_true, s_X12_growth hD hM h0 h1, s_X12_growth hD hM w0 w1, ob, LD, d6, y6]
    by_cases e1 : gr D pl v = gr D pl w
    · have e0 : ¬ gr D pl w < gr D pl w := by omega
      by_cases e3 : D 6 v ≤ D 6 w
      · have e4 : ¬ D 6 w < D 6 v := by omega
        simp only [Nat.reduceAdd, reduceIte, Int.reduceEq, Int.reduceLT, Int.reduceLE, Int.reduceNeg, Int.reduceAdd, Int.reduceSub, Int.reduceMul, Int.reduceNe, or_true, true_or, or_false, false_or, or_self, and_true, true_and, and_false, false_and, and_self, not_true_eq_false, not_false_eq_true, ne_eq, Bool.false_eq_true, Bool.true_eq_false, decide_true, decide_false, e0, e1, e3, e4, ob, rz0]
      · have e4 : D 6 w < D 6 v := by omega
        simp only [Nat.reduceAdd, reduceIte, Int.reduceEq, Int.reduceLT, Int.reduceLE, Int.reduceNeg, Int.reduceAdd, Int.reduceSub, Int.reduceMul, Int.reduceNe, or_true, true_or, or_false, false_or, or_self, and_true, true_and, and_false, false_and, and_self, not_true_eq_false, not_false_eq_true, ne_eq, Bool.false_eq_true, Bool.true_eq_false, decide_true, decide_false, e0, e1, e3, e4, ob, rz1]
    · by_cases e2 : gr D pl w ≤ gr D pl v
      · have e4 : ¬ gr D pl v < gr D pl w := by omega
        simp only [Nat.reduceAdd, reduceIte, Int.reduceEq, Int.reduceLT, Int.reduceLE, Int.reduceNeg, Int.reduceAdd, Int.reduceSub, Int.reduceMul, Int.reduceNe, or_true, true_or, or_false, false_or, or_self, and_true, true_and, and_false, false_and, and_self, not_true_eq_false, not_false_eq_true, ne_eq, Bool.false_eq_true, Bool.true_eq_false, decide_true, decide_false, e1, e2, e4, ob, rz0]
      · have e4 : gr D pl v < gr D pl w := by omega
        simp only [Nat.reduceAdd, reduceIte, Int.reduceEq, Int.reduceLT, Int.reduceLE, Int.reduceNeg, Int.reduceAdd, Int.reduceSub, Int.reduceMul, Int.reduceNe, or_true, true_or, or_false, false_or, or_self, and_true, true_and, and_false, false_and, and_self, not_true_eq_false, not_false_eq_true, ne_eq, Bool.false_eq_true, Bool.true_eq_false, decide_true, decide_false, e1, e2, e4, ob, rz1]
  · by_cases r2 : rule = 2
    · simp (disch := omega) only [Nat.reduceAdd, reduceIte, Int.reduceEq, Int.reduceLT, Int.reduceLE, Int.reduceNeg, Int.reduceAdd, Int.reduceSub, Int.reduceMul, Int.reduceNe, or_true, true_or, or_false, false_or, or_self, and_true, true_and, and_false, false_and, and_self, not_true_eq_false, not_false_eq_true, ne_eq, Bool.false_eq_true, Bool.true_eq_false, decide_true, decide_false, r2, ob, LD, d6, y6]
      by_cases e3 : D 6 v ≤ D 6 w
      · have e4 : ¬ D 6 w < D 6 v := by omega
        simp only [Nat.reduceAdd, reduceIte, Int.reduceEq, Int.reduceLT, Int.reduceLE, Int.reduceNeg, Int.reduceAdd, Int.reduceSub, Int.reduceMul, Int.reduceNe, or_true, true_or, or_false, false_or, or_self, and_true, true_and, and_false, false_and, and_self, not_true_eq_false, not_false_eq_true, ne_eq, Bool.false_eq_true, Bool.true_eq_false, decide_true, decide_false, e3, e4, ob, rz0]
      · have e4 : D 6 w < D 6 v := by omega
        simp only [Nat.reduceAdd, reduceIte, Int.reduceEq, Int.reduceLT, Int.reduceLE, Int.reduceNeg, Int.reduceAdd, Int.reduceSub, Int.reduceMul, Int.reduceNe, or_true, true_or, or_false, false_or, or_self, and_true, true_and, and_false, false_and, and_self, not_true_eq_false, not_false_eq_true, ne_eq, Bool.false_eq_true, Bool.true_eq_false, decide_true, decide_false, e3, e4, ob, rz1]
    · by_cases r3 : rule = 3
      · simp (disch := omega) only [Nat.reduceAdd, reduceIte, Int.reduceEq, Int.reduceLT, Int.reduceLE, Int.reduceNeg, Int.reduceAdd, Int.reduceSub, Int.reduceMul, Int.reduceNe, or_true, true_or, or_false, false_or, or_self, and_true, true_and, and_false, false_and, and_self, not_true_eq_false, not_false_eq_true, ne_eq, Bool.false_eq_true, Bool.true_eq_false, decide_true, decide_false, r3, ob, s_X12_how hD hM h0 h1]
        by_cases e3 : D 1 v = 7
        · by_cases e4 : D 1 w = 7
          · simp only [Nat.reduceAdd, reduceIte, Int.reduceEq, Int.reduceLT, Int.reduceLE, Int.reduceNeg, Int.reduceAdd, Int.reduceSub, Int.reduceMul, Int.reduceNe, or_true, true_or, or_false, false_or, or_self, and_true, true_and, and_false, false_and, and_self, not_true_eq_false, not_false_eq_true, ne_eq, Bool.false_eq_true, Bool.true_eq_false, decide_true, decide_false, e3, e4, ob, rz0, s_X12_how hD hM w0 w1]
          · simp only [Nat.reduceAdd, reduceIte, Int.reduceEq, Int.reduceLT, Int.reduceLE, Int.reduceNeg, Int.reduceAdd, Int.reduceSub, Int.reduceMul, Int.reduceNe, or_true, true_or, or_false, false_or, or_self, and_true, true_and, and_false, false_and, and_self, not_true_eq_false, not_false_eq_true, ne_eq, Bool.false_eq_true, Bool.true_eq_false, decide_true, decide_false, e3, e4, ob, rz1, s_X12_how hD hM w0 w1]
        · simp only [Nat.reduceAdd, reduceIte, Int.reduceEq, Int.reduceLT, Int.reduceLE, Int.reduceNeg, Int.reduceAdd, Int.reduceSub, Int.reduceMul, Int.reduceNe, or_true, true_or, or_false, false_or, or_self, and_true, true_and, and_false, false_and, and_self, not_true_eq_false, not_false_eq_true, ne_eq, Bool.false_eq_true, Bool.true_eq_false, decide_true, decide_false, e3, ob, rz0]
      · simp only [Nat.reduceAdd, reduceIte, Int.reduceEq, Int.reduceLT, Int.reduceLE, Int.reduceNeg, Int.reduceAdd, Int.reduceSub, Int.reduceMul, Int.reduceNe, or_true, true_or, or_false, false_or, or_self, and_true, true_and, and_false, false_and, and_self, not_true_eq_false, not_false_eq_true, ne_eq, Bool.false_eq_true, Bool.true_eq_false, decide_true, decide_false, r0, r2, r3, ob, rz0]
set_option maxHeartbeats 4000000 in
set_option maxRecDepth 20000 in
theorem s_X12_choose {M D : Mem} {rule pl : Int} (hD : DW D) (hM : MD M D) : lp (fX12_orders_b2 rule pl) (-1, 0, M) = some (bst D rule pl (D 0 0).toNat, M) := by
  have n0 := hD.1
  have n1 := hD.2.1
  obtain ⟨c1, c2, c3, -, -, c4⟩ := id hM
  suffices h : ∃ r, lp (fX12_orders_b2 rule pl) (-1, 0, M) = some r ∧ r = (bst D rule pl (D 0 0).toNat, M) by
    obtain ⟨r, e, rfl⟩ := h
    exact e
  refine lp_ind (fun s : Int × Int × Mem => 0 ≤ s.2.1 ∧ s.2.1 ≤ D 0 0 ∧ s.2.2 = M ∧ s.1 = bst D rule pl s.2.1.toNat) (fun r => r = (bst D rule pl (D 0 0).toNat, M)) (fun s => (D 0 0 - s.2.1).toNat) ?_ _ ?_
  · rintro ⟨x, v, m⟩ ⟨h0, h1, hm, hx⟩
    dsimp only at h0 h1 hm hx
    subst hm
    unfold fX12_orders_b2
    simp only [s_X12_values, ob, c1]
    by_cases hv : D 0 0 ≤ v
    · have : v = D 0 0 := by omega
      rw [if_pos hv]
      exact Or.inr ⟨_, rfl, by rw [hx, this]⟩
    · rw [if_neg hv]
      have hv1 : v < D 0 0 := by omega
      obtain ⟨d1, d2, d3, d4, d5, d6⟩ := c4 v h0 hv1
      obtain ⟨b0, b1, -, -⟩ := bst_ok D rule pl v.toNat
      rw [← hx] at b0 b1
      refine Or.inl ⟨(bst D rule pl (v + 1).toNat, v + 1, m), ?_, ⟨by dsimp only; omega, by dsimp only; omega, rfl, rfl⟩, by dsimp only; omega⟩
      rw [bst_s h0, ← hx]
      have hrd : ((if (if tb (D 0 1) v = true then (1 : Int) else 0) = 0 then some (0, m) else (fX12_has pl v m).bind fun q6 => if q6.1 = 0 then (ldJ q6.2 159 v).bind fun v7 => if (lc (land v7 (lxor pl (-1))) 0) = 0 then some (1, q6.2) else some (0, q6.2) else some (0, q6.2) : Option (Int × Mem))) = some (if rdy D pl v = true then 1 else 0, m) := by
        unfold rdy
        simp (disch := omega) only [s_X12_has, LD, ob, d4, decide_eq_true_eq]
        by_cases e1 : tb (D 0 1) v = true
        · cases e2 : tb pl v
          · by_cases e3 : lc (land (D 4 v) (lxor pl (-1))) 0 = 0
            · simp only [Nat.reduceAdd, reduceIte, Int.reduceEq, Int.reduceLT, Int.reduceLE, Int.reduceNeg, Int.reduceAdd, Int.reduceSub, Int.reduceMul, Int.reduceNe, or_true, true_or, or_false, false_or, or_self, and_true, true_and, and_false, false_and, and_self, not_true_eq_false, not_false_eq_true, ne_eq, Bool.false_eq_true, Bool.true_eq_false, decide_true, decide_false, e1, e3]
            · simp only [Nat.reduceAdd, reduceIte, Int.reduceEq, Int.reduceLT, Int.reduceLE, Int.reduceNeg, Int.reduceAdd, Int.reduceSub, Int.reduceMul, Int.reduceNe, or_true, true_or, or_false, false_or, or_self, and_true, true_and, and_false, false_and, and_self, not_true_eq_false, not_false_eq_true, ne_eq, Bool.false_eq_true, Bool.true_eq_false, decide_true, decide_false, e1, e3]
          · simp only [Nat.reduceAdd, reduceIte, Int.reduceEq, Int.reduceLT, Int.reduceLE, Int.reduceNeg, Int.reduceAdd, Int.reduceSub, Int.reduceMul, Int.reduceNe, or_true, true_or, or_false, false_or, or_self, and_true, true_and, and_false, false_and, and_self, not_true_eq_false, not_false_eq_true, ne_eq, Bool.false_eq_true, Bool.true_eq_false, decide_true, decide_false, e1]
        · simp only [Nat.reduceAdd, reduceIte, Int.reduceEq, Int.reduceLT, Int.reduceLE, Int.reduceNeg, Int.reduceAdd, Int.reduceSub, Int.reduceMul, Int.reduceNe, or_true, true_or, or_false, false_or, or_self, and_true, true_and, and_false, false_and, and_self, not_true_eq_false, not_false_eq_true, ne_eq, Bool.false_eq_true, Bool.true_eq_false, decide_true, decide_false, e1]
      simp (disch := omega) only [s_X12_has, ob, c2] at hrd ⊢
      simp (disch := omega) only [hrd, ob]
      by_cases er : rdy D pl v = true
      · by_cases ex : x = -1
        · have ex' : x < 0 := by omega
          simp (disch := omega) only [Nat.reduceAdd, reduceIte, Int.reduceEq, Int.reduceLT, Int.reduceLE, Int.reduceNeg, Int.reduceAdd, Int.reduceSub, Int.reduceMul, Int.reduceNe, or_true, true_or, or_false, false_or, or_self, and_true, true_and, and_false, false_and, and_self, not_true_eq_false, not_false_eq_true, ne_eq, Bool.false_eq_true, Bool.true_eq_false, decide_true, decide_false, er, ex, ob, w32_id]
        · have ex' : ¬ x < 0 := by omega
          simp (disch := omega) only [Nat.reduceAdd, reduceIte, Int.reduceEq, Int.reduceLT, Int.reduceLE, Int.reduceNeg, Int.reduceAdd, Int.reduceSub, Int.reduceMul, Int.reduceNe, or_true, true_or, or_false, false_or, or_self, and_true, true_and, and_false, false_and, and_self, not_true_eq_false, not_false_eq_true, ne_eq, Bool.false_eq_true, Bool.true_eq_false, decide_true, decide_false, er, ex, ex', ob, w32_id, s_X12_goesAhead hD hM h0 hv1 (show 0 ≤ x by omega) (show x < D 0 0 by omega)]
          by_cases ea : ahd D rule pl v x = true
          · simp (disch := omega) only [Nat.reduceAdd, reduceIte, Int.reduceEq, Int.reduceLT, Int.reduceLE, Int.reduceNeg, Int.reduceAdd, Int.reduceSub, Int.reduceMul, Int.reduceNe, or_true, true_or, or_false, false_or, or_self, and_true, true_and, and_false, false_and, and_self, not_true_eq_false, not_false_eq_true, ne_eq, Bool.false_eq_true, Bool.true_eq_false, decide_true, decide_false, ea, ob, w32_id]
          · simp (disch := omega) only [Nat.reduceAdd, reduceIte, Int.reduceEq, Int.reduceLT, Int.reduceLE, Int.reduceNeg, Int.reduceAdd, Int.reduceSub, Int.reduceMul, Int.reduceNe, or_true, true_or, or_false, false_or, or_self, and_true, true_and, and_false, false_and, and_self, not_true_eq_false, not_false_eq_true, ne_eq, Bool.false_eq_true, Bool.true_eq_false, decide_true, decide_false, ea, ob, w32_id]
      · simp (disch := omega) only [Nat.reduceAdd, reduceIte, Int.reduceEq, Int.reduceLT, Int.reduceLE, Int.reduceNeg, Int.reduceAdd, Int.reduceSub, Int.reduceMul, Int.reduceNe, or_true, true_or, or_false, false_or, or_self, and_true, true_and, and_false, false_and, and_self, not_true_eq_false, not_false_eq_true, ne_eq, Bool.false_eq_true, Bool.true_eq_false, decide_true, decide_false, er, ob, w32_id]
  · exact ⟨Int.le_refl _, n0, rfl, rfl⟩
set_option maxHeartbeats 4000000 in
set_option maxRecDepth 20000 in
theorem s_X12_orders_b1 {M D : Mem} {rule : Int} (hD : DW D) (hM : MD M D) (hz : M 132 41 = 0) :
    ∃ M', lp (fX12_orders_b1 rule) (0, M) = some M' ∧ (∀ b, b ≠ 132 → b ≠ 162 → M' b = M b) ∧ (∀ k, k ≠ 41 → M' 132 k = M 132 k) ∧ M' 132 41 = pc (D 0 1) ∧ ∀ p, 0 ≤ p → p < pc (D 0 1) → M' 162 p = odr D rule p := by
  have n0 := hD.1
  have n1 := hD.2.1
  have iN := hD.2.2.1
  have pn := pc_n hD
  have pb := pc_bd (D 0 1)
  have P := pls_ok hD rule
  have O := odr_ok hD rule
  refine lp_ind (fun s : Int × Mem => 0 ≤ s.2 132 41 ∧ s.2 132 41 ≤ pc (D 0 1) ∧ (∀ b, b ≠ 132 → b ≠ 162 → s.2 b = M b) ∧ (∀ k, k ≠ 41 → s.2 132 k = M 132 k) ∧ s.1 = pls D rule (s.2 132 41).toNat ∧ ∀ p, 0 ≤ p → p < s.2 132 41 → s.2 162 p = odr D rule p)
    (fun r : Mem => (∀ b, b ≠ 132 → b ≠ 162 → r b = M b) ∧ (∀ k, k ≠ 41 → r 132 k = M 132 k) ∧ r 132 41 = pc (D 0 1) ∧ ∀ p, 0 ≤ p → p < pc (D 0 1) → r 162 p = odr D rule p) (fun s => (pc (D 0 1) - s.2 132 41).toNat) ?_ _ ?_
  · rintro ⟨pl, m⟩ ⟨t0, t1, hfr, hfk, hp, hL⟩
    dsimp only at t0 t1 hfr hfk hp hL
    have hm : MD m D := MD_fr hM ⟨fun b b1 b2 => hfr b b1 (by omega), fun k k1 k2 k3 => hfk k k1⟩
    unfold fX12_orders_b1
    obtain ⟨t, ht⟩ : ∃ t, m 132 41 = t := ⟨_, rfl⟩
    simp only [ht] at t0 t1 hp hL
    simp only [hm.2.1, ht]
    have ipl : i64 pl := by rw [hp]; exact (P t.toNat (by omega)).1
    simp only [lc_eq ipl iN]
    by_cases hlt : t < pc (D 0 1)
    · have ne : ¬ pl = D 0 1 := by rw [hp]; exact pls_ne hD rule (by omega)
      have nb : bst D rule pl (D 0 0).toNat ≠ -1 := by rw [hp]; exact (P t.toNat (by omega)).2.2.2.2 (by omega)
      have eo : odr D rule t = bst D rule pl (D 0 0).toNat := by unfold odr; rw [hp]
      rw [if_neg ne]
      simp (disch := omega) only [s_X12_choose hD hm, ob, ← eo, ht, ST, wr_ne, pI_ok, w32_id]
      refine Or.inl ⟨_, rfl, ⟨?_, ?_, fun b b1 b2 => ?_, fun k hk => ?_, ?_, fun p a b => ?_⟩, ?_⟩
      · simp (disch := omega) only [wr_ne, wr_at, if_true]; omega
      · simp (disch := omega) only [wr_ne, wr_at, if_true]; omega
      · simp (disch := omega) only [wr_ne, hfr]
      · simp (disch := omega) only [wr_ne, wr_at, if_neg, hfk]
      · simp (disch := omega) only [wr_ne, wr_at, if_true]
        rw [eo, hp, show (t + 1).toNat = t.toNat + 1 by omega]
        rfl
      · simp (disch := omega) only [wr_ne, wr_at, if_true] at b ⊢
        by_cases hpt : p = t
        · rw [if_pos hpt, hpt]
        · rw [if_neg hpt]
          exact hL p a (by omega)
      · simp (disch := omega) only [wr_ne, wr_at, if_true]; omega
    · have et : t = pc (D 0 1) := by omega
      have e : pl = D 0 1 := by rw [hp, et]; exact pls_all hD rule
      rw [if_pos e]
      refine Or.inr ⟨m, rfl, hfr, hfk, by rw [ht]; exact et, fun p a b => hL p a (by omega)⟩
  · dsimp only
    rw [hz]
    exact ⟨Int.le_refl _, pb.1, fun b _ _ => rfl, fun k _ => rfl, rfl, fun p a b => by omega⟩
