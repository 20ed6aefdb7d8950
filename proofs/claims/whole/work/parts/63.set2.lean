set_option maxHeartbeats 4000000 in
set_option maxRecDepth 20000 in
theorem s_X11_set_b1 {M : Mem} {t : Nat} {p l x : Int} (ht : t = 5 ∨ t = 119) (h13 : M 0 13 = t) (p0 : 0 ≤ p) (p1 : p < 6) (hg : M (t + 10) p = 0 ∨ M (t + 10) p = 1) : ∃ r, lp (fX11_set_b1 p l x) (0, M) = some r ∧ (∀ b, b ≠ 54 → r b = M b) ∧ ∀ j, r 54 j = if (4 * p ≤ j ∧ j < 4 * p + 4) ∧ (j = 4 * p + l ∨ M (t + 10) p = 1) then x else M 54 j := by
  refine lp_ind (fun s : Int × Mem => 0 ≤ s.1 ∧ s.1 ≤ 4 ∧ (∀ b, b ≠ 54 → s.2 b = M b) ∧ ∀ j, s.2 54 j = if (4 * p ≤ j ∧ j < 4 * p + s.1) ∧ (j = 4 * p + l ∨ M (t + 10) p = 1) then x else M 54 j) (fun r : Mem => (∀ b, b ≠ 54 → r b = M b) ∧ ∀ j, r 54 j = if (4 * p ≤ j ∧ j < 4 * p + 4) ∧ (j = 4 * p + l ∨ M (t + 10) p = 1) then x else M 54 j) (fun s => (4 - s.1).toNat) ?_ _ ?_
  · rintro ⟨k, m⟩ ⟨k0, k1, hfr, hb⟩
    dsimp only at k0 k1 hfr hb
    unfold fX11_set_b1
    dsimp only
    by_cases hk : 4 ≤ k
    · rw [if_pos hk]
      rw [show k = 4 by omega] at hb
      exact Or.inr ⟨m, rfl, hfr, hb⟩
    · rw [if_neg hk]
      have e0 : m 0 = M 0 := hfr 0 (by omega)
      have et : m (t + 10) = M (t + 10) := hfr _ (by omega)
      rw [gm_ok ht (by rw [e0]; exact h13), ob]
      have hq : ((if k = l then some true else (ldZ m (t + 10) p).bind fun v8 => if v8 = 0 then some false else some true : Option Bool)) = some (decide (k = l ∨ M (t + 10) p = 1)) := by
        simp (disch := omega) only [LTd ht, ob, et]
        by_cases e1 : k = l
        · simp only [e1, Nat.reduceAdd, reduceIte, Int.reduceEq, Int.reduceLT, Int.reduceLE, Int.reduceNeg, Int.reduceAdd, Int.reduceSub, Int.reduceMul, Int.reduceNe, or_true, true_or, or_false, false_or, or_self, and_true, true_and, and_false, false_and, and_self, not_true_eq_false, not_false_eq_true, ne_eq, Bool.false_eq_true, Bool.true_eq_false, decide_true, decide_false]
        · rcases hg with e | e <;> simp only [e1, e, Nat.reduceAdd, reduceIte, Int.reduceEq, Int.reduceLT, Int.reduceLE, Int.reduceNeg, Int.reduceAdd, Int.reduceSub, Int.reduceMul, Int.reduceNe, or_true, true_or, or_false, false_or, or_self, and_true, true_and, and_false, false_and, and_self, not_true_eq_false, not_false_eq_true, ne_eq, Bool.false_eq_true, Bool.true_eq_false, decide_true, decide_false]
      rw [hq, ob]
      by_cases hc : k = l ∨ M (t + 10) p = 1
      · rw [decide_eq_true hc, if_pos rfl]
        simp (disch := omega) only [w32_id, ST, ob]
        refine Or.inl ⟨_, rfl, ⟨by dsimp only; omega, by dsimp only; omega, fun b b1 => by simp (disch := omega) only [wr_ne, hfr], fun j => ?_⟩, by dsimp only; omega⟩
        simp only [wr_at]
        by_cases e : j = 4 * p + k
        · rw [if_pos e, if_pos (by omega)]
        · rw [if_neg e, hb j]
          congr 1
          apply propext
          omega
      · rw [decide_eq_false hc]
        simp (disch := omega) only [Nat.reduceAdd, reduceIte, Int.reduceEq, Int.reduceLT, Int.reduceLE, Int.reduceNeg, Int.reduceAdd, Int.reduceSub, Int.reduceMul, Int.reduceNe, or_true, true_or, or_false, false_or, or_self, and_true, true_and, and_false, false_and, and_self, not_true_eq_false, not_false_eq_true, ne_eq, Bool.false_eq_true, Bool.true_eq_false, decide_true, decide_false, ob, w32_id]
        refine Or.inl ⟨_, rfl, ⟨by dsimp only; omega, by dsimp only; omega, hfr, fun j => ?_⟩, by dsimp only; omega⟩
        dsimp only
        rw [hb j]
        congr 1
        apply propext
        omega
  · refine ⟨Int.le_refl _, by dsimp only; omega, fun b _ => rfl, fun j => ?_⟩
    dsimp only
    rw [if_neg (by omega)]
set_option maxHeartbeats 4000000 in
set_option maxRecDepth 20000 in
theorem s_X12_set_b1 {M : Mem} {p l x : Int} (p0 : 0 ≤ p) (p1 : p < 6) : ∃ r, lp (fX12_set_b1 p l x) (0, M) = some r ∧ (∀ b, b ≠ 151 → r b = M b) ∧ ∀ j, r 151 j = if (4 * p ≤ j ∧ j < 4 * p + 4) ∧ (j = 4 * p + l ∨ M 138 (10 + 3 * p + 2) = 1) then x else M 151 j := by
  refine lp_ind (fun s : Int × Mem => 0 ≤ s.1 ∧ s.1 ≤ 4 ∧ (∀ b, b ≠ 151 → s.2 b = M b) ∧ ∀ j, s.2 151 j = if (4 * p ≤ j ∧ j < 4 * p + s.1) ∧ (j = 4 * p + l ∨ M 138 (10 + 3 * p + 2) = 1) then x else M 151 j) (fun r : Mem => (∀ b, b ≠ 151 → r b = M b) ∧ ∀ j, r 151 j = if (4 * p ≤ j ∧ j < 4 * p + 4) ∧ (j = 4 * p + l ∨ M 138 (10 + 3 * p + 2) = 1) then x else M 151 j) (fun s => (4 - s.1).toNat) ?_ _ ?_
  · rintro ⟨k, m⟩ ⟨k0, k1, hfr, hb⟩
    dsimp only at k0 k1 hfr hb
    unfold fX12_set_b1
    dsimp only
    by_cases hk : 4 ≤ k
    · rw [if_pos hk]
      rw [show k = 4 by omega] at hb
      exact Or.inr ⟨m, rfl, hfr, hb⟩
    · rw [if_neg hk]
      have et : m 138 = M 138 := hfr _ (by omega)
      have hq : ((if k = l then some 1 else (ldI m 138 (w32 ((w32 (10 + (w32 (3 * p)))) + 2))).bind fun v9 => if v9 = 1 then some 1 else some 0 : Option Int)) = some (if k = l ∨ M 138 (10 + 3 * p + 2) = 1 then 1 else 0) := by
        simp (disch := omega) only [w32_id, LD, ob, et]
        by_cases e1 : k = l
        · simp only [e1, Nat.reduceAdd, reduceIte, Int.reduceEq, Int.reduceLT, Int.reduceLE, Int.reduceNeg, Int.reduceAdd, Int.reduceSub, Int.reduceMul, Int.reduceNe, or_true, true_or, or_false, false_or, or_self, and_true, true_and, and_false, false_and, and_self, not_true_eq_false, not_false_eq_true, ne_eq, Bool.false_eq_true, Bool.true_eq_false, decide_true, decide_false]
        · by_cases e : M 138 (10 + 3 * p + 2) = 1 <;> simp only [e1, e, Nat.reduceAdd, reduceIte, Int.reduceEq, Int.reduceLT, Int.reduceLE, Int.reduceNeg, Int.reduceAdd, Int.reduceSub, Int.reduceMul, Int.reduceNe, or_true, true_or, or_false, false_or, or_self, and_true, true_and, and_false, false_and, and_self, not_true_eq_false, not_false_eq_true, ne_eq, Bool.false_eq_true, Bool.true_eq_false, decide_true, decide_false]
      rw [hq, ob]
      have hbk := hb (4 * p + k)
      rw [if_neg (by omega)] at hbk
      by_cases hc : k = l ∨ M 138 (10 + 3 * p + 2) = 1
      · rw [if_pos hc, if_neg (show ¬ (1 : Int) = 0 by decide)]
        simp (disch := omega) only [w32_id, ST, ob]
        refine Or.inl ⟨_, rfl, ⟨by dsimp only; omega, by dsimp only; omega, fun b b1 => by simp (disch := omega) only [wr_ne, hfr], fun j => ?_⟩, by dsimp only; omega⟩
        simp only [wr_at]
        by_cases e : j = 4 * p + k
        · rw [if_pos e, if_pos (by omega)]
        · rw [if_neg e, hb j]
          congr 1
          apply propext
          omega
      · rw [if_neg hc, if_pos rfl]
        simp (disch := omega) only [w32_id, LD, ST, ob]
        refine Or.inl ⟨_, rfl, ⟨by dsimp only; omega, by dsimp only; omega, fun b b1 => by simp (disch := omega) only [wr_ne, hfr], fun j => ?_⟩, by dsimp only; omega⟩
        simp only [wr_at]
        by_cases e : j = 4 * p + k
        · rw [if_pos e, if_neg (by omega), hbk, e]
        · rw [if_neg e, hb j]
          congr 1
          apply propext
          omega
  · refine ⟨Int.le_refl _, by dsimp only; omega, fun b _ => rfl, fun j => ?_⟩
    dsimp only
    rw [if_neg (by omega)]
