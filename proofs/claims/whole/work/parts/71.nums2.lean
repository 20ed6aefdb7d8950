set_option maxHeartbeats 4000000 in
set_option maxRecDepth 20000 in
theorem Nm_bd {n nI : Int} {mk ag F num cell Nm : Int → Int} (hV : Val n mk ag F nI) (hnum : ∀ i, 0 ≤ i → i < nI → 0 ≤ num i ∧ num i ≤ 999) (hcl : ∀ i, 0 ≤ i → i < 16 → 0 ≤ cell i ∧ cell i ≤ 999) (h : ∀ v, 0 ≤ v → v < n → Nm v = nmF mk ag num cell Nm v) : ∀ (k : Nat) (v : Int), v < k → 0 ≤ v → v < n → (-99999 ≤ Nm v ∧ Nm v ≤ 99999) ∧ (F v = 1 → Nm v = 0 ∨ Nm v = 1) := by
  intro k
  induction k with
  | zero => intro v a b; omega
  | succ k ih =>
    intro v a b c
    obtain ⟨k0, k1, k2, k3, k4, k5, k6, k7, k8, kF, t1, t2, t3⟩ := hV.2.2.2.2 v b c
    rw [h v b c]
    unfold nmF
    by_cases e0 : mk v = 0
    · rw [if_pos e0]
      have := hnum _ (k2 e0).1 (k2 e0).2
      rw [if_neg (by omega), if_neg (by omega)] at kF
      exact ⟨by omega, fun z => by omega⟩
    · rw [if_neg e0]
      by_cases e1 : mk v = 1
      · rw [if_pos e1]
        have := k3 e1
        rw [if_neg (by omega), if_neg (by omega)] at kF
        exact ⟨by omega, fun z => by omega⟩
      · rw [if_neg e1]
        have q4 := k4 (by omega)
        have A := ih (ag (3 * v)) (by omega) q4.1 (by omega)
        have B : (-99999 ≤ atA Nm (ag (3 * v + 1)) ∧ atA Nm (ag (3 * v + 1)) ≤ 99999) ∧ (mk v ≠ 7 → mk v ≠ 12 → F (ag (3 * v + 1)) = 1 → atA Nm (ag (3 * v + 1)) = 0 ∨ atA Nm (ag (3 * v + 1)) = 1) := by
          unfold atA
          by_cases hh : mk v = 7 ∨ mk v = 12
          · have := k7 (Or.inr hh)
            rw [if_neg (by omega)]
            exact ⟨by omega, fun z1 z2 => by omega⟩
          · have q := k5 (by omega) (by omega) (by omega)
            rw [if_pos q.1]
            have := ih _ (by omega) q.1 (by omega)
            exact ⟨this.1, fun _ _ => this.2⟩
        have C : (-99999 ≤ atA Nm (ag (3 * v + 2)) ∧ atA Nm (ag (3 * v + 2)) ≤ 99999) ∧ (mk v = 13 → F (ag (3 * v + 2)) = 1 → atA Nm (ag (3 * v + 2)) = 0 ∨ atA Nm (ag (3 * v + 2)) = 1) := by
          unfold atA
          by_cases hh : mk v = 13
          · have q := k6 hh
            rw [if_pos q.1]
            have := ih _ (by omega) q.1 (by omega)
            exact ⟨this.1, fun _ => this.2⟩
          · have := k8 hh
            rw [if_neg (by omega)]
            exact ⟨by omega, fun z => by omega⟩
        refine ⟨mdF_bd A.1 B.1 C.1 (fun z => A.2 (t1 (by omega))) hcl, fun hf => ?_⟩
        have hk : mk v = 8 ∨ mk v = 9 ∨ mk v = 10 ∨ mk v = 11 ∨ mk v = 12 ∨ mk v = 13 := by
          rw [hf] at kF
          by_cases h13 : mk v = 13
          · omega
          · rw [if_neg h13] at kF
            by_cases h8 : 8 ≤ mk v ∧ mk v ≤ 12
            · omega
            · rw [if_neg h8] at kF; omega
        generalize Nm (ag (3 * v)) = x at *
        generalize atA Nm (ag (3 * v + 1)) = y at *
        generalize atA Nm (ag (3 * v + 2)) = z at *
        rcases hk with e | e | e | e | e | e
        · simp only [mdF, e, Nat.reduceAdd, reduceIte, Int.reduceEq, Int.reduceLT, Int.reduceLE, Int.reduceNeg, Int.reduceAdd, Int.reduceSub, Int.reduceMul, Int.reduceNe, or_true, true_or, or_false, false_or, or_self, and_true, true_and, and_false, false_and, and_self, not_true_eq_false, not_false_eq_true, ne_eq, Bool.false_eq_true, Bool.true_eq_false, decide_true, decide_false]; split <;> omega
        · simp only [mdF, e, Nat.reduceAdd, reduceIte, Int.reduceEq, Int.reduceLT, Int.reduceLE, Int.reduceNeg, Int.reduceAdd, Int.reduceSub, Int.reduceMul, Int.reduceNe, or_true, true_or, or_false, false_or, or_self, and_true, true_and, and_false, false_and, and_self, not_true_eq_false, not_false_eq_true, ne_eq, Bool.false_eq_true, Bool.true_eq_false, decide_true, decide_false]; split <;> omega
        · simp only [mdF, e, Nat.reduceAdd, reduceIte, Int.reduceEq, Int.reduceLT, Int.reduceLE, Int.reduceNeg, Int.reduceAdd, Int.reduceSub, Int.reduceMul, Int.reduceNe, or_true, true_or, or_false, false_or, or_self, and_true, true_and, and_false, false_and, and_self, not_true_eq_false, not_false_eq_true, ne_eq, Bool.false_eq_true, Bool.true_eq_false, decide_true, decide_false]
          have := A.2 (t1 (by omega)); have := B.2 (by omega) (by omega) (t2 (Or.inl e)); omega
        · simp only [mdF, e, Nat.reduceAdd, reduceIte, Int.reduceEq, Int.reduceLT, Int.reduceLE, Int.reduceNeg, Int.reduceAdd, Int.reduceSub, Int.reduceMul, Int.reduceNe, or_true, true_or, or_false, false_or, or_self, and_true, true_and, and_false, false_and, and_self, not_true_eq_false, not_false_eq_true, ne_eq, Bool.false_eq_true, Bool.true_eq_false, decide_true, decide_false]
          have := A.2 (t1 (by omega)); have := B.2 (by omega) (by omega) (t2 (Or.inr e)); omega
        · simp only [mdF, e, Nat.reduceAdd, reduceIte, Int.reduceEq, Int.reduceLT, Int.reduceLE, Int.reduceNeg, Int.reduceAdd, Int.reduceSub, Int.reduceMul, Int.reduceNe, or_true, true_or, or_false, false_or, or_self, and_true, true_and, and_false, false_and, and_self, not_true_eq_false, not_false_eq_true, ne_eq, Bool.false_eq_true, Bool.true_eq_false, decide_true, decide_false]
          have := A.2 (t1 (by omega)); omega
        · simp only [mdF, e, Nat.reduceAdd, reduceIte, Int.reduceEq, Int.reduceLT, Int.reduceLE, Int.reduceNeg, Int.reduceAdd, Int.reduceSub, Int.reduceMul, Int.reduceNe, or_true, true_or, or_false, false_or, or_self, and_true, true_and, and_false, false_and, and_self, not_true_eq_false, not_false_eq_true, ne_eq, Bool.false_eq_true, Bool.true_eq_false, decide_true, decide_false]
          rw [if_pos e, hf] at kF
          have b1 := B.2 (by omega) (by omega) kF.symm
          have c1 := C.2 e (by rw [t3 e]; exact kF.symm)
          split <;> omega
