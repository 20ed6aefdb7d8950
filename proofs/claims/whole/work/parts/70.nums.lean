theorem s_X11_made' {k a b c : Int} {M : Mem} (ha : -99999 ≤ a ∧ a ≤ 99999) (hb : k ≠ 7 → k ≠ 12 → -99999 ≤ b ∧ b ≤ 99999) : fX11_made k a b c M = some (mdF k a b c (M 55), M) := by
  by_cases h7 : k = 7
  · subst h7
    unfold fX11_made mdF
    simp only [Nat.reduceAdd, reduceIte, Int.reduceEq, Int.reduceLT, Int.reduceLE, Int.reduceNeg, Int.reduceAdd, Int.reduceSub, Int.reduceMul, Int.reduceNe, or_true, true_or, or_false, false_or, or_self, and_true, true_and, and_false, false_and, and_self, not_true_eq_false, not_false_eq_true, ne_eq, Bool.false_eq_true, Bool.true_eq_false, decide_true, decide_false]
    rw [s_floorMod16 ha.1 ha.2, ob, ld55 _ _ (by omega) (by omega), ob]
  · by_cases h12 : k = 12
    · subst h12
      unfold fX11_made mdF
      simp only [Nat.reduceAdd, reduceIte, Int.reduceEq, Int.reduceLT, Int.reduceLE, Int.reduceNeg, Int.reduceAdd, Int.reduceSub, Int.reduceMul, Int.reduceNe, or_true, true_or, or_false, false_or, or_self, and_true, true_and, and_false, false_and, and_self, not_true_eq_false, not_false_eq_true, ne_eq, Bool.false_eq_true, Bool.true_eq_false, decide_true, decide_false]
      rw [w32_id (by omega) (by omega)]
    · exact s_X11_made ha (hb h7 h12)
theorem mdF_irr {k a b c b' c' : Int} {cell : Int → Int} (hk : 2 ≤ k) (hb : k ≠ 7 → k ≠ 12 → b' = b) (hc : k = 13 → c' = c) : mdF k a b' c' cell = mdF k a b c cell := by
  by_cases h13 : k = 13
  · rw [hb (by omega) (by omega), hc h13]
  · by_cases h : k = 7 ∨ k = 12
    · rcases h with rfl | rfl <;> simp only [mdF, Nat.reduceAdd, reduceIte, Int.reduceEq, Int.reduceLT, Int.reduceLE, Int.reduceNeg, Int.reduceAdd, Int.reduceSub, Int.reduceMul, Int.reduceNe, or_true, true_or, or_false, false_or, or_self, and_true, true_and, and_false, false_and, and_self, not_true_eq_false, not_false_eq_true, ne_eq, Bool.false_eq_true, Bool.true_eq_false, decide_true, decide_false]
    · rw [hb (by omega) (by omega)]
      unfold mdF
      rw [if_neg h13, if_neg h13]
/-- the numbers of values in a lane -/
def nmF (mk ag num cell Nm : Int → Int) (v : Int) : Int := if mk v = 0 then num (ag (3 * v)) else if mk v = 1 then ag (3 * v) else mdF (mk v) (Nm (ag (3 * v))) (atA Nm (ag (3 * v + 1))) (atA Nm (ag (3 * v + 2))) cell
def NmOK (n : Int) (mk ag num cell Nm : Int → Int) : Prop := ∀ v, 0 ≤ v → v < n → Nm v = nmF mk ag num cell Nm v
theorem nmF_congr {n nI : Int} {mk ag F num cell Nm Nm' : Int → Int} (hV : Val n mk ag F nI) {v : Int} (h0 : 0 ≤ v) (h1 : v < n) (h : ∀ w, 0 ≤ w → w < v → Nm' w = Nm w) : nmF mk ag num cell Nm' v = nmF mk ag num cell Nm v := by
  obtain ⟨k0, k1, -, -, k4, k5, k6, k7, k8, -⟩ := hV.2.2.2.2 v h0 h1
  unfold nmF
  by_cases e0 : mk v = 0
  · rw [if_pos e0, if_pos e0]
  · rw [if_neg e0, if_neg e0]
    by_cases e1 : mk v = 1
    · rw [if_pos e1, if_pos e1]
    · rw [if_neg e1, if_neg e1]
      have q4 := k4 (by omega)
      rw [h _ q4.1 q4.2]
      apply mdF_irr (by omega)
      · intro c1 c2
        have q := k5 (by omega) c1 c2
        unfold atA
        rw [if_pos q.1, if_pos q.1, h _ q.1 q.2]
      · intro c1
        have q := k6 c1
        unfold atA
        rw [if_pos q.1, if_pos q.1, h _ q.1 q.2]
theorem Nm_uniq {n nI : Int} {mk ag F num cell Nm Nm' : Int → Int} (hV : Val n mk ag F nI) (h : NmOK n mk ag num cell Nm) (h' : NmOK n mk ag num cell Nm') : ∀ (k : Nat) (v : Int), v < k → 0 ≤ v → v < n → Nm' v = Nm v := by
  intro k
  induction k with
  | zero => intro v a b; omega
  | succ k ih =>
    intro v a b c
    rw [h v b c, h' v b c]
    exact nmF_congr hV b c (fun w w0 w1 => ih w (by omega) w0 (by omega))
