/-! THE REFERENCE'S NEEDS -/
theorem s_X12_isKnown {v : Int} {M : Mem} (h0 : 0 ≤ v) (h1 : v < 64) : fX12_isKnown v M = some (if M 153 v = M 154 v then 1 else 0, M) := by
  unfold fX12_isKnown
  simp (disch := omega) only [LD, ob, obi]
  split <;> rfl
theorem s_X12_has {s v : Int} {M : Mem} (h0 : 0 ≤ v) (h1 : v < 64) : fX12_has s v M = some (if tb s v = true then 1 else 0, M) := by
  unfold fX12_has
  simp (disch := omega) only [hasS1, obi, ob]
  cases tb s v <;> simp [rz0, rz1]
def srB (L G S : Int → Int) (a : Int) : Int := if a < 0 then 0 else if L (S a) = G (S a) then 0 else lshl 1 (S a)
set_option maxHeartbeats 4000000 in
set_option maxRecDepth 20000 in
theorem s_X12_nd_b2 {m : Mem} {n nI v : Int} {mk ag F : Int → Int} (hM : MV m n mk ag) (hV : Val n mk ag F nI) (h0 : 0 ≤ v) (h1 : v < n) (hS : ∀ w, 0 ≤ w → w < v → 0 ≤ m 158 w ∧ m 158 w ≤ w) : ∃ r, lp (fX12_needs_b2 v) (0, m) = some r ∧ (∀ b, b ≠ 159 → r b = m b) ∧ (∀ w, w ≠ v → r 159 w = m 159 w) ∧ r 159 v = if mk v < 2 then m 159 v else lor (lor (lor (m 159 v) (srB (m 153) (m 154) (m 158) (ag (3 * v)))) (srB (m 153) (m 154) (m 158) (ag (3 * v + 1)))) (srB (m 153) (m 154) (m 158) (ag (3 * v + 2))) := by
  have n1 := hV.2.1
  obtain ⟨k0, k1, -, -, k4, k5, k6, k7, k8, -⟩ := hV.2.2.2.2 v h0 h1
  by_cases hk : mk v < 2
  · refine ⟨m, ?_, fun b _ => rfl, fun w _ => rfl, by rw [if_pos hk]⟩
    rw [lp_out]
    unfold fX12_needs_b2
    simp only [Nat.reduceAdd, reduceIte, Int.reduceEq, Int.reduceLT, Int.reduceLE, Int.reduceNeg, Int.reduceAdd, Int.reduceSub, Int.reduceMul, Int.reduceNe, or_true, true_or, or_false, false_or, or_self, and_true, true_and, and_false, false_and, and_self, not_true_eq_false, not_false_eq_true, ne_eq, s_X12_howOf hM h0 h1 n1, ob, hk]
  · have q4 := k4 (by omega)
    have a1 : ag (3 * v + 1) < v := by
      by_cases h : mk v = 7 ∨ mk v = 12
      · have := k7 (Or.inr h); omega
      · exact (k5 (by omega) (by omega) (by omega)).2
    have a2 : ag (3 * v + 2) < v := by
      by_cases h : mk v = 13
      · exact (k6 h).2
      · have := k8 h; omega
    have key : ∀ (c : Mem) (a k : Int), c 138 = m 138 → c 153 = m 153 → c 154 = m 154 → c 158 = m 158 → a < v → k < 3 → 0 ≤ k → (∀ c', c' 138 = m 138 → fX12_argOf v k c' = some (a, c')) → fX12_needs_b2 v (k, c) = some (.inl (k + 1, wr c 159 v (lor (c 159 v) (srB (m 153) (m 154) (m 158) a)))) := by
      intro c a k e1 e2 e3 e4 ha hk3 hk0 he
      unfold fX12_needs_b2
      dsimp only
      rw [if_neg (by omega)]
      simp only [s_X12_howOf (MV_fr hM e1) h0 h1 n1, ob, he c e1]
      rw [if_neg hk]
      unfold srB
      by_cases haz : a < 0
      · rw [if_neg (by omega), if_pos haz]
        simp (disch := omega) only [ob, LD, ST, w32_id, Nat.reduceAdd, reduceIte, Int.reduceEq, Int.reduceLT, Int.reduceLE, Int.reduceNeg, Int.reduceAdd, Int.reduceSub, Int.reduceMul, Int.reduceNe, or_true, true_or, or_false, false_or, or_self, and_true, true_and, and_false, false_and, and_self, not_true_eq_false, not_false_eq_true, ne_eq]
      · have hs := hS a (by omega) ha
        rw [if_pos (by omega), if_neg haz]
        simp (disch := omega) only [ob, LD, e4, s_X12_isKnown, e2, e3]
        rw [if_neg (by omega)]
        by_cases hq : m 153 (m 158 a) = m 154 (m 158 a)
        · simp (disch := omega) only [Nat.reduceAdd, reduceIte, Int.reduceEq, Int.reduceLT, Int.reduceLE, Int.reduceNeg, Int.reduceAdd, Int.reduceSub, Int.reduceMul, Int.reduceNe, or_true, true_or, or_false, false_or, or_self, and_true, true_and, and_false, false_and, and_self, not_true_eq_false, not_false_eq_true, ne_eq, hq, ob, ST, w32_id]
        · simp (disch := omega) only [Nat.reduceAdd, reduceIte, Int.reduceEq, Int.reduceLT, Int.reduceLE, Int.reduceNeg, Int.reduceAdd, Int.reduceSub, Int.reduceMul, Int.reduceNe, or_true, true_or, or_false, false_or, or_self, and_true, true_and, and_false, false_and, and_self, not_true_eq_false, not_false_eq_true, ne_eq, hq, ob, ST, w32_id]
    generalize hx0 : srB (m 153) (m 154) (m 158) (ag (3 * v)) = x0
    generalize hx1 : srB (m 153) (m 154) (m 158) (ag (3 * v + 1)) = x1
    generalize hx2 : srB (m 153) (m 154) (m 158) (ag (3 * v + 2)) = x2
    refine ⟨wr m 159 v (lor (lor (lor (m 159 v) x0) x1) x2), ?_, fun b hb => by simp (disch := omega) only [wr_ne], fun w hw => by simp (disch := omega) only [wr_at, if_neg], by rw [if_neg hk, wr_at, if_pos rfl]⟩
    rw [lp_in (key m _ 0 rfl rfl rfl rfl q4.2 (by omega) (by omega) (fun c' e => s_X12_argOf0 (MV_fr hM e) h0 h1 n1)), hx0, show (0 + 1 : Int) = 1 from rfl]
    rw [lp_in (key _ _ 1 (by simp (disch := omega) only [wr_ne]) (by simp (disch := omega) only [wr_ne]) (by simp (disch := omega) only [wr_ne]) (by simp (disch := omega) only [wr_ne]) a1 (by omega) (by omega) (fun c' e => s_X12_argOf1 (MV_fr hM e) h0 h1 n1)), hx1, show (1 + 1 : Int) = 2 from rfl]
    rw [lp_in (key _ _ 2 (by simp (disch := omega) only [wr_ne]) (by simp (disch := omega) only [wr_ne]) (by simp (disch := omega) only [wr_ne]) (by simp (disch := omega) only [wr_ne]) a2 (by omega) (by omega) (fun c' e => s_X12_argOf2 (MV_fr hM e) h0 h1 n1)), hx2, show (2 + 1 : Int) = 3 from rfl]
    simp only [wr_at, wr_wr, if_true]
    rw [lp_out]
    unfold fX12_needs_b2
    simp only [Nat.reduceAdd, reduceIte, Int.reduceEq, Int.reduceLT, Int.reduceLE, Int.reduceNeg, Int.reduceAdd, Int.reduceSub, Int.reduceMul, Int.reduceNe, or_true, true_or, or_false, false_or, or_self, and_true, true_and, and_false, false_and, and_self, not_true_eq_false, not_false_eq_true, ne_eq]
theorem srB_tb {L G S : Int → Int} {a s : Int} (hS : 0 ≤ a → 0 ≤ S a ∧ S a < 64) (s0 : 0 ≤ s) (s1 : s < 64) : tb (srB L G S a) s = true ↔ 0 ≤ a ∧ S a = s ∧ ¬ L s = G s := by
  unfold srB
  by_cases ha : a < 0
  · rw [if_pos ha, tb_0]
    exact ⟨fun z => (by cases z), fun z => by omega⟩
  · rw [if_neg ha]
    have q := hS (by omega)
    by_cases hq : L (S a) = G (S a)
    · rw [if_pos hq, tb_0]
      exact ⟨fun z => (by cases z), fun ⟨_, e, z⟩ => by rw [e] at hq; exact absurd hq z⟩
    · rw [if_neg hq, tb_shl1 q.1 q.2 s0 s1, decide_eq_true_eq]
      constructor
      · rintro rfl
        exact ⟨by omega, rfl, hq⟩
      · rintro ⟨_, e, _⟩
        exact e.symm
set_option maxHeartbeats 4000000 in
set_option maxRecDepth 20000 in
theorem s_X12_nd_b1 {M : Mem} {n nI : Int} {mk ag F : Int → Int} (hM : MV M n mk ag) (hV : Val n mk ag F nI) :
    ∃ r, lp (fX12_needs_b1) (0, M) = some r ∧ (∀ b, b ≠ 158 → b ≠ 159 → b ≠ 160 → r b = M b) ∧ StOK n mk ag (M 153) (M 154) (r 158) ∧ (∀ v, 0 ≤ v → v < n → SrcB mk ag (M 153) (M 154) (r 158) (r 159) v) ∧ (∀ v, 0 ≤ v → v < n → r 160 v = 0) := by
  have n0 := hV.1
  have n1 := hV.2.1
  refine lp_ind (fun s : Int × Mem => 0 ≤ s.1 ∧ s.1 ≤ n ∧ (∀ b, b ≠ 158 → b ≠ 159 → b ≠ 160 → s.2 b = M b) ∧ StOK s.1 mk ag (M 153) (M 154) (s.2 158) ∧ (∀ v, 0 ≤ v → v < s.1 → SrcB mk ag (M 153) (M 154) (s.2 158) (s.2 159) v) ∧ (∀ v, 0 ≤ v → v < s.1 → s.2 160 v = 0)) (fun r : Mem => (∀ b, b ≠ 158 → b ≠ 159 → b ≠ 160 → r b = M b) ∧ StOK n mk ag (M 153) (M 154) (r 158) ∧ (∀ v, 0 ≤ v → v < n → SrcB mk ag (M 153) (M 154) (r 158) (r 159) v) ∧ (∀ v, 0 ≤ v → v < n → r 160 v = 0)) (fun s => (n - s.1).toNat) ?_ (0, M) ?_
  · rintro ⟨v, m⟩ ⟨h0, h1, hfr, hSt, hSB, hz⟩
    dsimp only at h0 h1 hfr hSt hSB hz
    unfold fX12_needs_b1
    dsimp only
    have e138 : m 138 = M 138 := hfr 138 (by omega) (by omega) (by omega)
    have e153 : m 153 = M 153 := hfr _ (by omega) (by omega) (by omega)
    have e154 : m 154 = M 154 := hfr _ (by omega) (by omega) (by omega)
    have hm : MV m n mk ag := MV_fr hM e138
    simp only [s_X12_values, ob, hm.1]
    by_cases hv : n ≤ v
    · have : v = n := by omega
      subst this
      rw [if_pos hv]
      exact Or.inr ⟨m, rfl, hfr, hSt, hSB, hz⟩
    · have hv1 : v < n := by omega
      have hv64 : v < 64 := by omega
      rw [if_neg hv]
      obtain ⟨k0, k1, -, -, k4, k5, k6, k7, k8, -⟩ := hV.2.2.2.2 v h0 hv1
      have hbd : ∀ w, 0 ≤ w → w < v → 0 ≤ m 158 w ∧ m 158 w ≤ w := fun w a b => (hSt w a b).2
      have hst : ((if mk v = 13 then (fX12_isKnown v m).bind fun q4 => if q4.1 = 0 then (fX12_argOf v 0 q4.2).bind fun q5 => (fX12_isKnown q5.1 q5.2).bind fun q6 => if q6.1 = 0 then some (0, q6.2) else some (1, q6.2) else some (0, q4.2) else some (0, m) : Option (Int × Mem))) = some (if mk v = 13 ∧ ¬ M 153 v = M 154 v ∧ M 153 (ag (3 * v)) = M 154 (ag (3 * v)) then 1 else 0, m) := by
        by_cases h13 : mk v = 13
        · have q4 := k4 (by omega)
          rw [if_pos h13]
          simp (disch := omega) only [s_X12_isKnown h0 hv64, s_X12_argOf0 hm h0 hv1 n1, s_X12_isKnown, ob, e153, e154]
          by_cases c1 : M 153 v = M 154 v
          · simp only [Nat.reduceAdd, reduceIte, Int.reduceEq, Int.reduceLT, Int.reduceLE, Int.reduceNeg, Int.reduceAdd, Int.reduceSub, Int.reduceMul, Int.reduceNe, or_true, true_or, or_false, false_or, or_self, and_true, true_and, and_false, false_and, and_self, not_true_eq_false, not_false_eq_true, ne_eq, c1, h13]
          · by_cases c2 : M 153 (ag (3 * v)) = M 154 (ag (3 * v))
            · simp only [Nat.reduceAdd, reduceIte, Int.reduceEq, Int.reduceLT, Int.reduceLE, Int.reduceNeg, Int.reduceAdd, Int.reduceSub, Int.reduceMul, Int.reduceNe, or_true, true_or, or_false, false_or, or_self, and_true, true_and, and_false, false_and, and_self, not_true_eq_false, not_false_eq_true, ne_eq, c1, c2, h13]
            · simp only [Nat.reduceAdd, reduceIte, Int.reduceEq, Int.reduceLT, Int.reduceLE, Int.reduceNeg, Int.reduceAdd, Int.reduceSub, Int.reduceMul, Int.reduceNe, or_true, true_or, or_false, false_or, or_self, and_true, true_and, and_false, false_and, and_self, not_true_eq_false, not_false_eq_true, ne_eq, c1, c2, h13]
        · rw [if_neg h13, if_neg (fun z => h13 z.1)]
      simp only [s_X12_howOf hm h0 hv1 n1, ob, hst]
      have hst2 : ((if (if mk v = 13 ∧ ¬ M 153 v = M 154 v ∧ M 153 (ag (3 * v)) = M 154 (ag (3 * v)) then (1 : Int) else 0) = 0 then some (v, m) else (fX12_argOf v 0 m).bind fun q8 => (ldI q8.2 153 q8.1).bind fun v9 => ((if v9 = 1 then some 1 else some 2 : Option Int)).bind fun q10 => (fX12_argOf v q10 q8.2).bind fun q11 => (ldI q11.2 158 q11.1).bind fun v12 => some (v12, q11.2) : Option (Int × Mem))) = some (stF mk ag (M 153) (M 154) (m 158) v, m) := by
        unfold stF
        by_cases hc : mk v = 13 ∧ ¬ M 153 v = M 154 v ∧ M 153 (ag (3 * v)) = M 154 (ag (3 * v))
        · have q4 := k4 (by omega)
          have q5 := k5 (by omega) (by omega) (by omega)
          have q6 := k6 hc.1
          rw [if_pos hc, if_pos hc, if_neg (by decide)]
          simp (disch := omega) only [s_X12_argOf0 hm h0 hv1 n1, ob, LD, e153]
          by_cases c1 : M 153 (ag (3 * v)) = 1
          · simp (disch := omega) only [Nat.reduceAdd, reduceIte, Int.reduceEq, Int.reduceLT, Int.reduceLE, Int.reduceNeg, Int.reduceAdd, Int.reduceSub, Int.reduceMul, Int.reduceNe, or_true, true_or, or_false, false_or, or_self, and_true, true_and, and_false, false_and, and_self, not_true_eq_false, not_false_eq_true, ne_eq, c1, ob, s_X12_argOf1 hm h0 hv1 n1, LD]
          · simp (disch := omega) only [Nat.reduceAdd, reduceIte, Int.reduceEq, Int.reduceLT, Int.reduceLE, Int.reduceNeg, Int.reduceAdd, Int.reduceSub, Int.reduceMul, Int.reduceNe, or_true, true_or, or_false, false_or, or_self, and_true, true_and, and_false, false_and, and_self, not_true_eq_false, not_false_eq_true, ne_eq, c1, ob, s_X12_argOf2 hm h0 hv1 n1, LD]
        · rw [if_neg hc, if_neg hc, if_pos rfl]
      simp only [hst2, ob]
      simp (disch := omega) only [ST, ob]
      generalize hm1 : wr (wr m 158 v (stF mk ag (M 153) (M 154) (m 158) v)) 159 v 0 = m1
      have m1ne : ∀ b, b ≠ 158 → b ≠ 159 → m1 b = m b := fun b b1 b2 => by rw [← hm1]; simp (disch := omega) only [wr_ne]
      have m158 : ∀ w, m1 158 w = if w = v then stF mk ag (M 153) (M 154) (m 158) v else m 158 w := fun w => by rw [← hm1]; simp (disch := omega) only [wr_ne, wr_at]
      have m159 : ∀ w, m1 159 w = if w = v then 0 else m 159 w := fun w => by rw [← hm1]; simp (disch := omega) only [wr_ne, wr_at]
      have hSt1 : StOK (v + 1) mk ag (M 153) (M 154) (m1 158) := St_step hV h0 hv1 hSt (fun w a b => by rw [m158, if_neg (by omega)]) (by rw [m158, if_pos rfl])
      obtain ⟨r, f, fr, rw1, rv⟩ := s_X12_nd_b2 (m := m1) (MV_fr hm (m1ne 138 (by omega) (by omega))) hV h0 hv1 (fun w a b => (hSt1 w a (by omega)).2)
      rw [f]
      simp (disch := omega) only [ob, ST, w32_id]
      refine Or.inl ⟨(v + 1, wr r 160 v 0), rfl, ⟨by dsimp only; omega, by dsimp only; omega, fun b b1 b2 b3 => ?_, ?_, fun w a b => ?_, fun w a b => ?_⟩, by dsimp only; omega⟩
      · simp (disch := omega) only [wr_ne]
        rw [fr b b2, m1ne b b1 b2]
        exact hfr b b1 b2 b3
      · simp (disch := omega) only [wr_ne]
        rw [fr 158 (by omega)]
        exact hSt1
      · simp (disch := omega) only [wr_ne]
        rw [fr 158 (by omega)]
        by_cases hw : w = v
        · subst hw
          rw [m159, if_pos rfl, m1ne 153 (by omega) (by omega), m1ne 154 (by omega) (by omega), e153, e154] at rv
          have hb2 : ∀ a, a < w → (0 ≤ a → 0 ≤ m1 158 a ∧ m1 158 a < 64) := fun a ha h => by have := (hSt1 a h (by omega)).2; omega
          have a1 : ag (3 * w + 1) < w := by
            by_cases h : 2 ≤ mk w
            · by_cases h' : mk w = 7 ∨ mk w = 12
              · have := k7 (Or.inr h'); omega
              · exact (k5 h (by omega) (by omega)).2
            · have := k7 (Or.inl (by omega)); omega
          have a2 : ag (3 * w + 2) < w := by
            by_cases h : mk w = 13
            · exact (k6 h).2
            · have := k8 h; omega
          refine ⟨?_, fun s s0 s1 => ?_⟩
          · rw [rv]
            split
            · exact i64_0
            · exact i64_lor _ _
          · rw [rv]
            unfold SrcP
            by_cases hk : mk w < 2
            · rw [if_pos hk, tb_0]
              exact ⟨fun z => (by cases z), fun z => by omega⟩
            · rw [if_neg hk]
              simp only [tb_lor, Bool.or_eq_true, tb_0, Bool.false_eq_true, false_or]
              rw [srB_tb (hb2 _ (k4 (by omega)).2) s0 s1, srB_tb (hb2 _ a1) s0 s1, srB_tb (hb2 _ a2) s0 s1]
              constructor
              · rintro ((⟨z1, z2, z3⟩ | ⟨z1, z2, z3⟩) | ⟨z1, z2, z3⟩)
                · exact ⟨by omega, z3, Or.inl ⟨z1, z2⟩⟩
                · exact ⟨by omega, z3, Or.inr (Or.inl ⟨z1, z2⟩)⟩
                · exact ⟨by omega, z3, Or.inr (Or.inr ⟨z1, z2⟩)⟩
              · rintro ⟨_, z3, ⟨z1, z2⟩ | ⟨z1, z2⟩ | ⟨z1, z2⟩⟩
                · exact Or.inl (Or.inl ⟨z1, z2, z3⟩)
                · exact Or.inl (Or.inr ⟨z1, z2, z3⟩)
                · exact Or.inr ⟨z1, z2, z3⟩
        · obtain ⟨i1, i2⟩ := hSB w a (by dsimp only at b; omega)
          have e9 : r 159 w = m 159 w := by rw [rw1 w hw, m159, if_neg hw]
          refine ⟨by rw [e9]; exact i1, fun s s0 s1 => ?_⟩
          rw [e9, i2 s s0 s1]
          exact (SrcP_congr hV a (by dsimp only at b; omega) (fun u u0 u1 => by rw [m158, if_neg (by dsimp only at b; omega)])).symm
      · by_cases hw : w = v
        · subst hw
          simp only [wr_at, if_true]
        · simp (disch := omega) only [wr_at, if_neg]
          rw [fr 160 (by omega), m1ne 160 (by omega) (by omega)]
          exact hz w a (by dsimp only at b; omega)
  · exact ⟨by omega, n0, fun b _ _ _ => rfl, fun v a b => by dsimp only at b; omega, fun v a b => by dsimp only at b; omega, fun v a b => by dsimp only at b; omega⟩
