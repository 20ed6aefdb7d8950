set_option maxHeartbeats 4000000 in
set_option maxRecDepth 20000 in
theorem s_X7_cutClauses {g : Nat} {M D : Mem} {L : Int → Int} {c : Int} (hg : g = 62 ∨ g = 88) (hD : DW D) (hC : CV g M D) (hL : CL g M L c) (hO : OrdV D L c) :
    ∃ r, fX7_cutClauses g (D 0 3) (D 0 4) M = some r ∧ (∀ b, b ≠ g + 13 → b ≠ g + 22 → b ≠ g + 23 → b ≠ g + 24 → b ≠ g + 25 → r b = M b) ∧ (∀ k, k ≠ 16 → k ≠ 17 → r (g + 13) k = M (g + 13) k) ∧ CC g r L (cutS D L c.toNat) c := by
  have hg2 : 62 ≤ g := by omega
  have n1 := hD.2.1
  have pb := pc_bd (D 0 1)
  have hc := hO.1
  unfold fX7_cutClauses
  simp only [pI_ok, ob]
  generalize hm0 : wr (wr M (g + 13) 16 0) (g + 13) 17 0 = m0
  have m0ne : ∀ b, b ≠ g + 13 → m0 b = M b := fun b hb => by rw [← hm0]; simp (disch := omega) only [wr_ne]
  have m013 : ∀ k, m0 (g + 13) k = if k = 17 then 0 else if k = 16 then 0 else M (g + 13) k := fun k => by rw [← hm0]; simp only [wr_at]
  refine lp_bind (fun s : Int × Mem => 0 ≤ s.1 ∧ s.1 ≤ c ∧ (∀ b, b ≠ g + 13 → b ≠ g + 22 → b ≠ g + 23 → b ≠ g + 24 → b ≠ g + 25 → s.2 b = M b) ∧ (∀ k, k ≠ 16 → k ≠ 17 → s.2 (g + 13) k = M (g + 13) k) ∧ CC g s.2 L (cutS D L s.1.toNat) s.1)
    (fun r : Mem => (∀ b, b ≠ g + 13 → b ≠ g + 22 → b ≠ g + 23 → b ≠ g + 24 → b ≠ g + 25 → r b = M b) ∧ (∀ k, k ≠ 16 → k ≠ 17 → r (g + 13) k = M (g + 13) k) ∧ CC g r L (cutS D L c.toNat) c) (fun s => (c - s.1).toNat) ?_ ?_ (fun r h => ⟨r, rfl, h⟩)
  · rintro ⟨t, m⟩ ⟨t0, t1, hfr, hfk, hS⟩
    dsimp only at t0 t1 hfr hfk hS
    unfold fX7_cutClauses_b1
    have h13 : m (g + 13) 4 = c := by rw [hfk 4 (by omega) (by omega)]; exact hL.1
    simp only [h13]
    by_cases htc : c ≤ t
    · have : t = c := by omega
      subst this
      rw [if_pos htc]
      exact Or.inr ⟨m, rfl, hfr, hfk, hS⟩
    · rw [if_neg htc]
      have hlt : t < c := by omega
      have hm : CV g m D := CV_fr hg hC (fun b hb => hfr b (by omega) (by omega) (by omega) (by omega) (by omega))
      have hl : CL g m L c := ⟨h13, fun p a b => by rw [hfr _ (by omega) (by omega) (by omega) (by omega) (by omega)]; exact hL.2 p a b⟩
      have q := hO.2.1 t t0 hlt
      have hW := cutS_W hD hO t.toNat (by omega)
      rw [show ((t.toNat : Nat) : Int) = t by omega] at hW
      have hW1 := cut1_W hD hO t0 hlt hW
      have hstep := cutS_s (D := D) (L := L) t0
      generalize hSS : cutS D L t.toNat = S at *
      obtain ⟨w1, w2, w3, w4, w5, w6, w7⟩ := id hW
      obtain ⟨s1, s2, s3, s4⟩ := id hS
      have hcs := cst_bd hD q.1 q.2.1
      obtain ⟨d1, d2, d3, -⟩ := hm.2.2.2 (L t) q.1 q.2.1
      have hcy : cyF (m 45 (L t)) (m 48 (L t)) (m (g + 3) (L t)) = cst D (L t) := by rw [d1, d2, d3]; exact cyF_cst hD q.1 q.2.1
      have hq10 : ((if D 1 (L t) = 7 then some 1 else some 0 : Option Int)) = some (knd D (L t)) := by unfold knd; split <;> rfl
      have hq11 : ((if knd D (L t) = 0 then some (D 0 4) else some (D 0 3) : Option Int)) = some (if knd D (L t) = 1 then D 0 3 else D 0 4) := by
        rcases knd_01 D (L t) with e | e <;> simp only [Nat.reduceAdd, reduceIte, Int.reduceEq, Int.reduceLT, Int.reduceLE, Int.reduceNeg, Int.reduceAdd, Int.reduceSub, Int.reduceMul, Int.reduceNe, or_true, true_or, or_false, false_or, or_self, and_true, true_and, and_false, false_and, and_self, not_true_eq_false, not_false_eq_true, ne_eq, Bool.false_eq_true, Bool.true_eq_false, decide_true, decide_false, e]
      have hq15 : ((if knd D (L t) = 0 then some 2 else some 12 : Option Int)) = some (if knd D (L t) = 1 then 12 else 2) := by
        rcases knd_01 D (L t) with e | e <;> simp only [Nat.reduceAdd, reduceIte, Int.reduceEq, Int.reduceLT, Int.reduceLE, Int.reduceNeg, Int.reduceAdd, Int.reduceSub, Int.reduceMul, Int.reduceNe, or_true, true_or, or_false, false_or, or_self, and_true, true_and, and_false, false_and, and_self, not_true_eq_false, not_false_eq_true, ne_eq, Bool.false_eq_true, Bool.true_eq_false, decide_true, decide_false, e]
      simp (disch := omega) only [LGd hg, ob, hl.2 t t0 hlt, LD, d1, hq10, hq11, s_X7_joins hg hD hm hl hO t0 hlt hW hS]
      have keep4 : ∀ x : Int, (∀ p', 0 ≤ p' → p' < t + 1 → (if L p' = L t then x else m (g + 22) (L p')) = if L p' = L t then x else S 4 (L p')) := fun x p' a b => by
        split
        · rfl
        · rename_i hne
          exact s4 p' a (by
            by_cases hr : p' = t
            · subst hr; exact absurd rfl hne
            · omega)
      cases hj : jn D S (L t)
      · obtain ⟨e0, e01, e1, e2, e3, e4, e5⟩ := cut1_n (p := t) hj
        generalize hX : (if knd D (L t) = 1 then 12 else 2 : Int) = X at *
        have hX2 : 0 ≤ X ∧ X ≤ 12 := by rw [← hX]; split <;> omega
        simp (disch := omega) only [Nat.reduceAdd, reduceIte, Int.reduceEq, Int.reduceLT, Int.reduceLE, Int.reduceNeg, Int.reduceAdd, Int.reduceSub, Int.reduceMul, Int.reduceNe, or_true, true_or, or_false, false_or, or_self, and_true, true_and, and_false, false_and, and_self, not_true_eq_false, not_false_eq_true, ne_eq, Bool.false_eq_true, Bool.true_eq_false, decide_true, decide_false, s1, SGd hg, LGd hg, ob, wr_ne, wr_at, hq15, s2, pI_ok, w32_id, s_X7_cyclesOf hg, hcy, Int.add_sub_cancel]
        refine Or.inl ⟨_, rfl, ⟨by dsimp only; omega, by dsimp only; omega, fun b b1 b2 b3 b4 b5 => by simp (disch := omega) only [wr_ne, hfr], fun k k1 k2 => by simp (disch := omega) only [wr_ne, wr_at, if_neg, hfk], ?_⟩, by dsimp only; omega⟩
        dsimp only
        rw [hstep]
        refine ⟨?_, ?_, fun i i0 i1 => ?_, fun p' a b => ?_⟩
        · simp (disch := omega) only [wr_ne, wr_at, Nat.reduceAdd, reduceIte, Int.reduceEq, Int.reduceLT, Int.reduceLE, Int.reduceNeg, Int.reduceAdd, Int.reduceSub, Int.reduceMul, Int.reduceNe, or_true, true_or, or_false, false_or, or_self, and_true, true_and, and_false, false_and, and_self, not_true_eq_false, not_false_eq_true, ne_eq, Bool.false_eq_true, Bool.true_eq_false, decide_true, decide_false, e0]
        · simp (disch := omega) only [wr_ne, wr_at, Nat.reduceAdd, reduceIte, Int.reduceEq, Int.reduceLT, Int.reduceLE, Int.reduceNeg, Int.reduceAdd, Int.reduceSub, Int.reduceMul, Int.reduceNe, or_true, true_or, or_false, false_or, or_self, and_true, true_and, and_false, false_and, and_self, not_true_eq_false, not_false_eq_true, ne_eq, Bool.false_eq_true, Bool.true_eq_false, decide_true, decide_false, e01]
        · rw [e0] at i1
          rw [e1, e2, e3]
          simp (disch := omega) only [wr_ne, wr_at]
          by_cases hi : i = S 0 0
          · simp only [hi, Nat.reduceAdd, reduceIte, Int.reduceEq, Int.reduceLT, Int.reduceLE, Int.reduceNeg, Int.reduceAdd, Int.reduceSub, Int.reduceMul, Int.reduceNe, or_true, true_or, or_false, false_or, or_self, and_true, true_and, and_false, false_and, and_self, not_true_eq_false, not_false_eq_true, ne_eq, Bool.false_eq_true, Bool.true_eq_false, decide_true, decide_false]
          · simp only [hi, Nat.reduceAdd, reduceIte, Int.reduceEq, Int.reduceLT, Int.reduceLE, Int.reduceNeg, Int.reduceAdd, Int.reduceSub, Int.reduceMul, Int.reduceNe, or_true, true_or, or_false, false_or, or_self, and_true, true_and, and_false, false_and, and_self, not_true_eq_false, not_false_eq_true, ne_eq, Bool.false_eq_true, Bool.true_eq_false, decide_true, decide_false]
            exact s3 i i0 (by omega)
        · rw [e4]
          simp (disch := omega) only [wr_ne, wr_at]
          exact keep4 _ p' a b
      · obtain ⟨e0, e01, e1, e2, e3, e4, e5⟩ := cut1_j (p := t) hj
        have hpos := (jn_t.mp hj).1
        have a6 := w6 (S 0 0 - 1) (by omega) (by omega)
        have a3 := s3 (S 0 0 - 1) (by omega) (by omega)
        simp (disch := omega) only [Nat.reduceAdd, reduceIte, Int.reduceEq, Int.reduceLT, Int.reduceLE, Int.reduceNeg, Int.reduceAdd, Int.reduceSub, Int.reduceMul, Int.reduceNe, or_true, true_or, or_false, false_or, or_self, and_true, true_and, and_false, false_and, and_self, not_true_eq_false, not_false_eq_true, ne_eq, Bool.false_eq_true, Bool.true_eq_false, decide_true, decide_false, s1, SGd hg, LGd hg, ob, wr_ne, wr_at, s2, pI_ok, w32_id, s_X7_cyclesOf hg, hcy, a3.2.1, a3.2.2]
        refine Or.inl ⟨_, rfl, ⟨by dsimp only; omega, by dsimp only; omega, fun b b1 b2 b3 b4 b5 => by simp (disch := omega) only [wr_ne, hfr], fun k k1 k2 => by simp (disch := omega) only [wr_ne, wr_at, if_neg, hfk], ?_⟩, by dsimp only; omega⟩
        dsimp only
        rw [hstep]
        refine ⟨?_, ?_, fun i i0 i1 => ?_, fun p' a b => ?_⟩
        · simp (disch := omega) only [wr_ne, wr_at, Nat.reduceAdd, reduceIte, Int.reduceEq, Int.reduceLT, Int.reduceLE, Int.reduceNeg, Int.reduceAdd, Int.reduceSub, Int.reduceMul, Int.reduceNe, or_true, true_or, or_false, false_or, or_self, and_true, true_and, and_false, false_and, and_self, not_true_eq_false, not_false_eq_true, ne_eq, Bool.false_eq_true, Bool.true_eq_false, decide_true, decide_false, e0, s1]
        · simp (disch := omega) only [wr_ne, wr_at, Nat.reduceAdd, reduceIte, Int.reduceEq, Int.reduceLT, Int.reduceLE, Int.reduceNeg, Int.reduceAdd, Int.reduceSub, Int.reduceMul, Int.reduceNe, or_true, true_or, or_false, false_or, or_self, and_true, true_and, and_false, false_and, and_self, not_true_eq_false, not_false_eq_true, ne_eq, Bool.false_eq_true, Bool.true_eq_false, decide_true, decide_false, e01, Int.add_zero]
        · rw [e0] at i1
          rw [e1, e2, e3]
          simp (disch := omega) only [wr_ne, wr_at]
          have z := s3 i i0 (by omega)
          by_cases hi : i = S 0 0 - 1
          · subst hi
            simp only [Nat.reduceAdd, reduceIte, Int.reduceEq, Int.reduceLT, Int.reduceLE, Int.reduceNeg, Int.reduceAdd, Int.reduceSub, Int.reduceMul, Int.reduceNe, or_true, true_or, or_false, false_or, or_self, and_true, true_and, and_false, false_and, and_self, not_true_eq_false, not_false_eq_true, ne_eq, Bool.false_eq_true, Bool.true_eq_false, decide_true, decide_false]
            exact z.1
          · simp only [hi, Nat.reduceAdd, reduceIte, Int.reduceEq, Int.reduceLT, Int.reduceLE, Int.reduceNeg, Int.reduceAdd, Int.reduceSub, Int.reduceMul, Int.reduceNe, or_true, true_or, or_false, false_or, or_self, and_true, true_and, and_false, false_and, and_self, not_true_eq_false, not_false_eq_true, ne_eq, Bool.false_eq_true, Bool.true_eq_false, decide_true, decide_false]
            exact z
        · rw [e4]
          simp (disch := omega) only [wr_ne, wr_at]
          exact keep4 _ p' a b
  · refine ⟨Int.le_refl _, by dsimp only; omega, fun b b1 b2 b3 b4 b5 => by dsimp only; rw [m0ne b b1], fun k k1 k2 => by dsimp only; rw [m013, if_neg k2, if_neg k1], ?_⟩
    refine ⟨by dsimp only; rw [m013]; rfl, by dsimp only; rw [m013]; rfl, fun i a b => ?_, fun q a b => by dsimp only at b; omega⟩
    have : i < 0 := b
    omega
/-! the reference's -/
def coF (k u w : Int) : Int := if u = 0 then (if k = 0 then 1 else if k = 4 then w32 (2 * w) else w) else 1
theorem s_X12_costOf {M : Mem} {v : Int} (h0 : 0 ≤ v) (h1 : v < 64) : fX12_costOf v M = some (coF (M 138 (36 + 4 * v)) (M 156 v) (wOf (M 155 v) (M 153 v) (M 154 v)), M) := by
  unfold fX12_costOf coF fX12_howOf
  simp (disch := omega) only [s_X12_widthOf h0 h1, LD, ob, w32_id]
  by_cases e2 : M 156 v = 0
  · by_cases e3 : M 138 (36 + 4 * v) = 0
    · simp only [Nat.reduceAdd, reduceIte, Int.reduceEq, Int.reduceLT, Int.reduceLE, Int.reduceNeg, Int.reduceAdd, Int.reduceSub, Int.reduceMul, Int.reduceNe, or_true, true_or, or_false, false_or, or_self, and_true, true_and, and_false, false_and, and_self, not_true_eq_false, not_false_eq_true, ne_eq, Bool.false_eq_true, Bool.true_eq_false, decide_true, decide_false, e2, e3, ob]
    · by_cases e4 : M 138 (36 + 4 * v) = 4
      · simp only [Nat.reduceAdd, reduceIte, Int.reduceEq, Int.reduceLT, Int.reduceLE, Int.reduceNeg, Int.reduceAdd, Int.reduceSub, Int.reduceMul, Int.reduceNe, or_true, true_or, or_false, false_or, or_self, and_true, true_and, and_false, false_and, and_self, not_true_eq_false, not_false_eq_true, ne_eq, Bool.false_eq_true, Bool.true_eq_false, decide_true, decide_false, e2, e4, ob]
      · simp only [Nat.reduceAdd, reduceIte, Int.reduceEq, Int.reduceLT, Int.reduceLE, Int.reduceNeg, Int.reduceAdd, Int.reduceSub, Int.reduceMul, Int.reduceNe, or_true, true_or, or_false, false_or, or_self, and_true, true_and, and_false, false_and, and_self, not_true_eq_false, not_false_eq_true, ne_eq, Bool.false_eq_true, Bool.true_eq_false, decide_true, decide_false, e2, e3, e4, ob]
  · simp only [Nat.reduceAdd, reduceIte, Int.reduceEq, Int.reduceLT, Int.reduceLE, Int.reduceNeg, Int.reduceAdd, Int.reduceSub, Int.reduceMul, Int.reduceNe, or_true, true_or, or_false, false_or, or_self, and_true, true_and, and_false, false_and, and_self, not_true_eq_false, not_false_eq_true, ne_eq, Bool.false_eq_true, Bool.true_eq_false, decide_true, decide_false, e2, ob]
theorem coF_cst {D : Mem} (hD : DW D) {v : Int} (h0 : 0 ≤ v) (h1 : v < D 0 0) (h7 : ¬ D 1 v = 7) : coF (D 1 v) (D 3 v) (D 2 v) = cst D v := by
  rw [← cyF_cst hD h0 h1]
  unfold cyF coF
  rw [if_neg h7]
def CM (M : Mem) (L : Int → Int) (S : Mem) (p : Int) : Prop := M 132 48 = S 0 0 ∧ M 132 50 = S 0 1 ∧ (∀ i, 0 ≤ i → i < S 0 0 → M 169 (4 * i) = S 5 i ∧ M 169 (4 * i + 1) = S 1 i ∧ M 169 (4 * i + 2) = S 2 i ∧ M 169 (4 * i + 3) = S 3 i) ∧ ∀ q, 0 ≤ q → q < p → M 166 (L q) = S 4 (L q)
