set_option maxHeartbeats 4000000 in
set_option maxRecDepth 20000 in
theorem s_X12_cuts {M D : Mem} {L : Int → Int} {c : Int} (hD : DW D) (hM : MD M D) (hL : ML M L c) (hO : OrdV D L c) :
    ∃ r, fX12_cuts M = some r ∧ (∀ b, b ≠ 132 → b ≠ 166 → b ≠ 169 → r b = M b) ∧ (∀ k, k ≠ 48 → k ≠ 50 → r 132 k = M 132 k) ∧ CM r L (cutS D L c.toNat) c := by
  have n1 := hD.2.1
  have pb := pc_bd (D 0 1)
  have hc := hO.1
  have hf := hD.2.2.2.2.2.2.1
  have ha := hD.2.2.2.2.2.2.2.1
  unfold fX12_cuts
  simp only [pI_ok, ob]
  generalize hm0 : wr (wr M 132 48 0) 132 50 0 = m0
  have m0ne : ∀ b, b ≠ 132 → m0 b = M b := fun b hb => by rw [← hm0]; simp (disch := omega) only [wr_ne]
  have i13 : ∀ k, m0 132 k = if k = 50 then 0 else if k = 48 then 0 else M 132 k := fun k => by rw [← hm0]; simp only [wr_at]
  refine lp_bind (fun s : Int × Int × Mem => 0 ≤ s.2.1 ∧ s.2.1 ≤ c ∧ (∀ b, b ≠ 132 → b ≠ 166 → b ≠ 169 → s.2.2 b = M b) ∧ (∀ k, k ≠ 48 → k ≠ 50 → s.2.2 132 k = M 132 k) ∧ CM s.2.2 L (cutS D L s.2.1.toNat) s.2.1 ∧ i64 s.1 ∧ ∀ x, 0 ≤ x → x < 64 → (tb s.1 x = true ↔ ∃ q, 0 ≤ q ∧ q < s.2.1 ∧ L q = x ∧ cutS D L s.2.1.toNat 4 x = cutS D L s.2.1.toNat 0 0 - 1))
    (fun r : Mem => (∀ b, b ≠ 132 → b ≠ 166 → b ≠ 169 → r b = M b) ∧ (∀ k, k ≠ 48 → k ≠ 50 → r 132 k = M 132 k) ∧ CM r L (cutS D L c.toNat) c) (fun s => (c - s.2.1).toNat) ?_ ?_ (fun r h => ⟨r, rfl, h⟩)
  · rintro ⟨row, t, m⟩ ⟨t0, t1, hfr, hfk, hS, hri, hrow⟩
    dsimp only at t0 t1 hfr hfk hS hri hrow
    unfold fX12_cuts_b1
    have h41 : m 132 41 = c := by rw [hfk 41 (by omega) (by omega)]; exact hL.1
    simp only [h41]
    by_cases htc : c ≤ t
    · have : t = c := by omega
      subst this
      rw [if_pos htc]
      exact Or.inr ⟨m, rfl, hfr, hfk, hS⟩
    · rw [if_neg htc]
      have hlt : t < c := by omega
      have hm : MD m D := MD_fr hM ⟨fun b b1 b2 => hfr b b1 (by omega) (by omega), fun k k1 k2 k3 => hfk k k2 k3⟩
      have e162 : m 162 t = L t := by rw [hfr _ (by omega) (by omega) (by omega)]; exact hL.2 t t0 hlt
      have q := hO.2.1 t t0 hlt
      have hW := cutS_W hD hO t.toNat (by omega)
      rw [show ((t.toNat : Nat) : Int) = t by omega] at hW
      have hW1 := cut1_W hD hO t0 hlt hW
      have hstep := cutS_s (D := D) (L := L) t0
      generalize hSS : cutS D L t.toNat = S at *
      obtain ⟨w1, w2, w3, w4, w5, w6, w7⟩ := id hW
      obtain ⟨s1, s2, s3, s4⟩ := id hS
      have hcs := cst_bd hD q.1 q.2.1
      obtain ⟨d1, d2, d3, d4, -⟩ := hm.2.2.2.2.2 (L t) q.1 q.2.1
      have hq6 : ((if D 1 (L t) = 7 then some 1 else some 0 : Option Int)) = some (knd D (L t)) := by unfold knd; split <;> rfl
      have hq10 : ((if knd D (L t) = 1 then some 3 else some 4 : Option Int)) = some (if knd D (L t) = 1 then 3 else 4) := by split <;> rfl
      have hq19 : ((if knd D (L t) = 1 then some 12 else some 2 : Option Int)) = some (if knd D (L t) = 1 then 12 else 2) := by split <;> rfl
      have hlim : m 138 (if knd D (L t) = 1 then 3 else 4) = if knd D (L t) = 1 then D 0 3 else D 0 4 := by
        split
        · exact hm.2.2.2.1
        · exact hm.2.2.2.2.1
      -- does it go?
      have src : (∀ s, 0 ≤ s → s < 64 → tb (D 4 (L t)) s = true → S 4 s ≠ S 0 0 - 1) ↔ lc (land (D 4 (L t)) row) 0 = 0 := by
        rw [lc_eq (i64_land _ _) i64_0, tb_z (i64_land _ _)]
        constructor
        · intro h i a b
          rw [tb_land]
          cases h1 : tb (D 4 (L t)) i
          · rfl
          · cases h2 : tb row i
            · rfl
            · obtain ⟨r, r0, r1, r2, r3⟩ := (hrow i a b).mp h2
              exact absurd r3 (h i a b h1)
        · intro h s a b z y
          obtain ⟨r, r0, r1, e⟩ := hO.2.2.2.2 t s t0 hlt a b z
          have := h s a b
          rw [tb_land, z, (hrow s a b).mpr ⟨r, r0, r1, e, y⟩] at this
          cases this
      have jf : ¬ JoinP D S (L t) → jn D S (L t) = false := fun z => by
        cases h : jn D S (L t)
        · rfl
        · exact absurd (jn_t.mp h) z
      have hgo : ((if S 0 0 ≤ 0 then some 0 else (ldI m 169 (w32 (4 * w32 (S 0 0 - 1)))).bind fun v8 => if v8 = knd D (L t) then (ldI m 169 (w32 (w32 (4 * w32 (S 0 0 - 1)) + 2))).bind fun v9 => (some (if knd D (L t) = 1 then 3 else 4)).bind fun q10 => (ldI m 138 q10).bind fun v11 => if v11 ≤ v9 then some 0 else if knd D (L t) = 0 then some 1 else (ldJ m 159 (L t)).bind fun v12 => if (lc (land v12 row) 0) = 0 then some 1 else some 0 else some 0 : Option Int)) = some (if jn D S (L t) = true then 1 else 0) := by
        by_cases hz : S 0 0 ≤ 0
        · rw [if_pos hz, jf (fun z => by have := z.1; omega)]
          rfl
        · rw [if_neg hz]
          have z := s3 (S 0 0 - 1) (by omega) (by omega)
          have hidx : (0 : Int) ≤ (if knd D (L t) = 1 then 3 else 4) ∧ (if knd D (L t) = 1 then 3 else 4 : Int) < 824 := by split <;> omega
          have hld : ldI m 138 (if knd D (L t) = 1 then 3 else 4) = some (m 138 (if knd D (L t) = 1 then 3 else 4)) := by
            generalize (if knd D (L t) = 1 then 3 else 4 : Int) = y at hidx
            simp (disch := omega) only [LD]
          simp (disch := omega) only [w32_id, LD, ob, z.1, z.2.2.1, hld, hlim, d4]
          by_cases e1 : S 5 (S 0 0 - 1) = knd D (L t)
          · rw [if_pos e1]
            by_cases e2 : (if knd D (L t) = 1 then D 0 3 else D 0 4) ≤ S 2 (S 0 0 - 1)
            · rw [if_pos e2, jf (fun z => by have := z.2.2.1; omega)]
              rfl
            · rw [if_neg e2]
              rcases knd_01 D (L t) with k0 | k1
              · rw [if_pos k0, jn_t.mpr ⟨by omega, e1, by omega, Or.inl k0⟩]
                rfl
              · rw [if_neg (by omega)]
                by_cases e3 : lc (land (D 4 (L t)) row) 0 = 0
                · rw [if_pos e3, jn_t.mpr ⟨by omega, e1, by omega, Or.inr (src.mpr e3)⟩]
                  rfl
                · rw [if_neg e3, jf (fun z => by
                    rcases z.2.2.2 with y | y
                    · omega
                    · exact e3 (src.mp y))]
                  rfl
          · rw [if_neg e1, jf (fun z => e1 z.2.1)]
            rfl
      simp (disch := omega) only [ld162, ob, e162, s_X12_how hD hm q.1 q.2.1, hq6, s1]
      simp only [hq10, ob] at hgo ⊢
      simp only [hgo, ob]
      have hcost : ∀ m' : Mem, m' 138 = m 138 → m' 153 = m 153 → m' 154 = m 154 → m' 155 = m 155 → m' 156 = m 156 → ((if knd D (L t) = 1 then some (2, m') else (fX12_costOf (L t) m').bind fun q24 => some (q24.1, q24.2) : Option (Int × Mem))) = some (cst D (L t), m') := fun m' a1 a2 a3 a4 a5 => by
        by_cases h7 : D 1 (L t) = 7
        · have : knd D (L t) = 1 := by unfold knd; rw [if_pos h7]
          rw [if_pos this]
          unfold cst
          rw [if_pos h7]
        · have : ¬ knd D (L t) = 1 := by unfold knd; rw [if_neg h7]; omega
          rw [if_neg this, s_X12_costOf q.1 (by omega), a1, a2, a3, a4, a5, d1, d2, d3, coF_cst hD q.1 q.2.1 h7]
          rfl
      have keep4 : ∀ x : Int, (∀ p', 0 ≤ p' → p' < t + 1 → (if L p' = L t then x else m 166 (L p')) = if L p' = L t then x else S 4 (L p')) := fun x p' a b => by
        split
        · rfl
        · rename_i hne
          exact s4 p' a (by
            by_cases hr : p' = t
            · subst hr; exact absurd rfl hne
            · omega)
      cases hj : jn D S (L t)
      · obtain ⟨e0, e01, e1, e2, e3, e4, e5⟩ := cut1_n (p := t) hj
        generalize hX : (if knd D (L t) = 1 then 12 else 2 : Int) = X at *
        have hX2 : 0 ≤ X ∧ X ≤ 12 := by rw [← hX]; split <;> omega
        simp (disch := omega) only [Nat.reduceAdd, reduceIte, Int.reduceEq, Int.reduceLT, Int.reduceLE, Int.reduceNeg, Int.reduceAdd, Int.reduceSub, Int.reduceMul, Int.reduceNe, or_true, true_or, or_false, false_or, or_self, and_true, true_and, and_false, false_and, and_self, not_true_eq_false, not_false_eq_true, ne_eq, Bool.false_eq_true, Bool.true_eq_false, decide_true, decide_false, ST, LD, ob, wr_ne, wr_at, hq19, s2, pI_ok, w32_id]
        rw [hcost _ (by simp (disch := omega) only [wr_ne]) (by simp (disch := omega) only [wr_ne]) (by simp (disch := omega) only [wr_ne]) (by simp (disch := omega) only [wr_ne]) (by simp (disch := omega) only [wr_ne])]
        have n3 : ¬ (4 * S 0 0 + 2 = 4 * S 0 0 + 3) := by omega
        have n4 : ¬ (4 * S 0 0 + 3 = 4 * S 0 0 + 2) := by omega
        simp (disch := omega) only [Nat.reduceAdd, reduceIte, Int.reduceEq, Int.reduceLT, Int.reduceLE, Int.reduceNeg, Int.reduceAdd, Int.reduceSub, Int.reduceMul, Int.reduceNe, or_true, true_or, or_false, false_or, or_self, and_true, true_and, and_false, false_and, and_self, not_true_eq_false, not_false_eq_true, ne_eq, Bool.false_eq_true, Bool.true_eq_false, decide_true, decide_false, ST, LD, ob, wr_ne, wr_at, s2, pI_ok, w32_id, Int.add_sub_cancel, n3, n4]
        refine Or.inl ⟨_, rfl, ⟨by dsimp only; omega, by dsimp only; omega, fun b b1 b2 b3 => by simp (disch := omega) only [wr_ne, hfr], fun k k1 k2 => by simp (disch := omega) only [wr_ne, wr_at, if_neg, hfk], ?_, i64_lor _ _, ?_⟩, by dsimp only; omega⟩
        · dsimp only
          rw [hstep]
          refine ⟨?_, ?_, fun i i0 i1 => ?_, fun p' a b => ?_⟩
          · simp (disch := omega) only [wr_ne, wr_at, Nat.reduceAdd, reduceIte, Int.reduceEq, Int.reduceLT, Int.reduceLE, Int.reduceNeg, Int.reduceAdd, Int.reduceSub, Int.reduceMul, Int.reduceNe, or_true, true_or, or_false, false_or, or_self, and_true, true_and, and_false, false_and, and_self, not_true_eq_false, not_false_eq_true, ne_eq, Bool.false_eq_true, Bool.true_eq_false, decide_true, decide_false, e0]
          · simp (disch := omega) only [wr_ne, wr_at, Nat.reduceAdd, reduceIte, Int.reduceEq, Int.reduceLT, Int.reduceLE, Int.reduceNeg, Int.reduceAdd, Int.reduceSub, Int.reduceMul, Int.reduceNe, or_true, true_or, or_false, false_or, or_self, and_true, true_and, and_false, false_and, and_self, not_true_eq_false, not_false_eq_true, ne_eq, Bool.false_eq_true, Bool.true_eq_false, decide_true, decide_false, e01]
          · rw [e0] at i1
            rw [e1, e2, e3, e5]
            simp (disch := omega) only [wr_ne, wr_at]
            by_cases hi : i = S 0 0
            · subst hi
              refine ⟨?_, ?_, ?_, ?_⟩
              · rw [if_neg (by omega), if_neg (by omega), if_neg (by omega), if_neg (by omega), if_neg (by omega), if_pos rfl, if_pos rfl]
              · rw [if_neg (by omega), if_neg (by omega), if_neg (by omega), if_neg (by omega), if_pos rfl, if_pos rfl]
              · rw [if_neg (by omega), if_pos rfl, if_pos rfl]
              · rw [if_pos rfl, if_pos rfl]
            · have z := s3 i i0 (by omega)
              refine ⟨?_, ?_, ?_, ?_⟩
              · rw [if_neg (by omega), if_neg (by omega), if_neg (by omega), if_neg (by omega), if_neg (by omega), if_neg (by omega), if_neg hi]; exact z.1
              · rw [if_neg (by omega), if_neg (by omega), if_neg (by omega), if_neg (by omega), if_neg (by omega), if_neg (by omega), if_neg hi]; exact z.2.1
              · rw [if_neg (by omega), if_neg (by omega), if_neg (by omega), if_neg (by omega), if_neg (by omega), if_neg (by omega), if_neg hi]; exact z.2.2.1
              · rw [if_neg (by omega), if_neg (by omega), if_neg (by omega), if_neg (by omega), if_neg (by omega), if_neg (by omega), if_neg hi]; exact z.2.2.2
          · rw [e4]
            simp (disch := omega) only [wr_ne, wr_at]
            exact keep4 _ p' a b
        · intro x a b
          dsimp only
          rw [hstep, e0, e4, tb_ins q.1 (by omega) a b, tb_0]
          constructor
          · rintro (z | rfl)
            · cases z
            · exact ⟨t, t0, by omega, rfl, by rw [if_pos rfl]; omega⟩
          · rintro ⟨r, r0, r1, r2, r3⟩
            by_cases hx : x = L t
            · exact Or.inr hx
            · rw [if_neg hx, ← r2] at r3
              have : r ≠ t := fun z => hx (by rw [← r2, z])
              have := (w7 r r0 (by omega)).2
              omega
      · obtain ⟨e0, e01, e1, e2, e3, e4, e5⟩ := cut1_j (p := t) hj
        have hpos := (jn_t.mp hj).1
        have a6 := w6 (S 0 0 - 1) (by omega) (by omega)
        have a3 := s3 (S 0 0 - 1) (by omega) (by omega)
        simp (disch := omega) only [Nat.reduceAdd, reduceIte, Int.reduceEq, Int.reduceLT, Int.reduceLE, Int.reduceNeg, Int.reduceAdd, Int.reduceSub, Int.reduceMul, Int.reduceNe, or_true, true_or, or_false, false_or, or_self, and_true, true_and, and_false, false_and, and_self, not_true_eq_false, not_false_eq_true, ne_eq, Bool.false_eq_true, Bool.true_eq_false, decide_true, decide_false, ob, w32_id]
        rw [hcost _ rfl rfl rfl rfl rfl]
        simp (disch := omega) only [Nat.reduceAdd, reduceIte, Int.reduceEq, Int.reduceLT, Int.reduceLE, Int.reduceNeg, Int.reduceAdd, Int.reduceSub, Int.reduceMul, Int.reduceNe, or_true, true_or, or_false, false_or, or_self, and_true, true_and, and_false, false_and, and_self, not_true_eq_false, not_false_eq_true, ne_eq, Bool.false_eq_true, Bool.true_eq_false, decide_true, decide_false, s1, ST, LD, ob, wr_ne, wr_at, s2, pI_ok, w32_id, a3.2.2.1]
        have n4 : ¬ (4 * (S 0 0 - 1) + 3 = 4 * (S 0 0 - 1) + 2) := by omega
        simp (disch := omega) only [Nat.reduceAdd, reduceIte, Int.reduceEq, Int.reduceLT, Int.reduceLE, Int.reduceNeg, Int.reduceAdd, Int.reduceSub, Int.reduceMul, Int.reduceNe, or_true, true_or, or_false, false_or, or_self, and_true, true_and, and_false, false_and, and_self, not_true_eq_false, not_false_eq_true, ne_eq, Bool.false_eq_true, Bool.true_eq_false, decide_true, decide_false, n4, a3.2.2.2, s1, ST, LD, ob, wr_ne, wr_at, s2, pI_ok, w32_id]
        refine Or.inl ⟨_, rfl, ⟨by dsimp only; omega, by dsimp only; omega, fun b b1 b2 b3 => by simp (disch := omega) only [wr_ne, hfr], fun k k1 k2 => by simp (disch := omega) only [wr_ne, wr_at, if_neg, hfk], ?_, i64_lor _ _, ?_⟩, by dsimp only; omega⟩
        · dsimp only
          rw [hstep]
          refine ⟨?_, ?_, fun i i0 i1 => ?_, fun p' a b => ?_⟩
          · simp (disch := omega) only [wr_ne, wr_at, Nat.reduceAdd, reduceIte, Int.reduceEq, Int.reduceLT, Int.reduceLE, Int.reduceNeg, Int.reduceAdd, Int.reduceSub, Int.reduceMul, Int.reduceNe, or_true, true_or, or_false, false_or, or_self, and_true, true_and, and_false, false_and, and_self, not_true_eq_false, not_false_eq_true, ne_eq, Bool.false_eq_true, Bool.true_eq_false, decide_true, decide_false, e0, s1]
          · simp (disch := omega) only [wr_ne, wr_at, Nat.reduceAdd, reduceIte, Int.reduceEq, Int.reduceLT, Int.reduceLE, Int.reduceNeg, Int.reduceAdd, Int.reduceSub, Int.reduceMul, Int.reduceNe, or_true, true_or, or_false, false_or, or_self, and_true, true_and, and_false, false_and, and_self, not_true_eq_false, not_false_eq_true, ne_eq, Bool.false_eq_true, Bool.true_eq_false, decide_true, decide_false, e01, Int.add_zero]
          · rw [e0] at i1
            rw [e1, e2, e3, e5]
            simp (disch := omega) only [wr_ne, wr_at]
            have z := s3 i i0 (by omega)
            by_cases hi : i = S 0 0 - 1
            · subst hi
              refine ⟨?_, ?_, ?_, ?_⟩
              · rw [if_neg (by omega), if_neg (by omega)]; exact z.1
              · rw [if_neg (by omega), if_neg (by omega)]; exact z.2.1
              · rw [if_neg (by omega), if_pos rfl, if_pos rfl]
              · rw [if_pos rfl, if_pos rfl]
            · refine ⟨?_, ?_, ?_, ?_⟩
              · rw [if_neg (by omega), if_neg (by omega)]; exact z.1
              · rw [if_neg (by omega), if_neg (by omega)]; exact z.2.1
              · rw [if_neg (by omega), if_neg (by omega), if_neg hi]; exact z.2.2.1
              · rw [if_neg (by omega), if_neg (by omega), if_neg hi]; exact z.2.2.2
          · rw [e4]
            simp (disch := omega) only [wr_ne, wr_at]
            exact keep4 _ p' a b
        · intro x a b
          dsimp only
          rw [hstep, e0, e4, tb_ins q.1 (by omega) a b, hrow x a b]
          constructor
          · rintro (⟨r, r0, r1, r2, r3⟩ | rfl)
            · refine ⟨r, r0, by omega, r2, ?_⟩
              split
              · rfl
              · exact r3
            · exact ⟨t, t0, by omega, rfl, by rw [if_pos rfl]⟩
          · rintro ⟨r, r0, r1, r2, r3⟩
            by_cases hx : x = L t
            · exact Or.inr hx
            · rw [if_neg hx] at r3
              have : r ≠ t := fun z => hx (by rw [← r2, z])
              exact Or.inl ⟨r, r0, by omega, r2, r3⟩
  · refine ⟨Int.le_refl _, by dsimp only; omega, fun b b1 b2 b3 => m0ne b b1, fun k k1 k2 => by dsimp only; rw [i13, if_neg k2, if_neg k1], ⟨by dsimp only; rw [i13]; rfl, by dsimp only; rw [i13]; rfl, fun i a b => ?_, fun q a b => by dsimp only at b; omega⟩, i64_0, fun x a b => ?_⟩
    · have : i < 0 := b
      omega
    · dsimp only
      rw [tb_0]
      exact ⟨fun z => (by cases z), fun ⟨r, r0, r1, _⟩ => by omega⟩
