/-! CLAUSES -/
def knd (D : Mem) (v : Int) : Int := if D 1 v = 7 then 1 else 0
def cst (D : Mem) (v : Int) : Int := if D 1 v = 7 then 2 else if D 3 v = 1 ∨ D 1 v = 0 then 1 else if D 1 v = 4 then 2 * D 2 v else D 2 v
def JoinP (D S : Mem) (v : Int) : Prop := 0 < S 0 0 ∧ S 5 (S 0 0 - 1) = knd D v ∧ S 2 (S 0 0 - 1) < (if knd D v = 1 then D 0 3 else D 0 4) ∧ (knd D v = 0 ∨ ∀ s, 0 ≤ s → s < 64 → tb (D 4 v) s = true → S 4 s ≠ S 0 0 - 1)
noncomputable def jn (D S : Mem) (v : Int) : Bool := @decide (JoinP D S v) (Classical.propDecidable _)
theorem jn_t {D S : Mem} {v : Int} : jn D S v = true ↔ JoinP D S v := by
  unfold jn
  exact @decide_eq_true_iff _ (Classical.propDecidable _)
/-- one place more -/
noncomputable def cut1 (D S : Mem) (v p : Int) : Mem := fun a i =>
  if a = 0 then (if i = 0 then (if jn D S v = true then S 0 0 else S 0 0 + 1) else if i = 1 then S 0 1 + (if jn D S v = true then 0 else if knd D v = 1 then 12 else 2) + cst D v else S 0 i)
  else if a = 1 then (if jn D S v = false ∧ i = S 0 0 then p else S 1 i)
  else if a = 2 then (if jn D S v = true then (if i = S 0 0 - 1 then S 2 i + 1 else S 2 i) else if i = S 0 0 then 1 else S 2 i)
  else if a = 3 then (if jn D S v = true then (if i = S 0 0 - 1 then S 3 i + cst D v else S 3 i) else if i = S 0 0 then (if knd D v = 1 then 12 else 2) + cst D v else S 3 i)
  else if a = 4 then (if i = v then (if jn D S v = true then S 0 0 - 1 else S 0 0) else S 4 i)
  else if a = 5 then (if jn D S v = false ∧ i = S 0 0 then knd D v else S 5 i)
  else S a i
noncomputable def cutS (D : Mem) (L : Int → Int) : Nat → Mem
  | 0 => fun _ _ => 0
  | p + 1 => cut1 D (cutS D L p) (L p) p
theorem cutS_s {D : Mem} {L : Int → Int} {p : Int} (h : 0 ≤ p) : cutS D L (p + 1).toNat = cut1 D (cutS D L p.toNat) (L p) p := by
  rw [show (p + 1).toNat = p.toNat + 1 by omega]
  show cut1 D (cutS D L p.toNat) (L (p.toNat : Int)) (p.toNat : Int) = _
  rw [show ((p.toNat : Nat) : Int) = p by omega]
theorem cst_bd {D : Mem} (hD : DW D) {v : Int} (h0 : 0 ≤ v) (h1 : v < D 0 0) : 1 ≤ cst D v ∧ cst D v ≤ 4 := by
  have := (hD.2.2.2.2.2.2.2.2 v h0 h1).2.1
  unfold cst
  repeat' split
  all_goals omega
theorem knd_01 (D : Mem) (v : Int) : knd D v = 0 ∨ knd D v = 1 := by unfold knd; split <;> omega
/-- what holds on the way -/
def CutW (D : Mem) (L : Int → Int) (S : Mem) (p : Int) : Prop := 0 ≤ S 0 0 ∧ S 0 0 ≤ p ∧ (0 < p → 0 < S 0 0) ∧ 0 ≤ S 0 1 ∧ S 0 1 ≤ 16 * p ∧ (∀ i, 0 ≤ i → i < S 0 0 → 0 ≤ S 1 i ∧ S 1 i < p ∧ knd D (L (S 1 i)) = S 5 i ∧ 1 ≤ S 2 i ∧ S 2 i ≤ p ∧ 0 ≤ S 3 i ∧ S 3 i ≤ 12 + 4 * p) ∧ (∀ q, 0 ≤ q → q < p → 0 ≤ S 4 (L q) ∧ S 4 (L q) < S 0 0)
theorem cut1_n {D S : Mem} {v p : Int} (hj : jn D S v = false) : cut1 D S v p 0 0 = S 0 0 + 1 ∧ cut1 D S v p 0 1 = S 0 1 + (if knd D v = 1 then 12 else 2) + cst D v ∧ (∀ i, cut1 D S v p 1 i = if i = S 0 0 then p else S 1 i) ∧ (∀ i, cut1 D S v p 2 i = if i = S 0 0 then 1 else S 2 i) ∧ (∀ i, cut1 D S v p 3 i = if i = S 0 0 then (if knd D v = 1 then 12 else 2) + cst D v else S 3 i) ∧ (∀ i, cut1 D S v p 4 i = if i = v then S 0 0 else S 4 i) ∧ (∀ i, cut1 D S v p 5 i = if i = S 0 0 then knd D v else S 5 i) := by
  refine ⟨?_, ?_, fun i => ?_, fun i => ?_, fun i => ?_, fun i => ?_, fun i => ?_⟩ <;> simp only [cut1, hj, Nat.reduceAdd, reduceIte, Int.reduceEq, Int.reduceLT, Int.reduceLE, Int.reduceNeg, Int.reduceAdd, Int.reduceSub, Int.reduceMul, Int.reduceNe, or_true, true_or, or_false, false_or, or_self, and_true, true_and, and_false, false_and, and_self, not_true_eq_false, not_false_eq_true, ne_eq, Bool.false_eq_true, Bool.true_eq_false, decide_true, decide_false, Nat.reduceEqDiff]
theorem cut1_j {D S : Mem} {v p : Int} (hj : jn D S v = true) : cut1 D S v p 0 0 = S 0 0 ∧ cut1 D S v p 0 1 = S 0 1 + 0 + cst D v ∧ (∀ i, cut1 D S v p 1 i = S 1 i) ∧ (∀ i, cut1 D S v p 2 i = if i = S 0 0 - 1 then S 2 i + 1 else S 2 i) ∧ (∀ i, cut1 D S v p 3 i = if i = S 0 0 - 1 then S 3 i + cst D v else S 3 i) ∧ (∀ i, cut1 D S v p 4 i = if i = v then S 0 0 - 1 else S 4 i) ∧ (∀ i, cut1 D S v p 5 i = S 5 i) := by
  refine ⟨?_, ?_, fun i => ?_, fun i => ?_, fun i => ?_, fun i => ?_, fun i => ?_⟩ <;> simp only [cut1, hj, Nat.reduceAdd, reduceIte, Int.reduceEq, Int.reduceLT, Int.reduceLE, Int.reduceNeg, Int.reduceAdd, Int.reduceSub, Int.reduceMul, Int.reduceNe, or_true, true_or, or_false, false_or, or_self, and_true, true_and, and_false, false_and, and_self, not_true_eq_false, not_false_eq_true, ne_eq, Bool.false_eq_true, Bool.true_eq_false, decide_true, decide_false, Nat.reduceEqDiff]
theorem cut1_W {D : Mem} (hD : DW D) {L : Int → Int} {c : Int} (hO : OrdV D L c) {S : Mem} {p : Int} (p0 : 0 ≤ p) (p1 : p < c) (h : CutW D L S p) : CutW D L (cut1 D S (L p) p) (p + 1) := by
  obtain ⟨a1, a2, a3, a4, a5, a6, a7⟩ := h
  have q := hO.2.1 p p0 p1
  have hcs := cst_bd hD q.1 q.2.1
  have hk := knd_01 D (L p)
  cases hj : jn D S (L p)
  · obtain ⟨e0, e01, e1, e2, e3, e4, e5⟩ := cut1_n (p := p) hj
    refine ⟨by omega, by omega, fun _ => by omega, ?_, ?_, fun i i0 i1 => ?_, fun r r0 r1 => ?_⟩
    · rw [e01]; split <;> omega
    · rw [e01]; split <;> omega
    · rw [e0] at i1
      rw [e1, e2, e3, e5]
      by_cases hi : i = S 0 0
      · rw [if_pos hi, if_pos hi, if_pos hi, if_pos hi]
        refine ⟨p0, by omega, rfl, by omega, by omega, ?_, ?_⟩ <;> split <;> omega
      · rw [if_neg hi, if_neg hi, if_neg hi, if_neg hi]
        have := a6 i i0 (by omega)
        omega
    · rw [e0, e4]
      split
      · omega
      · rename_i hne
        have := a7 r r0 (by
          by_cases hr : r = p
          · subst hr; exact absurd rfl hne
          · omega)
        omega
  · have hjp := jn_t.mp hj
    obtain ⟨e0, e01, e1, e2, e3, e4, e5⟩ := cut1_j (p := p) hj
    have hpos := hjp.1
    refine ⟨by omega, by omega, fun _ => by omega, by omega, by omega, fun i i0 i1 => ?_, fun r r0 r1 => ?_⟩
    · rw [e0] at i1
      rw [e1, e2, e3, e5]
      have := a6 i i0 (by omega)
      by_cases hi : i = S 0 0 - 1
      · rw [if_pos hi, if_pos hi]; omega
      · rw [if_neg hi, if_neg hi]; omega
    · rw [e0, e4]
      split
      · omega
      · rename_i hne
        have := a7 r r0 (by
          by_cases hr : r = p
          · subst hr; exact absurd rfl hne
          · omega)
        omega
theorem cutS_W {D : Mem} (hD : DW D) {L : Int → Int} {c : Int} (hO : OrdV D L c) : ∀ k : Nat, (k : Int) ≤ c → CutW D L (cutS D L k) k := by
  intro k
  induction k with
  | zero =>
    intro _
    refine ⟨Int.le_refl _, Int.le_refl _, fun z => by omega, Int.le_refl _, by show (0 : Int) ≤ 16 * ((0 : Nat) : Int); omega, fun i a b => ?_, fun q a b => by omega⟩
    have : i < 0 := b
    omega
  | succ k ih =>
    intro h
    have := cut1_W hD hO (p := (k : Int)) (by omega) (by omega) (ih (by omega))
    exact this
/-! the class's -/
def cyF (k u w : Int) : Int := if k = 7 then 2 else if u = 0 then (if k = 0 then 1 else if k = 4 then w32 (2 * w) else w) else 1
theorem s_X7_cyclesOf {g : Nat} {M : Mem} {v : Int} (hg : g = 62 ∨ g = 88) (h0 : 0 ≤ v) (h1 : v < 64) : fX7_cyclesOf g v M = some (cyF (M 45 v) (M 48 v) (M (g + 3) v), M) := by
  unfold fX7_cyclesOf cyF
  simp (disch := omega) only [LD, LGd hg, ob, obi]
  by_cases e1 : M 45 v = 7
  · simp only [Nat.reduceAdd, reduceIte, Int.reduceEq, Int.reduceLT, Int.reduceLE, Int.reduceNeg, Int.reduceAdd, Int.reduceSub, Int.reduceMul, Int.reduceNe, or_true, true_or, or_false, false_or, or_self, and_true, true_and, and_false, false_and, and_self, not_true_eq_false, not_false_eq_true, ne_eq, Bool.false_eq_true, Bool.true_eq_false, decide_true, decide_false, e1]
  · by_cases e2 : M 48 v = 0
    · by_cases e3 : M 45 v = 0
      · simp only [Nat.reduceAdd, reduceIte, Int.reduceEq, Int.reduceLT, Int.reduceLE, Int.reduceNeg, Int.reduceAdd, Int.reduceSub, Int.reduceMul, Int.reduceNe, or_true, true_or, or_false, false_or, or_self, and_true, true_and, and_false, false_and, and_self, not_true_eq_false, not_false_eq_true, ne_eq, Bool.false_eq_true, Bool.true_eq_false, decide_true, decide_false, e2, e3]
      · by_cases e4 : M 45 v = 4
        · simp only [Nat.reduceAdd, reduceIte, Int.reduceEq, Int.reduceLT, Int.reduceLE, Int.reduceNeg, Int.reduceAdd, Int.reduceSub, Int.reduceMul, Int.reduceNe, or_true, true_or, or_false, false_or, or_self, and_true, true_and, and_false, false_and, and_self, not_true_eq_false, not_false_eq_true, ne_eq, Bool.false_eq_true, Bool.true_eq_false, decide_true, decide_false, e2, e4]
        · simp only [Nat.reduceAdd, reduceIte, Int.reduceEq, Int.reduceLT, Int.reduceLE, Int.reduceNeg, Int.reduceAdd, Int.reduceSub, Int.reduceMul, Int.reduceNe, or_true, true_or, or_false, false_or, or_self, and_true, true_and, and_false, false_and, and_self, not_true_eq_false, not_false_eq_true, ne_eq, Bool.false_eq_true, Bool.true_eq_false, decide_true, decide_false, e1, e2, e3, e4]
    · simp only [Nat.reduceAdd, reduceIte, Int.reduceEq, Int.reduceLT, Int.reduceLE, Int.reduceNeg, Int.reduceAdd, Int.reduceSub, Int.reduceMul, Int.reduceNe, or_true, true_or, or_false, false_or, or_self, and_true, true_and, and_false, false_and, and_self, not_true_eq_false, not_false_eq_true, ne_eq, Bool.false_eq_true, Bool.true_eq_false, decide_true, decide_false, e1, e2]
theorem cyF_cst {D : Mem} (hD : DW D) {v : Int} (h0 : 0 ≤ v) (h1 : v < D 0 0) : cyF (D 1 v) (D 3 v) (D 2 v) = cst D v := by
  obtain ⟨-, hW, hU, -⟩ := hD.2.2.2.2.2.2.2.2 v h0 h1
  unfold cyF cst
  rw [w32_id (show -2147483648 ≤ 2 * D 2 v by omega) (by omega)]
  rcases hU with e | e
  · simp only [Nat.reduceAdd, reduceIte, Int.reduceEq, Int.reduceLT, Int.reduceLE, Int.reduceNeg, Int.reduceAdd, Int.reduceSub, Int.reduceMul, Int.reduceNe, or_true, true_or, or_false, false_or, or_self, and_true, true_and, and_false, false_and, and_self, not_true_eq_false, not_false_eq_true, ne_eq, Bool.false_eq_true, Bool.true_eq_false, decide_true, decide_false, e]
  · simp only [Nat.reduceAdd, reduceIte, Int.reduceEq, Int.reduceLT, Int.reduceLE, Int.reduceNeg, Int.reduceAdd, Int.reduceSub, Int.reduceMul, Int.reduceNe, or_true, true_or, or_false, false_or, or_self, and_true, true_and, and_false, false_and, and_self, not_true_eq_false, not_false_eq_true, ne_eq, Bool.false_eq_true, Bool.true_eq_false, decide_true, decide_false, e]
def CC (g : Nat) (M : Mem) (L : Int → Int) (S : Mem) (p : Int) : Prop := M (g + 13) 16 = S 0 0 ∧ M (g + 13) 17 = S 0 1 ∧ (∀ i, 0 ≤ i → i < S 0 0 → M (g + 23) i = S 1 i ∧ M (g + 24) i = S 2 i ∧ M (g + 25) i = S 3 i) ∧ ∀ q, 0 ≤ q → q < p → M (g + 22) (L q) = S 4 (L q)
set_option maxHeartbeats 4000000 in
set_option maxRecDepth 20000 in
theorem s_X7_jn_b1 {g : Nat} {M D : Mem} {v w : Int} (hg : g = 62 ∨ g = 88) (hD : DW D) (hC : CV g M D) (h0 : 0 ≤ v) (h1 : v < D 0 0) : ((∀ s, 0 ≤ s → s < 64 → tb (D 4 v) s = true → M (g + 22) s ≠ w) → lp (fX7_joins_b1 M g v 1 w) 0 = some (.inl ())) ∧ ((∃ s, 0 ≤ s ∧ s < 64 ∧ tb (D 4 v) s = true ∧ M (g + 22) s = w) → lp (fX7_joins_b1 M g v 1 w) 0 = some (.inr (0, M))) := by
  have n1 := hD.2.1
  obtain ⟨d1, d2, d3, d4, d5, d6, r1, r2, r3, r4, r5⟩ := hC.2.2.2 v h0 h1
  rw [d4] at r3 r4
  constructor
  · intro hn
    have key : ∃ r, lp (fX7_joins_b1 M g v 1 w) 0 = some r ∧ r = .inl () := by
      refine lp_ind (fun s : Int => 0 ≤ s ∧ s ≤ M (g + 7) v) (fun r : Unit ⊕ (Int × Mem) => r = .inl ()) (fun s => (M (g + 7) v - s).toNat) ?_ _ ⟨Int.le_refl _, r1⟩
      rintro s ⟨s0, s1⟩
      unfold fX7_joins_b1
      simp (disch := omega) only [LGd hg, ob]
      by_cases hs : M (g + 7) v ≤ s
      · rw [if_pos hs]
        exact Or.inr ⟨_, rfl, rfl⟩
      · have q := r3 s s0 (by omega)
        have := hn _ q.1 (by omega) q.2.2
        rw [if_neg hs, if_neg (by decide)]
        simp (disch := omega) only [w32_id, LGd hg, ob]
        rw [if_neg this]
        exact Or.inl ⟨_, rfl, ⟨by omega, by omega⟩, by omega⟩
    obtain ⟨r, e, rfl⟩ := key
    exact e
  · rintro ⟨x, x0, x1, hx, hxw⟩
    obtain ⟨k, k0, k1, hk⟩ := r4 x x0 x1 hx
    have key : ∃ r, lp (fX7_joins_b1 M g v 1 w) 0 = some r ∧ r = .inr (0, M) := by
      refine lp_ind (fun s : Int => 0 ≤ s ∧ s ≤ k) (fun r : Unit ⊕ (Int × Mem) => r = .inr (0, M)) (fun s => (k - s).toNat) ?_ _ ⟨Int.le_refl _, k0⟩
      rintro s ⟨s0, s1⟩
      unfold fX7_joins_b1
      simp (disch := omega) only [LGd hg, ob]
      have q := r3 s s0 (by omega)
      rw [if_neg (by omega), if_neg (by decide)]
      simp (disch := omega) only [w32_id, LGd hg, ob]
      by_cases e : M (g + 22) (M (g + 6) (3 * v + s)) = w
      · rw [if_pos e]
        exact Or.inr ⟨_, rfl, rfl⟩
      · rw [if_neg e]
        have : s ≠ k := fun z => by subst z; rw [hk] at e; exact e hxw
        exact Or.inl ⟨_, rfl, ⟨by omega, by omega⟩, by omega⟩
    obtain ⟨r, e, rfl⟩ := key
    exact e
theorem s_X7_jn0 {g : Nat} {M D : Mem} {v w : Int} (hg : g = 62 ∨ g = 88) (hD : DW D) (h0 : 0 ≤ v) (h1 : v < D 0 0) : lp (fX7_joins_b1 M g v 0 w) 0 = some (.inl ()) := by
  have n1 := hD.2.1
  apply lp_out
  unfold fX7_joins_b1
  simp (disch := omega) only [LGd hg, ob]
  split
  · rfl
  · rfl
set_option maxHeartbeats 4000000 in
set_option maxRecDepth 20000 in
theorem s_X7_joins {g : Nat} {M D S : Mem} {L : Int → Int} {c p : Int} (hg : g = 62 ∨ g = 88) (hD : DW D) (hC : CV g M D) (hL : CL g M L c) (hO : OrdV D L c) (p0 : 0 ≤ p) (p1 : p < c) (hW : CutW D L S p) (hS : CC g M L S p) : fX7_joins g (L p) (knd D (L p)) (if knd D (L p) = 1 then D 0 3 else D 0 4) M = some (if jn D S (L p) = true then 1 else 0, M) := by
  have n1 := hD.2.1
  have pb := pc_bd (D 0 1)
  have hc := hO.1
  obtain ⟨w1, w2, w3, w4, w5, w6, w7⟩ := hW
  obtain ⟨s1, s2, s3, s4⟩ := hS
  have q := hO.2.1 p p0 p1
  have src : ∀ s, 0 ≤ s → s < 64 → tb (D 4 (L p)) s = true → M (g + 22) s = S 4 s := fun s a b z => by
    obtain ⟨r, r0, r1, e⟩ := hO.2.2.2.2 p s p0 p1 a b z
    rw [← e]
    exact s4 r r0 (by omega)
  unfold fX7_joins
  simp only [s1]
  by_cases hz : S 0 0 = 0
  · have : jn D S (L p) = false := by
      cases h : jn D S (L p)
      · rfl
      · have := (jn_t.mp h).1; omega
    rw [if_pos hz, this]
    rfl
  · rw [if_neg hz]
    have a := w6 (S 0 0 - 1) (by omega) (by omega)
    have b := s3 (S 0 0 - 1) (by omega) (by omega)
    have qf := hO.2.1 (S 1 (S 0 0 - 1)) a.1 (by omega)
    have hkk : ((if D 1 (L (S 1 (S 0 0 - 1))) = 7 then some 1 else some 0 : Option Int)) = some (S 5 (S 0 0 - 1)) := by
      rw [← a.2.2.1]; unfold knd; split <;> rfl
    simp (disch := omega) only [w32_id, ob, LGd hg, b.1, hL.2 _ a.1 (show S 1 (S 0 0 - 1) < c by omega), LD, (hC.2.2.2 _ qf.1 qf.2.1).1, hkk, b.2.1]
    have jf : ¬ JoinP D S (L p) → jn D S (L p) = false := fun z => by
      cases h : jn D S (L p)
      · rfl
      · exact absurd (jn_t.mp h) z
    by_cases e1 : S 5 (S 0 0 - 1) = knd D (L p)
    · rw [if_pos e1]
      by_cases e2 : S 2 (S 0 0 - 1) < (if knd D (L p) = 1 then D 0 3 else D 0 4)
      · rw [if_pos e2]
        rcases knd_01 D (L p) with k0 | k1
        · rw [k0, s_X7_jn0 hg hD q.1 q.2.1, jn_t.mpr ⟨by omega, e1, e2, Or.inl k0⟩]
          rfl
        · rw [k1]
          obtain ⟨j1, j2⟩ := s_X7_jn_b1 (w := S 0 0 - 1) hg hD hC q.1 q.2.1
          by_cases hall : ∀ s, 0 ≤ s → s < 64 → tb (D 4 (L p)) s = true → S 4 s ≠ S 0 0 - 1
          · rw [j1 (fun s a b z => by rw [src s a b z]; exact hall s a b z), jn_t.mpr ⟨by omega, e1, e2, Or.inr hall⟩]
            rfl
          · have hex : ∃ s, 0 ≤ s ∧ s < 64 ∧ tb (D 4 (L p)) s = true ∧ M (g + 22) s = S 0 0 - 1 := by
              apply Classical.byContradiction
              intro hno
              exact hall (fun s a b z y => hno ⟨s, a, b, z, by rw [src s a b z]; exact y⟩)
            rw [j2 hex, jf (fun z => by
              rcases z.2.2.2 with y | y
              · omega
              · exact hall y)]
            rfl
      · rw [if_neg e2, jf (fun z => e2 z.2.2.1)]
        rfl
    · rw [if_neg e1, jf (fun z => e1 z.2.1)]
      rfl
