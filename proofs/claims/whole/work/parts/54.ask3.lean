theorem oite {c : Prop} [Decidable c] {a b : Int} {M : Mem} : (if c then some (a, M) else some (b, M)) = some (if c then a else b, M) := by split <;> rfl
set_option maxHeartbeats 4000000 in
set_option maxRecDepth 20000 in
theorem s_X12_manyOf {x : Int} {M : Mem} : fX12_manyOf x M = some (pc x, M) := by
  unfold fX12_manyOf
  suffices h : ∃ r, lp (fX12_manyOf_b1 x) (0, 0, M) = some r ∧ r = (pc x, M) by
    obtain ⟨r, e, rfl⟩ := h
    rw [e]; rfl
  refine lp_ind (fun s : Int × Int × Mem => 0 ≤ s.2.1 ∧ s.2.1 ≤ 64 ∧ s.2.2 = M ∧ s.1 = sm (fun i => if tb x i = true then 1 else 0) s.2.1.toNat) (fun r => r = (pc x, M)) (fun s => (64 - s.2.1).toNat) ?_ _ ?_
  · rintro ⟨y, k, m⟩ ⟨k0, k1, hm, hx⟩
    dsimp only at k0 k1 hm hx
    subst hm
    unfold fX12_manyOf_b1
    dsimp only
    by_cases hk : 64 ≤ k
    · rw [if_pos hk]
      refine Or.inr ⟨_, rfl, ?_⟩
      unfold pc
      rw [hx, show k = 64 by omega]
      rfl
    · rw [if_neg hk]
      have hss := sm_s (f := fun i => if tb x i = true then (1 : Int) else 0) k0
      have hb := sm_bd (f := fun i => if tb x i = true then (1 : Int) else 0) (c := 1) (k := k.toNat) (fun i _ _ => by split <;> omega)
      have hq : ((if (if tb x k = true then (1 : Int) else 0) = 0 then some 0 else some 1 : Option Int)) = some (if tb x k = true then 1 else 0) := by
        cases tb x k <;> simp only [Nat.reduceAdd, reduceIte, Int.reduceEq, Int.reduceLT, Int.reduceLE, Int.reduceNeg, Int.reduceAdd, Int.reduceSub, Int.reduceMul, Int.reduceNe, or_true, true_or, or_false, false_or, or_self, and_true, true_and, and_false, false_and, and_self, not_true_eq_false, not_false_eq_true, ne_eq, Bool.false_eq_true, Bool.true_eq_false, decide_true, decide_false]
      have hy : 0 ≤ (if tb x k = true then (1 : Int) else 0) ∧ (if tb x k = true then (1 : Int) else 0) ≤ 1 := by split <;> omega
      simp (disch := omega) only [s_X12_has, ob, hq, w32_id]
      exact Or.inl ⟨_, rfl, ⟨by dsimp only; omega, by dsimp only; omega, rfl, by dsimp only; rw [hss, hx]⟩, by dsimp only; omega⟩
  · exact ⟨Int.le_refl _, by dsimp only; omega, rfl, rfl⟩
def lowC (D : Mem) (F : Int → Int) : Int := sm (fun v => if F v = 0 ∧ -512 ≤ D 7 v ∧ D 8 v ≤ 511 then 1 else 0) (D 0 0).toNat
def knwC (D : Mem) : Int := sm (fun v => if D 7 v = D 8 v then 1 else 0) (D 0 0).toNat
set_option maxHeartbeats 4000000 in
set_option maxRecDepth 20000 in
theorem s_X2_countLow {g : Nat} {M D : Mem} (hg : g = 62 ∨ g = 88) (hD : DW D) (hn : M 44 0 = D 0 0) (hx : ∀ v, 0 ≤ v → v < D 0 0 → M (g + 1) v = D 7 v ∧ M (g + 2) v = D 8 v) : fX2_countLow g M = some (lowC D (M 47), M) := by
  have n0 := hD.1
  have n1 := hD.2.1
  unfold fX2_countLow
  suffices h : ∃ r, lp (fX2_countLow_b1 g) (0, 0, M) = some r ∧ r = (lowC D (M 47), M) by
    obtain ⟨r, e, rfl⟩ := h
    rw [e]; rfl
  refine lp_ind (fun s : Int × Int × Mem => 0 ≤ s.2.1 ∧ s.2.1 ≤ D 0 0 ∧ s.2.2 = M ∧ s.1 = sm (fun v => if M 47 v = 0 ∧ -512 ≤ D 7 v ∧ D 8 v ≤ 511 then 1 else 0) s.2.1.toNat) (fun r => r = (lowC D (M 47), M)) (fun s => (D 0 0 - s.2.1).toNat) ?_ _ ?_
  · rintro ⟨y, k, m⟩ ⟨k0, k1, hm, hy⟩
    dsimp only at k0 k1 hm hy
    subst hm
    unfold fX2_countLow_b1
    simp only [hn]
    by_cases hk : D 0 0 ≤ k
    · rw [if_pos hk]
      exact Or.inr ⟨_, rfl, by unfold lowC; rw [hy, show k = D 0 0 by omega]⟩
    · rw [if_neg hk]
      have hss := sm_s (f := fun v => if m 47 v = 0 ∧ -512 ≤ D 7 v ∧ D 8 v ≤ 511 then (1 : Int) else 0) k0
      have hb := sm_bd (f := fun v => if m 47 v = 0 ∧ -512 ≤ D 7 v ∧ D 8 v ≤ 511 then (1 : Int) else 0) (c := 1) (k := k.toNat) (fun i _ _ => by split <;> omega)
      have z := hx k k0 (by omega)
      have hq : ((if (if m 47 k = 0 ∧ -512 ≤ D 7 k ∧ D 8 k ≤ 511 then (1 : Int) else 0) = 0 then some 0 else some 1 : Option Int)) = some (if m 47 k = 0 ∧ -512 ≤ D 7 k ∧ D 8 k ≤ 511 then 1 else 0) := by
        by_cases e : m 47 k = 0 ∧ -512 ≤ D 7 k ∧ D 8 k ≤ 511 <;> simp only [e, Nat.reduceAdd, reduceIte, Int.reduceEq, Int.reduceLT, Int.reduceLE, Int.reduceNeg, Int.reduceAdd, Int.reduceSub, Int.reduceMul, Int.reduceNe, or_true, true_or, or_false, false_or, or_self, and_true, true_and, and_false, false_and, and_self, not_true_eq_false, not_false_eq_true, ne_eq, Bool.false_eq_true, Bool.true_eq_false, decide_true, decide_false]
      have hyy : 0 ≤ (if m 47 k = 0 ∧ -512 ≤ D 7 k ∧ D 8 k ≤ 511 then (1 : Int) else 0) ∧ (if m 47 k = 0 ∧ -512 ≤ D 7 k ∧ D 8 k ≤ 511 then (1 : Int) else 0) ≤ 1 := by split <;> omega
      simp (disch := omega) only [s_X2_isLow hg, ob, z.1, z.2, hq, w32_id]
      exact Or.inl ⟨_, rfl, ⟨by dsimp only; omega, by dsimp only; omega, rfl, by dsimp only; rw [hss, hy]⟩, by dsimp only; omega⟩
  · exact ⟨Int.le_refl _, n0, rfl, rfl⟩
set_option maxHeartbeats 4000000 in
set_option maxRecDepth 20000 in
theorem s_X2_countKnown {g : Nat} {M D : Mem} (hg : g = 62 ∨ g = 88) (hD : DW D) (hn : M 44 0 = D 0 0) (hx : ∀ v, 0 ≤ v → v < D 0 0 → M (g + 1) v = D 7 v ∧ M (g + 2) v = D 8 v) : fX2_countKnown g M = some (knwC D, M) := by
  have n0 := hD.1
  have n1 := hD.2.1
  unfold fX2_countKnown
  suffices h : ∃ r, lp (fX2_countKnown_b1 g) (0, 0, M) = some r ∧ r = (knwC D, M) by
    obtain ⟨r, e, rfl⟩ := h
    rw [e]; rfl
  refine lp_ind (fun s : Int × Int × Mem => 0 ≤ s.2.1 ∧ s.2.1 ≤ D 0 0 ∧ s.2.2 = M ∧ s.1 = sm (fun v => if D 7 v = D 8 v then 1 else 0) s.2.1.toNat) (fun r => r = (knwC D, M)) (fun s => (D 0 0 - s.2.1).toNat) ?_ _ ?_
  · rintro ⟨y, k, m⟩ ⟨k0, k1, hm, hy⟩
    dsimp only at k0 k1 hm hy
    subst hm
    unfold fX2_countKnown_b1
    simp only [hn]
    by_cases hk : D 0 0 ≤ k
    · rw [if_pos hk]
      exact Or.inr ⟨_, rfl, by unfold knwC; rw [hy, show k = D 0 0 by omega]⟩
    · rw [if_neg hk]
      have hss := sm_s (f := fun v => if D 7 v = D 8 v then (1 : Int) else 0) k0
      have hb := sm_bd (f := fun v => if D 7 v = D 8 v then (1 : Int) else 0) (c := 1) (k := k.toNat) (fun i _ _ => by split <;> omega)
      have z := hx k k0 (by omega)
      have hq : ((if (if D 7 k = D 8 k then (1 : Int) else 0) = 0 then some 0 else some 1 : Option Int)) = some (if D 7 k = D 8 k then 1 else 0) := by
        by_cases e : D 7 k = D 8 k <;> simp only [e, Nat.reduceAdd, reduceIte, Int.reduceEq, Int.reduceLT, Int.reduceLE, Int.reduceNeg, Int.reduceAdd, Int.reduceSub, Int.reduceMul, Int.reduceNe, or_true, true_or, or_false, false_or, or_self, and_true, true_and, and_false, false_and, and_self, not_true_eq_false, not_false_eq_true, ne_eq, Bool.false_eq_true, Bool.true_eq_false, decide_true, decide_false]
      have hyy : 0 ≤ (if D 7 k = D 8 k then (1 : Int) else 0) ∧ (if D 7 k = D 8 k then (1 : Int) else 0) ≤ 1 := by split <;> omega
      simp (disch := omega) only [s_X2_isKnown hg, ob, z.1, z.2, hq, w32_id]
      exact Or.inl ⟨_, rfl, ⟨by dsimp only; omega, by dsimp only; omega, rfl, by dsimp only; rw [hss, hy]⟩, by dsimp only; omega⟩
  · exact ⟨Int.le_refl _, n0, rfl, rfl⟩
set_option maxHeartbeats 4000000 in
set_option maxRecDepth 20000 in
theorem s_X12_howMany {M D : Mem} {F : Int → Int} {w : Int} (hD : DW D) (hn : M 138 8 = D 0 0) (hx : MX M D F) (hw : w = 0 ∨ w = 1) : fX12_howMany w M = some (if w = 0 then knwC D else lowC D F, M) := by
  have n0 := hD.1
  have n1 := hD.2.1
  unfold fX12_howMany
  suffices h : ∃ r, lp (fX12_howMany_b1 w) (0, 0, M) = some r ∧ r = (if w = 0 then knwC D else lowC D F, M) by
    obtain ⟨r, e, rfl⟩ := h
    rw [e]; rfl
  let G : Int → Int := fun v => if w = 0 then (if D 7 v = D 8 v then 1 else 0) else (if F v = 0 ∧ -512 ≤ D 7 v ∧ D 8 v ≤ 511 then 1 else 0)
  have hG : ∀ v, 0 ≤ G v ∧ G v ≤ 1 := fun v => by
    show 0 ≤ (if w = 0 then (if D 7 v = D 8 v then 1 else 0) else (if F v = 0 ∧ -512 ≤ D 7 v ∧ D 8 v ≤ 511 then 1 else 0)) ∧ (if w = 0 then (if D 7 v = D 8 v then 1 else 0) else (if F v = 0 ∧ -512 ≤ D 7 v ∧ D 8 v ≤ 511 then 1 else 0)) ≤ (1 : Int)
    repeat' split
    all_goals omega
  refine lp_ind (fun s : Int × Int × Mem => 0 ≤ s.2.1 ∧ s.2.1 ≤ D 0 0 ∧ s.2.2 = M ∧ s.1 = sm G s.2.1.toNat) (fun r => r = (if w = 0 then knwC D else lowC D F, M)) (fun s => (D 0 0 - s.2.1).toNat) ?_ _ ?_
  · rintro ⟨y, k, m⟩ ⟨k0, k1, hm, hy⟩
    dsimp only at k0 k1 hm hy
    subst hm
    unfold fX12_howMany_b1
    simp only [s_X12_values, ob, hn]
    by_cases hk : D 0 0 ≤ k
    · rw [if_pos hk]
      refine Or.inr ⟨_, rfl, ?_⟩
      rw [hy, show k = D 0 0 by omega]
      congr 1
      unfold knwC lowC
      rcases hw with e | e
      · rw [if_pos e]; exact sm_congr (fun i _ _ => if_pos e)
      · rw [if_neg (by omega)]; exact sm_congr (fun i _ _ => if_neg (by omega))
    · rw [if_neg hk]
      have hss := sm_s (f := G) k0
      have hb := sm_bd (f := G) (c := 1) (k := k.toNat) (fun i _ _ => hG i)
      obtain ⟨z1, z2, z3, -⟩ := hx k k0 (by omega)
      have hgk := hG k
      refine Or.inl ⟨(y + G k, k + 1, m), ?_, ⟨by dsimp only; omega, by dsimp only; omega, rfl, by dsimp only; rw [hss, hy]⟩, by dsimp only; omega⟩
      have hyb : -1 ≤ y + G k ∧ y + G k ≤ 100 := by omega
      rcases hw with e | e
      · have eG : G k = if D 7 k = D 8 k then 1 else 0 := if_pos e
        rw [eG] at hyb ⊢
        simp (disch := omega) only [e, Nat.reduceAdd, reduceIte, Int.reduceEq, Int.reduceLT, Int.reduceLE, Int.reduceNeg, Int.reduceAdd, Int.reduceSub, Int.reduceMul, Int.reduceNe, or_true, true_or, or_false, false_or, or_self, and_true, true_and, and_false, false_and, and_self, not_true_eq_false, not_false_eq_true, ne_eq, Bool.false_eq_true, Bool.true_eq_false, decide_true, decide_false, s_X12_isKnown, ob, z1, z2]
        by_cases c1 : D 7 k = D 8 k
        · simp only [c1, Nat.reduceAdd, reduceIte, Int.reduceEq, Int.reduceLT, Int.reduceLE, Int.reduceNeg, Int.reduceAdd, Int.reduceSub, Int.reduceMul, Int.reduceNe, or_true, true_or, or_false, false_or, or_self, and_true, true_and, and_false, false_and, and_self, not_true_eq_false, not_false_eq_true, ne_eq, Bool.false_eq_true, Bool.true_eq_false, decide_true, decide_false] at hyb
          simp (disch := omega) only [c1, Nat.reduceAdd, reduceIte, Int.reduceEq, Int.reduceLT, Int.reduceLE, Int.reduceNeg, Int.reduceAdd, Int.reduceSub, Int.reduceMul, Int.reduceNe, or_true, true_or, or_false, false_or, or_self, and_true, true_and, and_false, false_and, and_self, not_true_eq_false, not_false_eq_true, ne_eq, Bool.false_eq_true, Bool.true_eq_false, decide_true, decide_false, ob, w32_id]
        · simp only [c1, Nat.reduceAdd, reduceIte, Int.reduceEq, Int.reduceLT, Int.reduceLE, Int.reduceNeg, Int.reduceAdd, Int.reduceSub, Int.reduceMul, Int.reduceNe, or_true, true_or, or_false, false_or, or_self, and_true, true_and, and_false, false_and, and_self, not_true_eq_false, not_false_eq_true, ne_eq, Bool.false_eq_true, Bool.true_eq_false, decide_true, decide_false] at hyb
          simp (disch := omega) only [c1, Nat.reduceAdd, reduceIte, Int.reduceEq, Int.reduceLT, Int.reduceLE, Int.reduceNeg, Int.reduceAdd, Int.reduceSub, Int.reduceMul, Int.reduceNe, or_true, true_or, or_false, false_or, or_self, and_true, true_and, and_false, false_and, and_self, not_true_eq_false, not_false_eq_true, ne_eq, Bool.false_eq_true, Bool.true_eq_false, decide_true, decide_false, ob, w32_id]
      · have eG : G k = if F k = 0 ∧ -512 ≤ D 7 k ∧ D 8 k ≤ 511 then 1 else 0 := if_neg (by omega)
        rw [eG] at hyb ⊢
        simp (disch := omega) only [e, Nat.reduceAdd, reduceIte, Int.reduceEq, Int.reduceLT, Int.reduceLE, Int.reduceNeg, Int.reduceAdd, Int.reduceSub, Int.reduceMul, Int.reduceNe, or_true, true_or, or_false, false_or, or_self, and_true, true_and, and_false, false_and, and_self, not_true_eq_false, not_false_eq_true, ne_eq, Bool.false_eq_true, Bool.true_eq_false, decide_true, decide_false, s_X12_isLow, ob, z1, z2, z3]
        by_cases c1 : F k = 0 ∧ -512 ≤ D 7 k ∧ D 8 k ≤ 511
        · simp only [c1, Nat.reduceAdd, reduceIte, Int.reduceEq, Int.reduceLT, Int.reduceLE, Int.reduceNeg, Int.reduceAdd, Int.reduceSub, Int.reduceMul, Int.reduceNe, or_true, true_or, or_false, false_or, or_self, and_true, true_and, and_false, false_and, and_self, not_true_eq_false, not_false_eq_true, ne_eq, Bool.false_eq_true, Bool.true_eq_false, decide_true, decide_false] at hyb
          simp (disch := omega) only [c1, Nat.reduceAdd, reduceIte, Int.reduceEq, Int.reduceLT, Int.reduceLE, Int.reduceNeg, Int.reduceAdd, Int.reduceSub, Int.reduceMul, Int.reduceNe, or_true, true_or, or_false, false_or, or_self, and_true, true_and, and_false, false_and, and_self, not_true_eq_false, not_false_eq_true, ne_eq, Bool.false_eq_true, Bool.true_eq_false, decide_true, decide_false, ob, w32_id]
        · simp only [c1, Nat.reduceAdd, reduceIte, Int.reduceEq, Int.reduceLT, Int.reduceLE, Int.reduceNeg, Int.reduceAdd, Int.reduceSub, Int.reduceMul, Int.reduceNe, or_true, true_or, or_false, false_or, or_self, and_true, true_and, and_false, false_and, and_self, not_true_eq_false, not_false_eq_true, ne_eq, Bool.false_eq_true, Bool.true_eq_false, decide_true, decide_false] at hyb
          simp (disch := omega) only [c1, Nat.reduceAdd, reduceIte, Int.reduceEq, Int.reduceLT, Int.reduceLE, Int.reduceNeg, Int.reduceAdd, Int.reduceSub, Int.reduceMul, Int.reduceNe, or_true, true_or, or_false, false_or, or_self, and_true, true_and, and_false, false_and, and_self, not_true_eq_false, not_false_eq_true, ne_eq, Bool.false_eq_true, Bool.true_eq_false, decide_true, decide_false, ob, w32_id]
  · exact ⟨Int.le_refl _, n0, rfl, rfl⟩
set_option maxHeartbeats 4000000 in
set_option maxRecDepth 20000 in
theorem q_count {M : Mem} {t : Nat} {n nI nS : Int} {D : Mem} (h : InvQ M t n nI nS) (c : Cch M t n nS D) (w : Int) : Ans (fX11_count w) (fX12_count w) M := by
  obtain ⟨a1, a2, a3, a4, a5, a6, a7, a8, a9, a10, a11, a12, a13, a14, a15, a16, a17, a18, a19, -⟩ := id h
  obtain ⟨r, e, kr, md, mx, ms, mr⟩ := m_plans h c (Kp_th M 0)
  have hD := Cch_DW h c
  have d0 := c.1.1
  have e138 : r 138 = M 138 := kr.1 138 (by unfold scr; omega)
  have s1 := c.2.2.2.1.1
  have cc := c.2.2.2.1.2.2.2.2.2.2
  have cm := ms.2.2.2.2
  simp only [CL, CC, Nat.reduceAdd] at s1 cc
  have hx := c.2.2.1.1
  simp only [Nat.reduceAdd] at hx
  have low := s_X2_countLow (g := 62) (M := M) (Or.inl rfl) hD (by rw [a3, d0]) (fun v a b => ⟨(hx v a b).1, (hx v a b).2.1⟩)
  have mlow := s_X12_howMany (M := r) (w := 1) hD md.1 mx (Or.inr rfl)
  rw [if_neg (by decide)] at mlow
  refine ⟨if w = 0 then n else if w = 1 then nI else if w = 2 then nS else if w = 3 then pc (D 0 1) else if w = 4 then lowC D (M 47) else if w = 5 then cutS D (odr D (M 0 14)) (pc (D 0 1)).toNat 0 0 else if w = 6 then cutS D (odr D (M 0 14)) (pc (D 0 1)).toNat 0 1 else if w = 7 then M t 14 else if w = 8 then M t 15 else if w = 9 then M 0 14 else if w = 10 then M t 16 else if w = 11 then M 1 2 else if w = 12 then M t 17 else -1, M, r, ?_, ?_, kr⟩
  · unfold fX11_count
    rw [gm_ok a1 a2, low, a3, a6, s1.1, cc.1, cc.2.1]
    simp only [ob, a10.1]
    simp only [oite]
  · unfold fX12_count
    rw [pI_ok, ob, e, ob]
    have l9 : ldI r 138 9 = some nS := by rw [ld138 _ _ (by omega) (by omega), e138, a7.1]
    have l3 : ldI r 138 3 = some (M t 14) := by rw [ld138 _ _ (by omega) (by omega), e138, a14.1]
    have l4 : ldI r 138 4 = some (M t 15) := by rw [ld138 _ _ (by omega) (by omega), e138, a15.1]
    have l2 : ldI r 138 2 = some (M t 16) := by rw [ld138 _ _ (by omega) (by omega), e138, a17.1]
    have l5 : ldI r 138 5 = some (M t 17) := by rw [ld138 _ _ (by omega) (by omega), e138, a16]
    have l1 : fX12_inputs r = some (nI, r) := by unfold fX12_inputs; rw [ld138 _ _ (by omega) (by omega), e138, a10.2]; rfl
    have e8 : r 138 8 = n := by rw [e138]; exact a5.1
    rw [s_X12_values, e8, l1, l9, l3, l4, l2, l5, s_X12_manyOf, mlow, cm.1, cm.2.1, kr.2.1, kr.2.2, md.2.1, ← a19, ← a13.1]
    simp only [ob]
    simp only [oite]
