/-! WHAT BOTH SIDES SHARE between calls -/
/-- blocks that hold nothing between calls -/
def scr (b : Nat) : Prop := (22 ≤ b ∧ b ≤ 43) ∨ (56 ≤ b ∧ b ≤ 61) ∨ (88 ≤ b ∧ b ≤ 118) ∨ (134 ≤ b ∧ b ≤ 136) ∨ (140 ≤ b ∧ b ≤ 149) ∨ b = 132 ∨ 153 ≤ b
def Kp (M M' : Mem) : Prop := (∀ b, ¬ scr b → M' b = M b) ∧ M' 132 2 = M 132 2 ∧ M' 132 28 = M 132 28
theorem Kp_refl (M : Mem) : Kp M M := ⟨fun _ _ => rfl, rfl, rfl⟩
theorem Kp_trans {A B C : Mem} (h : Kp A B) (h' : Kp B C) : Kp A C := ⟨fun b hb => by rw [h'.1 b hb, h.1 b hb], by rw [h'.2.1, h.2.1], by rw [h'.2.2, h.2.2]⟩
def InvQ (M : Mem) (t : Nat) (n nI nS : Int) : Prop := (t = 5 ∨ t = 119) ∧ M 0 13 = t ∧ M 44 0 = n ∧ Val n (M 45) (M 46) (M 47) nI ∧ MV M n (M 45) (M 46) ∧ M 44 5 = nS ∧ MS M nS (M 49) ∧ ShOK n nS (M 49) ∧ In9 nI (M 52) (M 53) ∧ (M t 10 = nI ∧ M 138 1 = nI) ∧
  (∀ i, 0 ≤ i → i < nI → M 150 (2 * i) = M 52 i ∧ M 150 (2 * i + 1) = M 53 i ∧ M (t + 10) i = M 138 (10 + 3 * i + 2) ∧ (M (t + 10) i = 0 ∨ M (t + 10) i = 1) ∧ ∀ l, 0 ≤ l → l < 4 → M 151 (4 * i + l) = M 54 (4 * i + l) ∧ 0 ≤ M 54 (4 * i + l) ∧ M 54 (4 * i + l) ≤ 999) ∧
  UnOK n (M 45) (M 46) (fun i => M 138 (10 + 3 * i + 2)) (M 48) ∧ (M 0 14 = M 132 28 ∧ 0 ≤ M 0 14 ∧ M 0 14 ≤ 3) ∧ (M t 14 = M 138 3 ∧ 1 ≤ M t 14 ∧ M t 14 ≤ 8) ∧ (M t 15 = M 138 4 ∧ 1 ≤ M t 15 ∧ M t 15 ≤ 16) ∧ M t 17 = M 138 5 ∧ (M t 16 = M 138 2 ∧ 0 ≤ M t 16 ∧ M t 16 ≤ 100) ∧ (∀ k, 0 ≤ k → k < M t 16 → M 50 k = M 138 (292 + k) ∧ (M 50 k = 0 ∨ M 50 k = 1)) ∧ M 1 2 = M 132 2 ∧ ∀ i, 0 ≤ i → i < 16 → M 55 i = M 152 i ∧ 0 ≤ M 55 i ∧ M 55 i ≤ 999
theorem InvQ_fr {M M' : Mem} {t : Nat} {n nI nS : Int} (h : InvQ M t n nI nS) (k : Kp M M') : InvQ M' t n nI nS := by
  have ht := h.1
  obtain ⟨e, e2, e28⟩ := k
  have hs : ∀ b : Nat, b < 22 ∨ (44 ≤ b ∧ b ≤ 55) ∨ (119 ≤ b ∧ b ≤ 131) ∨ b = 138 ∨ (150 ≤ b ∧ b ≤ 152) → M' b = M b := fun b hb => e b (by unfold scr; omega)
  unfold InvQ MV MS
  rw [hs 0 (by omega), hs 1 (by omega), hs 44 (by omega), hs 45 (by omega), hs 46 (by omega), hs 47 (by omega), hs 48 (by omega), hs 49 (by omega), hs 50 (by omega), hs 52 (by omega), hs 53 (by omega), hs 54 (by omega), hs 55 (by omega), hs 138 (by omega), hs 150 (by omega), hs 151 (by omega), hs 152 (by omega), hs t (by omega), hs (t + 10) (by omega), e2, e28]
  exact h
/-- what the class keeps at hand -/
def Cch (M : Mem) (t : Nat) (n nS : Int) (D : Mem) : Prop := SpD n nS (-1) (M 45) (M 46) (M 47) (M 48) (M 52) (M 53) (M 49) D ∧ CV 62 M D ∧ CX 62 M D ∧ Sch 62 M D (odr D (M 0 14)) (pc (D 0 1)) ∧ (∀ p, 0 ≤ p → p < pc (D 0 1) → M 77 (odr D (M 0 14) p) = p) ∧ D 0 3 = M t 14 ∧ D 0 4 = M t 15
theorem Cch_fr {M M' : Mem} {t : Nat} {n nS : Int} {D : Mem} (ht : t = 5 ∨ t = 119) (h : Cch M t n nS D) (k : Kp M M') : Cch M' t n nS D := by
  obtain ⟨e, -, -⟩ := k
  have hs : ∀ b : Nat, b < 22 ∨ (44 ≤ b ∧ b ≤ 55) ∨ (62 ≤ b ∧ b ≤ 87) ∨ (119 ≤ b ∧ b ≤ 131) → M' b = M b := fun b hb => e b (by unfold scr; omega)
  unfold Cch CV CX Sch CL CC
  simp only [Nat.reduceAdd]
  rw [hs 0 (by omega), hs 44 (by omega), hs 45 (by omega), hs 46 (by omega), hs 47 (by omega), hs 48 (by omega), hs 49 (by omega), hs 52 (by omega), hs 53 (by omega), hs t (by omega)]
  rw [hs 63 (by omega), hs 64 (by omega), hs 65 (by omega), hs 66 (by omega), hs 67 (by omega), hs 68 (by omega), hs 69 (by omega), hs 70 (by omega), hs 71 (by omega), hs 72 (by omega), hs 73 (by omega), hs 74 (by omega), hs 75 (by omega), hs 76 (by omega), hs 77 (by omega), hs 78 (by omega), hs 79 (by omega), hs 80 (by omega), hs 81 (by omega), hs 83 (by omega), hs 84 (by omega), hs 85 (by omega), hs 86 (by omega), hs 87 (by omega)]
  exact h
theorem U_01 {M : Mem} {t : Nat} {n nI nS : Int} (h : InvQ M t n nI nS) {v : Int} (h0 : 0 ≤ v) (h1 : v < n) : M 48 v = 0 ∨ M 48 v = 1 := by
  have hU := h.2.2.2.2.2.2.2.2.2.2.2.1 v h0 h1
  rw [hU]
  unfold uF
  split
  · split <;> omega
  · split
    · omega
    · exact u1_01 _ _ _
theorem Cch_DW {M : Mem} {t : Nat} {n nI nS : Int} {D : Mem} (h : InvQ M t n nI nS) (c : Cch M t n nS D) : DW D := SpD_DW h.2.2.2.1 h.2.2.2.2.2.2.2.1 (fun v a b => U_01 h a b) c.1
/-! the reference works all anew -/
set_option maxHeartbeats 4000000 in
set_option maxRecDepth 20000 in
theorem m_rn {M M0 : Mem} {t : Nat} {n nI nS : Int} {D : Mem} {only p1 p2 p3 : Int} {lo hi : Int → Int} (h : InvQ M t n nI nS) (k : Kp M M0) (hI : In9 nI lo hi) (hlo : ∀ i, 0 ≤ i → i < nI → lo i = if i = p1 then p2 else M 52 i) (hhi : ∀ i, 0 ≤ i → i < nI → hi i = if i = p1 then p3 else M 53 i) (ho : -1 ≤ only) (hS : SpD n nS only (M 45) (M 46) (M 47) (M 48) lo hi (M 49) D) (d3 : D 0 3 = M t 14) (d4 : D 0 4 = M t 15) :
    ∃ q r, fX12_rangesWith p1 p2 p3 M0 = some q ∧ fX12_needs only q = some r ∧ Kp M r ∧ MD r D ∧ MX r D (M 47) := by
  have h0 := InvQ_fr h k
  obtain ⟨a1, a2, a3, a4, a5, a6, a7, a8, a9, a10, a11, a12, a13, a14, a15, -⟩ := h0
  obtain ⟨e, e2, e28⟩ := id k
  have hs : ∀ b : Nat, b < 22 ∨ (44 ≤ b ∧ b ≤ 55) ∨ (119 ≤ b ∧ b ≤ 131) ∨ b = 138 ∨ (150 ≤ b ∧ b ≤ 152) → M0 b = M b := fun b hb => e b (by unfold scr; omega)
  obtain ⟨q, r, f1, f2, fr, fk, md, mx⟩ := s_X12_rn (M := M0) (D := D) (p1 := p1) (p2 := p2) (p3 := p3) (only := only) (lo := lo) (hi := hi) a5 a7 a4 hI a8 (fun i x y => by rw [hlo i x y, (a11 i x y).1, hs 52 (by omega)]) (fun i x y => by rw [hhi i x y, (a11 i x y).2.1, hs 53 (by omega)]) (fun i x y => rfl) a12 ho (by rw [hs 45 (by omega), hs 46 (by omega), hs 47 (by omega), hs 48 (by omega), hs 49 (by omega)]; exact hS) (by rw [d3, ← a14.1, hs t (by omega)]) (by rw [d4, ← a15.1, hs t (by omega)])
  refine ⟨q, r, f1, f2, Kp_trans k ⟨fun b hb => fr b (by unfold scr at hb; omega) (by unfold scr at hb; omega), fk 2 (by omega) (by omega), fk 28 (by omega) (by omega)⟩, md, ?_⟩
  rw [← hs 47 (by omega)]
  exact mx
theorem SF_Kp {M M' : Mem} (h : SF M M') : Kp M M' := ⟨fun b hb => h.1 b (by unfold scr at hb; omega) (by unfold scr at hb; omega), h.2 2 (by omega) (by omega) (by omega), h.2 28 (by omega) (by omega) (by omega)⟩
set_option maxHeartbeats 4000000 in
set_option maxRecDepth 20000 in
theorem m_all0 {M M0 : Mem} {t : Nat} {n nI nS : Int} {D : Mem} (h : InvQ M t n nI nS) (c : Cch M t n nS D) (k : Kp M M0) : ∃ r, fX12_all0 M0 = some r ∧ Kp M r ∧ MD r D ∧ MX r D (M 47) := by
  obtain ⟨q, r, f1, f2, kr, md, mx⟩ := m_rn (p1 := -1) (p2 := 0) (p3 := 0) (only := -1) (lo := M 52) (hi := M 53) h k h.2.2.2.2.2.2.2.2.1 (fun i a b => by rw [if_neg (by omega)]) (fun i a b => by rw [if_neg (by omega)]) (by omega) c.1 c.2.2.2.2.2.1 c.2.2.2.2.2.2
  refine ⟨r, ?_, kr, md, mx⟩
  unfold fX12_all0
  simp only [f1, f2, ob]
set_option maxHeartbeats 4000000 in
set_option maxRecDepth 20000 in
theorem m_plan {M M0 : Mem} {D : Mem} {rule : Int} {F : Int → Int} (hD : DW D) (k : Kp M M0) (md : MD M0 D) (mx : MX M0 D F) : ∃ q r, fX12_orders rule M0 = some q ∧ fX12_registers q = some r ∧ Kp M r ∧ MD r D ∧ MX r D F ∧ MSch r D (odr D rule) (pc (D 0 1)) ∧ MReg r D (odr D rule) (pc (D 0 1)) := by
  obtain ⟨q, f1, sf1, md1, s1⟩ := s_X12_orders (rule := rule) hD md
  obtain ⟨r, f2, sf2, md2, s2, r2⟩ := s_X12_regs hD md1 s1
  exact ⟨q, r, f1, f2, Kp_trans k (SF_Kp (SF_trans sf1 sf2)), md2, MX_fr mx (SF_trans sf1 sf2), s2, r2⟩
set_option maxHeartbeats 4000000 in
set_option maxRecDepth 20000 in
theorem m_plans {M M0 : Mem} {t : Nat} {n nI nS : Int} {D : Mem} (h : InvQ M t n nI nS) (c : Cch M t n nS D) (k : Kp M M0) : ∃ r, fX12_plans M0 = some r ∧ Kp M r ∧ MD r D ∧ MX r D (M 47) ∧ MSch r D (odr D (M 0 14)) (pc (D 0 1)) ∧ MReg r D (odr D (M 0 14)) (pc (D 0 1)) := by
  obtain ⟨r, f1, kr, md, mx⟩ := m_all0 h c k
  obtain ⟨q, s, f2, f3, ks, md2, mx2, s2, r2⟩ := m_plan (rule := M 0 14) (Cch_DW h c) kr md mx
  refine ⟨s, ?_, ks, md2, mx2, s2, r2⟩
  unfold fX12_plans
  have : r 132 28 = M 0 14 := by rw [kr.2.2]; exact (h.2.2.2.2.2.2.2.2.2.2.2.2.1.1).symm
  simp only [f1, ob, this, f2, f3]
/-- thrown is put back -/
theorem Kp_th (M : Mem) (x : Int) : Kp M (wr M 132 0 x) := ⟨fun b hb => wr_ne (by unfold scr at hb; omega), by simp (disch := omega) only [wr_at, if_neg], by simp (disch := omega) only [wr_at, if_neg]⟩
theorem s_X12_within {a b c : Int} {M : Mem} : fX12_within a b c M = some (if b ≤ a ∧ a ≤ c then 1 else 0, M) := by
  unfold fX12_within
  by_cases h1 : a < b
  · have : ¬ b ≤ a := by omega
    simp only [Nat.reduceAdd, reduceIte, Int.reduceEq, Int.reduceLT, Int.reduceLE, Int.reduceNeg, Int.reduceAdd, Int.reduceSub, Int.reduceMul, Int.reduceNe, or_true, true_or, or_false, false_or, or_self, and_true, true_and, and_false, false_and, and_self, not_true_eq_false, not_false_eq_true, ne_eq, Bool.false_eq_true, Bool.true_eq_false, decide_true, decide_false, h1, this, ob, rz0]
  · have e1 : b ≤ a := by omega
    by_cases h2 : c < a
    · have : ¬ a ≤ c := by omega
      simp only [Nat.reduceAdd, reduceIte, Int.reduceEq, Int.reduceLT, Int.reduceLE, Int.reduceNeg, Int.reduceAdd, Int.reduceSub, Int.reduceMul, Int.reduceNe, or_true, true_or, or_false, false_or, or_self, and_true, true_and, and_false, false_and, and_self, not_true_eq_false, not_false_eq_true, ne_eq, Bool.false_eq_true, Bool.true_eq_false, decide_true, decide_false, h1, e1, h2, this, ob, rz0]
    · have : a ≤ c := by omega
      simp only [Nat.reduceAdd, reduceIte, Int.reduceEq, Int.reduceLT, Int.reduceLE, Int.reduceNeg, Int.reduceAdd, Int.reduceSub, Int.reduceMul, Int.reduceNe, or_true, true_or, or_false, false_or, or_self, and_true, true_and, and_false, false_and, and_self, not_true_eq_false, not_false_eq_true, ne_eq, Bool.false_eq_true, Bool.true_eq_false, decide_true, decide_false, h1, e1, h2, this, ob, rz1]
theorem s_X12_isValue {v : Int} {M : Mem} : fX12_isValue v M = some (if 0 ≤ v ∧ v < M 138 8 then 1 else 0, M) := by
  unfold fX12_isValue
  by_cases h1 : v < 0
  · have : ¬ 0 ≤ v := by omega
    simp only [Nat.reduceAdd, reduceIte, Int.reduceEq, Int.reduceLT, Int.reduceLE, Int.reduceNeg, Int.reduceAdd, Int.reduceSub, Int.reduceMul, Int.reduceNe, or_true, true_or, or_false, false_or, or_self, and_true, true_and, and_false, false_and, and_self, not_true_eq_false, not_false_eq_true, ne_eq, Bool.false_eq_true, Bool.true_eq_false, decide_true, decide_false, h1, this, ob, rz0]
  · have e1 : 0 ≤ v := by omega
    by_cases h2 : M 138 8 ≤ v
    · have : ¬ v < M 138 8 := by omega
      simp only [Nat.reduceAdd, reduceIte, Int.reduceEq, Int.reduceLT, Int.reduceLE, Int.reduceNeg, Int.reduceAdd, Int.reduceSub, Int.reduceMul, Int.reduceNe, or_true, true_or, or_false, false_or, or_self, and_true, true_and, and_false, false_and, and_self, not_true_eq_false, not_false_eq_true, ne_eq, Bool.false_eq_true, Bool.true_eq_false, decide_true, decide_false, h1, e1, h2, this, ob, rz0, s_X12_values]
    · have : v < M 138 8 := by omega
      simp only [Nat.reduceAdd, reduceIte, Int.reduceEq, Int.reduceLT, Int.reduceLE, Int.reduceNeg, Int.reduceAdd, Int.reduceSub, Int.reduceMul, Int.reduceNe, or_true, true_or, or_false, false_or, or_self, and_true, true_and, and_false, false_and, and_self, not_true_eq_false, not_false_eq_true, ne_eq, Bool.false_eq_true, Bool.true_eq_false, decide_true, decide_false, h1, e1, h2, this, ob, rz1, s_X12_values]
theorem s_X12_isInput {v : Int} {M : Mem} : fX12_isInput v M = some (if 0 ≤ v ∧ v < M 138 1 then 1 else 0, M) := by
  unfold fX12_isInput fX12_inputs
  by_cases h1 : v < 0
  · have : ¬ 0 ≤ v := by omega
    simp only [Nat.reduceAdd, reduceIte, Int.reduceEq, Int.reduceLT, Int.reduceLE, Int.reduceNeg, Int.reduceAdd, Int.reduceSub, Int.reduceMul, Int.reduceNe, or_true, true_or, or_false, false_or, or_self, and_true, true_and, and_false, false_and, and_self, not_true_eq_false, not_false_eq_true, ne_eq, Bool.false_eq_true, Bool.true_eq_false, decide_true, decide_false, h1, this, ob, rz0]
  · have e1 : 0 ≤ v := by omega
    by_cases h2 : M 138 1 ≤ v
    · have : ¬ v < M 138 1 := by omega
      simp (disch := omega) only [Nat.reduceAdd, reduceIte, Int.reduceEq, Int.reduceLT, Int.reduceLE, Int.reduceNeg, Int.reduceAdd, Int.reduceSub, Int.reduceMul, Int.reduceNe, or_true, true_or, or_false, false_or, or_self, and_true, true_and, and_false, false_and, and_self, not_true_eq_false, not_false_eq_true, ne_eq, Bool.false_eq_true, Bool.true_eq_false, decide_true, decide_false, h1, e1, h2, this, ob, rz0, LD]
    · have : v < M 138 1 := by omega
      simp (disch := omega) only [Nat.reduceAdd, reduceIte, Int.reduceEq, Int.reduceLT, Int.reduceLE, Int.reduceNeg, Int.reduceAdd, Int.reduceSub, Int.reduceMul, Int.reduceNe, or_true, true_or, or_false, false_or, or_self, and_true, true_and, and_false, false_and, and_self, not_true_eq_false, not_false_eq_true, ne_eq, Bool.false_eq_true, Bool.true_eq_false, decide_true, decide_false, h1, e1, h2, this, ob, rz1, LD]
theorem s_X12_isLane {v : Int} {M : Mem} : fX12_isLane v M = some (if 0 ≤ v ∧ v ≤ 3 then 1 else 0, M) := by
  unfold fX12_isLane
  rw [s_X12_within]
  by_cases h : 0 ≤ v ∧ v ≤ 3
  · simp only [Nat.reduceAdd, reduceIte, Int.reduceEq, Int.reduceLT, Int.reduceLE, Int.reduceNeg, Int.reduceAdd, Int.reduceSub, Int.reduceMul, Int.reduceNe, or_true, true_or, or_false, false_or, or_self, and_true, true_and, and_false, false_and, and_self, not_true_eq_false, not_false_eq_true, ne_eq, Bool.false_eq_true, Bool.true_eq_false, decide_true, decide_false, h, ob, rz1]
  · simp only [Nat.reduceAdd, reduceIte, Int.reduceEq, Int.reduceLT, Int.reduceLE, Int.reduceNeg, Int.reduceAdd, Int.reduceSub, Int.reduceMul, Int.reduceNe, or_true, true_or, or_false, false_or, or_self, and_true, true_and, and_false, false_and, and_self, not_true_eq_false, not_false_eq_true, ne_eq, Bool.false_eq_true, Bool.true_eq_false, decide_true, decide_false, h, ob, rz0]
theorem s_X12_isRange {a b : Int} {M : Mem} : fX12_isRange a b M = some (if 0 ≤ a ∧ a ≤ b ∧ b ≤ 999 then 1 else 0, M) := by
  unfold fX12_isRange
  simp only [s_X12_within, ob]
  by_cases h1 : 0 ≤ a ∧ a ≤ 999
  · by_cases h2 : a ≤ b ∧ b ≤ 999
    · have : 0 ≤ a ∧ a ≤ b ∧ b ≤ 999 := by omega
      simp only [Nat.reduceAdd, reduceIte, Int.reduceEq, Int.reduceLT, Int.reduceLE, Int.reduceNeg, Int.reduceAdd, Int.reduceSub, Int.reduceMul, Int.reduceNe, or_true, true_or, or_false, false_or, or_self, and_true, true_and, and_false, false_and, and_self, not_true_eq_false, not_false_eq_true, ne_eq, Bool.false_eq_true, Bool.true_eq_false, decide_true, decide_false, h1, h2, ob, rz1]
    · have : ¬ (0 ≤ a ∧ a ≤ b ∧ b ≤ 999) := by omega
      rw [if_neg this]
      simp only [Nat.reduceAdd, reduceIte, Int.reduceEq, Int.reduceLT, Int.reduceLE, Int.reduceNeg, Int.reduceAdd, Int.reduceSub, Int.reduceMul, Int.reduceNe, or_true, true_or, or_false, false_or, or_self, and_true, true_and, and_false, false_and, and_self, not_true_eq_false, not_false_eq_true, ne_eq, Bool.false_eq_true, Bool.true_eq_false, decide_true, decide_false, h1, h2, ob, rz0]
  · have : ¬ (0 ≤ a ∧ a ≤ b ∧ b ≤ 999) := by omega
    rw [if_neg this]
    simp only [Nat.reduceAdd, reduceIte, Int.reduceEq, Int.reduceLT, Int.reduceLE, Int.reduceNeg, Int.reduceAdd, Int.reduceSub, Int.reduceMul, Int.reduceNe, or_true, true_or, or_false, false_or, or_self, and_true, true_and, and_false, false_and, and_self, not_true_eq_false, not_false_eq_true, ne_eq, Bool.false_eq_true, Bool.true_eq_false, decide_true, decide_false, h1, ob, rz0]
/-! the class's tests -/
theorem s_X11_isValue {v : Int} {M : Mem} : fX11_isValue v M = some (if 0 ≤ v ∧ v < M 44 0 then 1 else 0, M) := by
  unfold fX11_isValue
  by_cases h1 : v < 0
  · have : ¬ 0 ≤ v := by omega
    simp only [Nat.reduceAdd, reduceIte, Int.reduceEq, Int.reduceLT, Int.reduceLE, Int.reduceNeg, Int.reduceAdd, Int.reduceSub, Int.reduceMul, Int.reduceNe, or_true, true_or, or_false, false_or, or_self, and_true, true_and, and_false, false_and, and_self, not_true_eq_false, not_false_eq_true, ne_eq, Bool.false_eq_true, Bool.true_eq_false, decide_true, decide_false, h1, this, ob, rz0]
  · have e1 : 0 ≤ v := by omega
    by_cases h2 : M 44 0 ≤ v
    · have : ¬ v < M 44 0 := by omega
      simp only [Nat.reduceAdd, reduceIte, Int.reduceEq, Int.reduceLT, Int.reduceLE, Int.reduceNeg, Int.reduceAdd, Int.reduceSub, Int.reduceMul, Int.reduceNe, or_true, true_or, or_false, false_or, or_self, and_true, true_and, and_false, false_and, and_self, not_true_eq_false, not_false_eq_true, ne_eq, Bool.false_eq_true, Bool.true_eq_false, decide_true, decide_false, h1, e1, h2, this, ob, rz0]
    · have : v < M 44 0 := by omega
      simp only [Nat.reduceAdd, reduceIte, Int.reduceEq, Int.reduceLT, Int.reduceLE, Int.reduceNeg, Int.reduceAdd, Int.reduceSub, Int.reduceMul, Int.reduceNe, or_true, true_or, or_false, false_or, or_self, and_true, true_and, and_false, false_and, and_self, not_true_eq_false, not_false_eq_true, ne_eq, Bool.false_eq_true, Bool.true_eq_false, decide_true, decide_false, h1, e1, h2, this, ob, rz1]
theorem s_X11_isShown {v : Int} {M : Mem} : fX11_isShown v M = some (if 0 ≤ v ∧ v < M 44 5 then 1 else 0, M) := by
  unfold fX11_isShown
  by_cases h1 : v < 0
  · have : ¬ 0 ≤ v := by omega
    simp only [Nat.reduceAdd, reduceIte, Int.reduceEq, Int.reduceLT, Int.reduceLE, Int.reduceNeg, Int.reduceAdd, Int.reduceSub, Int.reduceMul, Int.reduceNe, or_true, true_or, or_false, false_or, or_self, and_true, true_and, and_false, false_and, and_self, not_true_eq_false, not_false_eq_true, ne_eq, Bool.false_eq_true, Bool.true_eq_false, decide_true, decide_false, h1, this, ob, rz0]
  · have e1 : 0 ≤ v := by omega
    by_cases h2 : M 44 5 ≤ v
    · have : ¬ v < M 44 5 := by omega
      simp only [Nat.reduceAdd, reduceIte, Int.reduceEq, Int.reduceLT, Int.reduceLE, Int.reduceNeg, Int.reduceAdd, Int.reduceSub, Int.reduceMul, Int.reduceNe, or_true, true_or, or_false, false_or, or_self, and_true, true_and, and_false, false_and, and_self, not_true_eq_false, not_false_eq_true, ne_eq, Bool.false_eq_true, Bool.true_eq_false, decide_true, decide_false, h1, e1, h2, this, ob, rz0]
    · have : v < M 44 5 := by omega
      simp only [Nat.reduceAdd, reduceIte, Int.reduceEq, Int.reduceLT, Int.reduceLE, Int.reduceNeg, Int.reduceAdd, Int.reduceSub, Int.reduceMul, Int.reduceNe, or_true, true_or, or_false, false_or, or_self, and_true, true_and, and_false, false_and, and_self, not_true_eq_false, not_false_eq_true, ne_eq, Bool.false_eq_true, Bool.true_eq_false, decide_true, decide_false, h1, e1, h2, this, ob, rz1]
theorem s_X11_isPlace {v : Int} {M : Mem} : fX11_isPlace v M = some (if 0 ≤ v ∧ v < M 75 4 then 1 else 0, M) := by
  unfold fX11_isPlace
  by_cases h1 : v < 0
  · have : ¬ 0 ≤ v := by omega
    simp only [Nat.reduceAdd, reduceIte, Int.reduceEq, Int.reduceLT, Int.reduceLE, Int.reduceNeg, Int.reduceAdd, Int.reduceSub, Int.reduceMul, Int.reduceNe, or_true, true_or, or_false, false_or, or_self, and_true, true_and, and_false, false_and, and_self, not_true_eq_false, not_false_eq_true, ne_eq, Bool.false_eq_true, Bool.true_eq_false, decide_true, decide_false, h1, this, ob, rz0]
  · have e1 : 0 ≤ v := by omega
    by_cases h2 : M 75 4 ≤ v
    · have : ¬ v < M 75 4 := by omega
      simp only [Nat.reduceAdd, reduceIte, Int.reduceEq, Int.reduceLT, Int.reduceLE, Int.reduceNeg, Int.reduceAdd, Int.reduceSub, Int.reduceMul, Int.reduceNe, or_true, true_or, or_false, false_or, or_self, and_true, true_and, and_false, false_and, and_self, not_true_eq_false, not_false_eq_true, ne_eq, Bool.false_eq_true, Bool.true_eq_false, decide_true, decide_false, h1, e1, h2, this, ob, rz0]
    · have : v < M 75 4 := by omega
      simp only [Nat.reduceAdd, reduceIte, Int.reduceEq, Int.reduceLT, Int.reduceLE, Int.reduceNeg, Int.reduceAdd, Int.reduceSub, Int.reduceMul, Int.reduceNe, or_true, true_or, or_false, false_or, or_self, and_true, true_and, and_false, false_and, and_self, not_true_eq_false, not_false_eq_true, ne_eq, Bool.false_eq_true, Bool.true_eq_false, decide_true, decide_false, h1, e1, h2, this, ob, rz1]
theorem s_X11_isLane {v : Int} {M : Mem} : fX11_isLane v M = some (if 0 ≤ v ∧ v ≤ 3 then 1 else 0, M) := by
  unfold fX11_isLane
  by_cases h1 : v < 0
  · have : ¬ 0 ≤ v := by omega
    simp only [Nat.reduceAdd, reduceIte, Int.reduceEq, Int.reduceLT, Int.reduceLE, Int.reduceNeg, Int.reduceAdd, Int.reduceSub, Int.reduceMul, Int.reduceNe, or_true, true_or, or_false, false_or, or_self, and_true, true_and, and_false, false_and, and_self, not_true_eq_false, not_false_eq_true, ne_eq, Bool.false_eq_true, Bool.true_eq_false, decide_true, decide_false, h1, this, ob, rz0]
  · have e1 : 0 ≤ v := by omega
    by_cases h2 : 4 ≤ v
    · have : ¬ v ≤ 3 := by omega
      simp only [Nat.reduceAdd, reduceIte, Int.reduceEq, Int.reduceLT, Int.reduceLE, Int.reduceNeg, Int.reduceAdd, Int.reduceSub, Int.reduceMul, Int.reduceNe, or_true, true_or, or_false, false_or, or_self, and_true, true_and, and_false, false_and, and_self, not_true_eq_false, not_false_eq_true, ne_eq, Bool.false_eq_true, Bool.true_eq_false, decide_true, decide_false, h1, e1, h2, this, ob, rz0]
    · have : v ≤ 3 := by omega
      simp only [Nat.reduceAdd, reduceIte, Int.reduceEq, Int.reduceLT, Int.reduceLE, Int.reduceNeg, Int.reduceAdd, Int.reduceSub, Int.reduceMul, Int.reduceNe, or_true, true_or, or_false, false_or, or_self, and_true, true_and, and_false, false_and, and_self, not_true_eq_false, not_false_eq_true, ne_eq, Bool.false_eq_true, Bool.true_eq_false, decide_true, decide_false, h1, e1, h2, this, ob, rz1]
theorem s_X11_isRange {a b : Int} {M : Mem} : fX11_isRange a b M = some (if 0 ≤ a ∧ a ≤ b ∧ b ≤ 999 then 1 else 0, M) := by
  unfold fX11_isRange
  by_cases h1 : a < 0
  · have : ¬ 0 ≤ a := by omega
    simp only [Nat.reduceAdd, reduceIte, Int.reduceEq, Int.reduceLT, Int.reduceLE, Int.reduceNeg, Int.reduceAdd, Int.reduceSub, Int.reduceMul, Int.reduceNe, or_true, true_or, or_false, false_or, or_self, and_true, true_and, and_false, false_and, and_self, not_true_eq_false, not_false_eq_true, ne_eq, Bool.false_eq_true, Bool.true_eq_false, decide_true, decide_false, h1, this, ob, rz0]
  · have e1 : 0 ≤ a := by omega
    by_cases h2 : b < a
    · have : ¬ a ≤ b := by omega
      simp only [Nat.reduceAdd, reduceIte, Int.reduceEq, Int.reduceLT, Int.reduceLE, Int.reduceNeg, Int.reduceAdd, Int.reduceSub, Int.reduceMul, Int.reduceNe, or_true, true_or, or_false, false_or, or_self, and_true, true_and, and_false, false_and, and_self, not_true_eq_false, not_false_eq_true, ne_eq, Bool.false_eq_true, Bool.true_eq_false, decide_true, decide_false, h1, e1, h2, this, ob, rz0]
    · have e2 : a ≤ b := by omega
      by_cases h3 : 999 < b
      · have : ¬ b ≤ 999 := by omega
        simp only [Nat.reduceAdd, reduceIte, Int.reduceEq, Int.reduceLT, Int.reduceLE, Int.reduceNeg, Int.reduceAdd, Int.reduceSub, Int.reduceMul, Int.reduceNe, or_true, true_or, or_false, false_or, or_self, and_true, true_and, and_false, false_and, and_self, not_true_eq_false, not_false_eq_true, ne_eq, Bool.false_eq_true, Bool.true_eq_false, decide_true, decide_false, h1, e1, h2, e2, h3, this, ob, rz0]
      · have : b ≤ 999 := by omega
        simp only [Nat.reduceAdd, reduceIte, Int.reduceEq, Int.reduceLT, Int.reduceLE, Int.reduceNeg, Int.reduceAdd, Int.reduceSub, Int.reduceMul, Int.reduceNe, or_true, true_or, or_false, false_or, or_self, and_true, true_and, and_false, false_and, and_self, not_true_eq_false, not_false_eq_true, ne_eq, Bool.false_eq_true, Bool.true_eq_false, decide_true, decide_false, h1, e1, h2, e2, h3, this, ob, rz1]
theorem gm_ok {M : Mem} {t : Nat} (ht : t = 5 ∨ t = 119) (h : M 0 13 = t) : gm M 0 13 = some t := by
  unfold gm
  rw [if_pos (by omega), h]
  congr 1
theorem s_X11_isInput {M : Mem} {t : Nat} {v : Int} (ht : t = 5 ∨ t = 119) (h : M 0 13 = t) : fX11_isInput v M = some (if 0 ≤ v ∧ v < M t 10 then 1 else 0, M) := by
  unfold fX11_isInput
  by_cases h1 : v < 0
  · have : ¬ 0 ≤ v := by omega
    simp only [Nat.reduceAdd, reduceIte, Int.reduceEq, Int.reduceLT, Int.reduceLE, Int.reduceNeg, Int.reduceAdd, Int.reduceSub, Int.reduceMul, Int.reduceNe, or_true, true_or, or_false, false_or, or_self, and_true, true_and, and_false, false_and, and_self, not_true_eq_false, not_false_eq_true, ne_eq, Bool.false_eq_true, Bool.true_eq_false, decide_true, decide_false, h1, this, ob, rz0]
  · have e1 : 0 ≤ v := by omega
    simp only [gm_ok ht h, ob]
    by_cases h2 : M t 10 ≤ v
    · have : ¬ v < M t 10 := by omega
      simp only [Nat.reduceAdd, reduceIte, Int.reduceEq, Int.reduceLT, Int.reduceLE, Int.reduceNeg, Int.reduceAdd, Int.reduceSub, Int.reduceMul, Int.reduceNe, or_true, true_or, or_false, false_or, or_self, and_true, true_and, and_false, false_and, and_self, not_true_eq_false, not_false_eq_true, ne_eq, Bool.false_eq_true, Bool.true_eq_false, decide_true, decide_false, h1, e1, h2, this, ob, rz0]
    · have : v < M t 10 := by omega
      simp only [Nat.reduceAdd, reduceIte, Int.reduceEq, Int.reduceLT, Int.reduceLE, Int.reduceNeg, Int.reduceAdd, Int.reduceSub, Int.reduceMul, Int.reduceNe, or_true, true_or, or_false, false_or, or_self, and_true, true_and, and_false, false_and, and_self, not_true_eq_false, not_false_eq_true, ne_eq, Bool.false_eq_true, Bool.true_eq_false, decide_true, decide_false, h1, e1, h2, this, ob, rz1]
/-- both answer the same, and leave what they share alone -/
def Ans (f h : Mem → Option (Int × Mem)) (M : Mem) : Prop := ∃ x M1 M2, f M = some (x, M1) ∧ h M1 = some (x, M2) ∧ Kp M M2
