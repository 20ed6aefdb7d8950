/-! PRESSURES -/
def mx (f : Int → Int) : Nat → Int
  | 0 => 0
  | k + 1 => max (mx f k) (f k)
theorem mx_s {f : Int → Int} {i : Int} (h : 0 ≤ i) : mx f (i + 1).toNat = max (mx f i.toNat) (f i) := by
  rw [show (i + 1).toNat = i.toNat + 1 by omega]
  show max (mx f i.toNat) (f (i.toNat : Int)) = _
  rw [show ((i.toNat : Nat) : Int) = i by omega]
theorem mx_congr {f g : Int → Int} {k : Nat} (h : ∀ i : Int, 0 ≤ i → i < k → f i = g i) : mx f k = mx g k := by
  induction k with
  | zero => rfl
  | succ k ih =>
    show max (mx f k) (f k) = max (mx g k) (g k)
    rw [ih (fun i a b => h i a (by omega)), h k (by omega) (by omega)]
theorem mx_bd {f : Int → Int} {c : Int} {k : Nat} (hc : 0 ≤ c) (h : ∀ i : Int, 0 ≤ i → i < k → f i ≤ c) : 0 ≤ mx f k ∧ mx f k ≤ c := by
  induction k with
  | zero => exact ⟨Int.le_refl _, hc⟩
  | succ k ih =>
    have h1 := ih (fun i a b => h i a (by omega))
    have h2 := h k (by omega) (by omega)
    show 0 ≤ max (mx f k) (f k) ∧ max (mx f k) (f k) ≤ c
    omega
def prx (D : Mem) (L E : Int → Int) (p f k : Int) : Int := if p < E (L k) ∧ (f = 2 ∨ f = 1 - D 3 (L k)) then D 2 (L k) else 0
def prs (D : Mem) (L E : Int → Int) (p f : Int) : Int := sm (prx D L E p f) (p + 1).toNat
def top (D : Mem) (L E : Int → Int) (c f : Int) : Int := mx (fun p => prs D L E p f) c.toNat
theorem prx_bd {D : Mem} (hD : DW D) {L E : Int → Int} {c p f k : Int} (hO : OrdV D L c) (k0 : 0 ≤ k) (k1 : k < c) : 0 ≤ prx D L E p f k ∧ prx D L E p f k ≤ 2 := by
  have q := hO.2.1 k k0 k1
  have := (hD.2.2.2.2.2.2.2.2 (L k) q.1 q.2.1).2.1
  unfold prx
  split <;> omega
theorem prs_part {D : Mem} (hD : DW D) {L E : Int → Int} {c p f : Int} (hO : OrdV D L c) {k : Int} (k0 : 0 ≤ k) (k1 : k ≤ c) : 0 ≤ sm (prx D L E p f) k.toNat ∧ sm (prx D L E p f) k.toNat ≤ 128 := by
  have pb := pc_bd (D 0 1)
  have hc := hO.1
  have := sm_bd (f := prx D L E p f) (c := 2) (k := k.toNat) (fun i a b => prx_bd hD hO a (by omega))
  omega
theorem prs_bd {D : Mem} (hD : DW D) {L E : Int → Int} {c p f : Int} (hO : OrdV D L c) (p0 : 0 ≤ p) (p1 : p < c) : 0 ≤ prs D L E p f ∧ prs D L E p f ≤ 128 := prs_part hD hO (by omega) (by omega)
theorem prs_congr {D : Mem} {L L' E E' : Int → Int} {c p f : Int} (hl : ∀ k, 0 ≤ k → k < c → L' k = L k) (he : ∀ k, 0 ≤ k → k < c → E' (L k) = E (L k)) (p1 : p < c) : prs D L' E' p f = prs D L E p f := by
  unfold prs
  apply sm_congr
  intro i a b
  unfold prx
  rw [hl i a (by omega), he i a (by omega)]
theorem top_congr {D : Mem} {L L' E E' : Int → Int} {c f : Int} (hl : ∀ k, 0 ≤ k → k < c → L' k = L k) (he : ∀ k, 0 ≤ k → k < c → E' (L k) = E (L k)) : top D L' E' c f = top D L E c f := mx_congr (fun i a b => prs_congr hl he (by omega))
theorem s_X7_fileOf {g : Nat} {M D : Mem} {v : Int} (hD : DW D) (hC : CV g M D) (h0 : 0 ≤ v) (h1 : v < D 0 0) : fX7_fileOf g v M = some (1 - D 3 v, M) := by
  have n1 := hD.2.1
  have hU := (hD.2.2.2.2.2.2.2.2 v h0 h1).2.2.1
  unfold fX7_fileOf
  simp (disch := omega) only [LD, ob, (hC.2.2.2 v h0 h1).2.2.1]
  rcases hU with e | e <;> simp only [Nat.reduceAdd, reduceIte, Int.reduceEq, Int.reduceLT, Int.reduceLE, Int.reduceNeg, Int.reduceAdd, Int.reduceSub, Int.reduceMul, Int.reduceNe, or_true, true_or, or_false, false_or, or_self, and_true, true_and, and_false, false_and, and_self, not_true_eq_false, not_false_eq_true, ne_eq, Bool.false_eq_true, Bool.true_eq_false, decide_true, decide_false, e, ob]
set_option maxHeartbeats 4000000 in
set_option maxRecDepth 20000 in
theorem s_X7_pressureAt {g : Nat} {M D : Mem} {L : Int → Int} {c p f : Int} (hg : g = 62 ∨ g = 88) (hD : DW D) (hC : CV g M D) (hL : CL g M L c) (hO : OrdV D L c) (p0 : 0 ≤ p) (p1 : p < c) : fX7_pressureAt g p f M = some (prs D L (M (g + 16)) p f, M) := by
  have n1 := hD.2.1
  have pb := pc_bd (D 0 1)
  have hc := hO.1
  unfold fX7_pressureAt
  suffices h : ∃ r, lp (fX7_pressureAt_b1 g p f) (0, 0, M) = some r ∧ r = (prs D L (M (g + 16)) p f, M) by
    obtain ⟨r, e, rfl⟩ := h
    rw [e]; rfl
  refine lp_ind (fun s : Int × Int × Mem => 0 ≤ s.2.1 ∧ s.2.1 ≤ p + 1 ∧ s.2.2 = M ∧ s.1 = sm (prx D L (M (g + 16)) p f) s.2.1.toNat) (fun r => r = (prs D L (M (g + 16)) p f, M)) (fun s => (p + 1 - s.2.1).toNat) ?_ _ ?_
  · rintro ⟨x, k, m⟩ ⟨k0, k1, hm, hx⟩
    dsimp only at k0 k1 hm hx
    subst hm
    unfold fX7_pressureAt_b1
    dsimp only
    by_cases hk : p < k
    · rw [if_pos hk]
      refine Or.inr ⟨_, rfl, ?_⟩
      unfold prs
      rw [hx, show k = p + 1 by omega]
    · rw [if_neg hk]
      have q := hO.2.1 k k0 (by omega)
      have hss := sm_s (f := prx D L (m (g + 16)) p f) k0
      have hb1 := prs_part (E := m (g + 16)) (p := p) (f := f) hD hO (k := k) k0 (by omega)
      have hb2 := prx_bd (E := m (g + 16)) (p := p) (f := f) hD hO k0 (show k < c by omega)
      refine Or.inl ⟨(x + prx D L (m (g + 16)) p f k, k + 1, m), ?_, ⟨by dsimp only; omega, by dsimp only; omega, rfl, by dsimp only; rw [hss, hx]⟩, by dsimp only; omega⟩
      obtain ⟨-, d2, d3, -⟩ := hC.2.2.2 (L k) q.1 q.2.1
      have hq1 : k < c := by omega
      simp (disch := omega) only [LGd hg, ob, hL.2 k k0 hq1, s_X7_fileOf hD hC q.1 q.2.1]
      unfold prx at hb2 ⊢
      by_cases e1 : m (g + 16) (L k) ≤ p
      · have e1' : ¬ p < m (g + 16) (L k) := by omega
        simp (disch := omega) only [Nat.reduceAdd, reduceIte, Int.reduceEq, Int.reduceLT, Int.reduceLE, Int.reduceNeg, Int.reduceAdd, Int.reduceSub, Int.reduceMul, Int.reduceNe, or_true, true_or, or_false, false_or, or_self, and_true, true_and, and_false, false_and, and_self, not_true_eq_false, not_false_eq_true, ne_eq, Bool.false_eq_true, Bool.true_eq_false, decide_true, decide_false, e1, e1', ob, w32_id, Int.add_zero]
      · have e1' : p < m (g + 16) (L k) := by omega
        by_cases e2 : f = 2
        · simp only [e1', e2, Nat.reduceAdd, reduceIte, Int.reduceEq, Int.reduceLT, Int.reduceLE, Int.reduceNeg, Int.reduceAdd, Int.reduceSub, Int.reduceMul, Int.reduceNe, or_true, true_or, or_false, false_or, or_self, and_true, true_and, and_false, false_and, and_self, not_true_eq_false, not_false_eq_true, ne_eq, Bool.false_eq_true, Bool.true_eq_false, decide_true, decide_false] at hb2
          simp (disch := omega) only [Nat.reduceAdd, reduceIte, Int.reduceEq, Int.reduceLT, Int.reduceLE, Int.reduceNeg, Int.reduceAdd, Int.reduceSub, Int.reduceMul, Int.reduceNe, or_true, true_or, or_false, false_or, or_self, and_true, true_and, and_false, false_and, and_self, not_true_eq_false, not_false_eq_true, ne_eq, Bool.false_eq_true, Bool.true_eq_false, decide_true, decide_false, e1, e1', e2, ob, w32_id, LGd hg, d2]
        · by_cases e3 : f = 1 - D 3 (L k)
          · have e2' : ¬ 1 - D 3 (L k) = 2 := by omega
            simp only [e1', e3, Nat.reduceAdd, reduceIte, Int.reduceEq, Int.reduceLT, Int.reduceLE, Int.reduceNeg, Int.reduceAdd, Int.reduceSub, Int.reduceMul, Int.reduceNe, or_true, true_or, or_false, false_or, or_self, and_true, true_and, and_false, false_and, and_self, not_true_eq_false, not_false_eq_true, ne_eq, Bool.false_eq_true, Bool.true_eq_false, decide_true, decide_false] at hb2
            simp (disch := omega) only [Nat.reduceAdd, reduceIte, Int.reduceEq, Int.reduceLT, Int.reduceLE, Int.reduceNeg, Int.reduceAdd, Int.reduceSub, Int.reduceMul, Int.reduceNe, or_true, true_or, or_false, false_or, or_self, and_true, true_and, and_false, false_and, and_self, not_true_eq_false, not_false_eq_true, ne_eq, Bool.false_eq_true, Bool.true_eq_false, decide_true, decide_false, e1, e1', e2', e3, ob, w32_id, LGd hg, d2]
          · simp (disch := omega) only [Nat.reduceAdd, reduceIte, Int.reduceEq, Int.reduceLT, Int.reduceLE, Int.reduceNeg, Int.reduceAdd, Int.reduceSub, Int.reduceMul, Int.reduceNe, or_true, true_or, or_false, false_or, or_self, and_true, true_and, and_false, false_and, and_self, not_true_eq_false, not_false_eq_true, ne_eq, Bool.false_eq_true, Bool.true_eq_false, decide_true, decide_false, e1, e1', e2, e3, ob, w32_id, Int.add_zero]
  · exact ⟨Int.le_refl _, by dsimp only; omega, rfl, rfl⟩
set_option maxHeartbeats 4000000 in
set_option maxRecDepth 20000 in
theorem s_X7_fp_b2 {g : Nat} {M D : Mem} {L : Int → Int} {c f : Int} (hg : g = 62 ∨ g = 88) (hD : DW D) (hC : CV g M D) (hL : CL g M L c) (hO : OrdV D L c) (f0 : 0 ≤ f) (f1 : f ≤ 2) (hz : M (g + 18) f = 0) :
    ∃ r, lp (fX7_findPressures_b2 g f) (0, M) = some r ∧ (∀ b, b ≠ g + 17 → b ≠ g + 18 → r b = M b) ∧ (∀ i, i < 64 * f ∨ 64 * f + 64 ≤ i → r (g + 17) i = M (g + 17) i) ∧ (∀ k, k ≠ f → r (g + 18) k = M (g + 18) k) ∧ (∀ p, 0 ≤ p → p < c → r (g + 17) (64 * f + p) = prs D L (M (g + 16)) p f) ∧ r (g + 18) f = top D L (M (g + 16)) c f := by
  have hg2 : 62 ≤ g := by omega
  have n1 := hD.2.1
  have pb := pc_bd (D 0 1)
  have hc := hO.1
  refine lp_ind (fun s : Int × Mem => 0 ≤ s.1 ∧ s.1 ≤ c ∧ (∀ b, b ≠ g + 17 → b ≠ g + 18 → s.2 b = M b) ∧ (∀ i, i < 64 * f ∨ 64 * f + 64 ≤ i → s.2 (g + 17) i = M (g + 17) i) ∧ (∀ k, k ≠ f → s.2 (g + 18) k = M (g + 18) k) ∧ (∀ p, 0 ≤ p → p < s.1 → s.2 (g + 17) (64 * f + p) = prs D L (M (g + 16)) p f) ∧ s.2 (g + 18) f = mx (fun p => prs D L (M (g + 16)) p f) s.1.toNat)
    (fun r : Mem => (∀ b, b ≠ g + 17 → b ≠ g + 18 → r b = M b) ∧ (∀ i, i < 64 * f ∨ 64 * f + 64 ≤ i → r (g + 17) i = M (g + 17) i) ∧ (∀ k, k ≠ f → r (g + 18) k = M (g + 18) k) ∧ (∀ p, 0 ≤ p → p < c → r (g + 17) (64 * f + p) = prs D L (M (g + 16)) p f) ∧ r (g + 18) f = top D L (M (g + 16)) c f) (fun s => (c - s.1).toNat) ?_ _ ?_
  · rintro ⟨t, m⟩ ⟨t0, t1, hfr, h17, h18, hp, ht⟩
    dsimp only at t0 t1 hfr h17 h18 hp ht
    unfold fX7_findPressures_b2
    have h13 : m (g + 13) 4 = c := by rw [hfr _ (by omega) (by omega)]; exact hL.1
    simp only [h13]
    by_cases htc : c ≤ t
    · have : t = c := by omega
      subst this
      rw [if_pos htc]
      exact Or.inr ⟨m, rfl, hfr, h17, h18, hp, ht⟩
    · rw [if_neg htc]
      have hm : CV g m D := CV_fr hg hC (fun b hb => hfr b (by omega) (by omega))
      have hl : CL g m L c := ⟨h13, fun p a b => by rw [hfr _ (by omega) (by omega)]; exact hL.2 p a b⟩
      have e16 : m (g + 16) = M (g + 16) := hfr _ (by omega) (by omega)
      have hlt : t < c := by omega
      simp (disch := omega) only [s_X7_pressureAt hg hD hm hl hO t0 hlt, ob, w32_id, e16, SGd hg, LGd hg, wr_ne, wr_at, if_true, imax_eq, ht]
      refine Or.inl ⟨_, rfl, ⟨by dsimp only; omega, by dsimp only; omega, fun b b1 b2 => by simp (disch := omega) only [wr_ne, hfr], fun i hi => ?_, fun k hk => ?_, fun p a b => ?_, ?_⟩, by dsimp only; omega⟩
      · simp (disch := omega) only [wr_ne, wr_at, if_neg, h17]
      · simp (disch := omega) only [wr_ne, wr_at, if_neg, h18]
      · dsimp only at b ⊢
        simp (disch := omega) only [wr_ne, wr_at]
        by_cases hpt : p = t
        · rw [hpt, if_pos rfl]
        · rw [if_neg (by omega)]
          exact hp p a (by omega)
      · simp (disch := omega) only [wr_ne, wr_at, if_true]
        rw [mx_s t0]
  · exact ⟨Int.le_refl _, by dsimp only; omega, fun b _ _ => rfl, fun i _ => rfl, fun k _ => rfl, fun p a b => by dsimp only at b; omega, hz⟩
set_option maxHeartbeats 4000000 in
set_option maxRecDepth 20000 in
theorem s_X7_findPressures {g : Nat} {M D : Mem} {L : Int → Int} {c : Int} (hg : g = 62 ∨ g = 88) (hD : DW D) (hC : CV g M D) (hL : CL g M L c) (hO : OrdV D L c) :
    ∃ r, fX7_findPressures g M = some r ∧ (∀ b, b ≠ g + 17 → b ≠ g + 18 → r b = M b) ∧ ∀ f, 0 ≤ f → f ≤ 2 → (∀ p, 0 ≤ p → p < c → r (g + 17) (64 * f + p) = prs D L (M (g + 16)) p f) ∧ r (g + 18) f = top D L (M (g + 16)) c f := by
  have hg2 : 62 ≤ g := by omega
  have pb := pc_bd (D 0 1)
  have hc := hO.1
  unfold fX7_findPressures
  refine lp_bind (fun s : Int × Mem => 0 ≤ s.1 ∧ s.1 ≤ 3 ∧ (∀ b, b ≠ g + 17 → b ≠ g + 18 → s.2 b = M b) ∧ ∀ f, 0 ≤ f → f < s.1 → (∀ p, 0 ≤ p → p < c → s.2 (g + 17) (64 * f + p) = prs D L (M (g + 16)) p f) ∧ s.2 (g + 18) f = top D L (M (g + 16)) c f)
    (fun r : Mem => (∀ b, b ≠ g + 17 → b ≠ g + 18 → r b = M b) ∧ ∀ f, 0 ≤ f → f ≤ 2 → (∀ p, 0 ≤ p → p < c → r (g + 17) (64 * f + p) = prs D L (M (g + 16)) p f) ∧ r (g + 18) f = top D L (M (g + 16)) c f) (fun s => (3 - s.1).toNat) ?_ ?_ (fun r h => ⟨r, rfl, h⟩)
  · rintro ⟨f, m⟩ ⟨f0, f1, hfr, hp⟩
    dsimp only at f0 f1 hfr hp
    unfold fX7_findPressures_b1
    dsimp only
    by_cases hf : 2 < f
    · rw [if_pos hf]
      exact Or.inr ⟨m, rfl, hfr, fun f' a b => hp f' a (by omega)⟩
    · rw [if_neg hf]
      simp (disch := omega) only [SGd hg, ob]
      obtain ⟨r, e, r0, r1, r2, r3, r4⟩ := s_X7_fp_b2 (M := wr m (g + 18) f 0) (f := f) hg hD (CV_fr hg hC (fun b hb => by simp (disch := omega) only [wr_ne, hfr])) ⟨by simp (disch := omega) only [wr_ne, hfr]; exact hL.1, fun p a b => by simp (disch := omega) only [wr_ne, hfr]; exact hL.2 p a b⟩ hO f0 (by omega) (by simp only [wr_at, if_true])
      have e16 : wr m (g + 18) f 0 (g + 16) = M (g + 16) := by simp (disch := omega) only [wr_ne, hfr]
      rw [e16] at r3 r4
      simp (disch := omega) only [e, ob, w32_id]
      refine Or.inl ⟨_, rfl, ⟨by dsimp only; omega, by dsimp only; omega, fun b b1 b2 => by dsimp only; rw [r0 b b1 b2]; simp (disch := omega) only [wr_ne, hfr], fun f' a b => ?_⟩, by dsimp only; omega⟩
      dsimp only at b ⊢
      by_cases hff : f' = f
      · subst hff; exact ⟨r3, r4⟩
      · have h := hp f' a (by omega)
        refine ⟨fun p p0 p1 => ?_, ?_⟩
        · rw [r1 _ (by omega)]
          simp (disch := omega) only [wr_ne]
          exact h.1 p p0 p1
        · rw [r2 f' hff]
          simp (disch := omega) only [wr_at, if_neg]
          exact h.2
  · exact ⟨Int.le_refl _, by dsimp only; omega, fun b _ _ => rfl, fun f a b => by dsimp only at b; omega⟩
/-! the reference's -/
set_option maxHeartbeats 4000000 in
set_option maxRecDepth 20000 in
theorem s_X12_livesAt {M D : Mem} {L : Int → Int} {c p f : Int} (hD : DW D) (hM : MD M D) (hL : ML M L c) (hO : OrdV D L c) (p0 : 0 ≤ p) (p1 : p < c) : fX12_livesAt p f M = some (prs D L (M 164) p f, M) := by
  have n1 := hD.2.1
  have pb := pc_bd (D 0 1)
  have hc := hO.1
  unfold fX12_livesAt
  suffices h : ∃ r, lp (fX12_livesAt_b1 p f) (0, 0, M) = some r ∧ r = (prs D L (M 164) p f, M) by
    obtain ⟨r, e, rfl⟩ := h
    rw [e]; rfl
  refine lp_ind (fun s : Int × Int × Mem => 0 ≤ s.2.1 ∧ s.2.1 ≤ p + 1 ∧ s.2.2 = M ∧ s.1 = sm (prx D L (M 164) p f) s.2.1.toNat) (fun r => r = (prs D L (M 164) p f, M)) (fun s => (p + 1 - s.2.1).toNat) ?_ _ ?_
  · rintro ⟨x, k, m⟩ ⟨k0, k1, hm, hx⟩
    dsimp only at k0 k1 hm hx
    subst hm
    unfold fX12_livesAt_b1
    dsimp only
    by_cases hk : p < k
    · rw [if_pos hk]
      refine Or.inr ⟨_, rfl, ?_⟩
      unfold prs
      rw [hx, show k = p + 1 by omega]
    · rw [if_neg hk]
      have q := hO.2.1 k k0 (by omega)
      have hss := sm_s (f := prx D L (m 164) p f) k0
      have hb1 := prs_part (E := m 164) (p := p) (f := f) hD hO (k := k) k0 (by omega)
      have hb2 := prx_bd (E := m 164) (p := p) (f := f) hD hO k0 (show k < c by omega)
      refine Or.inl ⟨(x + prx D L (m 164) p f k, k + 1, m), ?_, ⟨by dsimp only; omega, by dsimp only; omega, rfl, by dsimp only; rw [hss, hx]⟩, by dsimp only; omega⟩
      have hq1 : k < c := by omega
      simp (disch := omega) only [LD, ob, hL.2 k k0 hq1, s_X12_file hD hM q.1 q.2.1, s_X12_width hD hM q.1 q.2.1]
      unfold prx at hb2 ⊢
      by_cases e1 : m 164 (L k) ≤ p
      · have e1' : ¬ p < m 164 (L k) := by omega
        simp (disch := omega) only [Nat.reduceAdd, reduceIte, Int.reduceEq, Int.reduceLT, Int.reduceLE, Int.reduceNeg, Int.reduceAdd, Int.reduceSub, Int.reduceMul, Int.reduceNe, or_true, true_or, or_false, false_or, or_self, and_true, true_and, and_false, false_and, and_self, not_true_eq_false, not_false_eq_true, ne_eq, Bool.false_eq_true, Bool.true_eq_false, decide_true, decide_false, e1, e1', ob, w32_id, Int.add_zero]
      · have e1' : p < m 164 (L k) := by omega
        by_cases e2 : f = 2
        · simp only [e1', e2, Nat.reduceAdd, reduceIte, Int.reduceEq, Int.reduceLT, Int.reduceLE, Int.reduceNeg, Int.reduceAdd, Int.reduceSub, Int.reduceMul, Int.reduceNe, or_true, true_or, or_false, false_or, or_self, and_true, true_and, and_false, false_and, and_self, not_true_eq_false, not_false_eq_true, ne_eq, Bool.false_eq_true, Bool.true_eq_false, decide_true, decide_false] at hb2
          simp (disch := omega) only [Nat.reduceAdd, reduceIte, Int.reduceEq, Int.reduceLT, Int.reduceLE, Int.reduceNeg, Int.reduceAdd, Int.reduceSub, Int.reduceMul, Int.reduceNe, or_true, true_or, or_false, false_or, or_self, and_true, true_and, and_false, false_and, and_self, not_true_eq_false, not_false_eq_true, ne_eq, Bool.false_eq_true, Bool.true_eq_false, decide_true, decide_false, e1, e1', e2, ob, w32_id]
        · by_cases e3 : f = 1 - D 3 (L k)
          · have e2' : ¬ 1 - D 3 (L k) = 2 := by omega
            simp only [e1', e3, Nat.reduceAdd, reduceIte, Int.reduceEq, Int.reduceLT, Int.reduceLE, Int.reduceNeg, Int.reduceAdd, Int.reduceSub, Int.reduceMul, Int.reduceNe, or_true, true_or, or_false, false_or, or_self, and_true, true_and, and_false, false_and, and_self, not_true_eq_false, not_false_eq_true, ne_eq, Bool.false_eq_true, Bool.true_eq_false, decide_true, decide_false] at hb2
            simp (disch := omega) only [Nat.reduceAdd, reduceIte, Int.reduceEq, Int.reduceLT, Int.reduceLE, Int.reduceNeg, Int.reduceAdd, Int.reduceSub, Int.reduceMul, Int.reduceNe, or_true, true_or, or_false, false_or, or_self, and_true, true_and, and_false, false_and, and_self, not_true_eq_false, not_false_eq_true, ne_eq, Bool.false_eq_true, Bool.true_eq_false, decide_true, decide_false, e1, e1', e2', e3, ob, w32_id]
          · have e3' : ¬ 1 - D 3 (L k) = f := by omega
            simp (disch := omega) only [Nat.reduceAdd, reduceIte, Int.reduceEq, Int.reduceLT, Int.reduceLE, Int.reduceNeg, Int.reduceAdd, Int.reduceSub, Int.reduceMul, Int.reduceNe, or_true, true_or, or_false, false_or, or_self, and_true, true_and, and_false, false_and, and_self, not_true_eq_false, not_false_eq_true, ne_eq, Bool.false_eq_true, Bool.true_eq_false, decide_true, decide_false, e1, e1', e2, e3, e3', ob, w32_id, Int.add_zero]
  · exact ⟨Int.le_refl _, by dsimp only; omega, rfl, rfl⟩
set_option maxHeartbeats 4000000 in
set_option maxRecDepth 20000 in
theorem s_X12_most {M D : Mem} {L : Int → Int} {c f : Int} (hD : DW D) (hM : MD M D) (hL : ML M L c) (hO : OrdV D L c) : fX12_most f M = some (top D L (M 164) c f, M) := by
  have pb := pc_bd (D 0 1)
  have hc := hO.1
  unfold fX12_most
  suffices h : ∃ r, lp (fX12_most_b1 f) (0, 0, M) = some r ∧ r = (top D L (M 164) c f, M) by
    obtain ⟨r, e, rfl⟩ := h
    rw [e]; rfl
  refine lp_ind (fun s : Int × Int × Mem => 0 ≤ s.2.1 ∧ s.2.1 ≤ c ∧ s.2.2 = M ∧ s.1 = mx (fun p => prs D L (M 164) p f) s.2.1.toNat) (fun r => r = (top D L (M 164) c f, M)) (fun s => (c - s.2.1).toNat) ?_ _ ?_
  · rintro ⟨x, t, m⟩ ⟨t0, t1, hm, hx⟩
    dsimp only at t0 t1 hm hx
    subst hm
    unfold fX12_most_b1
    simp only [hL.1]
    by_cases ht : c ≤ t
    · have : t = c := by omega
      rw [if_pos ht]
      exact Or.inr ⟨_, rfl, by rw [hx, this]; rfl⟩
    · rw [if_neg ht]
      have hlt : t < c := by omega
      simp (disch := omega) only [s_X12_livesAt hD hM hL hO t0 hlt, ob, s_X12_greater, w32_id]
      refine Or.inl ⟨_, rfl, ⟨by dsimp only; omega, by dsimp only; omega, rfl, by dsimp only; rw [mx_s t0, hx]⟩, by dsimp only; omega⟩
  · exact ⟨Int.le_refl _, by dsimp only; omega, rfl, rfl⟩
