/-! THE REFERENCE'S REGISTERS -/
def HvOK (D : Mem) (L E R : Int → Int) (t : Int) (B : Int → Int) : Prop := ∀ f x s, (f = 0 ∨ f = 1) → 0 ≤ x → x < 128 → t ≤ s → (s < B (128 * f + x) ↔ ∃ q, 0 ≤ q ∧ q < t ∧ 1 - D 3 (L q) = f ∧ s < E (L q) ∧ R (L q) ≤ x ∧ x < R (L q) + D 2 (L q))
theorem s_X12_isFree {M : Mem} {f x t : Int} (hf : f = 0 ∨ f = 1) (x0 : 0 ≤ x) (x1 : x < 128) : fX12_isFree f x t M = some (if t < M 168 (128 * f + x) then 0 else 1, M) := by
  unfold fX12_isFree
  simp (disch := omega) only [w32_id, LD, ob]
  by_cases h : t < M 168 (128 * f + x)
  · simp only [Nat.reduceAdd, reduceIte, Int.reduceEq, Int.reduceLT, Int.reduceLE, Int.reduceNeg, Int.reduceAdd, Int.reduceSub, Int.reduceMul, Int.reduceNe, or_true, true_or, or_false, false_or, or_self, and_true, true_and, and_false, false_and, and_self, not_true_eq_false, not_false_eq_true, ne_eq, Bool.false_eq_true, Bool.true_eq_false, decide_true, decide_false, h, ob, rz0]
  · simp only [Nat.reduceAdd, reduceIte, Int.reduceEq, Int.reduceLT, Int.reduceLE, Int.reduceNeg, Int.reduceAdd, Int.reduceSub, Int.reduceMul, Int.reduceNe, or_true, true_or, or_false, false_or, or_self, and_true, true_and, and_false, false_and, and_self, not_true_eq_false, not_false_eq_true, ne_eq, Bool.false_eq_true, Bool.true_eq_false, decide_true, decide_false, h, ob, rz1]
set_option maxHeartbeats 4000000 in
set_option maxRecDepth 20000 in
theorem s_X12_rg_b3 {M : Mem} {B : Int → Prop} {f w t : Int} (hf : f = 0 ∨ f = 1) (hw : w = 1 ∨ w = 2) (t0 : 0 ≤ t) (t1 : t < 64) (hB : ∀ x, 0 ≤ x → x < 128 → (t < M 168 (128 * f + x) ↔ B x)) (hfree : ∀ x, 2 * t ≤ x → ¬ B x) :
    ∃ h, lp (fX12_registers_b3 f w t) (0, M) = some (h, M) ∧ 0 ≤ h ∧ h + w ≤ 2 * t + 2 ∧ (w = 2 → h % 2 = 0) ∧ (∀ x, h ≤ x → x < h + w → ¬ B x) ∧ (∀ k, 0 ≤ k → k < h → (w = 2 → k % 2 = 0) → B k ∨ B (k + w - 1)) := by
  have key : ∃ r, lp (fX12_registers_b3 f w t) (0, M) = some r ∧ ∃ h, r = (h, M) ∧ 0 ≤ h ∧ h + w ≤ 2 * t + 2 ∧ (w = 2 → h % 2 = 0) ∧ (∀ x, h ≤ x → x < h + w → ¬ B x) ∧ (∀ k, 0 ≤ k → k < h → (w = 2 → k % 2 = 0) → B k ∨ B (k + w - 1)) := by
    refine lp_ind (fun s : Int × Mem => 0 ≤ s.1 ∧ s.1 ≤ 2 * t ∧ (w = 2 → s.1 % 2 = 0) ∧ s.2 = M ∧ (∀ k, 0 ≤ k → k < s.1 → (w = 2 → k % 2 = 0) → B k ∨ B (k + w - 1))) (fun r => ∃ h, r = (h, M) ∧ 0 ≤ h ∧ h + w ≤ 2 * t + 2 ∧ (w = 2 → h % 2 = 0) ∧ (∀ x, h ≤ x → x < h + w → ¬ B x) ∧ (∀ k, 0 ≤ k → k < h → (w = 2 → k % 2 = 0) → B k ∨ B (k + w - 1))) (fun s => (2 * t - s.1).toNat) ?_ _ ?_
    · rintro ⟨s, m⟩ ⟨s0, s1, s2, hm, s3⟩
      dsimp only at s0 s1 s2 hm s3
      subst hm
      have hbody : fX12_registers_b3 f w t (s, m) = if t < m 168 (128 * f + s) then some (.inl (s + w, m)) else if w = 2 ∧ t < m 168 (128 * f + (s + 1)) then some (.inl (s + w, m)) else some (.inr (s, m)) := by
        unfold fX12_registers_b3
        simp (disch := omega) only [s_X12_isFree hf, ob, w32_id]
        by_cases e1 : t < m 168 (128 * f + s)
        · simp only [Nat.reduceAdd, reduceIte, Int.reduceEq, Int.reduceLT, Int.reduceLE, Int.reduceNeg, Int.reduceAdd, Int.reduceSub, Int.reduceMul, Int.reduceNe, or_true, true_or, or_false, false_or, or_self, and_true, true_and, and_false, false_and, and_self, not_true_eq_false, not_false_eq_true, ne_eq, Bool.false_eq_true, Bool.true_eq_false, decide_true, decide_false, e1]
        · by_cases e2 : w = 2
          · by_cases e3 : t < m 168 (128 * f + (s + 1))
            · simp only [Nat.reduceAdd, reduceIte, Int.reduceEq, Int.reduceLT, Int.reduceLE, Int.reduceNeg, Int.reduceAdd, Int.reduceSub, Int.reduceMul, Int.reduceNe, or_true, true_or, or_false, false_or, or_self, and_true, true_and, and_false, false_and, and_self, not_true_eq_false, not_false_eq_true, ne_eq, Bool.false_eq_true, Bool.true_eq_false, decide_true, decide_false, e1, e2, e3]
            · simp only [Nat.reduceAdd, reduceIte, Int.reduceEq, Int.reduceLT, Int.reduceLE, Int.reduceNeg, Int.reduceAdd, Int.reduceSub, Int.reduceMul, Int.reduceNe, or_true, true_or, or_false, false_or, or_self, and_true, true_and, and_false, false_and, and_self, not_true_eq_false, not_false_eq_true, ne_eq, Bool.false_eq_true, Bool.true_eq_false, decide_true, decide_false, e1, e2, e3]
          · simp only [Nat.reduceAdd, reduceIte, Int.reduceEq, Int.reduceLT, Int.reduceLE, Int.reduceNeg, Int.reduceAdd, Int.reduceSub, Int.reduceMul, Int.reduceNe, or_true, true_or, or_false, false_or, or_self, and_true, true_and, and_false, false_and, and_self, not_true_eq_false, not_false_eq_true, ne_eq, Bool.false_eq_true, Bool.true_eq_false, decide_true, decide_false, e1, e2]
      rw [hbody]
      have nx : B s ∨ B (s + w - 1) → (0 ≤ s + w ∧ s + w ≤ 2 * t ∧ (w = 2 → (s + w) % 2 = 0) ∧ m = m ∧ (∀ k, 0 ≤ k → k < s + w → (w = 2 → k % 2 = 0) → B k ∨ B (k + w - 1))) := fun hb => by
        have hlt : s < 2 * t := by
          by_cases h : s < 2 * t
          · exact h
          · rcases hb with z | z
            · exact absurd z (hfree _ (by omega))
            · exact absurd z (hfree _ (by omega))
        refine ⟨by omega, by omega, by omega, rfl, fun k k0 k1 k2 => ?_⟩
        by_cases hk : k < s
        · exact s3 k k0 hk k2
        · have : k = s := by omega
          rw [this]; exact hb
      have b1 := hB s s0 (by omega)
      have b2 := hB (s + 1) (by omega) (by omega)
      by_cases e1 : t < m 168 (128 * f + s)
      · rw [if_pos e1]
        exact Or.inl ⟨(s + w, m), rfl, nx (Or.inl (b1.mp e1)), by have := nx (Or.inl (b1.mp e1)); dsimp only; omega⟩
      · have n1 : ¬ B s := fun z => e1 (b1.mpr z)
        rw [if_neg e1]
        by_cases e2 : w = 2 ∧ t < m 168 (128 * f + (s + 1))
        · rw [if_pos e2]
          have hb : B s ∨ B (s + w - 1) := Or.inr (by rw [show s + w - 1 = s + 1 by omega]; exact b2.mp e2.2)
          exact Or.inl ⟨(s + w, m), rfl, nx hb, by have := nx hb; dsimp only; omega⟩
        · rw [if_neg e2]
          refine Or.inr ⟨(s, m), rfl, s, rfl, s0, by omega, s2, fun x x0 x1 => ?_, s3⟩
          by_cases hx : x = s
          · rw [hx]; exact n1
          · rw [show x = s + 1 by omega]
            exact fun z => e2 ⟨by omega, b2.mpr z⟩
    · exact ⟨Int.le_refl _, by dsimp only; omega, by dsimp only; omega, rfl, fun k a b => by dsimp only at b; omega⟩
  obtain ⟨r, e, h, rfl, z⟩ := key
  exact ⟨h, e, z⟩
set_option maxHeartbeats 4000000 in
set_option maxRecDepth 20000 in
theorem s_X12_rg_b4 {M : Mem} {h f w v : Int} (hf : f = 0 ∨ f = 1) (hw : w = 1 ∨ w = 2) (h0 : 0 ≤ h) (h1 : h + w ≤ 128) (v0 : 0 ≤ v) (v1 : v < 64) :
    ∃ r, lp (fX12_registers_b4 h f w v) (0, M) = some r ∧ (∀ b, b ≠ 168 → r b = M b) ∧ ∀ i, r 168 i = if 128 * f + h ≤ i ∧ i < 128 * f + h + w then M 164 v else M 168 i := by
  refine lp_ind (fun s : Int × Mem => 0 ≤ s.1 ∧ s.1 ≤ w ∧ (∀ b, b ≠ 168 → s.2 b = M b) ∧ ∀ i, s.2 168 i = if 128 * f + h ≤ i ∧ i < 128 * f + h + s.1 then M 164 v else M 168 i) (fun r : Mem => (∀ b, b ≠ 168 → r b = M b) ∧ ∀ i, r 168 i = if 128 * f + h ≤ i ∧ i < 128 * f + h + w then M 164 v else M 168 i) (fun s => (w - s.1).toNat) ?_ _ ?_
  · rintro ⟨k, m⟩ ⟨k0, k1, hfr, hb⟩
    dsimp only at k0 k1 hfr hb
    unfold fX12_registers_b4
    dsimp only
    by_cases hk : w ≤ k
    · have : k = w := by omega
      rw [if_pos hk]
      rw [this] at hb
      exact Or.inr ⟨m, rfl, hfr, hb⟩
    · rw [if_neg hk]
      have e164 : m 164 = M 164 := hfr _ (by omega)
      simp (disch := omega) only [LD, ob, w32_id, ST, e164]
      refine Or.inl ⟨_, rfl, ⟨by dsimp only; omega, by dsimp only; omega, fun b b1 => by simp (disch := omega) only [wr_ne, hfr], fun i => ?_⟩, by dsimp only; omega⟩
      simp only [wr_at]
      by_cases hi : i = 128 * f + h + k
      · rw [if_pos hi, if_pos (by omega)]
      · rw [if_neg hi, hb i]
        congr 1
        apply propext
        omega
  · refine ⟨Int.le_refl _, by dsimp only; omega, fun b _ => rfl, fun i => ?_⟩
    dsimp only
    rw [if_neg (by omega)]
set_option maxHeartbeats 4000000 in
set_option maxRecDepth 20000 in
theorem s_X12_registers {M D : Mem} {L : Int → Int} {c : Int} (hD : DW D) (hM : MD M D) (hL : ML M L c) (hO : OrdV D L c) (hE : EndOK D L c (M 164)) :
    ∃ r, fX12_registers M = some r ∧ (∀ b, b ≠ 165 → b ≠ 167 → b ≠ 168 → r b = M b) ∧ RegOK D L c (M 164) (r 165) ∧ ∀ f, (f = 0 ∨ f = 1) → r 167 f = hi D L (r 165) c f := by
  have n1 := hD.2.1
  have pb := pc_bd (D 0 1)
  have hc := hO.1
  have b1 : ∃ r, lp fX12_registers_b1 (0, M) = some r ∧ (∀ b, b ≠ 168 → r b = M b) ∧ ∀ i, 0 ≤ i → i < 256 → r 168 i = 0 := by
    refine lp_ind (fun s : Int × Mem => 0 ≤ s.1 ∧ s.1 ≤ 256 ∧ (∀ b, b ≠ 168 → s.2 b = M b) ∧ ∀ i, 0 ≤ i → i < s.1 → s.2 168 i = 0) (fun r : Mem => (∀ b, b ≠ 168 → r b = M b) ∧ ∀ i, 0 ≤ i → i < 256 → r 168 i = 0) (fun s => (256 - s.1).toNat) ?_ _ ?_
    · rintro ⟨k, m⟩ ⟨k0, k1, hfr, hz⟩
      dsimp only at k0 k1 hfr hz
      unfold fX12_registers_b1
      dsimp only
      by_cases hk : 256 ≤ k
      · rw [if_pos hk]
        exact Or.inr ⟨m, rfl, hfr, fun i a b => hz i a (by omega)⟩
      · rw [if_neg hk]
        simp (disch := omega) only [ST, ob, w32_id]
        refine Or.inl ⟨_, rfl, ⟨by dsimp only; omega, by dsimp only; omega, fun b b1 => by simp (disch := omega) only [wr_ne, hfr], fun i a b => ?_⟩, by dsimp only; omega⟩
        dsimp only at b
        simp only [wr_at]
        split
        · rfl
        · exact hz i a (by omega)
    · exact ⟨Int.le_refl _, by dsimp only; omega, fun b _ => rfl, fun i a b => by dsimp only at b; omega⟩
  obtain ⟨m1, f1, fr1, z1⟩ := b1
  unfold fX12_registers
  simp (disch := omega) only [f1, ob, ST]
  generalize hm2 : wr (wr m1 167 0 0) 167 1 0 = m2
  have fr2 : ∀ b, b ≠ 167 → b ≠ 168 → m2 b = M b := fun b b1 b2 => by rw [← hm2]; simp (disch := omega) only [wr_ne, fr1]
  have z20 : ∀ i, 0 ≤ i → i < 256 → m2 168 i = 0 := fun i a b => by rw [← hm2]; simp (disch := omega) only [wr_ne]; exact z1 i a b
  have z21 : ∀ f, (f = 0 ∨ f = 1) → m2 167 f = 0 := fun f hf => by
    rw [← hm2]
    rcases hf with rfl | rfl <;> simp (disch := omega) only [wr_at, Nat.reduceAdd, reduceIte, Int.reduceEq, Int.reduceLT, Int.reduceLE, Int.reduceNeg, Int.reduceAdd, Int.reduceSub, Int.reduceMul, Int.reduceNe, or_true, true_or, or_false, false_or, or_self, and_true, true_and, and_false, false_and, and_self, not_true_eq_false, not_false_eq_true, ne_eq, Bool.false_eq_true, Bool.true_eq_false, decide_true, decide_false]
  refine lp_bind (fun s : Int × Mem => 0 ≤ s.1 ∧ s.1 ≤ c ∧ (∀ b, b ≠ 165 → b ≠ 167 → b ≠ 168 → s.2 b = M b) ∧ (∀ p, 0 ≤ p → p < s.1 → RegAt D L (M 164) (s.2 165) p) ∧ HvOK D L (M 164) (s.2 165) s.1 (s.2 168) ∧ ∀ f, (f = 0 ∨ f = 1) → s.2 167 f = hi D L (s.2 165) s.1 f)
    (fun r : Mem => (∀ b, b ≠ 165 → b ≠ 167 → b ≠ 168 → r b = M b) ∧ RegOK D L c (M 164) (r 165) ∧ ∀ f, (f = 0 ∨ f = 1) → r 167 f = hi D L (r 165) c f) (fun s => (c - s.1).toNat) ?_ ?_ (fun r h => ⟨r, rfl, h⟩)
  · rintro ⟨t, m⟩ ⟨t0, t1, hfr, hR, hB, hH⟩
    dsimp only at t0 t1 hfr hR hB hH
    unfold fX12_registers_b2
    have h41 : m 132 41 = c := by rw [hfr _ (by omega) (by omega) (by omega)]; exact hL.1
    simp only [h41]
    by_cases htc : c ≤ t
    · have : t = c := by omega
      subst this
      rw [if_pos htc]
      exact Or.inr ⟨m, rfl, hfr, hR, hH⟩
    · rw [if_neg htc]
      have hlt : t < c := by omega
      have hm : MD m D := MD_fr hM ⟨fun b b1 b2 => hfr b (by omega) (by omega) (by omega), fun k _ _ _ => by rw [hfr _ (by omega) (by omega) (by omega)]⟩
      have e162 : m 162 t = L t := by rw [hfr _ (by omega) (by omega) (by omega)]; exact hL.2 t t0 hlt
      have e164 : m 164 = M 164 := hfr _ (by omega) (by omega) (by omega)
      have q := hO.2.1 t t0 hlt
      obtain ⟨-, hW, hU, -⟩ := hD.2.2.2.2.2.2.2.2 (L t) q.1 q.2.1
      have hcov : ∀ x, 0 ≤ x → x < 128 → (t < m 168 (128 * (1 - D 3 (L t)) + x) ↔ Cov D L (M 164) (m 165) t (1 - D 3 (L t)) x) := fun x a b => hB _ x t (by omega) a b (Int.le_refl t)
      obtain ⟨h, fh, h0, h1, h2, h3, h4⟩ := s_X12_rg_b3 (M := m) (B := Cov D L (M 164) (m 165) t (1 - D 3 (L t))) (f := 1 - D 3 (L t)) (w := D 2 (L t)) (t := t) (by omega) hW t0 (by omega) hcov (fun x hx => Reg_room hR hx)
      simp (disch := omega) only [LD, ob, e162, s_X12_file hD hm q.1 q.2.1, s_X12_width hD hm q.1 q.2.1, fh, ST]
      generalize hr1 : wr m 165 (L t) h = r1
      have r1ne : ∀ b, b ≠ 165 → r1 b = m b := fun b hb => by rw [← hr1]; simp (disch := omega) only [wr_ne]
      have r119 : ∀ w, r1 165 w = if w = L t then h else m 165 w := fun w => by rw [← hr1]; simp only [wr_at]
      obtain ⟨k, fk, kfr, kb⟩ := s_X12_rg_b4 (M := r1) (h := h) (f := 1 - D 3 (L t)) (w := D 2 (L t)) (v := L t) (by omega) hW h0 (by omega) q.1 (by omega)
      rw [r1ne 164 (by omega), r1ne 168 (by omega), e164] at kb
      have k19 : k 165 = r1 165 := kfr _ (by omega)
      have k21 : k 167 = m 167 := by rw [kfr _ (by omega), r1ne _ (by omega)]
      simp only [fk, ob]
      simp (disch := omega) only [LD, ob, k21, s_X12_greater, ST, w32_id]
      have hRq : ∀ q', 0 ≤ q' → q' < t → r1 165 (L q') = m 165 (L q') := fun q' a b => by
        rw [r119, if_neg (fun z => by have := L_inj hO a (by omega) t0 hlt z; omega)]
      have hcv : ∀ f x, Cov D L (M 164) (r1 165) t f x ↔ Cov D L (M 164) (m 165) t f x := fun f x => Cov_congr (fun _ _ _ => rfl) (fun _ _ _ => rfl) hRq
      have hRt : RegAt D L (M 164) (r1 165) t := by
        unfold RegAt
        simp only [hcv]
        rw [r119, if_pos rfl]
        exact ⟨h0, h1, h2, h3, h4⟩
      have hRall : ∀ p, 0 ≤ p → p < t + 1 → RegAt D L (M 164) (r1 165) p := fun p a b => by
        by_cases hp : p = t
        · rw [hp]; exact hRt
        · exact RegAt_congr (fun _ _ _ => rfl) (fun q' a' b' => hRq q' a' (by omega)) a (hR p a (by omega))
      refine Or.inl ⟨_, rfl, ⟨by dsimp only; omega, by dsimp only; omega, fun b b1 b2 b3 => ?_, fun p a b => ?_, fun f x s a b e hs => ?_, fun f hf => ?_⟩, by dsimp only; omega⟩
      · simp (disch := omega) only [wr_ne]
        rw [kfr b b3, r1ne b b1, hfr b b1 b2 b3]
      · simp (disch := omega) only [wr_ne]
        rw [k19]
        exact hRall p a b
      · simp (disch := omega) only [wr_ne]
        dsimp only at hs
        rw [k19, kb]
        have hbx := hB f x s a b e (by omega)
        by_cases hin : 128 * (1 - D 3 (L t)) + h ≤ 128 * f + x ∧ 128 * f + x < 128 * (1 - D 3 (L t)) + h + D 2 (L t)
        · rw [if_pos hin]
          constructor
          · intro z
            refine ⟨t, t0, by omega, by omega, z, ?_, ?_⟩
            · rw [r119, if_pos rfl]; omega
            · rw [r119, if_pos rfl]; omega
          · rintro ⟨q', q0, q1, z1, z2, z3, z4⟩
            by_cases hq : q' = t
            · rw [hq] at z2; exact z2
            · exfalso
              rw [hRq q' q0 (by omega)] at z3 z4
              exact h3 x (by omega) (by omega) ⟨q', q0, by omega, by omega, by omega, z3, z4⟩
        · rw [if_neg hin, hbx]
          constructor
          · rintro ⟨q', q0, q1, z1, z2, z3, z4⟩
            rw [← hRq q' q0 q1] at z3 z4
            exact ⟨q', q0, by omega, z1, z2, z3, z4⟩
          · rintro ⟨q', q0, q1, z1, z2, z3, z4⟩
            have hne : q' ≠ t := fun z => by
              subst z
              rw [r119, if_pos rfl] at z3 z4
              omega
            rw [hRq q' q0 (by omega)] at z3 z4
            exact ⟨q', q0, by omega, z1, z2, z3, z4⟩
      · simp (disch := omega) only [wr_ne, wr_at]
        rw [k19]
        have hst : hi D L (r1 165) (t + 1) f = max (hi D L (m 165) t f) (if 1 - D 3 (L t) = f then h + D 2 (L t) else 0) := by
          unfold hi
          rw [mx_s t0, r119, if_pos rfl]
          congr 1
          exact hi_congr (fun _ _ _ => rfl) hRq
        rw [hst]
        have hbd := mx_bd (f := fun p => if 1 - D 3 (L p) = f then m 165 (L p) + D 2 (L p) else 0) (c := 128) (k := t.toNat) (by omega) (fun i a b => by
          have := (hR i a (by omega)).2.1
          split <;> omega)
        have hH' := hH f hf
        unfold hi at hH' ⊢
        by_cases hff : f = 1 - D 3 (L t)
        · subst hff
          rw [if_pos rfl, if_pos rfl, hH']
        · rw [if_neg hff, if_neg (fun z => hff z.symm), k21, hH']
          omega
  · refine ⟨Int.le_refl _, by dsimp only; omega, fun b b1 b2 b3 => fr2 b b2 b3, fun p a b => by dsimp only at b; omega, fun f x s a b e hs => ?_, fun f hf => z21 f hf⟩
    dsimp only at hs ⊢
    rw [z20 _ (by omega) (by omega)]
    exact ⟨fun z => by omega, fun ⟨q, q0, q1, _⟩ => by omega⟩
