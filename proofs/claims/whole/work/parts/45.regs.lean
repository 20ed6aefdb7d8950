/-! REGISTERS -/
def Cov (D : Mem) (L E R : Int → Int) (p f x : Int) : Prop := ∃ q, 0 ≤ q ∧ q < p ∧ 1 - D 3 (L q) = f ∧ p < E (L q) ∧ R (L q) ≤ x ∧ x < R (L q) + D 2 (L q)
def RegAt (D : Mem) (L E R : Int → Int) (p : Int) : Prop := 0 ≤ R (L p) ∧ R (L p) + D 2 (L p) ≤ 2 * p + 2 ∧ (D 2 (L p) = 2 → R (L p) % 2 = 0) ∧ (∀ x, R (L p) ≤ x → x < R (L p) + D 2 (L p) → ¬ Cov D L E R p (1 - D 3 (L p)) x) ∧ (∀ h, 0 ≤ h → h < R (L p) → (D 2 (L p) = 2 → h % 2 = 0) → Cov D L E R p (1 - D 3 (L p)) h ∨ Cov D L E R p (1 - D 3 (L p)) (h + D 2 (L p) - 1))
def RegOK (D : Mem) (L : Int → Int) (c : Int) (E R : Int → Int) : Prop := ∀ p, 0 ≤ p → p < c → RegAt D L E R p
theorem Cov_congr {D : Mem} {L L' E E' R R' : Int → Int} {p f x : Int} (hl : ∀ q, 0 ≤ q → q < p → L' q = L q) (he : ∀ q, 0 ≤ q → q < p → E' (L q) = E (L q)) (hr : ∀ q, 0 ≤ q → q < p → R' (L q) = R (L q)) : Cov D L' E' R' p f x ↔ Cov D L E R p f x := by
  unfold Cov
  constructor
  · rintro ⟨q, q0, q1, z⟩
    rw [hl q q0 q1, he q q0 q1, hr q q0 q1] at z
    exact ⟨q, q0, q1, z⟩
  · rintro ⟨q, q0, q1, z⟩
    exact ⟨q, q0, q1, by rw [hl q q0 q1, he q q0 q1, hr q q0 q1]; exact z⟩
theorem RegAt_congr {D : Mem} {L E E' R R' : Int → Int} {p : Int} (he : ∀ q, 0 ≤ q → q < p → E' (L q) = E (L q)) (hr : ∀ q, 0 ≤ q → q ≤ p → R' (L q) = R (L q)) (p0 : 0 ≤ p) (h : RegAt D L E R p) : RegAt D L E' R' p := by
  have hc : ∀ f x, Cov D L E' R' p f x ↔ Cov D L E R p f x := fun f x => Cov_congr (fun _ _ _ => rfl) he (fun q a b => hr q a (by omega))
  unfold RegAt
  rw [hr p p0 (Int.le_refl p)]
  simp only [hc]
  exact h
theorem Reg_uniq {D : Mem} (hD : DW D) {L E E' R R' : Int → Int} {c : Int} (hO : OrdV D L c) (he : ∀ q, 0 ≤ q → q < c → E' (L q) = E (L q)) (h : RegOK D L c E R) (h' : RegOK D L c E' R') : ∀ (k : Nat) (p : Int), p < k → 0 ≤ p → p < c → R' (L p) = R (L p) := by
  intro k
  induction k with
  | zero => intro p a b; omega
  | succ k ih =>
    intro p a b e
    have hc : ∀ f x, Cov D L E' R' p f x ↔ Cov D L E R p f x := fun f x => Cov_congr (fun _ _ _ => rfl) (fun q a b => he q a (by omega)) (fun q a b => ih q (by omega) a (by omega))
    obtain ⟨x1, x2, x3, x4, x5⟩ := h p b e
    obtain ⟨y1, y2, y3, y4, y5⟩ := h' p b e
    simp only [hc] at y4 y5
    have q := hO.2.1 p b e
    have hW := (hD.2.2.2.2.2.2.2.2 (L p) q.1 q.2.1).2.1
    by_cases h1 : R (L p) < R' (L p)
    · rcases y5 (R (L p)) x1 h1 x3 with z | z
      · exact absurd z (x4 _ (Int.le_refl _) (by omega))
      · exact absurd z (x4 _ (by omega) (by omega))
    · by_cases h2 : R' (L p) < R (L p)
      · rcases x5 (R' (L p)) y1 h2 y3 with z | z
        · exact absurd z (y4 _ (Int.le_refl _) (by omega))
        · exact absurd z (y4 _ (by omega) (by omega))
      · omega
/-- two that live together do not share a half -/
theorem Reg_dis {D : Mem} {L E R : Int → Int} {t : Int} (hR : ∀ p, 0 ≤ p → p < t → RegAt D L E R p) {q q' x : Int} (q0 : 0 ≤ q) (q1 : q < q') (q2 : q' < t) (hE : t ≤ E (L q)) (hf : D 3 (L q) = D 3 (L q')) (h1 : R (L q) ≤ x) (h2 : x < R (L q) + D 2 (L q)) (h3 : R (L q') ≤ x) (h4 : x < R (L q') + D 2 (L q')) : False := by
  obtain ⟨-, -, -, z, -⟩ := hR q' (by omega) q2
  exact z x h3 h4 ⟨q, q0, q1, by rw [hf], by omega, h1, h2⟩
/-- the place 2p is free -/
theorem Reg_room {D : Mem} {L E R : Int → Int} {t f x : Int} (hR : ∀ p, 0 ≤ p → p < t → RegAt D L E R p) (hx : 2 * t ≤ x) : ¬ Cov D L E R t f x := by
  rintro ⟨q, q0, q1, -, -, h1, h2⟩
  have := (hR q q0 q1).2.1
  omega
def hi (D : Mem) (L R : Int → Int) (c f : Int) : Int := mx (fun p => if 1 - D 3 (L p) = f then R (L p) + D 2 (L p) else 0) c.toNat
theorem hi_congr {D : Mem} {L L' R R' : Int → Int} {c f : Int} (hl : ∀ k, 0 ≤ k → k < c → L' k = L k) (hr : ∀ k, 0 ≤ k → k < c → R' (L k) = R (L k)) : hi D L' R' c f = hi D L R c f := mx_congr (fun i a b => by rw [hl i a (by omega), hr i a (by omega)])
set_option maxHeartbeats 4000000 in
set_option maxRecDepth 20000 in
theorem s_X7_mark {g : Nat} {M D : Mem} {v x : Int} (hg : g = 62 ∨ g = 88) (hD : DW D) (hC : CV g M D) (h0 : 0 ≤ v) (h1 : v < D 0 0) (r0 : 0 ≤ M (g + 19) v) (r1 : M (g + 19) v + D 2 v ≤ 130) (hx : x = 0 ∨ x = 1) :
    ∃ r, fX7_mark g v x M = some r ∧ (∀ b, b ≠ g + 20 → r b = M b) ∧ ∀ i, r (g + 20) i = if 130 * (1 - D 3 v) + M (g + 19) v ≤ i ∧ i < 130 * (1 - D 3 v) + M (g + 19) v + D 2 v then x else M (g + 20) i := by
  have hg2 : 62 ≤ g := by omega
  have n1 := hD.2.1
  obtain ⟨-, hW, hU, -⟩ := hD.2.2.2.2.2.2.2.2 v h0 h1
  unfold fX7_mark
  refine lp_bind (fun s : Int × Mem => 0 ≤ s.1 ∧ s.1 ≤ D 2 v ∧ (∀ b, b ≠ g + 20 → s.2 b = M b) ∧ ∀ i, s.2 (g + 20) i = if 130 * (1 - D 3 v) + M (g + 19) v ≤ i ∧ i < 130 * (1 - D 3 v) + M (g + 19) v + s.1 then x else M (g + 20) i) (fun r => (∀ b, b ≠ g + 20 → r b = M b) ∧ ∀ i, r (g + 20) i = if 130 * (1 - D 3 v) + M (g + 19) v ≤ i ∧ i < 130 * (1 - D 3 v) + M (g + 19) v + D 2 v then x else M (g + 20) i) (fun s => (D 2 v - s.1).toNat) ?_ ?_ (fun r h => ⟨r, rfl, h⟩)
  · rintro ⟨k, m⟩ ⟨k0, k1, hfr, hb⟩
    dsimp only at k0 k1 hfr hb
    have hm : CV g m D := CV_fr hg hC (fun b hb => hfr b (by omega))
    have e19 : m (g + 19) = M (g + 19) := hfr _ (by omega)
    unfold fX7_mark_b1 fX7_halfOf
    simp (disch := omega) only [LGd hg, ob, (hm.2.2.2 v h0 h1).2.1]
    by_cases hk : D 2 v ≤ k
    · have : k = D 2 v := by omega
      rw [if_pos hk]
      rw [this] at hb
      exact Or.inr ⟨m, rfl, hfr, hb⟩
    · rw [if_neg hk]
      simp (disch := omega) only [s_X7_fileOf hD hm h0 h1, ob, LGd hg, e19, w32_id, SGd hg, nz_ok hx]
      refine Or.inl ⟨_, rfl, ⟨by dsimp only; omega, by dsimp only; omega, fun b b1 => by simp (disch := omega) only [wr_ne, hfr], fun i => ?_⟩, by dsimp only; omega⟩
      simp only [wr_at]
      by_cases hi : i = 130 * (1 - D 3 v) + M (g + 19) v + k
      · rw [if_pos hi, if_pos (by omega)]
      · rw [if_neg hi, hb i]
        congr 1
        apply propext
        omega
  · refine ⟨Int.le_refl _, by dsimp only; omega, fun b _ => rfl, fun i => ?_⟩
    dsimp only
    rw [if_neg (by omega)]
set_option maxHeartbeats 4000000 in
set_option maxRecDepth 20000 in
theorem s_X7_lowestFree {g : Nat} {M : Mem} {B : Int → Prop} {f w t : Int} (hg : g = 62 ∨ g = 88) (hf : f = 0 ∨ f = 1) (hw : w = 1 ∨ w = 2) (t0 : 0 ≤ t) (t1 : t < 64) (hB : ∀ x, 0 ≤ x → x < 130 → (M (g + 20) (130 * f + x) = 0 ∨ M (g + 20) (130 * f + x) = 1) ∧ (M (g + 20) (130 * f + x) = 1 ↔ B x)) (hfree : ∀ x, 2 * t ≤ x → ¬ B x) :
    ∃ h, fX7_lowestFree g f w M = some (h, M) ∧ 0 ≤ h ∧ h + w ≤ 2 * t + 2 ∧ (w = 2 → h % 2 = 0) ∧ (∀ x, h ≤ x → x < h + w → ¬ B x) ∧ (∀ k, 0 ≤ k → k < h → (w = 2 → k % 2 = 0) → B k ∨ B (k + w - 1)) := by
  have key : ∃ r, lp (fX7_lowestFree_b1 M g f w) 0 = some r ∧ ∃ h, r = .inr (h, M) ∧ 0 ≤ h ∧ h + w ≤ 2 * t + 2 ∧ (w = 2 → h % 2 = 0) ∧ (∀ x, h ≤ x → x < h + w → ¬ B x) ∧ (∀ k, 0 ≤ k → k < h → (w = 2 → k % 2 = 0) → B k ∨ B (k + w - 1)) := by
    refine lp_ind (fun s : Int => 0 ≤ s ∧ s ≤ 2 * t ∧ (w = 2 → s % 2 = 0) ∧ (∀ k, 0 ≤ k → k < s → (w = 2 → k % 2 = 0) → B k ∨ B (k + w - 1))) (fun r : Unit ⊕ (Int × Mem) => ∃ h, r = .inr (h, M) ∧ 0 ≤ h ∧ h + w ≤ 2 * t + 2 ∧ (w = 2 → h % 2 = 0) ∧ (∀ x, h ≤ x → x < h + w → ¬ B x) ∧ (∀ k, 0 ≤ k → k < h → (w = 2 → k % 2 = 0) → B k ∨ B (k + w - 1))) (fun s => (2 * t - s).toNat) ?_ _ ?_
    · rintro s ⟨s0, s1, s2, s3⟩
      unfold fX7_lowestFree_b1
      have w1 : w32 (s + w) = s + w := w32_id (by omega) (by omega)
      have w2 : w32 (w32 (130 * f) + s) = 130 * f + s := by rw [w32_id (show -2147483648 ≤ 130 * f by omega) (by omega), w32_id (by omega) (by omega)]
      have w3 : w32 (w32 (130 * f + s + w) - 1) = 130 * f + (s + w - 1) := by rw [w32_id (show -2147483648 ≤ 130 * f + s + w by omega) (by omega), w32_id (by omega) (by omega)]; omega
      have b1 := hB s s0 (by omega)
      have b2 := hB (s + w - 1) (by omega) (by omega)
      simp (disch := omega) only [w1, w2, ob, w3, LGd hg]
      rw [if_neg (by omega)]
      have nx : B s ∨ B (s + w - 1) → (0 ≤ s + w ∧ s + w ≤ 2 * t ∧ (w = 2 → (s + w) % 2 = 0) ∧ (∀ k, 0 ≤ k → k < s + w → (w = 2 → k % 2 = 0) → B k ∨ B (k + w - 1))) := fun hb => by
        have hlt : s < 2 * t := by
          by_cases h : s < 2 * t
          · exact h
          · rcases hb with z | z
            · exact absurd z (hfree _ (by omega))
            · exact absurd z (hfree _ (by omega))
        refine ⟨by omega, by omega, by omega, fun k k0 k1 k2 => ?_⟩
        by_cases hk : k < s
        · exact s3 k k0 hk k2
        · have : k = s := by omega
          rw [this]; exact hb
      by_cases e1 : M (g + 20) (130 * f + s) = 0
      · rw [if_pos e1]
        by_cases e2 : M (g + 20) (130 * f + (s + w - 1)) = 0
        · rw [if_pos e2]
          refine Or.inr ⟨_, rfl, s, rfl, s0, by omega, s2, fun x x0 x1 => ?_, s3⟩
          have n1 : ¬ B s := fun z => by have := b1.2.mpr z; omega
          have n2 : ¬ B (s + w - 1) := fun z => by have := b2.2.mpr z; omega
          by_cases hx : x = s
          · rw [hx]; exact n1
          · rw [show x = s + w - 1 by omega]; exact n2
        · rw [if_neg e2]
          exact Or.inl ⟨s + w, rfl, nx (Or.inr (b2.2.mp (b2.1.resolve_left e2))), by have := nx (Or.inr (b2.2.mp (b2.1.resolve_left e2))); omega⟩
      · rw [if_neg e1]
        exact Or.inl ⟨s + w, rfl, nx (Or.inl (b1.2.mp (b1.1.resolve_left e1))), by have := nx (Or.inl (b1.2.mp (b1.1.resolve_left e1))); omega⟩
    · exact ⟨by omega, by omega, by omega, fun k a b => by omega⟩
  obtain ⟨r, e, h, rfl, z⟩ := key
  refine ⟨h, ?_, z⟩
  unfold fX7_lowestFree
  rw [e]
  rfl
/-- those that hold a half at place t: after it, or at it and from j on -/
def CovF (D : Mem) (L E R : Int → Int) (t j f x : Int) : Prop := ∃ q, 0 ≤ q ∧ q < t ∧ 1 - D 3 (L q) = f ∧ (t < E (L q) ∨ (t = E (L q) ∧ j ≤ q)) ∧ R (L q) ≤ x ∧ x < R (L q) + D 2 (L q)
def BusyOK (B : Int → Int) (P : Int → Int → Prop) : Prop := ∀ f x, (f = 0 ∨ f = 1) → 0 ≤ x → x < 130 → (B (130 * f + x) = 0 ∨ B (130 * f + x) = 1) ∧ (B (130 * f + x) = 1 ↔ P f x)
set_option maxHeartbeats 4000000 in
set_option maxRecDepth 20000 in
theorem s_X7_gr_b3 {g : Nat} {M D : Mem} {L : Int → Int} {c t : Int} (hg : g = 62 ∨ g = 88) (hD : DW D) (hC : CV g M D) (hL : CL g M L c) (hO : OrdV D L c) (t0 : 0 ≤ t) (t1 : t < c) (hR : ∀ p, 0 ≤ p → p < t → RegAt D L (M (g + 16)) (M (g + 19)) p) (hB : BusyOK (M (g + 20)) (CovF D L (M (g + 16)) (M (g + 19)) t 0)) :
    ∃ r, lp (fX7_giveRegisters_b3 g t) (0, M) = some r ∧ (∀ b, b ≠ g + 20 → r b = M b) ∧ BusyOK (r (g + 20)) (Cov D L (M (g + 16)) (M (g + 19)) t) := by
  have hg2 : 62 ≤ g := by omega
  have n1 := hD.2.1
  have pb := pc_bd (D 0 1)
  have hc := hO.1
  refine lp_ind (fun s : Int × Mem => 0 ≤ s.1 ∧ s.1 ≤ t ∧ (∀ b, b ≠ g + 20 → s.2 b = M b) ∧ BusyOK (s.2 (g + 20)) (CovF D L (M (g + 16)) (M (g + 19)) t s.1)) (fun r : Mem => (∀ b, b ≠ g + 20 → r b = M b) ∧ BusyOK (r (g + 20)) (Cov D L (M (g + 16)) (M (g + 19)) t)) (fun s => (t - s.1).toNat) ?_ _ ?_
  · rintro ⟨j, m⟩ ⟨j0, j1, hfr, hb⟩
    dsimp only at j0 j1 hfr hb
    unfold fX7_giveRegisters_b3
    dsimp only
    by_cases hj : t ≤ j
    · rw [if_pos hj]
      refine Or.inr ⟨m, rfl, hfr, fun f x a b e => ⟨(hb f x a b e).1, ?_⟩⟩
      rw [(hb f x a b e).2]
      constructor
      · rintro ⟨q, q0, q1, z1, z2, z3⟩
        exact ⟨q, q0, q1, z1, by omega, z3⟩
      · rintro ⟨q, q0, q1, z1, z2, z3⟩
        exact ⟨q, q0, q1, z1, Or.inl z2, z3⟩
    · rw [if_neg hj]
      have hm : CV g m D := CV_fr hg hC (fun b hb => hfr b (by omega))
      have e14 : m (g + 14) j = L j := by rw [hfr _ (by omega)]; exact hL.2 j j0 (by omega)
      have e16 : m (g + 16) = M (g + 16) := hfr _ (by omega)
      have e19 : m (g + 19) = M (g + 19) := hfr _ (by omega)
      have q := hO.2.1 j j0 (by omega)
      have hWj := (hD.2.2.2.2.2.2.2.2 (L j) q.1 q.2.1).2.1
      have hUj := (hD.2.2.2.2.2.2.2.2 (L j) q.1 q.2.1).2.2.1
      simp (disch := omega) only [LGd hg, ob, e14, e16]
      by_cases he : M (g + 16) (L j) = t
      · rw [if_pos he]
        obtain ⟨a1, a2, a3, a4, a5⟩ := hR j j0 (by omega)
        obtain ⟨r, f, fr, rb⟩ := s_X7_mark (M := m) (v := L j) (x := 0) hg hD hm q.1 q.2.1 (by rw [e19]; exact a1) (by rw [e19]; omega) (Or.inl rfl)
        rw [e19] at rb
        simp (disch := omega) only [f, ob, w32_id]
        refine Or.inl ⟨_, rfl, ⟨by dsimp only; omega, by dsimp only; omega, fun b b1 => by dsimp only; rw [fr b b1, hfr b b1], fun f x a b e => ?_⟩, by dsimp only; omega⟩
        dsimp only
        rw [rb]
        have hbx := hb f x a b e
        by_cases hin : 130 * (1 - D 3 (L j)) + M (g + 19) (L j) ≤ 130 * f + x ∧ 130 * f + x < 130 * (1 - D 3 (L j)) + M (g + 19) (L j) + D 2 (L j)
        · rw [if_pos hin]
          have hff : f = 1 - D 3 (L j) := by omega
          refine ⟨Or.inl rfl, fun z => by omega, ?_⟩
          rintro ⟨q', q0, q1, z1, z2, z3, z4⟩
          exfalso
          have hne : q' ≠ j := fun z => by subst z; omega
          by_cases hlt : q' < j
          · exact Reg_dis (E := M (g + 16)) (R := M (g + 19)) (q := q') (q' := j) (x := x) hR q0 hlt (by omega) (by omega) (by omega) z3 z4 (by omega) (by omega)
          · exact Reg_dis (E := M (g + 16)) (R := M (g + 19)) (q := j) (q' := q') (x := x) hR j0 (by omega) q1 (by omega) (by omega) (by omega) (by omega) z3 z4
        · rw [if_neg hin]
          refine ⟨hbx.1, hbx.2.trans ⟨?_, ?_⟩⟩
          · rintro ⟨q', q0, q1, z1, z2, z3, z4⟩
            have hne : q' ≠ j := fun z => by subst z; omega
            exact ⟨q', q0, q1, z1, by omega, z3, z4⟩
          · rintro ⟨q', q0, q1, z1, z2, z3, z4⟩
            exact ⟨q', q0, q1, z1, by omega, z3, z4⟩
      · rw [if_neg he]
        simp (disch := omega) only [ob, w32_id]
        refine Or.inl ⟨_, rfl, ⟨by dsimp only; omega, by dsimp only; omega, hfr, fun f x a b e => ⟨(hb f x a b e).1, (hb f x a b e).2.trans ⟨?_, ?_⟩⟩⟩, by dsimp only; omega⟩
        · rintro ⟨q', q0, q1, z1, z2, z3, z4⟩
          refine ⟨q', q0, q1, z1, ?_, z3, z4⟩
          rcases z2 with z | ⟨z, z'⟩
          · exact Or.inl z
          · have hne : q' ≠ j := fun y => by subst y; omega
            exact Or.inr ⟨z, by dsimp only; omega⟩
        · rintro ⟨q', q0, q1, z1, z2, z3, z4⟩
          dsimp only at z2
          exact ⟨q', q0, q1, z1, by omega, z3, z4⟩
  · exact ⟨Int.le_refl _, t0, fun b _ => rfl, hB⟩
set_option maxHeartbeats 4000000 in
set_option maxRecDepth 20000 in
theorem s_X7_giveRegisters {g : Nat} {M D : Mem} {L : Int → Int} {c : Int} (hg : g = 62 ∨ g = 88) (hD : DW D) (hC : CV g M D) (hL : CL g M L c) (hO : OrdV D L c) (hE : EndOK D L c (M (g + 16))) :
    ∃ r, fX7_giveRegisters g M = some r ∧ (∀ b, b ≠ g + 19 → b ≠ g + 20 → b ≠ g + 21 → r b = M b) ∧ RegOK D L c (M (g + 16)) (r (g + 19)) ∧ ∀ f, (f = 0 ∨ f = 1) → r (g + 21) f = hi D L (r (g + 19)) c f := by
  have hg2 : 62 ≤ g := by omega
  have n1 := hD.2.1
  have pb := pc_bd (D 0 1)
  have hc := hO.1
  have b1 : ∃ r, lp (fX7_giveRegisters_b1 g) (0, M) = some r ∧ (∀ b, b ≠ g + 20 → r b = M b) ∧ ∀ i, 0 ≤ i → i < 260 → r (g + 20) i = 0 := by
    refine lp_ind (fun s : Int × Mem => 0 ≤ s.1 ∧ s.1 ≤ 260 ∧ (∀ b, b ≠ g + 20 → s.2 b = M b) ∧ ∀ i, 0 ≤ i → i < s.1 → s.2 (g + 20) i = 0) (fun r : Mem => (∀ b, b ≠ g + 20 → r b = M b) ∧ ∀ i, 0 ≤ i → i < 260 → r (g + 20) i = 0) (fun s => (260 - s.1).toNat) ?_ _ ?_
    · rintro ⟨k, m⟩ ⟨k0, k1, hfr, hz⟩
      dsimp only at k0 k1 hfr hz
      unfold fX7_giveRegisters_b1
      dsimp only
      by_cases hk : 260 ≤ k
      · rw [if_pos hk]
        exact Or.inr ⟨m, rfl, hfr, fun i a b => hz i a (by omega)⟩
      · rw [if_neg hk]
        simp (disch := omega) only [SGd hg, ob, w32_id, nz0]
        refine Or.inl ⟨_, rfl, ⟨by dsimp only; omega, by dsimp only; omega, fun b b1 => by simp (disch := omega) only [wr_ne, hfr], fun i a b => ?_⟩, by dsimp only; omega⟩
        dsimp only at b
        simp only [wr_at]
        split
        · rfl
        · exact hz i a (by omega)
    · exact ⟨Int.le_refl _, by dsimp only; omega, fun b _ => rfl, fun i a b => by dsimp only at b; omega⟩
  obtain ⟨m1, f1, fr1, z1⟩ := b1
  unfold fX7_giveRegisters
  simp (disch := omega) only [f1, ob, SGd hg]
  generalize hm2 : wr (wr m1 (g + 21) 0 0) (g + 21) 1 0 = m2
  have fr2 : ∀ b, b ≠ g + 20 → b ≠ g + 21 → m2 b = M b := fun b b1 b2 => by rw [← hm2]; simp (disch := omega) only [wr_ne, fr1]
  have z20 : ∀ i, 0 ≤ i → i < 260 → m2 (g + 20) i = 0 := fun i a b => by rw [← hm2]; simp (disch := omega) only [wr_ne]; exact z1 i a b
  have z21 : ∀ f, (f = 0 ∨ f = 1) → m2 (g + 21) f = 0 := fun f hf => by
    rw [← hm2]
    rcases hf with rfl | rfl <;> simp (disch := omega) only [wr_at, Nat.reduceAdd, reduceIte, Int.reduceEq, Int.reduceLT, Int.reduceLE, Int.reduceNeg, Int.reduceAdd, Int.reduceSub, Int.reduceMul, Int.reduceNe, or_true, true_or, or_false, false_or, or_self, and_true, true_and, and_false, false_and, and_self, not_true_eq_false, not_false_eq_true, ne_eq, Bool.false_eq_true, Bool.true_eq_false, decide_true, decide_false]
  refine lp_bind (fun s : Int × Mem => 0 ≤ s.1 ∧ s.1 ≤ c ∧ (∀ b, b ≠ g + 19 → b ≠ g + 20 → b ≠ g + 21 → s.2 b = M b) ∧ (∀ p, 0 ≤ p → p < s.1 → RegAt D L (M (g + 16)) (s.2 (g + 19)) p) ∧ BusyOK (s.2 (g + 20)) (CovF D L (M (g + 16)) (s.2 (g + 19)) s.1 0) ∧ ∀ f, (f = 0 ∨ f = 1) → s.2 (g + 21) f = hi D L (s.2 (g + 19)) s.1 f)
    (fun r : Mem => (∀ b, b ≠ g + 19 → b ≠ g + 20 → b ≠ g + 21 → r b = M b) ∧ RegOK D L c (M (g + 16)) (r (g + 19)) ∧ ∀ f, (f = 0 ∨ f = 1) → r (g + 21) f = hi D L (r (g + 19)) c f) (fun s => (c - s.1).toNat) ?_ ?_ (fun r h => ⟨r, rfl, h⟩)
  · rintro ⟨t, m⟩ ⟨t0, t1, hfr, hR, hB, hH⟩
    dsimp only at t0 t1 hfr hR hB hH
    unfold fX7_giveRegisters_b2
    have h13 : m (g + 13) 4 = c := by rw [hfr _ (by omega) (by omega) (by omega)]; exact hL.1
    simp only [h13]
    by_cases htc : c ≤ t
    · have : t = c := by omega
      subst this
      rw [if_pos htc]
      exact Or.inr ⟨m, rfl, hfr, hR, hH⟩
    · rw [if_neg htc]
      have hlt : t < c := by omega
      have hm : CV g m D := CV_fr hg hC (fun b hb => hfr b (by omega) (by omega) (by omega))
      have hl : CL g m L c := ⟨h13, fun p a b => by rw [hfr _ (by omega) (by omega) (by omega)]; exact hL.2 p a b⟩
      have e16 : m (g + 16) = M (g + 16) := hfr _ (by omega) (by omega) (by omega)
      obtain ⟨r, f, fr, rB⟩ := s_X7_gr_b3 (M := m) (t := t) hg hD hm hl hO t0 hlt (by rw [e16]; exact hR) (by rw [e16]; exact hB)
      rw [e16] at rB
      have q := hO.2.1 t t0 hlt
      obtain ⟨-, hW, hU, -⟩ := hD.2.2.2.2.2.2.2.2 (L t) q.1 q.2.1
      have hr : CV g r D := CV_fr hg hm (fun b hb => fr b (by omega))
      have e14 : r (g + 14) t = L t := by rw [fr _ (by omega)]; exact hl.2 t t0 hlt
      obtain ⟨h, fh, h0, h1, h2, h3, h4⟩ := s_X7_lowestFree (M := r) (B := Cov D L (M (g + 16)) (m (g + 19)) t (1 - D 3 (L t))) (f := 1 - D 3 (L t)) (w := D 2 (L t)) (t := t) hg (by omega) hW t0 (by omega) (fun x a b => rB _ x (by omega) a b) (fun x hx => Reg_room hR hx)
      simp only [f, ob]
      simp (disch := omega) only [LGd hg, ob, e14, s_X7_fileOf hD hr q.1 q.2.1, (hr.2.2.2 (L t) q.1 q.2.1).2.1, fh, SGd hg]
      generalize hr1 : wr r (g + 19) (L t) h = r1
      have r1ne : ∀ b, b ≠ g + 19 → r1 b = r b := fun b hb => by rw [← hr1]; simp (disch := omega) only [wr_ne]
      have r119 : ∀ w, r1 (g + 19) w = if w = L t then h else m (g + 19) w := fun w => by rw [← hr1]; simp only [wr_at]; rw [fr _ (by omega)]
      obtain ⟨k, fk, kfr, kb⟩ := s_X7_mark (M := r1) (v := L t) (x := 1) hg hD (CV_fr hg hr (fun b hb => r1ne b (by omega))) q.1 q.2.1 (by rw [r119, if_pos rfl]; exact h0) (by rw [r119, if_pos rfl]; omega) (Or.inr rfl)
      rw [r119, if_pos rfl, r1ne _ (by omega)] at kb
      have k19 : k (g + 19) = r1 (g + 19) := kfr _ (by omega)
      have k21 : k (g + 21) = m (g + 21) := by rw [kfr _ (by omega), r1ne _ (by omega), fr _ (by omega)]
      have k3 : k (g + 3) (L t) = D 2 (L t) := by rw [kfr _ (by omega), r1ne _ (by omega)]; exact (hr.2.2.2 (L t) q.1 q.2.1).2.1
      simp only [fk, ob]
      simp (disch := omega) only [LGd hg, ob, k19, r119, k21, k3, if_true, imax_eq, SGd hg, w32_id]
      -- what is at t now
      have hRq : ∀ q', 0 ≤ q' → q' < t → r1 (g + 19) (L q') = m (g + 19) (L q') := fun q' a b => by
        rw [r119, if_neg (fun z => by have := L_inj hO a (by omega) t0 hlt z; omega)]
      have hcv : ∀ f x, Cov D L (M (g + 16)) (r1 (g + 19)) t f x ↔ Cov D L (M (g + 16)) (m (g + 19)) t f x := fun f x => Cov_congr (fun _ _ _ => rfl) (fun _ _ _ => rfl) hRq
      have hRt : RegAt D L (M (g + 16)) (r1 (g + 19)) t := by
        unfold RegAt
        simp only [hcv]
        rw [r119, if_pos rfl]
        exact ⟨h0, h1, h2, h3, h4⟩
      have hRall : ∀ p, 0 ≤ p → p < t + 1 → RegAt D L (M (g + 16)) (r1 (g + 19)) p := fun p a b => by
        by_cases hp : p = t
        · rw [hp]; exact hRt
        · exact RegAt_congr (fun _ _ _ => rfl) (fun q' a' b' => hRq q' a' (by omega)) a (hR p a (by omega))
      have hEt := End_bd hD hO hE t0 hlt
      refine Or.inl ⟨_, rfl, ⟨by dsimp only; omega, by dsimp only; omega, fun b b1 b2 b3 => ?_, fun p a b => ?_, fun f x a b e => ?_, fun f hf => ?_⟩, by dsimp only; omega⟩
      · simp (disch := omega) only [wr_ne]
        rw [kfr b b2, r1ne b b1, fr b b2, hfr b b1 b2 b3]
      · simp (disch := omega) only [wr_ne]
        rw [k19]
        exact hRall p a b
      · simp (disch := omega) only [wr_ne]
        rw [k19, kb]
        have hbx := rB f x a b e
        by_cases hin : 130 * (1 - D 3 (L t)) + h ≤ 130 * f + x ∧ 130 * f + x < 130 * (1 - D 3 (L t)) + h + D 2 (L t)
        · rw [if_pos hin]
          refine ⟨Or.inr rfl, fun _ => ⟨t, t0, by omega, by omega, by omega, ?_, ?_⟩, fun _ => rfl⟩
          · rw [r119, if_pos rfl]; omega
          · rw [r119, if_pos rfl]; omega
        · rw [if_neg hin]
          refine ⟨hbx.1, hbx.2.trans ⟨?_, ?_⟩⟩
          · rintro ⟨q', q0, q1, z1, z2, z3, z4⟩
            rw [← hRq q' q0 q1] at z3 z4
            exact ⟨q', q0, by omega, z1, by omega, z3, z4⟩
          · rintro ⟨q', q0, q1, z1, z2, z3, z4⟩
            have hne : q' ≠ t := fun z => by
              subst z
              rw [r119, if_pos rfl] at z3 z4
              omega
            rw [hRq q' q0 (by omega)] at z3 z4
            exact ⟨q', q0, by omega, z1, by omega, z3, z4⟩
      · simp (disch := omega) only [wr_ne, wr_at]
        rw [k19]
        have hst : hi D L (r1 (g + 19)) (t + 1) f = max (hi D L (m (g + 19)) t f) (if 1 - D 3 (L t) = f then h + D 2 (L t) else 0) := by
          unfold hi
          rw [mx_s t0, r119, if_pos rfl]
          congr 1
          exact hi_congr (fun _ _ _ => rfl) hRq
        rw [hst]
        have hbd := mx_bd (f := fun p => if 1 - D 3 (L p) = f then m (g + 19) (L p) + D 2 (L p) else 0) (c := 128) (k := t.toNat) (by omega) (fun i a b => by
          have := (hR i a (by omega)).2.1
          split <;> omega)
        have hH' := hH f hf
        unfold hi at hH' ⊢
        by_cases hff : f = 1 - D 3 (L t)
        · subst hff
          rw [if_pos rfl, if_pos rfl, hH']
        · rw [if_neg hff, if_neg (fun z => hff z.symm), k21, hH']
          omega
  · refine ⟨Int.le_refl _, by dsimp only; omega, fun b b1 b2 b3 => fr2 b b2 b3, fun p a b => by dsimp only at b; omega, fun f x a b e => ?_, fun f hf => z21 f hf⟩
    dsimp only
    rw [z20 _ (by omega) (by omega)]
    exact ⟨Or.inl rfl, fun z => by omega, fun ⟨q, q0, q1, _⟩ => by omega⟩
