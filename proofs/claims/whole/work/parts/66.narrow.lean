set_option maxHeartbeats 4000000 in
set_option maxRecDepth 20000 in
theorem s_X0_liesWithin {M : Mem} {p lo hi : Int} (p0 : 0 ≤ p) (p1 : p < 6) : ((∀ l, 0 ≤ l → l < 4 → lo ≤ M 54 (4 * p + l) ∧ M 54 (4 * p + l) ≤ hi) → fX0_liesWithin p lo hi M = some (1, M)) ∧ ((¬ ∀ l, 0 ≤ l → l < 4 → lo ≤ M 54 (4 * p + l) ∧ M 54 (4 * p + l) ≤ hi) → fX0_liesWithin p lo hi M = some (0, M)) := by
  unfold fX0_liesWithin
  constructor
  · intro hall
    have key : ∃ r, lp (fX0_liesWithin_b1 M p lo hi) 0 = some r ∧ r = .inl () := by
      refine lp_ind (fun s : Int => 0 ≤ s ∧ s ≤ 4) (fun r : Unit ⊕ (Int × Mem) => r = .inl ()) (fun s => (4 - s).toNat) ?_ _ ⟨Int.le_refl _, by omega⟩
      rintro s ⟨s0, s1⟩
      unfold fX0_liesWithin_b1
      by_cases e0 : 4 ≤ s
      · rw [if_pos e0]
        exact Or.inr ⟨_, rfl, rfl⟩
      · rw [if_neg e0]
        have := hall s s0 (by omega)
        simp (disch := omega) only [w32_id, LD, ob]
        rw [if_neg (by omega), if_pos this.2]
        exact Or.inl ⟨_, rfl, ⟨by omega, by omega⟩, by omega⟩
    obtain ⟨r, e, rfl⟩ := key
    rw [e]; rfl
  · intro hno
    have hex : ∃ l, 0 ≤ l ∧ l < 4 ∧ ¬ (lo ≤ M 54 (4 * p + l) ∧ M 54 (4 * p + l) ≤ hi) := by
      apply Classical.byContradiction
      intro hn
      apply hno
      intro l l0 l1
      apply Classical.byContradiction
      intro hb
      exact hn ⟨l, l0, l1, hb⟩
    obtain ⟨l, l0, l1, hb⟩ := hex
    have key : ∃ r, lp (fX0_liesWithin_b1 M p lo hi) 0 = some r ∧ r = .inr (0, M) := by
      refine lp_ind (fun s : Int => 0 ≤ s ∧ s ≤ l) (fun r : Unit ⊕ (Int × Mem) => r = .inr (0, M)) (fun s => (l - s).toNat) ?_ _ ⟨Int.le_refl _, l0⟩
      rintro s ⟨s0, s1⟩
      unfold fX0_liesWithin_b1
      rw [if_neg (by omega)]
      simp (disch := omega) only [w32_id, LD, ob]
      by_cases e1 : M 54 (4 * p + s) < lo
      · rw [if_pos e1]
        exact Or.inr ⟨_, rfl, rfl⟩
      · rw [if_neg e1]
        by_cases e2 : M 54 (4 * p + s) ≤ hi
        · rw [if_pos e2]
          have : s ≠ l := fun z => hb (by rw [← z]; omega)
          exact Or.inl ⟨_, rfl, ⟨by omega, by omega⟩, by omega⟩
        · rw [if_neg e2]
          exact Or.inr ⟨_, rfl, rfl⟩
    obtain ⟨r, e, rfl⟩ := key
    rw [e]; rfl
set_option maxHeartbeats 4000000 in
set_option maxRecDepth 20000 in
theorem s_X12_nw_b1 {M : Mem} {p lo hi : Int} (p0 : 0 ≤ p) (p1 : p < 6) : ((∀ l, 0 ≤ l → l < 4 → lo ≤ M 151 (4 * p + l) ∧ M 151 (4 * p + l) ≤ hi) → lp (fX12_narrow_b1 p lo hi) (1, 0, M) = some (1, M)) ∧ ((¬ ∀ l, 0 ≤ l → l < 4 → lo ≤ M 151 (4 * p + l) ∧ M 151 (4 * p + l) ≤ hi) → lp (fX12_narrow_b1 p lo hi) (1, 0, M) = some (0, M)) := by
  constructor
  · intro hall
    have key : ∃ r, lp (fX12_narrow_b1 p lo hi) (1, 0, M) = some r ∧ r = (1, M) := by
      refine lp_ind (fun s : Int × Int × Mem => s.1 = 1 ∧ 0 ≤ s.2.1 ∧ s.2.1 ≤ 4 ∧ s.2.2 = M) (fun r => r = (1, M)) (fun s => (4 - s.2.1).toNat) ?_ _ ⟨rfl, Int.le_refl _, by dsimp only; omega, rfl⟩
      rintro ⟨x, s, m⟩ ⟨hx, s0, s1, hm⟩
      dsimp only at hx s0 s1 hm
      subst hm hx
      unfold fX12_narrow_b1
      dsimp only
      rw [if_neg (show ¬ (1 : Int) = 0 by decide)]
      by_cases e0 : 4 ≤ s
      · rw [if_pos e0]
        exact Or.inr ⟨_, rfl, rfl⟩
      · rw [if_neg e0]
        have := hall s s0 (by omega)
        simp (disch := omega) only [w32_id, LD, ob, s_X12_within]
        rw [if_pos this]
        exact Or.inl ⟨_, rfl, ⟨rfl, by dsimp only; omega, by dsimp only; omega, rfl⟩, by dsimp only; omega⟩
    obtain ⟨r, e, rfl⟩ := key
    exact e
  · intro hno
    have hex : ∃ l, 0 ≤ l ∧ l < 4 ∧ ¬ (lo ≤ M 151 (4 * p + l) ∧ M 151 (4 * p + l) ≤ hi) := by
      apply Classical.byContradiction
      intro hn
      apply hno
      intro l l0 l1
      apply Classical.byContradiction
      intro hb
      exact hn ⟨l, l0, l1, hb⟩
    obtain ⟨l, l0, l1, hb⟩ := hex
    have key : ∃ r, lp (fX12_narrow_b1 p lo hi) (1, 0, M) = some r ∧ r = (0, M) := by
      refine lp_ind (fun s : Int × Int × Mem => (s.1 = 0 ∨ (s.1 = 1 ∧ s.2.1 ≤ l)) ∧ 0 ≤ s.2.1 ∧ s.2.1 ≤ 4 ∧ s.2.2 = M) (fun r => r = (0, M)) (fun s => (4 - s.2.1).toNat) ?_ _ ⟨Or.inr ⟨rfl, l0⟩, Int.le_refl _, by dsimp only; omega, rfl⟩
      rintro ⟨x, s, m⟩ ⟨hx, s0, s1, hm⟩
      dsimp only at hx s0 s1 hm
      subst hm
      unfold fX12_narrow_b1
      dsimp only
      rcases hx with rfl | ⟨rfl, hs⟩
      · rw [if_pos rfl]
        exact Or.inr ⟨_, rfl, rfl⟩
      · rw [if_neg (show ¬ (1 : Int) = 0 by decide), if_neg (by omega)]
        simp (disch := omega) only [w32_id, LD, ob, s_X12_within]
        by_cases e : lo ≤ m 151 (4 * p + s) ∧ m 151 (4 * p + s) ≤ hi
        · rw [if_pos e]
          have : s ≠ l := fun z => hb (by rw [← z]; exact e)
          exact Or.inl ⟨_, rfl, ⟨Or.inr ⟨rfl, by dsimp only; omega⟩, by dsimp only; omega, by dsimp only; omega, rfl⟩, by dsimp only; omega⟩
        · rw [if_neg e]
          exact Or.inl ⟨_, rfl, ⟨Or.inl rfl, by dsimp only; omega, by dsimp only; omega, rfl⟩, by dsimp only; omega⟩
    obtain ⟨r, e, rfl⟩ := key
    exact e
