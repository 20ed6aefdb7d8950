set_option maxHeartbeats 4000000 in
set_option maxRecDepth 20000 in
theorem s_X4_take {m : Mem} {v c : Int} (v0 : 0 ≤ v) (v1 : v < 64) (hc : c = argc (m 45 v)) (ha : ∀ k, 0 ≤ k → k < c → 0 ≤ m 46 (3 * v + k) ∧ m 46 (3 * v + k) < 64) :
    ∃ r, lp (fX4_reckonLane_b2 v (m 45 v)) (0, m) = some r ∧ (∀ b, b ≠ 61 → r b = m b) ∧ ∀ k, 0 ≤ k → k < c → r 61 k = m 57 (m 46 (3 * v + k)) := by
  have hc3 : 0 ≤ c ∧ c ≤ 3 := by rw [hc]; unfold argc; repeat' split
                                 all_goals omega
  refine lp_ind (fun s : Int × Mem => 0 ≤ s.1 ∧ s.1 ≤ c ∧ (∀ b, b ≠ 61 → s.2 b = m b) ∧ ∀ k, 0 ≤ k → k < s.1 → s.2 61 k = m 57 (m 46 (3 * v + k))) (fun r : Mem => (∀ b, b ≠ 61 → r b = m b) ∧ ∀ k, 0 ≤ k → k < c → r 61 k = m 57 (m 46 (3 * v + k))) (fun s => (c - s.1).toNat) ?_ _ ?_
  · rintro ⟨k, q⟩ ⟨k0, k1, hfr, hk⟩
    dsimp only at k0 k1 hfr hk
    unfold fX4_reckonLane_b2
    simp only [s_X11_argsOf, ob, ← hc]
    by_cases hkc : c ≤ k
    · rw [if_pos hkc]
      exact Or.inr ⟨q, rfl, hfr, fun j a b => hk j a (by omega)⟩
    · rw [if_neg hkc]
      have := ha k k0 (by omega)
      have e46 : q 46 = m 46 := hfr 46 (by omega)
      have e57 : q 57 = m 57 := hfr 57 (by omega)
      simp (disch := omega) only [w32_id, LD, ob, e46, e57, ST]
      refine Or.inl ⟨_, rfl, ⟨by dsimp only; omega, by dsimp only; omega, fun b hb => by simp (disch := omega) only [wr_ne, hfr], fun j a b => ?_⟩, by dsimp only; omega⟩
      dsimp only at b
      simp only [wr_at]
      by_cases e : j = k
      · rw [if_pos e, e]
      · rw [if_neg e]; exact hk j a (by omega)
  · exact ⟨Int.le_refl _, hc3.1, fun b _ => rfl, fun k a b => by dsimp only at b; omega⟩
