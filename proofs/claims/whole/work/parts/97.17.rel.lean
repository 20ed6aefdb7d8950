/-! two loops side by side -/
theorem lp_rel {S R S' R' : Type} {f : S → Option (S ⊕ R)} {g : S' → Option (S' ⊕ R')} (P : S → S' → Prop) (Q : R → R' → Prop) (μ : S → S' → Nat) (h : ∀ s s', P s s' → (∃ u u', f s = some (.inl u) ∧ g s' = some (.inl u') ∧ P u u' ∧ μ u u' < μ s s') ∨ (∃ r r', f s = some (.inr r) ∧ g s' = some (.inr r') ∧ Q r r')) : ∀ (k : Nat) (s : S) (s' : S'), μ s s' < k → P s s' → ∃ r r', lp f s = some r ∧ lp g s' = some r' ∧ Q r r' := by
  intro k
  induction k with
  | zero => intro s s' hk; omega
  | succ k ih =>
    intro s s' hk hp
    rcases h s s' hp with ⟨u, u', e1, e2, hu, hm⟩ | ⟨r, r', e1, e2, hq⟩
    · rw [lp_in e1, lp_in e2]
      exact ih u u' (by omega) hu
    · exact ⟨r, r', lp_out e1, lp_out e2, hq⟩
set_option maxHeartbeats 4000000 in
set_option maxRecDepth 20000 in
theorem m_clears {B : Mem} : ∃ r, fX12_clears 412 B = some r ∧ (∀ b, b ≠ 138 → r b = B b) ∧ (∀ k, k < 412 → r 138 k = B 138 k) ∧ ∀ k, 412 ≤ k → k < 824 → r 138 k = if k = 416 then 8 else if k = 415 then 4 else 0 := by
  have L : ∃ r, lp (fX12_clears_b1 412) (0, B) = some r ∧ (∀ b, b ≠ 138 → r b = B b) ∧ (∀ k, k < 412 → r 138 k = B 138 k) ∧ ∀ k, 412 ≤ k → k < 824 → r 138 k = 0 := by
    refine lp_ind (fun s : Int × Mem => 0 ≤ s.1 ∧ s.1 ≤ 412 ∧ (∀ b, b ≠ 138 → s.2 b = B b) ∧ (∀ k, k < 412 → s.2 138 k = B 138 k) ∧ ∀ k, 412 ≤ k → k < 412 + s.1 → s.2 138 k = 0) (fun r : Mem => (∀ b, b ≠ 138 → r b = B b) ∧ (∀ k, k < 412 → r 138 k = B 138 k) ∧ ∀ k, 412 ≤ k → k < 824 → r 138 k = 0) (fun s => (412 - s.1).toNat) ?_ _ ?_
    · rintro ⟨k, q⟩ ⟨k0, k1, hfr, hlo, hz⟩
      dsimp only at k0 k1 hfr hlo hz
      unfold fX12_clears_b1
      dsimp only
      by_cases z : 412 ≤ k
      · rw [if_pos z]
        exact Or.inr ⟨q, rfl, hfr, hlo, fun i a b => hz i a (by omega)⟩
      · rw [if_neg z, w32_id (show -2147483648 ≤ 412 + k by omega) (by omega), st138 _ _ _ (by omega) (by omega), ob, w32_id (by omega) (by omega)]
        refine Or.inl ⟨_, rfl, ⟨by dsimp only; omega, by dsimp only; omega, fun b hb => by dsimp only; rw [wr_ne hb, hfr b hb], fun i hi => by dsimp only; rw [wr_at, if_neg (by omega), hlo i hi], fun i a b => ?_⟩, by dsimp only; omega⟩
        dsimp only at b ⊢
        rw [wr_at]
        by_cases e : i = 412 + k
        · rw [if_pos e]
        · rw [if_neg e]; exact hz i a (by omega)
    · exact ⟨Int.le_refl _, by dsimp only; omega, fun _ _ => rfl, fun _ _ => rfl, fun i a b => by dsimp only at b; omega⟩
  obtain ⟨q, f, fr, lo, hz⟩ := L
  unfold fX12_clears
  have w3 : w32 (412 + 3) = 415 := by decide
  have w4 : w32 (412 + 4) = 416 := by decide
  rw [f, ob, w3, w4, st138 _ _ _ (by omega) (by omega), ob, st138 _ _ _ (by omega) (by omega), ob]
  refine ⟨_, rfl, fun b hb => by rw [wr_ne hb, wr_ne hb, fr b hb], fun k hk => by rw [wr_at, if_neg (by omega), wr_at, if_neg (by omega), lo k hk], fun k k0 k1 => ?_⟩
  rw [wr_at, wr_at, hz k k0 k1]
/-- the class's place for what is read is wiped -/
theorem c_clear {A : Mem} {t : Nat} : ∃ r, fX3_clear t A = some r ∧ (∀ b, b ≠ t → r b = A b) ∧ r t 0 = 0 ∧ r t 10 = 0 ∧ r t 14 = 4 ∧ r t 15 = 8 ∧ r t 16 = 0 ∧ r t 17 = 0 ∧ ∀ k, k ≠ 0 → k ≠ 10 → k ≠ 14 → k ≠ 15 → k ≠ 16 → k ≠ 17 → r t k = A t k := by
  unfold fX3_clear
  rw [pI_ok, ob, pI_ok, ob, pI_ok, ob, pI_ok, ob, pI_ok, ob, pI_ok, ob]
  refine ⟨_, rfl, fun b hb => by rw [wr_ne hb, wr_ne hb, wr_ne hb, wr_ne hb, wr_ne hb, wr_ne hb], ?_, ?_, ?_, ?_, ?_, ?_, fun k k0 k1 k2 k3 k4 k5 => ?_⟩
  · rw [wr_at, if_neg (by decide), wr_at, if_neg (by decide), wr_at, if_neg (by decide), wr_at, if_neg (by decide), wr_at, if_neg (by decide), wr_at, if_pos rfl]
  · rw [wr_at, if_neg (by decide), wr_at, if_neg (by decide), wr_at, if_neg (by decide), wr_at, if_neg (by decide), wr_at, if_pos rfl]
  · rw [wr_at, if_neg (by decide), wr_at, if_neg (by decide), wr_at, if_neg (by decide), wr_at, if_pos rfl]
  · rw [wr_at, if_neg (by decide), wr_at, if_neg (by decide), wr_at, if_pos rfl]
  · rw [wr_at, if_neg (by decide), wr_at, if_pos rfl]
  · rw [wr_at, if_pos rfl]
  · rw [wr_at, if_neg k5, wr_at, if_neg k4, wr_at, if_neg k3, wr_at, if_neg k2, wr_at, if_neg k1, wr_at, if_neg k0]
