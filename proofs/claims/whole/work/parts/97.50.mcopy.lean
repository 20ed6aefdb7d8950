/-! the reference takes over what was worked -/
set_option maxHeartbeats 4000000 in
set_option maxRecDepth 20000 in
theorem m_cp2 {B : Mem} : ∃ r, lp fX12_shader_b2 (0, B) = some r ∧ (∀ d, d ≠ 138 → r d = B d) ∧ (∀ k, 0 ≤ k → k < 412 → r 138 k = B 138 (412 + k)) ∧ ∀ k, 412 ≤ k → r 138 k = B 138 k := by
  refine lp_ind (fun s : Int × Mem => 0 ≤ s.1 ∧ s.1 ≤ 412 ∧ (∀ d, d ≠ 138 → s.2 d = B d) ∧ (∀ k, 0 ≤ k → k < s.1 → s.2 138 k = B 138 (412 + k)) ∧ ∀ k, 412 ≤ k → s.2 138 k = B 138 k) (fun r : Mem => (∀ d, d ≠ 138 → r d = B d) ∧ (∀ k, 0 ≤ k → k < 412 → r 138 k = B 138 (412 + k)) ∧ ∀ k, 412 ≤ k → r 138 k = B 138 k) (fun s => (412 - s.1).toNat) ?_ _ ?_
  · rintro ⟨k, m⟩ ⟨k0, k1, hfr, hl, hy⟩
    dsimp only at k0 k1 hfr hl hy
    unfold fX12_shader_b2
    dsimp only
    by_cases z : 412 ≤ k
    · rw [if_pos z]
      exact Or.inr ⟨m, rfl, hfr, fun v a b => hl v a (by omega), hy⟩
    · rw [if_neg z, w32_id (show -2147483648 ≤ 412 + k by omega) (by omega), ld138 _ _ (by omega) (by omega), ob, hy _ (by omega), st138 _ _ _ (by omega) (by omega), ob, w32_id (by omega) (by omega)]
      refine Or.inl ⟨_, rfl, ⟨by dsimp only; omega, by dsimp only; omega, fun d h1 => by dsimp only; rw [wr_ne h1, hfr d h1], fun l a b => ?_, fun y h => by dsimp only; rw [wr_at, if_neg (by omega)]; exact hy y h⟩, by dsimp only; omega⟩
      dsimp only at b ⊢
      rw [wr_at]
      by_cases e : l = k
      · rw [if_pos e, e]
      · rw [if_neg e]; exact hl l a (by omega)
  · exact ⟨Int.le_refl _, by dsimp only; omega, fun _ _ => rfl, fun l a b => by dsimp only at b; omega, fun _ _ => rfl⟩
set_option maxHeartbeats 4000000 in
set_option maxRecDepth 20000 in
theorem m_cp3 {B : Mem} {c : Int} (hc : B 138 0 = c) (c0 : 0 ≤ c) (c1 : c ≤ 200) : ∃ r, lp fX12_shader_b3 (0, B) = some r ∧ (∀ d, d ≠ 139 → r d = B d) ∧ (∀ k, 0 ≤ k → k < 12 * c → r 139 k = B 139 (2520 + k)) ∧ ∀ k, 2520 ≤ k → r 139 k = B 139 k := by
  refine lp_ind (fun s : Int × Mem => 0 ≤ s.1 ∧ s.1 ≤ 12 * c ∧ (∀ d, d ≠ 139 → s.2 d = B d) ∧ (∀ k, 0 ≤ k → k < s.1 → s.2 139 k = B 139 (2520 + k)) ∧ ∀ k, 2520 ≤ k → s.2 139 k = B 139 k) (fun r : Mem => (∀ d, d ≠ 139 → r d = B d) ∧ (∀ k, 0 ≤ k → k < 12 * c → r 139 k = B 139 (2520 + k)) ∧ ∀ k, 2520 ≤ k → r 139 k = B 139 k) (fun s => (12 * c - s.1).toNat) ?_ _ ?_
  · rintro ⟨k, m⟩ ⟨k0, k1, hfr, hl, hy⟩
    dsimp only at k0 k1 hfr hl hy
    unfold fX12_shader_b3
    dsimp only
    have e0 : m 138 0 = c := by rw [hfr 138 (by omega)]; exact hc
    rw [ld138 _ _ (by omega) (by omega), ob, e0, w32_id (show -2147483648 ≤ 12 * c by omega) (by omega)]
    by_cases z : 12 * c ≤ k
    · rw [if_pos z]
      exact Or.inr ⟨m, rfl, hfr, fun v a b => hl v a (by omega), hy⟩
    · rw [if_neg z, w32_id (show -2147483648 ≤ 2520 + k by omega) (by omega), ld139 _ _ (by omega) (by omega), ob, hy _ (by omega), st139 _ _ _ (by omega) (by omega), ob, w32_id (by omega) (by omega)]
      refine Or.inl ⟨_, rfl, ⟨by dsimp only; omega, by dsimp only; omega, fun d h1 => by dsimp only; rw [wr_ne h1, hfr d h1], fun l a b => ?_, fun y h => by dsimp only; rw [wr_at, if_neg (by omega)]; exact hy y h⟩, by dsimp only; omega⟩
      dsimp only at b ⊢
      rw [wr_at]
      by_cases e : l = k
      · rw [if_pos e, e]
      · rw [if_neg e]; exact hl l a (by omega)
  · exact ⟨Int.le_refl _, by dsimp only; omega, fun _ _ => rfl, fun l a b => by dsimp only at b; omega, fun _ _ => rfl⟩
set_option maxHeartbeats 4000000 in
set_option maxRecDepth 20000 in
theorem m_cp5 {B : Mem} {i x : Int} (i0 : 0 ≤ i) (i6 : i < 6) (hx : B 150 (2 * i) = x) : ∃ r, lp (fX12_shader_b5 i) (0, B) = some r ∧ (∀ d, d ≠ 151 → r d = B d) ∧ (∀ l, 0 ≤ l → l < 4 → r 151 (4 * i + l) = x) ∧ ∀ y, y < 4 * i ∨ 4 * i + 4 ≤ y → r 151 y = B 151 y := by
  refine lp_ind (fun s : Int × Mem => 0 ≤ s.1 ∧ s.1 ≤ 4 ∧ (∀ d, d ≠ 151 → s.2 d = B d) ∧ (∀ l, 0 ≤ l → l < s.1 → s.2 151 (4 * i + l) = x) ∧ ∀ y, y < 4 * i ∨ 4 * i + 4 ≤ y → s.2 151 y = B 151 y) (fun r : Mem => (∀ d, d ≠ 151 → r d = B d) ∧ (∀ l, 0 ≤ l → l < 4 → r 151 (4 * i + l) = x) ∧ ∀ y, y < 4 * i ∨ 4 * i + 4 ≤ y → r 151 y = B 151 y) (fun s => (4 - s.1).toNat) ?_ _ ?_
  · rintro ⟨k, m⟩ ⟨k0, k1, hfr, hl, hy⟩
    dsimp only at k0 k1 hfr hl hy
    unfold fX12_shader_b5
    dsimp only
    by_cases z : 4 ≤ k
    · rw [if_pos z]
      exact Or.inr ⟨m, rfl, hfr, fun v a b => hl v a (by omega), hy⟩
    · have e : m 150 (2 * i) = x := by rw [hfr 150 (by omega)]; exact hx
      rw [if_neg z, w32_id (show -2147483648 ≤ 2 * i by omega) (by omega), ld150 _ _ (by omega) (by omega), ob, e, w32_id (show -2147483648 ≤ 4 * i by omega) (by omega), w32_id (show -2147483648 ≤ 4 * i + k by omega) (by omega), st151 _ _ _ (by omega) (by omega), ob, w32_id (by omega) (by omega)]
      refine Or.inl ⟨_, rfl, ⟨by dsimp only; omega, by dsimp only; omega, fun d h1 => by dsimp only; rw [wr_ne h1, hfr d h1], fun l a b => ?_, fun y h => by dsimp only; rw [wr_at, if_neg (by omega)]; exact hy y h⟩, by dsimp only; omega⟩
      dsimp only at b ⊢
      rw [wr_at]
      by_cases e : l = k
      · rw [if_pos (by omega)]
      · rw [if_neg (by omega)]; exact hl l a (by omega)
  · exact ⟨Int.le_refl _, by dsimp only; omega, fun _ _ => rfl, fun l a b => by dsimp only at b; omega, fun _ _ => rfl⟩
set_option maxHeartbeats 4000000 in
set_option maxRecDepth 20000 in
theorem m_cp4 {B : Mem} {nI : Int} (h1 : B 138 1 = nI) (i0 : 0 ≤ nI) (i6 : nI ≤ 6) : ∃ r, lp fX12_shader_b4 (0, B) = some r ∧ (∀ d, d ≠ 150 → d ≠ 151 → r d = B d) ∧ ∀ i, 0 ≤ i → i < nI → r 150 (2 * i) = B 138 (10 + 3 * i) ∧ r 150 (2 * i + 1) = B 138 (10 + 3 * i + 1) ∧ ∀ l, 0 ≤ l → l < 4 → r 151 (4 * i + l) = B 138 (10 + 3 * i) := by
  refine lp_ind (fun s : Int × Mem => 0 ≤ s.1 ∧ s.1 ≤ nI ∧ (∀ d, d ≠ 150 → d ≠ 151 → s.2 d = B d) ∧ ∀ i, 0 ≤ i → i < s.1 → s.2 150 (2 * i) = B 138 (10 + 3 * i) ∧ s.2 150 (2 * i + 1) = B 138 (10 + 3 * i + 1) ∧ ∀ l, 0 ≤ l → l < 4 → s.2 151 (4 * i + l) = B 138 (10 + 3 * i)) (fun r : Mem => (∀ d, d ≠ 150 → d ≠ 151 → r d = B d) ∧ ∀ i, 0 ≤ i → i < nI → r 150 (2 * i) = B 138 (10 + 3 * i) ∧ r 150 (2 * i + 1) = B 138 (10 + 3 * i + 1) ∧ ∀ l, 0 ≤ l → l < 4 → r 151 (4 * i + l) = B 138 (10 + 3 * i)) (fun s => (nI - s.1).toNat) ?_ _ ?_
  · rintro ⟨k, m⟩ ⟨k0, k1, hfr, hi⟩
    dsimp only at k0 k1 hfr hi
    unfold fX12_shader_b4 fX12_inputs
    dsimp only
    have e8 : m 138 = B 138 := hfr 138 (by omega) (by omega)
    rw [ld138 _ _ (by omega) (by omega), ob, ob, e8, h1]
    dsimp only
    by_cases z : nI ≤ k
    · rw [if_pos z]
      exact Or.inr ⟨m, rfl, hfr, fun v a b => hi v a (by omega)⟩
    · have e8' : wr m 150 (2 * k) (B 138 (10 + 3 * k)) 138 (10 + 3 * k + 1) = B 138 (10 + 3 * k + 1) := by rw [wr_ne (by omega), e8]
      obtain ⟨r, f, f1, f2, f3⟩ := m_cp5 (B := wr (wr m 150 (2 * k) (B 138 (10 + 3 * k))) 150 (2 * k + 1) (B 138 (10 + 3 * k + 1))) (x := B 138 (10 + 3 * k)) k0 (show k < 6 by omega) (by rw [wr_at, if_neg (by omega), wr_at, if_pos rfl])
      rw [if_neg z, w32_id (show -2147483648 ≤ 3 * k by omega) (by omega), w32_id (show -2147483648 ≤ 10 + 3 * k by omega) (by omega), ld138 _ _ (by omega) (by omega), ob, e8, w32_id (show -2147483648 ≤ 2 * k by omega) (by omega), st150 _ _ _ (by omega) (by omega), ob, w32_id (show -2147483648 ≤ 10 + 3 * k + 1 by omega) (by omega), ld138 _ _ (by omega) (by omega), ob, e8', w32_id (show -2147483648 ≤ 2 * k + 1 by omega) (by omega), st150 _ _ _ (by omega) (by omega), ob, f, ob, w32_id (by omega) (by omega)]
      refine Or.inl ⟨_, rfl, ⟨by dsimp only; omega, by dsimp only; omega, fun d h1 h2 => by dsimp only; rw [f1 d h2, wr_ne h1, wr_ne h1, hfr d h1 h2], fun i a b => ?_⟩, by dsimp only; omega⟩
      dsimp only at b ⊢
      by_cases e : i = k
      · subst e
        refine ⟨?_, ?_, f2⟩
        · rw [f1 150 (by omega), wr_at, if_neg (by omega), wr_at, if_pos rfl]
        · rw [f1 150 (by omega), wr_at, if_pos rfl]
      · obtain ⟨x1, x2, x3⟩ := hi i a (by omega)
        refine ⟨?_, ?_, fun l l0 l1 => ?_⟩
        · rw [f1 150 (by omega), wr_at, if_neg (by omega), wr_at, if_neg (by omega)]; exact x1
        · rw [f1 150 (by omega), wr_at, if_neg (by omega), wr_at, if_neg (by omega)]; exact x2
        · rw [f3 _ (by omega), wr_ne (by omega), wr_ne (by omega)]; exact x3 l l0 l1
  · exact ⟨Int.le_refl _, i0, fun _ _ _ => rfl, fun i a b => by dsimp only at b; omega⟩
