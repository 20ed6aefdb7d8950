/-! the class takes over what was worked -/
theorem cpyI {M : Mem} {a b : Nat} {n : Nat} (ka : kd a = (1, n)) (kb : kd b = (1, n)) (a5 : a ≠ 115) (b5 : b ≠ 115) : ∃ M', cpy M a 0 b 0 (n : Int) = some M' ∧ (∀ d, d ≠ b → M' d = M d) ∧ ∀ j, 0 ≤ j → j < (n : Int) → M' b j = M a j := by
  have la : len M a = n := by unfold len; rw [if_neg a5, ka]
  have lb : len M b = n := by unfold len; rw [if_neg b5, kb]
  unfold cpy
  rw [if_pos ⟨by rw [ka], by rw [kb], by omega, by omega, by omega, by omega, by omega⟩]
  refine ⟨_, rfl, fun d hd => ?_, fun j j0 j1 => ?_⟩
  · funext j
    rw [if_neg hd]
  · rw [if_pos rfl, if_pos (by omega), show (0 : Int) + (j - 0) = j by omega]
set_option maxHeartbeats 4000000 in
set_option maxRecDepth 20000 in
theorem c_cp1 {A : Mem} : ∃ r, lp fX9_copyFrom_b1 (0, A) = some r ∧ (∀ d, d ≠ 47 → d ≠ 48 → r d = A d) ∧ ∀ v, 0 ≤ v → v < 64 → r 47 v = nz (A 26 v) ∧ r 48 v = nz (A 27 v) := by
  refine lp_ind (fun s : Int × Mem => 0 ≤ s.1 ∧ s.1 ≤ 64 ∧ (∀ d, d ≠ 47 → d ≠ 48 → s.2 d = A d) ∧ ∀ v, 0 ≤ v → v < s.1 → s.2 47 v = nz (A 26 v) ∧ s.2 48 v = nz (A 27 v)) (fun r : Mem => (∀ d, d ≠ 47 → d ≠ 48 → r d = A d) ∧ ∀ v, 0 ≤ v → v < 64 → r 47 v = nz (A 26 v) ∧ r 48 v = nz (A 27 v)) (fun s => (64 - s.1).toNat) ?_ _ ?_
  · rintro ⟨k, m⟩ ⟨k0, k1, hfr, hv⟩
    dsimp only at k0 k1 hfr hv
    unfold fX9_copyFrom_b1
    dsimp only
    by_cases z : 64 ≤ k
    · rw [if_pos z]
      exact Or.inr ⟨m, rfl, hfr, fun v a b => hv v a (by omega)⟩
    · have e6 : m 26 k = A 26 k := by rw [hfr 26 (by omega) (by omega)]
      have e7 : wr m 47 k (nz (A 26 k)) 27 k = A 27 k := by rw [wr_ne (by omega), hfr 27 (by omega) (by omega)]
      rw [if_neg z, ld26 _ _ k0 (by omega), ob, e6, st47 _ _ _ k0 (by omega), ob, ld27 _ _ k0 (by omega), ob, e7, st48 _ _ _ k0 (by omega), ob, w32_id (by omega) (by omega)]
      refine Or.inl ⟨_, rfl, ⟨by dsimp only; omega, by dsimp only; omega, fun d h1 h2 => by dsimp only; rw [wr_ne h2, wr_ne h1, hfr d h1 h2], fun v a b => ?_⟩, by dsimp only; omega⟩
      dsimp only at b ⊢
      rw [wr_ne (show 47 ≠ 48 by omega), wr_at, wr_at, wr_ne (show 48 ≠ 47 by omega)]
      by_cases e : v = k
      · rw [if_pos e, if_pos e, e]; exact ⟨rfl, rfl⟩
      · rw [if_neg e, if_neg e]; exact hv v a (by omega)
  · exact ⟨Int.le_refl _, by dsimp only; omega, fun _ _ _ => rfl, fun v a b => by dsimp only at b; omega⟩
set_option maxHeartbeats 4000000 in
set_option maxRecDepth 20000 in
theorem c_cp2 {A : Mem} : ∃ r, lp fX9_copyFrom_b2 (0, A) = some r ∧ (∀ d, d ≠ 50 → r d = A d) ∧ ∀ v, 0 ≤ v → v < 200 → r 50 v = nz (A 29 v) := by
  refine lp_ind (fun s : Int × Mem => 0 ≤ s.1 ∧ s.1 ≤ 200 ∧ (∀ d, d ≠ 50 → s.2 d = A d) ∧ ∀ v, 0 ≤ v → v < s.1 → s.2 50 v = nz (A 29 v)) (fun r : Mem => (∀ d, d ≠ 50 → r d = A d) ∧ ∀ v, 0 ≤ v → v < 200 → r 50 v = nz (A 29 v)) (fun s => (200 - s.1).toNat) ?_ _ ?_
  · rintro ⟨k, m⟩ ⟨k0, k1, hfr, hv⟩
    dsimp only at k0 k1 hfr hv
    unfold fX9_copyFrom_b2
    dsimp only
    by_cases z : 200 ≤ k
    · rw [if_pos z]
      exact Or.inr ⟨m, rfl, hfr, fun v a b => hv v a (by omega)⟩
    · have e6 : m 29 k = A 29 k := by rw [hfr 29 (by omega)]
      rw [if_neg z, ld29 _ _ k0 (by omega), ob, e6, st50 _ _ _ k0 (by omega), ob, w32_id (by omega) (by omega)]
      refine Or.inl ⟨_, rfl, ⟨by dsimp only; omega, by dsimp only; omega, fun d h1 => by dsimp only; rw [wr_ne h1, hfr d h1], fun v a b => ?_⟩, by dsimp only; omega⟩
      dsimp only at b ⊢
      rw [wr_at]
      by_cases e : v = k
      · rw [if_pos e, e]
      · rw [if_neg e]; exact hv v a (by omega)
  · exact ⟨Int.le_refl _, by dsimp only; omega, fun _ _ => rfl, fun v a b => by dsimp only at b; omega⟩
set_option maxHeartbeats 4000000 in
set_option maxRecDepth 20000 in
theorem c_cpF {A : Mem} : ∃ r, fX9_copyFrom A = some r ∧ (∀ d, ¬ (44 ≤ d ∧ d ≤ 50) → r d = A d) ∧ r 44 0 = A 23 0 ∧ r 44 5 = A 23 5 ∧ (∀ v, 0 ≤ v → v < 64 → r 45 v = A 24 v ∧ r 47 v = nz (A 26 v) ∧ r 48 v = nz (A 27 v)) ∧ (∀ y, 0 ≤ y → y < 192 → r 46 y = A 25 y) ∧ (∀ k, 0 ≤ k → k < 8 → r 49 k = A 28 k) ∧ ∀ k, 0 ≤ k → k < 200 → r 50 k = nz (A 29 k) := by
  obtain ⟨A2, hA2⟩ : ∃ A2, A2 = wr (wr A 44 0 (A 23 0)) 44 5 (A 23 5) := ⟨_, rfl⟩
  have z2 : ∀ d, d ≠ 44 → A2 d = A d := fun d h => by rw [hA2, wr_ne h, wr_ne h]
  obtain ⟨A3, c1, c2, c3⟩ := cpyI (M := A2) (a := 24) (b := 45) (n := 64) (by decide +kernel) (by decide +kernel) (by decide) (by decide)
  obtain ⟨A4, d1, d2, d3⟩ := cpyI (M := A3) (a := 25) (b := 46) (n := 192) (by decide +kernel) (by decide +kernel) (by decide) (by decide)
  obtain ⟨A5, e1, e2, e3⟩ := cpyI (M := A4) (a := 28) (b := 49) (n := 8) (by decide +kernel) (by decide +kernel) (by decide) (by decide)
  have c1' : cpy A2 24 0 45 0 64 = some A3 := c1
  have d1' : cpy A3 25 0 46 0 192 = some A4 := d1
  have e1' : cpy A4 28 0 49 0 8 = some A5 := e1
  obtain ⟨A6, f1, f2, f3⟩ := c_cp1 (A := A5)
  obtain ⟨A7, g1, g2, g3⟩ := c_cp2 (A := A6)
  have e235 : wr A 44 0 (A 23 0) 23 5 = A 23 5 := by rw [wr_ne (by omega)]
  unfold fX9_copyFrom
  rw [pI_ok, ob, pI_ok, ob, e235, ← hA2, c1', ob, d1', ob, e1', ob, f1, ob, g1, ob]
  have z5 : ∀ d, d ≠ 44 → d ≠ 45 → d ≠ 46 → d ≠ 49 → A5 d = A d := fun d h1 h2 h3 h4 => by rw [e2 d h4, d2 d h3, c2 d h2, z2 d h1]
  refine ⟨A7, rfl, fun d hd => ?_, ?_, ?_, fun v v0 v1 => ⟨?_, ?_, ?_⟩, fun y y0 y1 => ?_, fun k k0 k1 => ?_, fun k k0 k1 => ?_⟩
  · rw [g2 d (by omega), f2 d (by omega) (by omega), z5 d (by omega) (by omega) (by omega) (by omega)]
  · rw [g2 44 (by omega), f2 44 (by omega) (by omega), e2 44 (by omega), d2 44 (by omega), c2 44 (by omega), hA2, wr_at, if_neg (by omega), wr_at, if_pos rfl]
  · rw [g2 44 (by omega), f2 44 (by omega) (by omega), e2 44 (by omega), d2 44 (by omega), c2 44 (by omega), hA2, wr_at, if_pos rfl]
  · rw [g2 45 (by omega), f2 45 (by omega) (by omega), e2 45 (by omega), d2 45 (by omega), c3 v v0 (by omega), z2 24 (by omega)]
  · rw [g2 47 (by omega), (f3 v v0 v1).1, z5 26 (by omega) (by omega) (by omega) (by omega)]
  · rw [g2 48 (by omega), (f3 v v0 v1).2, z5 27 (by omega) (by omega) (by omega) (by omega)]
  · rw [g2 46 (by omega), f2 46 (by omega) (by omega), e2 46 (by omega), d3 y y0 (by omega), c2 25 (by omega), z2 25 (by omega)]
  · rw [g2 49 (by omega), f2 49 (by omega) (by omega), e3 k k0 (by omega), d2 28 (by omega), c2 28 (by omega), z2 28 (by omega)]
  · rw [g3 k k0 k1, f2 29 (by omega) (by omega), z5 29 (by omega) (by omega) (by omega) (by omega)]
/-! the inputs begin at their least -/
set_option maxHeartbeats 4000000 in
set_option maxRecDepth 20000 in
theorem c_bn2 {A : Mem} {t : Nat} {i : Int} (ht : t = 5 ∨ t = 119) (i0 : 0 ≤ i) (i6 : i < 6) : ∃ r, lp (fX0_start_b2 i t) (0, A) = some r ∧ (∀ d, d ≠ 54 → r d = A d) ∧ (∀ l, 0 ≤ l → l < 4 → r 54 (4 * i + l) = A (t + 11) i) ∧ ∀ y, y < 4 * i ∨ 4 * i + 4 ≤ y → r 54 y = A 54 y := by
  refine lp_ind (fun s : Int × Mem => 0 ≤ s.1 ∧ s.1 ≤ 4 ∧ (∀ d, d ≠ 54 → s.2 d = A d) ∧ (∀ l, 0 ≤ l → l < s.1 → s.2 54 (4 * i + l) = A (t + 11) i) ∧ ∀ y, y < 4 * i ∨ 4 * i + 4 ≤ y → s.2 54 y = A 54 y) (fun r : Mem => (∀ d, d ≠ 54 → r d = A d) ∧ (∀ l, 0 ≤ l → l < 4 → r 54 (4 * i + l) = A (t + 11) i) ∧ ∀ y, y < 4 * i ∨ 4 * i + 4 ≤ y → r 54 y = A 54 y) (fun s => (4 - s.1).toNat) ?_ _ ?_
  · rintro ⟨k, m⟩ ⟨k0, k1, hfr, hl, hy⟩
    dsimp only at k0 k1 hfr hl hy
    unfold fX0_start_b2
    dsimp only
    by_cases z : 4 ≤ k
    · rw [if_pos z]
      exact Or.inr ⟨m, rfl, hfr, fun v a b => hl v a (by omega), hy⟩
    · have e : m (t + 11) i = A (t + 11) i := by rw [hfr _ (by omega)]
      rw [if_neg z, tl11 ht _ _ i0 i6, ob, e, w32_id (show -2147483648 ≤ 4 * i by omega) (by omega), w32_id (show -2147483648 ≤ 4 * i + k by omega) (by omega), st54 _ _ _ (by omega) (by omega), ob, w32_id (by omega) (by omega)]
      refine Or.inl ⟨_, rfl, ⟨by dsimp only; omega, by dsimp only; omega, fun d h1 => by dsimp only; rw [wr_ne h1, hfr d h1], fun l a b => ?_, fun y h => by dsimp only; rw [wr_at, if_neg (by omega)]; exact hy y h⟩, by dsimp only; omega⟩
      dsimp only at b ⊢
      rw [wr_at]
      by_cases e : l = k
      · rw [if_pos (by omega)]
      · rw [if_neg (by omega)]; exact hl l a (by omega)
  · exact ⟨Int.le_refl _, by dsimp only; omega, fun _ _ => rfl, fun l a b => by dsimp only at b; omega, fun _ _ => rfl⟩
set_option maxHeartbeats 4000000 in
set_option maxRecDepth 20000 in
theorem c_bn {A : Mem} {t : Nat} {nI : Int} (ht : t = 5 ∨ t = 119) (h10 : A t 10 = nI) (i0 : 0 ≤ nI) (i6 : nI ≤ 6) : ∃ r, fX0_start t A = some r ∧ (∀ d, d ≠ 52 → d ≠ 53 → d ≠ 54 → r d = A d) ∧ ∀ i, 0 ≤ i → i < nI → r 52 i = A (t + 11) i ∧ r 53 i = A (t + 12) i ∧ ∀ l, 0 ≤ l → l < 4 → r 54 (4 * i + l) = A (t + 11) i := by
  have L : ∃ r, lp (fX0_start_b1 t) (0, A) = some r ∧ (∀ d, d ≠ 52 → d ≠ 53 → d ≠ 54 → r d = A d) ∧ ∀ i, 0 ≤ i → i < nI → r 52 i = A (t + 11) i ∧ r 53 i = A (t + 12) i ∧ ∀ l, 0 ≤ l → l < 4 → r 54 (4 * i + l) = A (t + 11) i := by
    refine lp_ind (fun s : Int × Mem => 0 ≤ s.1 ∧ s.1 ≤ nI ∧ (∀ d, d ≠ 52 → d ≠ 53 → d ≠ 54 → s.2 d = A d) ∧ ∀ i, 0 ≤ i → i < s.1 → s.2 52 i = A (t + 11) i ∧ s.2 53 i = A (t + 12) i ∧ ∀ l, 0 ≤ l → l < 4 → s.2 54 (4 * i + l) = A (t + 11) i) (fun r : Mem => (∀ d, d ≠ 52 → d ≠ 53 → d ≠ 54 → r d = A d) ∧ ∀ i, 0 ≤ i → i < nI → r 52 i = A (t + 11) i ∧ r 53 i = A (t + 12) i ∧ ∀ l, 0 ≤ l → l < 4 → r 54 (4 * i + l) = A (t + 11) i) (fun s => (nI - s.1).toNat) ?_ _ ?_
    · rintro ⟨k, m⟩ ⟨k0, k1, hfr, hi⟩
      dsimp only at k0 k1 hfr hi
      unfold fX0_start_b1
      dsimp only
      have e10 : m t 10 = nI := by rw [hfr t (by omega) (by omega) (by omega)]; exact h10
      simp only [e10]
      by_cases z : nI ≤ k
      · rw [if_pos z]
        exact Or.inr ⟨m, rfl, hfr, fun v a b => hi v a (by omega)⟩
      · have e11 : m (t + 11) k = A (t + 11) k := by rw [hfr _ (by omega) (by omega) (by omega)]
        have e12 : wr m 52 k (A (t + 11) k) (t + 12) k = A (t + 12) k := by rw [wr_ne (by omega), hfr _ (by omega) (by omega) (by omega)]
        obtain ⟨r, f, f1, f2, f3⟩ := c_bn2 (A := wr (wr m 52 k (A (t + 11) k)) 53 k (A (t + 12) k)) ht k0 (show k < 6 by omega)
        rw [if_neg z, tl11 ht _ _ k0 (by omega), ob, e11, st52 _ _ _ k0 (by omega), ob, tl12 ht _ _ k0 (by omega), ob, e12, st53 _ _ _ k0 (by omega), ob, f, ob, w32_id (by omega) (by omega)]
        have q11 : wr (wr m 52 k (A (t + 11) k)) 53 k (A (t + 12) k) (t + 11) k = A (t + 11) k := by rw [wr_ne (by omega), wr_ne (by omega), e11]
        refine Or.inl ⟨_, rfl, ⟨by dsimp only; omega, by dsimp only; omega, fun d h1 h2 h3 => by dsimp only; rw [f1 d h3, wr_ne h2, wr_ne h1, hfr d h1 h2 h3], fun i a b => ?_⟩, by dsimp only; omega⟩
        dsimp only at b ⊢
        by_cases e : i = k
        · subst e
          refine ⟨?_, ?_, fun l l0 l1 => ?_⟩
          · rw [f1 52 (by omega), wr_ne (by omega), wr_at, if_pos rfl]
          · rw [f1 53 (by omega), wr_at, if_pos rfl]
          · rw [f2 l l0 l1, q11]
        · obtain ⟨x1, x2, x3⟩ := hi i a (by omega)
          refine ⟨?_, ?_, fun l l0 l1 => ?_⟩
          · rw [f1 52 (by omega), wr_ne (by omega), wr_at, if_neg e]; exact x1
          · rw [f1 53 (by omega), wr_at, if_neg e, wr_ne (by omega)]; exact x2
          · rw [f3 _ (by omega), wr_ne (by omega), wr_ne (by omega)]; exact x3 l l0 l1
    · exact ⟨Int.le_refl _, i0, fun _ _ _ _ => rfl, fun i a b => by dsimp only at b; omega⟩
  obtain ⟨r, f, h1, h2⟩ := L
  unfold fX0_start
  rw [f, ob]
  exact ⟨r, rfl, h1, h2⟩
