/-! input: the class tells the name, the reference puts the input down -/
set_option maxHeartbeats 4000000 in
set_option maxRecDepth 20000 in
theorem c_inTell {A : Mem} {t : Nat} {c u m : Int} (ht : t = 5 ∨ t = 119) (h41 : A 4 1 = t) (h5 : A 4 5 = m) (m0 : 0 ≤ m) (m1 : m < 20) (c0 : 0 ≤ c) (c1 : c < 200) : ∃ A', ((gm A 4 1).bind fun t5 => (stI A (t5 + 9) c u).bind fun M6 => (gm M6 4 1).bind fun t7 => (fX6_tell (M6 1 7) 0 1 M6).bind fun q8 => (stI q8.2 (t7 + 3) c q8.1).bind fun M9 => some ((0 : Int), M9)) = some (0, A') ∧ A' 4 5 = m + 1 ∧ (∀ k, k ≠ 5 → A' 4 k = A 4 k) ∧ (∀ k, A' 18 k = if k = m then A 1 7 else A 18 k) ∧ (∀ k, A' 19 k = if k = m then 0 else A 19 k) ∧ (∀ k, A' 20 k = if k = m then 1 else A 20 k) ∧ (∀ i, A' (t + 3) i = if i = c then m else A (t + 3) i) ∧ (∀ i, A' (t + 9) i = if i = c then u else A (t + 9) i) ∧ ∀ b, b ≠ 4 → b ≠ 18 → b ≠ 19 → b ≠ 20 → b ≠ t + 3 → b ≠ t + 9 → A' b = A b := by
  rw [gm41 ht h41, ob, ts9 ht _ _ _ c0 c1, ob]
  have e1 : wr A (t + 9) c u 4 = A 4 := wr_ne (by omega)
  have e17 : wr A (t + 9) c u 1 7 = A 1 7 := by rw [wr_ne (by omega)]
  rw [gm41 ht (by rw [e1]; exact h41), ob, e17]
  obtain ⟨A1, f, x1, x2, x3, x4, x5, x6⟩ := c_tell (A := wr A (t + 9) c u) (x := A 1 7) (ty' := 0) (inp := 1) (by rw [e1]; exact h5) m0 m1 (Or.inr rfl)
  rw [f, ob]
  dsimp only
  rw [ts3 ht _ _ _ c0 c1, ob]
  refine ⟨_, rfl, ?_, fun k hk => ?_, fun k => ?_, fun k => ?_, fun k => ?_, fun i => ?_, fun i => ?_, fun b b1 b2 b3 b4 b5 b6 => ?_⟩
  · rw [wr_ne (by omega)]; exact x1
  · rw [wr_ne (by omega), x2 k hk, e1]
  · rw [wr_ne (by omega), x3, wr_ne (by omega)]
  · rw [wr_ne (by omega), x4, wr_ne (by omega)]
  · rw [wr_ne (by omega), x5, wr_ne (by omega)]
  · rw [wr_at, x6 (t + 3) (by omega) (by omega) (by omega) (by omega), wr_ne (by omega)]
  · rw [wr_ne (by omega), x6 (t + 9) (by omega) (by omega) (by omega) (by omega), wr_at]
  · rw [wr_ne b5, x6 b b1 b2 b3 b4, wr_ne b6]
set_option maxHeartbeats 4000000 in
set_option maxRecDepth 20000 in
theorem m_inTail {B : Mem} {c u m lo hi giv v13 : Int} (h413 : B 138 413 = u) (u0 : 0 ≤ u) (u1 : u < 6) (h14 : B 132 14 = m) (c0 : 0 ≤ c) (c1 : c < 200) (hg : giv = 0 ∨ giv = 1) : ∃ B6, ((ldI B 138 413).bind fun v17 => (some (w32 (422 + (w32 (3 * v17))))).bind fun v18 => (stI B 138 v18 lo).bind fun M19 => (stI M19 138 (w32 (v18 + 1)) hi).bind fun M20 => ((if giv = 0 then some 0 else some 1 : Option Int)).bind fun q21 => (stI M20 138 (w32 (v18 + 2)) q21).bind fun M22 => (stI M22 139 (w32 (12 * (210 + c) + 1)) (M22 132 14)).bind fun M23 => (stI M23 139 (w32 (12 * (210 + c) + 2)) v17).bind fun M24 => (ldI M24 138 413).bind fun v25 => (stI M24 138 413 (w32 (v25 + 1))).bind fun M26 => ((if (M26 132 8) = 0 then (fX12_tells v13 2 M26).bind fun q27 => some q27 else some M26 : Option Mem)).bind fun q28 => some q28) = ((if (B 132 8) = 0 then (fX12_tells v13 2 B6).bind fun q27 => some q27 else some B6 : Option Mem)).bind (fun q28 => some q28) ∧ (∀ k, B6 138 k = if k = 413 then u + 1 else if k = 422 + 3 * u + 2 then giv else if k = 422 + 3 * u + 1 then hi else if k = 422 + 3 * u then lo else B 138 k) ∧ (∀ y, B6 139 y = if y = 12 * (210 + c) + 2 then u else if y = 12 * (210 + c) + 1 then m else B 139 y) ∧ ∀ b, b ≠ 138 → b ≠ 139 → B6 b = B b := by
  have eg : ((if giv = 0 then some 0 else some 1 : Option Int)) = some giv := by
    rcases hg with z | z
    · rw [if_pos z, z]
    · rw [if_neg (by omega), z]
  rw [ld138 _ _ (by omega) (by omega), ob, h413, w32_id (show -2147483648 ≤ 3 * u by omega) (by omega), w32_id (show -2147483648 ≤ 422 + 3 * u by omega) (by omega), ob, st138 _ _ _ (by omega) (by omega), ob, w32_id (show -2147483648 ≤ 422 + 3 * u + 1 by omega) (by omega), st138 _ _ _ (by omega) (by omega), ob, eg, ob, w32_id (show -2147483648 ≤ 422 + 3 * u + 2 by omega) (by omega), st138 _ _ _ (by omega) (by omega), ob]
  have e14 : wr (wr (wr B 138 (422 + 3 * u) lo) 138 (422 + 3 * u + 1) hi) 138 (422 + 3 * u + 2) giv 132 14 = m := by rw [wr_ne (by omega), wr_ne (by omega), wr_ne (by omega), h14]
  rw [e14, w32_id (show -2147483648 ≤ 12 * (210 + c) + 1 by omega) (by omega), st139 _ _ _ (by omega) (by omega), ob, w32_id (show -2147483648 ≤ 12 * (210 + c) + 2 by omega) (by omega), st139 _ _ _ (by omega) (by omega), ob, ld138 _ _ (by omega) (by omega), ob]
  generalize hM : wr (wr (wr (wr (wr B 138 (422 + 3 * u) lo) 138 (422 + 3 * u + 1) hi) 138 (422 + 3 * u + 2) giv) 139 (12 * (210 + c) + 1) m) 139 (12 * (210 + c) + 2) u = M24
  have f413 : M24 138 413 = u := by rw [← hM, wr_ne (by omega), wr_ne (by omega), wr_at, if_neg (by omega), wr_at, if_neg (by omega), wr_at, if_neg (by omega), h413]
  rw [f413, w32_id (show -2147483648 ≤ u + 1 by omega) (by omega), st138 _ _ _ (by omega) (by omega), ob]
  have f8 : wr M24 138 413 (u + 1) 132 8 = B 132 8 := by rw [wr_ne (by omega), ← hM, wr_ne (by omega), wr_ne (by omega), wr_ne (by omega), wr_ne (by omega), wr_ne (by omega)]
  simp only [f8]
  refine ⟨wr M24 138 413 (u + 1), rfl, fun k => ?_, fun y => ?_, fun b b1 b2 => ?_⟩
  · rw [wr_at, ← hM, wr_ne (by omega), wr_ne (by omega), wr_at, wr_at, wr_at]
  · rw [wr_ne (by omega), ← hM, wr_at, wr_at, wr_ne (by omega), wr_ne (by omega), wr_ne (by omega)]
  · rw [wr_ne b1, ← hM, wr_ne b2, wr_ne b2, wr_ne b1, wr_ne b1, wr_ne b1]
