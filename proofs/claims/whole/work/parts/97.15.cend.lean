set_option maxHeartbeats 4000000 in
set_option maxRecDepth 20000 in
theorem c_endB {A : Mem} {t : Nat} {d c w p e m1 : Int} (ht : t = 5 ∨ t = 119) (h41 : A 4 1 = t) (h47 : A 4 7 = d) (d1 : 1 ≤ d) (d4 : d ≤ 4) (h21 : A 21 (d - 1) = w) (w0 : 0 ≤ w) (w1 : w < c) (c1 : c < 200) (h0 : A t 0 = c) (h15 : A 1 5 = p) (w48 : 0 ≤ A 4 8 ∧ A 4 8 ≤ 4) (h8 : A (t + 1) w = 5 → A (t + 8) w = e ∧ (e = -1 ∨ (0 ≤ e ∧ e < c))) (h3 : A (t + 1) w = 5 → A (t + 3) w = m1) :
    ∃ A3, fX6_readEnd A = ((fX6_readSemicolon A3).bind fun q => some (q.1, q.2)) ∧ A3 t 0 = c + 1 ∧ A3 (t + 1) c = 8 ∧ A3 (t + 2) c = p ∧ (∀ k, k ≠ 0 → A3 t k = A t k) ∧ (∀ i, i ≠ c → A3 (t + 1) i = A (t + 1) i ∧ A3 (t + 2) i = A (t + 2) i) ∧ (∀ i, A3 (t + 8) i = if A (t + 1) w = 5 ∧ i = (if e = -1 then w else e) then c else if i = c then w else A (t + 8) i) ∧ (∀ k, A3 4 k = if A (t + 1) w = 5 ∧ k = 8 then A 4 8 - 1 else if A (t + 1) w = 5 ∧ k = 5 then m1 else if k = 7 then d - 1 else A 4 k) ∧ ∀ b, b ≠ 4 → b ≠ t → b ≠ t + 1 → b ≠ t + 2 → b ≠ t + 8 → A3 b = A b := by
  generalize hA0 : wr A 4 7 (d - 1) = A0
  have a0b : ∀ b, b ≠ 4 → A0 b = A b := fun b hb => by rw [← hA0, wr_ne hb]
  have a04 : ∀ k, A0 4 k = if k = 7 then d - 1 else A 4 k := fun k => by rw [← hA0, wr_at]
  obtain ⟨A1, f1, x1, x2, x3, x4, x5, x6, x7⟩ := c_open (A := A0) (kind := 8) (start := p) ht (by rw [a0b t (by omega)]; exact h0) (by omega) c1
  have wd : w32 (A 4 7 - 1) = d - 1 := by rw [h47, w32_id (by omega) (by omega)]
  have e47 : A0 4 7 = d - 1 := by rw [a04, if_pos rfl]
  have e21 : A0 21 (d - 1) = w := by rw [a0b 21 (by omega)]; exact h21
  have k41 : A0 4 1 = t := by rw [a04, if_neg (by omega)]; exact h41
  have e15 : A0 1 5 = p := by rw [a0b 1 (by omega)]; exact h15
  have a14 : A1 4 = A0 4 := x7 4 (by omega) (by omega) (by omega) (by omega)
  have k11 : A1 4 1 = t := by rw [a14]; exact k41
  have k21 : wr A1 (t + 8) c w 4 1 = t := by rw [wr_ne (by omega)]; exact k11
  have kw : wr A1 (t + 8) c w (t + 1) w = A (t + 1) w := by rw [wr_ne (by omega), (x6 w (by omega)).1, a0b (t + 1) (by omega)]
  have xx : ∀ i, i ≠ c → A1 (t + 1) i = A (t + 1) i ∧ A1 (t + 2) i = A (t + 2) i ∧ A1 (t + 8) i = A (t + 8) i := fun i hi => by
    have := x6 i hi
    rw [a0b (t + 1) (by omega), a0b (t + 2) (by omega), a0b (t + 8) (by omega)] at this
    exact this
  have xt : ∀ k, k ≠ 0 → A1 t k = A t k := fun k hk => by rw [x5 k hk, a0b t (by omega)]
  have xb : ∀ b, b ≠ 4 → b ≠ t → b ≠ t + 1 → b ≠ t + 2 → b ≠ t + 8 → A1 b = A b := fun b e1 e2 e3 e4 e5 => by rw [x7 b e2 e3 e4 e5, a0b b e1]
  unfold fX6_readEnd
  rw [if_neg (show ¬ A 4 7 = 0 by omega), pI_ok, ob, wd, hA0, e47, ld21 _ _ (by omega) (by omega), ob, e21, gm41 ht k41, ob, e15, f1, ob]
  dsimp only
  rw [gm41 ht k11, ob, ts8 ht _ _ _ (by omega) c1, ob, gm41 ht k21, ob, tl1 ht _ _ w0 (by omega), ob]
  simp only [kw]
  by_cases hk : A (t + 1) w = 5
  · obtain ⟨z3, z4⟩ := h8 hk
    have s3 := h3 hk
    have l8 : wr A1 (t + 8) c w (t + 8) w = e := by rw [wr_at, if_neg (by omega), (xx w (by omega)).2.2]; exact z3
    generalize hu : (if e = -1 then w else e) = u
    have ub : 0 ≤ u ∧ u < c := by
      rw [← hu]
      by_cases y : e = -1
      · rw [if_pos y]; exact ⟨w0, w1⟩
      · rw [if_neg y]
        rcases z4 with v | v
        · exact absurd v y
        · exact v
    have e12 : ((if e = -1 then some w else some e : Option Int)) = some u := by
      rw [← hu]
      by_cases y : e = -1
      · rw [if_pos y, if_pos y]
      · rw [if_neg y, if_neg y]
    have k31 : wr (wr A1 (t + 8) c w) (t + 8) u c 4 1 = t := by rw [wr_ne (by omega)]; exact k21
    have l3 : wr (wr A1 (t + 8) c w) (t + 8) u c (t + 3) w = m1 := by rw [wr_ne (by omega), wr_ne (by omega), xb (t + 3) (by omega) (by omega) (by omega) (by omega) (by omega)]; exact s3
    have l4 : wr (wr (wr A1 (t + 8) c w) (t + 8) u c) 4 5 m1 4 8 = A 4 8 := by rw [wr_at, if_neg (by omega), wr_ne (by omega), wr_ne (by omega), a14, a04, if_neg (by omega)]
    rw [if_pos hk, ob, tl8 ht _ _ w0 (by omega), ob, ob, l8, e12, ob, ts8 ht _ _ _ ub.1 (by omega), ob, gm41 ht k31, ob, tl3 ht _ _ w0 (by omega), ob, l3, pI_ok, ob, pI_ok, ob, l4, w32_id (by omega) (by omega), ob]
    refine ⟨_, rfl, ?_, ?_, ?_, fun k hk' => ?_, fun i hi => ⟨?_, ?_⟩, fun i => ?_, fun k => ?_, fun b e1 e2 e3 e4 e5 => ?_⟩
    · rw [wr_ne (by omega), wr_ne (by omega), wr_ne (by omega), wr_ne (by omega)]; exact x1
    · rw [wr_ne (by omega), wr_ne (by omega), wr_ne (by omega), wr_ne (by omega)]; exact x2
    · rw [wr_ne (by omega), wr_ne (by omega), wr_ne (by omega), wr_ne (by omega)]; exact x3
    · rw [wr_ne (by omega), wr_ne (by omega), wr_ne (by omega), wr_ne (by omega)]; exact xt k hk'
    · rw [wr_ne (by omega), wr_ne (by omega), wr_ne (by omega), wr_ne (by omega)]; exact (xx i hi).1
    · rw [wr_ne (by omega), wr_ne (by omega), wr_ne (by omega), wr_ne (by omega)]; exact (xx i hi).2.1
    · rw [wr_ne (by omega), wr_ne (by omega), wr_at, wr_at]
      simp only [hk, true_and]
      by_cases y : i = u
      · rw [if_pos y, if_pos y]
      · rw [if_neg y, if_neg y]
        by_cases v : i = c
        · rw [if_pos v, if_pos v]
        · rw [if_neg v, if_neg v]; exact (xx i v).2.2
    · rw [wr_at, wr_at, wr_ne (by omega), wr_ne (by omega), a14, a04]
      simp only [hk, true_and]
    · rw [wr_ne e1, wr_ne e1, wr_ne e5, wr_ne e5]; exact xb b e1 e2 e3 e4 e5
  · rw [if_neg hk, ob]
    refine ⟨_, rfl, ?_, ?_, ?_, fun k hk' => ?_, fun i hi => ⟨?_, ?_⟩, fun i => ?_, fun k => ?_, fun b e1 e2 e3 e4 e5 => ?_⟩
    · rw [wr_ne (by omega)]; exact x1
    · rw [wr_ne (by omega)]; exact x2
    · rw [wr_ne (by omega)]; exact x3
    · rw [wr_ne (by omega)]; exact xt k hk'
    · rw [wr_ne (by omega)]; exact (xx i hi).1
    · rw [wr_ne (by omega)]; exact (xx i hi).2.1
    · rw [wr_at]
      simp only [hk, false_and, if_false]
      by_cases v : i = c
      · rw [if_pos v, if_pos v]
      · rw [if_neg v, if_neg v]; exact (xx i v).2.2
    · rw [wr_ne (by omega), a14, a04]
      simp only [hk, false_and, if_false]
    · rw [wr_ne e5]; exact xb b e1 e2 e3 e4 e5
set_option maxHeartbeats 4000000 in
set_option maxRecDepth 20000 in
theorem m_endB {B : Mem} {T : Int → Int} {n N j c d w kb m' v1 : Int} (hM : MK B T n N) (h7 : B 132 7 = j) (j0 : 0 ≤ j) (j1 : j ≤ N) (hc : B 138 412 = c) (c0 : 0 ≤ c) (c1 : c < 200) (h18 : B 132 18 = d) (d1 : 1 ≤ d) (d4 : d ≤ 4) (h142 : B 142 (d - 1) = kb) (h144 : B 144 (d - 1) = w) (w0 : 0 ≤ w) (w1 : w < c) (hm1 : kb = 3 → B 132 14 = m' ∧ v1 = 1) (hm2 : kb = 2 → B 143 (d - 1) = m' ∧ v1 = 2) (hm3 : kb = 1 → B 143 (d - 1) = m' ∧ v1 = 0) (hkb : kb = 1 ∨ kb = 2 ∨ kb = 3) :
    ∃ B4, fX12_readEnd B = some B4 ∧ B4 132 7 = j + 1 ∧ B4 132 14 = m' ∧ B4 132 18 = d - 1 ∧ (∀ k, k ≠ 7 → k ≠ 14 → k ≠ 18 → B4 132 k = B 132 k) ∧ B4 138 412 = c + 1 ∧ (∀ k, k ≠ 412 → B4 138 k = B 138 k) ∧ (∀ y, y < 12 * (210 + c) ∨ 12 * (210 + c) + 12 ≤ y → B4 139 y = if y = 12 * (210 + w) + 9 then c else B 139 y) ∧ (∀ k, 0 ≤ k → k < 12 → B4 139 (12 * (210 + c) + k) = if k = 7 then w else if k = 1 then v1 else if k = 11 then d - 1 else if k = 3 then pos T n j else if k = 0 then 4 else 0) ∧ ∀ b, b ≠ 132 → b ≠ 138 → b ≠ 139 → B4 b = B b := by
  have nN := hM.1.2.1
  have n1 := hM.2.1
  generalize hB0 : wr (wr B 132 18 (d - 1)) 132 14 m' = B0
  have b0b : ∀ b, b ≠ 132 → B0 b = B b := fun b e1 => by rw [← hB0, wr_ne e1, wr_ne e1]
  have b02 : ∀ k, B0 132 k = if k = 14 then m' else if k = 18 then d - 1 else B 132 k := fun k => by rw [← hB0, wr_at, wr_at]
  have hM0 : MK B0 T n N := MK_fr hM (b0b _ (by omega)) (b0b _ (by omega)) (b0b _ (by omega)) (b0b _ (by omega))
  obtain ⟨B1, g1, y1, y2, y3, y4, y5⟩ := m_newLine (what := 4) hM0 (show B0 132 7 = j by rw [b02, if_neg (by omega), if_neg (by omega)]; exact h7) j0 j1 (show B0 138 412 = c by rw [b0b 138 (by omega)]; exact hc) c0 c1
  have wd' : w32 (B 132 18 - 1) = d - 1 := by rw [h18, w32_id (by omega) (by omega)]
  have e1 : wr B 132 18 (d - 1) 132 18 = d - 1 := by rw [wr_at, if_pos rfl]
  have e2 : wr B 132 18 (d - 1) 142 (d - 1) = kb := by rw [wr_ne (by omega)]; exact h142
  have e3 : wr B 132 18 (d - 1) 143 (d - 1) = B 143 (d - 1) := by rw [wr_ne (by omega)]
  have e4 : wr B 132 18 (d - 1) 132 14 = B 132 14 := by rw [wr_at, if_neg (by omega)]
  have f18 : B1 132 18 = d - 1 := by rw [y5 132 (by omega) (by omega), b02, if_neg (by omega), if_pos rfl]
  have f144 : B1 144 (d - 1) = w := by rw [y5 144 (by omega) (by omega), b0b 144 (by omega)]; exact h144
  have f142 : B1 142 (d - 1) = kb := by rw [y5 142 (by omega) (by omega), b0b 142 (by omega)]; exact h142
  have i18 : wr B1 139 (12 * (210 + c) + 1) v1 132 18 = d - 1 := by rw [wr_ne (by omega)]; exact f18
  have i144 : wr B1 139 (12 * (210 + c) + 1) v1 144 (d - 1) = w := by rw [wr_ne (by omega)]; exact f144
  have i7 : wr (wr (wr B1 139 (12 * (210 + c) + 1) v1) 139 (12 * (210 + c) + 7) w) 139 (12 * (210 + w) + 9) c 132 7 = j := by rw [wr_ne (by omega), wr_ne (by omega), wr_ne (by omega), y5 132 (by omega) (by omega), b02, if_neg (by omega), if_neg (by omega)]; exact h7
  have run : fX12_readEnd B = some (wr (wr (wr (wr B1 139 (12 * (210 + c) + 1) v1) 139 (12 * (210 + c) + 7) w) 139 (12 * (210 + w) + 9) c) 132 7 (j + 1)) := by
    unfold fX12_readEnd
    rw [if_neg (show ¬ B 132 18 = 0 by omega), pI_ok, ob, wd', e1, ld142 _ _ (by omega) (by omega), ob, e2]
    by_cases h3 : kb = 3
    · obtain ⟨q1, q2⟩ := hm1 h3
      subst q2
      rw [if_pos h3, ob, if_neg (show ¬ (1 : Int) = 0 by decide), ob, e4, q1, pI_ok, ob, hB0, g1, ob]
      dsimp only
      rw [f18, ld144 _ _ (by omega) (by omega), ob, ob, f144, if_neg (show ¬ (1 : Int) = 0 by decide), ob, w32_id (show -2147483648 ≤ 12 * (210 + c) + 1 by omega) (by omega), st139 _ _ _ (by omega) (by omega), ob, i18, ld144 _ _ (by omega) (by omega), ob, i144, w32_id (show -2147483648 ≤ 12 * (210 + c) + 7 by omega) (by omega), st139 _ _ _ (by omega) (by omega), ob, w32_id (show -2147483648 ≤ 210 + w by omega) (by omega), w32_id (show -2147483648 ≤ 12 * (210 + w) by omega) (by omega), w32_id (show -2147483648 ≤ 12 * (210 + w) + 9 by omega) (by omega), idv12 (by omega) (by omega), w32_id (show -2147483648 ≤ 210 + c - 210 by omega) (by omega), show 210 + c - 210 = c by omega, st139 _ _ _ (by omega) (by omega), ob, pI_ok, ob, i7, w32_id (show -2147483648 ≤ j + 1 by omega) (by omega)]
    · have q1 : B 143 (d - 1) = m' := by
        rcases hkb with z | z | z
        · exact (hm3 z).1
        · exact (hm2 z).1
        · exact absurd z h3
      have e11 : ((if kb = 2 then some 2 else some 0 : Option Int)) = some v1 := by
        rcases hkb with z | z | z
        · rw [if_neg (by omega), (hm3 z).2]
        · rw [if_pos z, (hm2 z).2]
        · exact absurd z h3
      rw [if_neg h3, ob, if_pos rfl, ld143 _ _ (by omega) (by omega), ob, ob, e3, q1, pI_ok, ob, hB0, g1, ob]
      dsimp only
      rw [f18, ld144 _ _ (by omega) (by omega), ob, ob, f144, if_pos rfl, ld142 _ _ (by omega) (by omega), ob, f142, e11, ob, w32_id (show -2147483648 ≤ 12 * (210 + c) + 1 by omega) (by omega), st139 _ _ _ (by omega) (by omega), ob, i18, ld144 _ _ (by omega) (by omega), ob, i144, w32_id (show -2147483648 ≤ 12 * (210 + c) + 7 by omega) (by omega), st139 _ _ _ (by omega) (by omega), ob, w32_id (show -2147483648 ≤ 210 + w by omega) (by omega), w32_id (show -2147483648 ≤ 12 * (210 + w) by omega) (by omega), w32_id (show -2147483648 ≤ 12 * (210 + w) + 9 by omega) (by omega), idv12 (by omega) (by omega), w32_id (show -2147483648 ≤ 210 + c - 210 by omega) (by omega), show 210 + c - 210 = c by omega, st139 _ _ _ (by omega) (by omega), ob, pI_ok, ob, i7, w32_id (show -2147483648 ≤ j + 1 by omega) (by omega)]
  refine ⟨_, run, ?_, ?_, ?_, fun k k7 k14 k18 => ?_, ?_, fun k hk => ?_, fun y hy => ?_, fun k k0 k1 => ?_, fun b e1 e2 e3 => ?_⟩
  · rw [wr_at, if_pos rfl]
  · rw [wr_at, if_neg (by omega), wr_ne (by omega), wr_ne (by omega), wr_ne (by omega), y5 132 (by omega) (by omega), b02, if_pos rfl]
  · rw [wr_at, if_neg (by omega), wr_ne (by omega), wr_ne (by omega), wr_ne (by omega)]; exact f18
  · rw [wr_at, if_neg k7, wr_ne (by omega), wr_ne (by omega), wr_ne (by omega), y5 132 (by omega) (by omega), b02, if_neg k14, if_neg k18]
  · rw [wr_ne (by omega), wr_ne (by omega), wr_ne (by omega), wr_ne (by omega)]; exact y1
  · rw [wr_ne (by omega), wr_ne (by omega), wr_ne (by omega), wr_ne (by omega), y2 k hk, b0b 138 (by omega)]
  · rw [wr_ne (by omega), wr_at, wr_at, wr_at, if_neg (show ¬ y = 12 * (210 + c) + 7 by omega), if_neg (show ¬ y = 12 * (210 + c) + 1 by omega), y3 y hy, b0b 139 (by omega)]
  · rw [wr_ne (by omega), wr_at, wr_at, wr_at, if_neg (show ¬ 12 * (210 + c) + k = 12 * (210 + w) + 9 by omega), y4 k k0 k1, b02, if_neg (show ¬ (18 : Int) = 14 by decide), if_pos (show (18 : Int) = 18 from rfl)]
    by_cases z7 : k = 7
    · rw [if_pos (by omega), if_pos z7]
    · rw [if_neg (by omega), if_neg z7]
      by_cases z1 : k = 1
      · rw [if_pos (by omega), if_pos z1]
      · rw [if_neg (by omega), if_neg z1]
  · rw [wr_ne e1, wr_ne e3, wr_ne e3, wr_ne e3, y5 b e2 e3, b0b b e1]
