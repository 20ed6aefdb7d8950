set_option maxHeartbeats 4000000 in
set_option maxRecDepth 20000 in
theorem q_set {M : Mem} {t : Nat} {n nI nS : Int} (h : InvQ M t n nI nS) (p l w : Int) : ∃ x M1 M2, fX11_set p l w M = some (x, M1) ∧ fX12_set p l w M1 = some (x, M2) ∧ InvQ M2 t n nI nS ∧ KpX (fun b => b = 54 ∨ b = 151) M M2 := by
  obtain ⟨a1, a2, a3, a4, a5, a6, a7, a8, a9, a10, a11, a12, a13, a14, a15, a16, a17, a18, a19, a20⟩ := id h
  have n6 := a4.2.2.2.1
  have bad : fX11_set p l w M = some (-1, M) → fX12_set p l w M = some (-1, wr M 132 0 0) → ∃ x M1 M2, fX11_set p l w M = some (x, M1) ∧ fX12_set p l w M1 = some (x, M2) ∧ InvQ M2 t n nI nS ∧ KpX (fun b => b = 54 ∨ b = 151) M M2 := fun e1 e2 => ⟨-1, M, wr M 132 0 0, e1, e2, InvQ_fr h (Kp_th M 0), fun b hb _ => (Kp_th M 0).1 b hb, (Kp_th M 0).2⟩
  have i1 : wr M 132 0 0 138 1 = nI := by simp (disch := omega) only [wr_ne]; exact a10.2
  by_cases hp : 0 ≤ p ∧ p < nI
  · obtain ⟨b1, b2, b3, b4, b5⟩ := a11 p hp.1 hp.2
    have r9 := a9 p hp.1 hp.2
    by_cases hl : 0 ≤ l ∧ l ≤ 3
    · have l4 := b5 l hl.1 (by omega)
      by_cases hw : M 52 p ≤ w ∧ w ≤ M 53 p
      · obtain ⟨r, f, fr, rb⟩ := s_X11_set_b1 (M := M) (p := p) (l := l) (x := w) a1 a2 hp.1 (by omega) b4
        have e138 : r 138 = M 138 := fr 138 (by omega)
        have e150 : r 150 = M 150 := fr 150 (by omega)
        have e151 : r 151 = M 151 := fr 151 (by omega)
        obtain ⟨s, g, gr, sb⟩ := s_X12_set_b1 (M := wr r 132 0 0) (p := p) (l := l) (x := w) hp.1 (by omega)
        have w138 : wr r 132 0 0 138 = M 138 := by simp (disch := omega) only [wr_ne]; exact e138
        have w150 : wr r 132 0 0 150 = M 150 := by simp (disch := omega) only [wr_ne]; exact e150
        have w151 : wr r 132 0 0 151 = M 151 := by simp (disch := omega) only [wr_ne]; exact e151
        rw [w138, w151] at sb
        have sne : ∀ b, b ≠ 54 → b ≠ 132 → b ≠ 151 → s b = M b := fun b c1 c2 c3 => by
          rw [gr b c3]; simp (disch := omega) only [wr_ne]; exact fr b c1
        have s132 : ∀ k, k ≠ 0 → s 132 k = M 132 k := fun k hk => by
          rw [gr 132 (by omega)]; simp (disch := omega) only [wr_at, if_neg]; rw [fr 132 (by omega)]
        have s54 : ∀ j, s 54 j = if (4 * p ≤ j ∧ j < 4 * p + 4) ∧ (j = 4 * p + l ∨ M (t + 10) p = 1) then w else M 54 j := fun j => by
          rw [gr 54 (by omega)]; simp (disch := omega) only [wr_ne]; exact rb j
        refine ⟨M 54 (4 * p + l), r, s, ?_, ?_, ?_, fun b hb hP => sne b (by omega) (by unfold scr at hb; omega) (by omega), s132 2 (by omega), s132 28 (by omega)⟩
        · unfold fX11_set
          rw [s_X11_isInput a1 a2, ob, a10.1, if_pos hp, if_neg (show ¬ (1 : Int) = 0 by decide), s_X11_isLane, ob, if_pos hl, if_neg (show ¬ (1 : Int) = 0 by decide)]
          dsimp only
          rw [ld52 _ _ hp.1 (by omega), ob, if_neg (show ¬ w < M 52 p by omega), ld53 _ _ hp.1 (by omega), ob, if_pos hw.2, w32_id (show -2147483648 ≤ 4 * p by omega) (by omega), w32_id (show -2147483648 ≤ 4 * p + l by omega) (by omega), ld54 _ _ (by omega) (by omega), ob, f, ob]
        · unfold fX12_set
          have i2 : wr r 132 0 0 138 1 = nI := by rw [w138]; exact a10.2
          rw [pI_ok, ob, s_X12_isInput, ob, i2, if_pos hp, if_neg (show ¬ (1 : Int) = 0 by decide), s_X12_isLane, ob, if_pos hl, if_neg (show ¬ (1 : Int) = 0 by decide)]
          dsimp only
          rw [w32_id (show -2147483648 ≤ 2 * p by omega) (by omega), w32_id (show -2147483648 ≤ 2 * p + 1 by omega) (by omega), ld150 _ _ (by omega) (by omega), ob, ld150 _ _ (by omega) (by omega), ob, w150, b1, b2, s_X12_within, ob, if_pos hw, if_neg (show ¬ (1 : Int) = 0 by decide)]
          dsimp only
          rw [w32_id (show -2147483648 ≤ 4 * p by omega) (by omega), w32_id (show -2147483648 ≤ 4 * p + l by omega) (by omega), ld151 _ _ (by omega) (by omega), ob, w151, l4.1, g, ob]
        · unfold InvQ MV MS
          rw [sne 0 (by omega) (by omega) (by omega), sne 1 (by omega) (by omega) (by omega), sne 44 (by omega) (by omega) (by omega), sne 45 (by omega) (by omega) (by omega), sne 46 (by omega) (by omega) (by omega), sne 47 (by omega) (by omega) (by omega), sne 48 (by omega) (by omega) (by omega), sne 49 (by omega) (by omega) (by omega), sne 50 (by omega) (by omega) (by omega), sne 52 (by omega) (by omega) (by omega), sne 53 (by omega) (by omega) (by omega), sne 55 (by omega) (by omega) (by omega), sne 138 (by omega) (by omega) (by omega), sne 150 (by omega) (by omega) (by omega), sne 152 (by omega) (by omega) (by omega), sne t (by omega) (by omega) (by omega), sne (t + 10) (by omega) (by omega) (by omega), s132 2 (by omega), s132 28 (by omega)]
          refine ⟨a1, a2, a3, a4, a5, a6, a7, a8, a9, a10, fun i x y => ?_, a12, a13, a14, a15, a16, a17, a18, a19, a20⟩
          obtain ⟨c1, c2, c3, c4, c5⟩ := a11 i x y
          refine ⟨c1, c2, c3, c4, fun k k0 k1 => ?_⟩
          obtain ⟨z1, z2, z3⟩ := c5 k k0 k1
          rw [s54, sb, ← b3]
          by_cases e : (4 * p ≤ 4 * i + k ∧ 4 * i + k < 4 * p + 4) ∧ (4 * i + k = 4 * p + l ∨ M (t + 10) p = 1)
          · rw [if_pos e, if_pos e]; omega
          · rw [if_neg e, if_neg e]; exact ⟨z1, z2, z3⟩
      · apply bad
        · unfold fX11_set
          rw [s_X11_isInput a1 a2, ob, a10.1, if_pos hp, if_neg (show ¬ (1 : Int) = 0 by decide), s_X11_isLane, ob, if_pos hl, if_neg (show ¬ (1 : Int) = 0 by decide)]
          dsimp only
          rw [ld52 _ _ hp.1 (by omega), ob]
          by_cases e : w < M 52 p
          · rw [if_pos e]
          · rw [if_neg e, ld53 _ _ hp.1 (by omega), ob, if_neg (by omega)]
        · unfold fX12_set
          have w150 : wr M 132 0 0 150 = M 150 := by simp (disch := omega) only [wr_ne]
          rw [pI_ok, ob, s_X12_isInput, ob, i1, if_pos hp, if_neg (show ¬ (1 : Int) = 0 by decide), s_X12_isLane, ob, if_pos hl, if_neg (show ¬ (1 : Int) = 0 by decide)]
          dsimp only
          rw [w32_id (show -2147483648 ≤ 2 * p by omega) (by omega), w32_id (show -2147483648 ≤ 2 * p + 1 by omega) (by omega), ld150 _ _ (by omega) (by omega), ob, ld150 _ _ (by omega) (by omega), ob, w150, b1, b2, s_X12_within, ob, if_neg hw, if_pos rfl]
    · apply bad
      · unfold fX11_set
        rw [s_X11_isInput a1 a2, ob, a10.1, if_pos hp, if_neg (show ¬ (1 : Int) = 0 by decide), s_X11_isLane, ob, if_neg hl, if_pos rfl]
      · unfold fX12_set
        rw [pI_ok, ob, s_X12_isInput, ob, i1, if_pos hp, if_neg (show ¬ (1 : Int) = 0 by decide), s_X12_isLane, ob, if_neg hl, if_pos rfl]
  · apply bad
    · unfold fX11_set
      rw [s_X11_isInput a1 a2, ob, a10.1, if_neg hp, if_pos rfl]
    · unfold fX12_set
      rw [pI_ok, ob, s_X12_isInput, ob, i1, if_neg hp, if_pos rfl]
