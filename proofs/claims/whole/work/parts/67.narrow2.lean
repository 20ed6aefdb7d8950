set_option maxHeartbeats 4000000 in
set_option maxRecDepth 20000 in
theorem q_narrow {M : Mem} {t : Nat} {n nI nS : Int} {D : Mem} (h : InvQ M t n nI nS) (c : Cch M t n nS D) (p lo hi : Int) : ∃ x M1 M2, fX11_narrow p lo hi M = some (x, M1) ∧ fX12_narrow p lo hi M1 = some (x, M2) ∧ (M2 = wr M 132 0 0 ∨ (InvQ M2 t n nI nS ∧ (∃ D', Cch M2 t n nS D') ∧ M2 0 15 = -2 ∧ (∀ b, ¬ scr b → ¬ pln b → b ≠ 52 → b ≠ 53 → b ≠ 150 → M2 b = M b) ∧ (∀ k, k ≠ 15 → M2 0 k = M 0 k) ∧ M2 132 2 = M 132 2)) := by
  obtain ⟨a1, a2, a3, a4, a5, a6, a7, a8, a9, a10, a11, a12, a13, a14, a15, a16, a17, a18, a19, a20⟩ := id h
  have n6 := a4.2.2.2.1
  have i1 : wr M 132 0 0 138 1 = nI := by simp (disch := omega) only [wr_ne]; exact a10.2
  have z0 : ∀ m : Mem, lp (fX12_narrow_b1 p lo hi) (0, 0, m) = some (0, m) := fun m => lp_out (by unfold fX12_narrow_b1; rfl)
  by_cases hp : 0 ≤ p ∧ p < nI
  · obtain ⟨b1, b2, b3, b4, b5⟩ := a11 p hp.1 hp.2
    by_cases hr : 0 ≤ lo ∧ lo ≤ hi ∧ hi ≤ 999
    · have eq54 : (∀ l, 0 ≤ l → l < 4 → lo ≤ M 54 (4 * p + l) ∧ M 54 (4 * p + l) ≤ hi) ↔ (∀ l, 0 ≤ l → l < 4 → lo ≤ M 151 (4 * p + l) ∧ M 151 (4 * p + l) ≤ hi) := by
        constructor
        · intro z l l0 l1; rw [(b5 l l0 l1).1]; exact z l l0 l1
        · intro z l l0 l1; rw [← (b5 l l0 l1).1]; exact z l l0 l1
      by_cases hall : ∀ l, 0 ≤ l → l < 4 → lo ≤ M 54 (4 * p + l) ∧ M 54 (4 * p + l) ≤ hi
      · generalize hW : wr (wr M 52 p lo) 53 p hi = W
        have wne : ∀ b, b ≠ 52 → b ≠ 53 → W b = M b := fun b c1 c2 => by rw [← hW]; simp (disch := omega) only [wr_ne]
        have w52 : ∀ i, W 52 i = if i = p then lo else M 52 i := fun i => by rw [← hW]; simp (disch := omega) only [wr_ne, wr_at]
        have w53 : ∀ i, W 53 i = if i = p then hi else M 53 i := fun i => by rw [← hW]; simp (disch := omega) only [wr_ne, wr_at]
        have i9 : In9 nI (W 52) (W 53) := fun i x y => by
          rw [w52, w53]
          by_cases e : i = p
          · rw [if_pos e, if_pos e]; exact hr
          · rw [if_neg e, if_neg e]; exact a9 i x y
        obtain ⟨r, D', f, fr, f0, f15, c'⟩ := c_refresh (M := W) (t := t) (n := n) (nI := nI) (nS := nS) a1 (by rw [wne 0 (by omega) (by omega)]; exact a2) (by rw [wne 44 (by omega) (by omega)]; exact a3) (by rw [wne 45 (by omega) (by omega), wne 46 (by omega) (by omega), wne 47 (by omega) (by omega)]; exact a4) i9 (by rw [wne 44 (by omega) (by omega)]; exact a6) (by rw [wne 49 (by omega) (by omega)]; exact a8) (fun v x y => by rw [wne 48 (by omega) (by omega)]; exact U_01 h x y) (by rw [wne t (by omega) (by omega)]; exact a14.2) (by rw [wne t (by omega) (by omega)]; exact a15.2)
        generalize hM2 : wr (wr (wr r 132 0 0) 150 (2 * p) lo) 150 (2 * p + 1) hi = M2
        have m2ne : ∀ b, b ≠ 132 → b ≠ 150 → M2 b = r b := fun b c1 c2 => by rw [← hM2]; simp (disch := omega) only [wr_ne]
        have m132 : ∀ k, k ≠ 0 → M2 132 k = M 132 k := fun k hk => by
          rw [← hM2]; simp (disch := omega) only [wr_ne, wr_at, if_neg]; rw [fr 132 (by omega) (by omega), wne 132 (by omega) (by omega)]
        have m150 : ∀ k, M2 150 k = if k = 2 * p + 1 then hi else if k = 2 * p then lo else M 150 k := fun k => by
          rw [← hM2]; simp (disch := omega) only [wr_ne, wr_at]; rw [fr 150 (by omega) (by omega), wne 150 (by omega) (by omega)]
        have m2M : ∀ b, b ≠ 132 → b ≠ 150 → b ≠ 0 → b ≠ 52 → b ≠ 53 → b < 63 ∨ 87 < b → M2 b = M b := fun b c1 c2 c0 c3 c4 hb => by rw [m2ne b c1 c2, fr b c0 hb, wne b c3 c4]
        have m20 : ∀ k, k ≠ 15 → M2 0 k = M 0 k := fun k hk => by rw [m2ne 0 (by omega) (by omega), f0 k hk, wne 0 (by omega) (by omega)]
        have m52 : M2 52 = W 52 := by rw [m2ne 52 (by omega) (by omega), fr 52 (by omega) (by omega)]
        have m53 : M2 53 = W 53 := by rw [m2ne 53 (by omega) (by omega), fr 53 (by omega) (by omega)]
        refine ⟨1, r, M2, ?_, ?_, Or.inr ⟨?_, ⟨D', ?_⟩, by rw [m2ne 0 (by omega) (by omega)]; exact f15, fun b hb hP c1 c2 c3 => m2M b (by unfold scr at hb; omega) c3 (by unfold pln at hP; omega) c1 c2 (by unfold pln at hP; omega), m20, m132 2 (by omega)⟩⟩
        · unfold fX11_narrow
          rw [s_X11_isInput a1 a2, ob, a10.1, if_pos hp, if_neg (show ¬ (1 : Int) = 0 by decide), s_X11_isRange, ob, if_pos hr, if_neg (show ¬ (1 : Int) = 0 by decide)]
          dsimp only
          rw [(s_X0_liesWithin hp.1 (by omega)).1 hall, ob, if_neg (show ¬ (1 : Int) = 0 by decide)]
          dsimp only
          rw [st52 _ _ _ hp.1 (by omega), ob, st53 _ _ _ hp.1 (by omega), ob, hW, f, ob]
          rfl
        · unfold fX12_narrow
          have i2 : wr r 132 0 0 138 1 = nI := by simp (disch := omega) only [wr_ne]; rw [fr 138 (by omega) (by omega), wne 138 (by omega) (by omega)]; exact a10.2
          have i3 : wr r 132 0 0 151 = M 151 := by simp (disch := omega) only [wr_ne]; rw [fr 151 (by omega) (by omega), wne 151 (by omega) (by omega)]
          rw [pI_ok, ob, s_X12_isInput, ob, i2, if_pos hp, if_neg (show ¬ (1 : Int) = 0 by decide), s_X12_isRange, ob, if_pos hr, if_neg (show ¬ (1 : Int) = 0 by decide), ob]
          dsimp only
          rw [(s_X12_nw_b1 (M := wr r 132 0 0) hp.1 (by omega)).1 (by rw [i3]; exact eq54.mp hall), ob, if_neg (show ¬ (1 : Int) = 0 by decide)]
          dsimp only
          rw [w32_id (show -2147483648 ≤ 2 * p by omega) (by omega), w32_id (show -2147483648 ≤ 2 * p + 1 by omega) (by omega), st150 _ _ _ (by omega) (by omega), ob, st150 _ _ _ (by omega) (by omega), ob, ob, hM2]
          rfl
        · unfold InvQ MV MS
          rw [m52, m53, m2M 1 (by omega) (by omega) (by omega) (by omega) (by omega) (by omega), m2M 44 (by omega) (by omega) (by omega) (by omega) (by omega) (by omega), m2M 45 (by omega) (by omega) (by omega) (by omega) (by omega) (by omega), m2M 46 (by omega) (by omega) (by omega) (by omega) (by omega) (by omega), m2M 47 (by omega) (by omega) (by omega) (by omega) (by omega) (by omega), m2M 48 (by omega) (by omega) (by omega) (by omega) (by omega) (by omega), m2M 49 (by omega) (by omega) (by omega) (by omega) (by omega) (by omega), m2M 50 (by omega) (by omega) (by omega) (by omega) (by omega) (by omega), m2M 54 (by omega) (by omega) (by omega) (by omega) (by omega) (by omega), m2M 55 (by omega) (by omega) (by omega) (by omega) (by omega) (by omega), m2M 138 (by omega) (by omega) (by omega) (by omega) (by omega) (by omega), m2M 151 (by omega) (by omega) (by omega) (by omega) (by omega) (by omega), m2M 152 (by omega) (by omega) (by omega) (by omega) (by omega) (by omega), m2M t (by omega) (by omega) (by omega) (by omega) (by omega) (by omega), m2M (t + 10) (by omega) (by omega) (by omega) (by omega) (by omega) (by omega), m20 13 (by omega), m20 14 (by omega), m132 2 (by omega), m132 28 (by omega)]
          refine ⟨a1, a2, a3, a4, a5, a6, a7, a8, i9, a10, fun i x y => ?_, a12, a13, a14, a15, a16, a17, a18, a19, a20⟩
          obtain ⟨c1, c2, c3, c4, c5⟩ := a11 i x y
          refine ⟨?_, ?_, c3, c4, c5⟩
          · rw [m150, w52]
            by_cases e : i = p
            · rw [if_neg (by omega), if_pos (by omega), if_pos e]
            · rw [if_neg (by omega), if_neg (by omega), if_neg e]; exact c1
          · rw [m150, w53]
            by_cases e : i = p
            · rw [if_pos (by omega), if_pos e]
            · rw [if_neg (by omega), if_neg (by omega), if_neg e]; exact c2
        · have e : ∀ b : Nat, b < 22 ∨ (44 ≤ b ∧ b ≤ 55) ∨ (62 ≤ b ∧ b ≤ 87) ∨ (119 ≤ b ∧ b ≤ 131) → M2 b = r b := fun b hb => m2ne b (by omega) (by omega)
          unfold Cch CV CX Sch CL CC at c' ⊢
          simp only [Nat.reduceAdd] at c' ⊢
          rw [e 0 (by omega), e 44 (by omega), e 45 (by omega), e 46 (by omega), e 47 (by omega), e 48 (by omega), e 49 (by omega), e 52 (by omega), e 53 (by omega), e t (by omega)]
          rw [e 63 (by omega), e 64 (by omega), e 65 (by omega), e 66 (by omega), e 67 (by omega), e 68 (by omega), e 69 (by omega), e 70 (by omega), e 71 (by omega), e 72 (by omega), e 73 (by omega), e 74 (by omega), e 75 (by omega), e 76 (by omega), e 77 (by omega), e 78 (by omega), e 79 (by omega), e 80 (by omega), e 81 (by omega), e 83 (by omega), e 84 (by omega), e 85 (by omega), e 86 (by omega), e 87 (by omega)]
          exact c'
      · refine ⟨0, M, wr M 132 0 0, ?_, ?_, Or.inl rfl⟩
        · unfold fX11_narrow
          rw [s_X11_isInput a1 a2, ob, a10.1, if_pos hp, if_neg (show ¬ (1 : Int) = 0 by decide), s_X11_isRange, ob, if_pos hr, if_neg (show ¬ (1 : Int) = 0 by decide)]
          dsimp only
          rw [(s_X0_liesWithin hp.1 (by omega)).2 hall, ob, if_pos rfl]
          rfl
        · unfold fX12_narrow
          have i3 : wr M 132 0 0 151 = M 151 := by simp (disch := omega) only [wr_ne]
          rw [pI_ok, ob, s_X12_isInput, ob, i1, if_pos hp, if_neg (show ¬ (1 : Int) = 0 by decide), s_X12_isRange, ob, if_pos hr, if_neg (show ¬ (1 : Int) = 0 by decide), ob]
          dsimp only
          rw [(s_X12_nw_b1 (M := wr M 132 0 0) hp.1 (by omega)).2 (by rw [i3]; exact fun z => hall (eq54.mpr z)), ob, if_pos rfl, ob]
          rfl
    · refine ⟨0, M, wr M 132 0 0, ?_, ?_, Or.inl rfl⟩
      · unfold fX11_narrow
        rw [s_X11_isInput a1 a2, ob, a10.1, if_pos hp, if_neg (show ¬ (1 : Int) = 0 by decide), s_X11_isRange, ob, if_neg hr, if_pos rfl]
        rfl
      · unfold fX12_narrow
        rw [pI_ok, ob, s_X12_isInput, ob, i1, if_pos hp, if_neg (show ¬ (1 : Int) = 0 by decide), s_X12_isRange, ob, if_neg hr, if_pos rfl, ob]
        dsimp only
        rw [z0, ob, if_pos rfl, ob]
        rfl
  · refine ⟨0, M, wr M 132 0 0, ?_, ?_, Or.inl rfl⟩
    · unfold fX11_narrow
      rw [s_X11_isInput a1 a2, ob, a10.1, if_neg hp, if_pos rfl]
      rfl
    · unfold fX12_narrow
      rw [pI_ok, ob, s_X12_isInput, ob, i1, if_neg hp, if_pos rfl, ob]
      dsimp only
      rw [z0, ob, if_pos rfl, ob]
      rfl
