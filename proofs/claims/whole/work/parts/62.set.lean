/-! WHAT IS SET -/
def KpX (P : Nat → Prop) (M M' : Mem) : Prop := (∀ b, ¬ scr b → ¬ P b → M' b = M b) ∧ M' 132 2 = M 132 2 ∧ M' 132 28 = M 132 28
set_option maxHeartbeats 4000000 in
set_option maxRecDepth 20000 in
theorem q_cell {M : Mem} {t : Nat} {n nI nS : Int} (h : InvQ M t n nI nS) (p w : Int) : ∃ x M1 M2, fX11_cell p w M = some (x, M1) ∧ fX12_cell p w M1 = some (x, M2) ∧ InvQ M2 t n nI nS ∧ KpX (fun b => b = 55 ∨ b = 152) M M2 := by
  obtain ⟨a1, a2, a3, a4, a5, a6, a7, a8, a9, a10, a11, a12, a13, a14, a15, a16, a17, a18, a19, a20⟩ := id h
  have bad : fX11_cell p w M = some (-1, M) → fX12_cell p w M = some (-1, wr M 132 0 0) → ∃ x M1 M2, fX11_cell p w M = some (x, M1) ∧ fX12_cell p w M1 = some (x, M2) ∧ InvQ M2 t n nI nS ∧ KpX (fun b => b = 55 ∨ b = 152) M M2 := fun e1 e2 => ⟨-1, M, wr M 132 0 0, e1, e2, InvQ_fr h (Kp_th M 0), fun b hb _ => (Kp_th M 0).1 b hb, (Kp_th M 0).2⟩
  by_cases hp : 0 ≤ p ∧ p ≤ 15
  · by_cases hw : 0 ≤ w ∧ w ≤ 999
    · have e1 : ¬ p < 0 := by omega
      have e2 : ¬ 16 ≤ p := by omega
      have e3 : ¬ w < 0 := by omega
      generalize hM2 : wr (wr (wr M 55 p w) 132 0 0) 152 p w = M2
      have m2ne : ∀ b, b ≠ 55 → b ≠ 132 → b ≠ 152 → M2 b = M b := fun b b1 b2 b3 => by rw [← hM2]; simp (disch := omega) only [wr_ne]
      have m132 : ∀ k, k ≠ 0 → M2 132 k = M 132 k := fun k hk => by rw [← hM2]; simp (disch := omega) only [wr_ne, wr_at, if_neg]
      have m55 : ∀ k, M2 55 k = if k = p then w else M 55 k := fun k => by rw [← hM2]; simp (disch := omega) only [wr_ne, wr_at]
      have m152 : ∀ k, M2 152 k = if k = p then w else M 152 k := fun k => by rw [← hM2]; simp (disch := omega) only [wr_ne, wr_at]
      refine ⟨M 55 p, wr M 55 p w, M2, ?_, ?_, ?_, fun b hb hP => m2ne b (by omega) (by unfold scr at hb; omega) (by omega), m132 2 (by omega), m132 28 (by omega)⟩
      · unfold fX11_cell
        rw [if_neg e1, if_neg e2, if_neg e3, if_pos hw.2, ld55 _ _ hp.1 (by omega), ob, st55 _ _ _ hp.1 (by omega), ob]
      · unfold fX12_cell
        rw [pI_ok, ob, s_X12_within, ob, if_pos hp, if_neg (show ¬ (1 : Int) = 0 by decide), s_X12_within, ob, if_pos hw, if_neg (show ¬ (1 : Int) = 0 by decide)]
        dsimp only
        rw [ld152 _ _ hp.1 (by omega), ob, st152 _ _ _ hp.1 (by omega), ob, hM2]
        simp (disch := omega) only [wr_ne]
        rw [(a20 p hp.1 (by omega)).1]
      · unfold InvQ MV MS
        rw [m2ne 0 (by omega) (by omega) (by omega), m2ne 1 (by omega) (by omega) (by omega), m2ne 44 (by omega) (by omega) (by omega), m2ne 45 (by omega) (by omega) (by omega), m2ne 46 (by omega) (by omega) (by omega), m2ne 47 (by omega) (by omega) (by omega), m2ne 48 (by omega) (by omega) (by omega), m2ne 49 (by omega) (by omega) (by omega), m2ne 50 (by omega) (by omega) (by omega), m2ne 52 (by omega) (by omega) (by omega), m2ne 53 (by omega) (by omega) (by omega), m2ne 54 (by omega) (by omega) (by omega), m2ne 138 (by omega) (by omega) (by omega), m2ne 150 (by omega) (by omega) (by omega), m2ne 151 (by omega) (by omega) (by omega), m2ne t (by omega) (by omega) (by omega), m2ne (t + 10) (by omega) (by omega) (by omega), m132 2 (by omega), m132 28 (by omega)]
        refine ⟨a1, a2, a3, a4, a5, a6, a7, a8, a9, a10, a11, a12, a13, a14, a15, a16, a17, a18, a19, fun i x y => ?_⟩
        rw [m55, m152]
        by_cases e : i = p
        · rw [if_pos e, if_pos e]; exact ⟨rfl, hw⟩
        · rw [if_neg e, if_neg e]; exact a20 i x y
    · apply bad
      · unfold fX11_cell
        rw [if_neg (by omega), if_neg (by omega)]
        by_cases e : w < 0
        · rw [if_pos e]
        · rw [if_neg e, if_neg (by omega)]
      · unfold fX12_cell
        rw [pI_ok, ob, s_X12_within, ob, if_pos hp, if_neg (show ¬ (1 : Int) = 0 by decide), s_X12_within, ob, if_neg hw, if_pos rfl]
  · apply bad
    · unfold fX11_cell
      by_cases e : p < 0
      · rw [if_pos e]
      · rw [if_neg e, if_pos (by omega)]
    · unfold fX12_cell
      rw [pI_ok, ob, s_X12_within, ob, if_neg hp, if_pos rfl]
