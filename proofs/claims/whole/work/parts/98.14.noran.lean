/-! where nothing is run; where it is -/
theorem q_noran {M : Mem} {t : Nat} {n nI nS lane wt : Int} (h : InvQ M t n nI nS) (hl : ¬ ((0 ≤ lane ∧ lane < 4) ∧ 0 ≤ wt ∧ wt < nS)) : fX12_ran lane wt M = some (0, wr M 132 0 1) ∧ Kp M (wr M 132 0 1) := by
  have a7 := h.2.2.2.2.2.2.1.1
  refine ⟨?_, Kp_0⟩
  have e00 : ¬ wr M 132 0 1 132 0 ≤ 0 := by rw [wr_at, if_pos rfl]; decide
  have es : fX12_isShown lane wt M = some (0, M) := by rw [s_X12_isShown, if_neg (by omega)]
  unfold fX12_ran
  rw [es, ob]
  dsimp only
  rw [if_pos rfl, ob, pI_ok, ob, if_neg e00]
