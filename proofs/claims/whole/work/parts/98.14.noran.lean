/-! where nothing is run; where it is -/
theorem q_noran {M : Mem} {t : Nat} {n nI nS lane wt : Int} (h : InvQ M t n nI nS) (hl : ¬ ((0 ≤ lane ∧ lane < 4) ∧ 0 ≤ wt ∧ wt < nS)) : fX12_ran lane wt M = some (0, wr M 132 0 1) ∧ Kp M (wr M 132 0 1) := by
  have a7 := h.2.2.2.2.2.2.1.1
  refine ⟨?_, Kp_0⟩
  have e00 : ¬ wr M 132 0 1 132 0 ≤ 0 := by rw [wr_at, if_pos rfl]; decide
  have es : fX12_isShown lane wt M = some (0, M) := by rw [s_X12_isShown, if_neg (by omega)]
  unfold fX12_ran
  rw [es, ob]
  dsimp only
  rw [if_pos rfl, ob, pI_ok, ob, if_neg e00]
theorem Inv_out {M : Mem} {z : Int} : Kp M (wr M 173 0 z) := ⟨fun b hb => wr_ne (fun e => hb (by unfold scr; omega)), by rw [wr_ne (by omega)], by rw [wr_ne (by omega)]⟩
theorem Kp_tr {A B C : Mem} (h : Kp A B) (k : Kp B C) : Kp A C := ⟨fun b hb => (k.1 b hb).trans (h.1 b hb), k.2.1.trans h.2.1, k.2.2.trans h.2.2⟩
theorem i_walk {M : Mem} {t : Nat} {lane wt : Int} (hI : Inv M) (ht : M 0 13 = t) (hl : 0 ≤ lane ∧ lane < 4) (w0 : 0 ≤ wt) (w1 : wt < M 44 5) : ∃ x M1, fX4_walk t lane wt M = some (x, M1) ∧ Inv M1 ∧ ∀ z : Int, ∃ M2, fX12_walked lane wt (wr M1 173 0 z) = some (x, M2) ∧ M2 132 0 = 0 ∧ Inv M2 := by
  obtain ⟨t', n, nI, nS, D, h1, h2, h3, h4, h5⟩ := id hI
  obtain ⟨-, -, -, G, c, hw⟩ := h5
  have et : t' = t := by have := h1.2.1; rw [ht] at this; omega
  subst et
  obtain ⟨x, M1, e1, k1, r⟩ := q_walk h1 hw hl w0 (by rw [← h1.2.2.2.2.2.1]; exact w1)
  refine ⟨x, M1, e1, Inv_kp hI k1, fun z => ?_⟩
  obtain ⟨M2, e2, e3, k2⟩ := r z
  exact ⟨M2, e2, e3, Inv_kp hI k2⟩
theorem i_nowalk {M : Mem} {lane wt : Int} (hI : Inv M) (hl : ¬ ((0 ≤ lane ∧ lane < 4) ∧ 0 ≤ wt ∧ wt < M 44 5)) : fX12_walked lane wt M = some (0, wr M 132 0 1) ∧ fX12_ran lane wt M = some (0, wr M 132 0 1) ∧ Inv (wr M 132 0 1) := by
  obtain ⟨t, n, nI, nS, D, h1, h2, h3, h4, h5⟩ := id hI
  rw [h1.2.2.2.2.2.1] at hl
  exact ⟨(q_nowalk h1 hl).1, (q_noran h1 hl).1, Inv_kp hI (q_noran h1 hl).2⟩
theorem i_ran {M : Mem} {lane i : Int} (hI : Inv M) (hl : 0 ≤ lane ∧ lane < 4) (i0 : 0 ≤ i) (i1 : i < M 44 5) : ∃ x r, fX4_run lane M = some r ∧ fX4_heldFor (M 49 i) r = some (x, r) ∧ Kp M r ∧ Inv r ∧ ∀ z : Int, ∃ M2, fX12_ran lane i (wr r 173 0 z) = some (x, M2) ∧ M2 132 0 = 0 ∧ Inv M2 := by
  obtain ⟨t, n, nI, nS, D, h1, h2, h3, h4, h5⟩ := id hI
  have hV := h1.2.2.2.1
  have hS := h2.1.2.2.2.2.1.1
  have hR := rn_ex (num := fun i => M 54 (4 * i + lane)) (cell := M 55) (D := D) hV (fun v a b => (hS v a b).2)
  rw [h1.2.2.2.2.2.1] at i1
  obtain ⟨r, e1, k1, e2⟩ := c_ran h1 h2 hl i0 i1 hR
  refine ⟨_, r, e1, e2, k1, Inv_kp hI k1, fun z => ?_⟩
  obtain ⟨M2, e3, k2, e4⟩ := m_ran h1 h2 (Kp_tr k1 (Inv_out (z := z))) hl i0 i1 hR
  exact ⟨M2, e3, e4, Inv_kp hI k2⟩
