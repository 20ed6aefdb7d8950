theorem s_X12_numberOf0 {M : Mem} {n v : Int} {mk ag : Int → Int} (hM : MV M n mk ag) (h0 : 0 ≤ v) (h1 : v < n) (h2 : n ≤ 64) (ha : ag (3 * v) < 64) : fX12_numberOf v 0 M = some (atA (M 157) (ag (3 * v)), M) := by
  unfold fX12_numberOf atA
  simp only [s_X12_argOf0 hM h0 h1 h2, ob]
  split
  · simp (disch := omega) only [LD, ob]
  · rfl
theorem s_X12_numberOf1 {M : Mem} {n v : Int} {mk ag : Int → Int} (hM : MV M n mk ag) (h0 : 0 ≤ v) (h1 : v < n) (h2 : n ≤ 64) (ha : ag (3 * v + 1) < 64) : fX12_numberOf v 1 M = some (atA (M 157) (ag (3 * v + 1)), M) := by
  unfold fX12_numberOf atA
  simp only [s_X12_argOf1 hM h0 h1 h2, ob]
  split
  · simp (disch := omega) only [LD, ob]
  · rfl
theorem s_X12_numberOf2 {M : Mem} {n v : Int} {mk ag : Int → Int} (hM : MV M n mk ag) (h0 : 0 ≤ v) (h1 : v < n) (h2 : n ≤ 64) (ha : ag (3 * v + 2) < 64) : fX12_numberOf v 2 M = some (atA (M 157) (ag (3 * v + 2)), M) := by
  unfold fX12_numberOf atA
  simp only [s_X12_argOf2 hM h0 h1 h2, ob]
  split
  · simp (disch := omega) only [LD, ob]
  · rfl
theorem NmOK_cg {n nI : Int} {mk ag F num num' cell cell' Nm : Int → Int} (hV : Val n mk ag F nI) (h : NmOK n mk ag num cell Nm) (e1 : ∀ i, 0 ≤ i → i < nI → num' i = num i) (e2 : ∀ i, 0 ≤ i → i < 16 → cell' i = cell i) : NmOK n mk ag num' cell' Nm := by
  intro v v0 v1
  obtain ⟨k0, k1, k2, -⟩ := hV.2.2.2.2 v v0 v1
  rw [h v v0 v1]
  unfold nmF
  by_cases e0 : mk v = 0
  · rw [if_pos e0, if_pos e0, e1 _ (k2 e0).1 (k2 e0).2]
  · rw [if_neg e0, if_neg e0]
    unfold mdF
    rw [e2 (Nm (ag (3 * v)) % 16) (by omega) (by omega)]
set_option maxHeartbeats 4000000 in
set_option maxRecDepth 20000 in
theorem s_X12_numbersIn {M : Mem} {n nI lane : Int} {mk ag F : Int → Int} (hM : MV M n mk ag) (hV : Val n mk ag F nI) (hl : 0 ≤ lane ∧ lane < 4) (hnum : ∀ i, 0 ≤ i → i < nI → 0 ≤ M 151 (4 * i + lane) ∧ M 151 (4 * i + lane) ≤ 999) (hcl : ∀ i, 0 ≤ i → i < 16 → 0 ≤ M 152 i ∧ M 152 i ≤ 999) :
    ∃ r, fX12_numbersIn lane M = some r ∧ (∀ b, b ≠ 157 → r b = M b) ∧ NmOK n mk ag (fun i => M 151 (4 * i + lane)) (M 152) (r 157) := by
  obtain ⟨n0, n1, i0, i1, hv⟩ := id hV
  unfold fX12_numbersIn
  refine lp_bind (fun s : Int × Mem => 0 ≤ s.1 ∧ s.1 ≤ n ∧ (∀ b, b ≠ 157 → s.2 b = M b) ∧ NmOK s.1 mk ag (fun i => M 151 (4 * i + lane)) (M 152) (s.2 157)) (fun r : Mem => (∀ b, b ≠ 157 → r b = M b) ∧ NmOK n mk ag (fun i => M 151 (4 * i + lane)) (M 152) (r 157)) (fun s => (n - s.1).toNat) ?_ ?_ ?_
  · rintro ⟨v, q⟩ ⟨v0, v1, hfr, hN⟩
    dsimp only at v0 v1 hfr hN
    have mv : MV q n mk ag := MV_fr hM (hfr 138 (by omega))
    unfold fX12_numbersIn_b1
    simp only [s_X12_values, ob, mv.1]
    by_cases hvn : n ≤ v
    · rw [if_pos hvn]
      have : v = n := by omega
      subst this
      exact Or.inr ⟨q, rfl, hfr, hN⟩
    · rw [if_neg hvn]
      have vn : v < n := by omega
      obtain ⟨k0, k1, k2, k3, k4, k5, k6, k7, k8, -⟩ := hv v v0 vn
      have key : ∀ x, x = nmF mk ag (fun i => M 151 (4 * i + lane)) (M 152) (q 157) v → (∀ b, b ≠ 157 → wr q 157 v x b = M b) ∧ NmOK (v + 1) mk ag (fun i => M 151 (4 * i + lane)) (M 152) (wr q 157 v x 157) := by
        intro x hx
        refine ⟨fun b hb => by simp (disch := omega) only [wr_ne, hfr], fun w w0 w1 => ?_⟩
        have cg : nmF mk ag (fun i => M 151 (4 * i + lane)) (M 152) (wr q 157 v x 157) w = nmF mk ag (fun i => M 151 (4 * i + lane)) (M 152) (q 157) w := nmF_congr hV w0 (by omega) (fun u u0 u1 => by simp only [wr_at]; rw [if_neg (by omega)])
        rw [cg]
        simp only [wr_at]
        by_cases e : w = v
        · rw [if_pos e, hx, e]
        · rw [if_neg e]; exact hN w w0 (by omega)
      have bd := Nm_bd (Val_le hV v0 v1) hnum hcl hN
      have e151 : q 151 = M 151 := hfr 151 (by omega)
      have e152 : q 152 = M 152 := hfr 152 (by omega)
      simp only [s_X12_howOf mv v0 vn n1, ob]
      by_cases h2 : 2 ≤ mk v
      · rw [if_pos h2]
        have a4 := k4 h2
        have A := (bd (v.toNat + 1) (ag (3 * v)) (by omega) a4.1 a4.2).1
        have eA : atA (q 157) (ag (3 * v)) = q 157 (ag (3 * v)) := by unfold atA; rw [if_pos a4.1]
        have B : ag (3 * v + 1) < 64 ∧ -99999 ≤ atA (q 157) (ag (3 * v + 1)) ∧ atA (q 157) (ag (3 * v + 1)) ≤ 99999 := by
          unfold atA
          by_cases hh : mk v = 7 ∨ mk v = 12
          · have := k7 (Or.inr hh)
            rw [if_neg (by omega)]; omega
          · have q5 := k5 h2 (by omega) (by omega)
            rw [if_pos q5.1]
            exact ⟨by omega, (bd (v.toNat + 1) _ (by omega) q5.1 q5.2).1⟩
        have C : ag (3 * v + 2) < 64 := by
          by_cases hh : mk v = 13
          · have := k6 hh; omega
          · have := k8 hh; omega
        have hw := s_X12_worked (c := atA (q 157) (ag (3 * v + 2))) (M := q) h2 k1 A B.2
        have hst := key (mdF (mk v) (q 157 (ag (3 * v))) (atA (q 157) (ag (3 * v + 1))) (atA (q 157) (ag (3 * v + 2))) (M 152)) (by unfold nmF; rw [if_neg (by omega), if_neg (by omega)])
        simp only [s_X12_numberOf0 mv v0 vn n1 (by omega), s_X12_numberOf1 mv v0 vn n1 B.1, s_X12_numberOf2 mv v0 vn n1 C, ob, eA, hw, st157 _ _ _ v0 (by omega : v < 64), w32_id (show -2147483648 ≤ v + 1 by omega) (by omega), e152]
        exact Or.inl ⟨_, rfl, ⟨by dsimp only; omega, by dsimp only; omega, hst.1, hst.2⟩, by dsimp only; omega⟩
      · rw [if_neg h2]
        by_cases h0 : mk v = 0
        · have a2 := k2 h0
          have hst := key (M 151 (4 * ag (3 * v) + lane)) (by unfold nmF; rw [if_pos h0])
          rw [if_pos h0]
          simp only [s_X12_argOf0 mv v0 vn n1, ob, w32_id (show -2147483648 ≤ 4 * ag (3 * v) by omega) (by omega), w32_id (show -2147483648 ≤ 4 * ag (3 * v) + lane by omega) (by omega), ld151 _ _ (show 0 ≤ 4 * ag (3 * v) + lane by omega) (by omega), st157 _ _ _ v0 (by omega : v < 64), w32_id (show -2147483648 ≤ v + 1 by omega) (by omega), e151]
          exact Or.inl ⟨_, rfl, ⟨by dsimp only; omega, by dsimp only; omega, hst.1, hst.2⟩, by dsimp only; omega⟩
        · have hst := key (ag (3 * v)) (by unfold nmF; rw [if_neg h0, if_pos (by omega)])
          rw [if_neg h0]
          simp only [s_X12_argOf0 mv v0 vn n1, ob, st157 _ _ _ v0 (by omega : v < 64), w32_id (show -2147483648 ≤ v + 1 by omega) (by omega)]
          exact Or.inl ⟨_, rfl, ⟨by dsimp only; omega, by dsimp only; omega, hst.1, hst.2⟩, by dsimp only; omega⟩
  · exact ⟨Int.le_refl _, n0, fun b _ => rfl, fun w a b => by dsimp only at b; omega⟩
  · exact fun r hr => ⟨r, rfl, hr⟩
set_option maxHeartbeats 4000000 in
set_option maxRecDepth 20000 in
theorem s_X4_reckonLane {M : Mem} {n nI lane v : Int} {Nm : Int → Int} (hV : Val n (M 45) (M 46) (M 47) nI) (hl : 0 ≤ lane ∧ lane < 4) (v0 : 0 ≤ v) (v1 : v < n) (hnum : ∀ i, 0 ≤ i → i < nI → 0 ≤ M 54 (4 * i + lane) ∧ M 54 (4 * i + lane) ≤ 999) (hcl : ∀ i, 0 ≤ i → i < 16 → 0 ≤ M 55 i ∧ M 55 i ≤ 999) (hN : NmOK n (M 45) (M 46) (fun i => M 54 (4 * i + lane)) (M 55) Nm) :
    ∃ r, fX4_reckonLane lane v M = some (Nm v, r) ∧ ∀ b, b ≠ 57 → b ≠ 61 → r b = M b := by
  obtain ⟨n0, n1, i0, i1, hv⟩ := id hV
  have bd := Nm_bd hV hnum hcl hN
  unfold fX4_reckonLane
  have L : ∃ r, lp (fX4_reckonLane_b1 lane v) (0, M) = some r ∧ (∀ b, b ≠ 57 → b ≠ 61 → r b = M b) ∧ r 57 v = Nm v := by
    refine lp_ind (fun s : Int × Mem => 0 ≤ s.1 ∧ s.1 ≤ v + 1 ∧ (∀ b, b ≠ 57 → b ≠ 61 → s.2 b = M b) ∧ ∀ w, 0 ≤ w → w < s.1 → s.2 57 w = Nm w) (fun r : Mem => (∀ b, b ≠ 57 → b ≠ 61 → r b = M b) ∧ r 57 v = Nm v) (fun s => (v + 1 - s.1).toNat) ?_ _ ?_
    · rintro ⟨i, q⟩ ⟨c0, c1, hfr, hq⟩
      dsimp only at c0 c1 hfr hq
      unfold fX4_reckonLane_b1
      dsimp only
      by_cases hvi : v < i
      · rw [if_pos hvi]
        exact Or.inr ⟨q, rfl, hfr, hq v v0 hvi⟩
      · rw [if_neg hvi]
        have e45 : q 45 = M 45 := hfr 45 (by omega) (by omega)
        have e46 : q 46 = M 46 := hfr 46 (by omega) (by omega)
        obtain ⟨k0, k1, k2, k3, k4, k5, k6, k7, k8, -⟩ := hv i c0 (by omega)
        have hac : ∀ k, 0 ≤ k → k < argc (M 45 i) → 0 ≤ M 46 (3 * i + k) ∧ M 46 (3 * i + k) < i := by
          intro k x0 x1
          unfold argc at x1
          by_cases z1 : M 45 i = 0 ∨ M 45 i = 1
          · rw [if_pos z1] at x1; omega
          · rw [if_neg z1] at x1
            by_cases z2 : M 45 i = 7 ∨ M 45 i = 12 ∨ M 45 i = 14
            · rw [if_pos z2] at x1
              have : k = 0 := by omega
              subst this; rw [Int.add_zero]; exact k4 (by omega)
            · rw [if_neg z2] at x1
              by_cases z3 : M 45 i = 13
              · rw [if_pos z3] at x1
                have : k = 0 ∨ k = 1 ∨ k = 2 := by omega
                rcases this with rfl | rfl | rfl
                · rw [Int.add_zero]; exact k4 (by omega)
                · exact k5 (by omega) (by omega) (by omega)
                · exact k6 z3
              · rw [if_neg z3] at x1
                have : k = 0 ∨ k = 1 := by omega
                rcases this with rfl | rfl
                · rw [Int.add_zero]; exact k4 (by omega)
                · exact k5 (by omega) (by omega) (by omega)
        obtain ⟨r, fr, hr, hr61⟩ := s_X4_take (m := q) (v := i) (c := argc (M 45 i)) c0 (by omega) (by rw [e45]) (fun k x0 x1 => by rw [e46]; have := hac k x0 x1; omega)
        have r45 : r 45 = M 45 := by rw [hr 45 (by omega), e45]
        have r46 : r 46 = M 46 := by rw [hr 46 (by omega), e46]
        have r54 : r 54 = M 54 := by rw [hr 54 (by omega), hfr 54 (by omega) (by omega)]
        have r55 : r 55 = M 55 := by rw [hr 55 (by omega), hfr 55 (by omega) (by omega)]
        have r57 : r 57 = q 57 := hr 57 (by omega)
        have one : fX4_reckonOne lane i r = some (Nm i, r) := by
          rw [hN i c0 (by omega)]
          unfold fX4_reckonOne nmF
          simp only [w32_id (show -2147483648 ≤ 3 * i by omega) (by omega), ld46 _ _ (show 0 ≤ 3 * i by omega) (by omega), ld45 _ _ c0 (show i < 64 by omega), r45, r46, ob]
          by_cases h0 : M 45 i = 0
          · rw [if_pos h0, if_pos h0]
            have a2 := k2 h0
            simp only [w32_id (show -2147483648 ≤ 4 * M 46 (3 * i) by omega) (by omega), w32_id (show -2147483648 ≤ 4 * M 46 (3 * i) + lane by omega) (by omega), ld54 _ _ (show 0 ≤ 4 * M 46 (3 * i) + lane by omega) (by omega), ob, r54]
          · rw [if_neg h0, if_neg h0]
            by_cases h1 : M 45 i = 1
            · rw [if_pos h1, if_pos h1]
            · rw [if_neg h1, if_neg h1]
              have a4 := k4 (by omega)
              have g0 : r 61 0 = Nm (M 46 (3 * i)) := by
                have := hr61 0 (by omega) (by unfold argc; repeat' split
                                              all_goals omega)
                rw [this, e46, Int.add_zero]
                exact hq _ a4.1 a4.2
              have g1 : M 45 i ≠ 7 → M 45 i ≠ 12 → r 61 1 = atA Nm (M 46 (3 * i + 1)) := by
                intro z1 z2
                have a5 := k5 (by omega) z1 z2
                have := hr61 1 (by omega) (by unfold argc; repeat' split
                                              all_goals omega)
                rw [this, e46]
                unfold atA
                rw [if_pos a5.1]
                exact hq _ a5.1 a5.2
              have g2 : M 45 i = 13 → r 61 2 = atA Nm (M 46 (3 * i + 2)) := by
                intro z1
                have a5 := k6 z1
                have := hr61 2 (by omega) (by unfold argc; repeat' split
                                              all_goals omega)
                rw [this, e46]
                unfold atA
                rw [if_pos a5.1]
                exact hq _ a5.1 a5.2
              have A := (bd (i.toNat + 1) (M 46 (3 * i)) (by omega) a4.1 (by omega)).1
              have hm := s_X11_made' (k := M 45 i) (a := r 61 0) (b := r 61 1) (c := r 61 2) (M := r) (by rw [g0]; exact A) (fun z1 z2 => by
                rw [g1 z1 z2]
                have a5 := k5 (by omega) z1 z2
                unfold atA
                rw [if_pos a5.1]
                exact (bd (i.toNat + 1) _ (by omega) a5.1 (by omega)).1)
              simp (disch := omega) only [LD, ob, hm, r55]
              rw [mdF_irr (by omega) g1 g2, g0]
        simp only [ld45 _ _ c0 (show i < 64 by omega), ob, e45] at fr ⊢
        simp only [fr, ob, one, st57 _ _ _ c0 (show i < 64 by omega), w32_id (show -2147483648 ≤ i + 1 by omega) (by omega)]
        refine Or.inl ⟨_, rfl, ⟨by dsimp only; omega, by dsimp only; omega, fun b b1 b2 => ?_, fun w w0 w1 => ?_⟩, by dsimp only; omega⟩
        · simp (disch := omega) only [wr_ne, hr, hfr]
        · dsimp only at w1
          simp only [wr_at]
          by_cases e : w = i
          · rw [if_pos e, e]
          · rw [if_neg e, r57]; exact hq w w0 (by omega)
    · exact ⟨Int.le_refl _, by dsimp only; omega, fun b _ _ => rfl, fun w a b => by dsimp only at b; omega⟩
  obtain ⟨r, f, hr, hv57⟩ := L
  refine ⟨r, ?_, hr⟩
  simp only [f, ob, ld57 _ _ v0 (show v < 64 by omega), hv57]
theorem m_numbers {M M0 : Mem} {t : Nat} {n nI nS lane : Int} (h : InvQ M t n nI nS) (k : Kp M M0) (hl : 0 ≤ lane ∧ lane < 4) : ∃ r, fX12_numbersIn lane M0 = some r ∧ Kp M r ∧ NmOK n (M 45) (M 46) (fun i => M 54 (4 * i + lane)) (M 55) (r 157) := by
  obtain ⟨a1, a2, a3, a4, a5, a6, a7, a8, a9, a10, a11, a12, a13, a14, a15, a16, a17, a18, a19, a20⟩ := id h
  have e138 : M0 138 = M 138 := k.1 138 (by unfold scr; omega)
  have e151 : M0 151 = M 151 := k.1 151 (by unfold scr; omega)
  have e152 : M0 152 = M 152 := k.1 152 (by unfold scr; omega)
  obtain ⟨r, f, fr, N⟩ := s_X12_numbersIn (M := M0) (lane := lane) (MV_fr a5 e138) a4 hl (fun i x y => by
    rw [e151]
    have := (a11 i x y).2.2.2.2 lane hl.1 hl.2
    omega) (fun i x y => by rw [e152]; have := a20 i x y; omega)
  refine ⟨r, f, Kp_trans k ⟨fun b hb => fr b (by unfold scr at hb; omega), by rw [fr 132 (by omega)], by rw [fr 132 (by omega)]⟩, ?_⟩
  exact NmOK_cg a4 N (fun i x y => by rw [e151]; exact ((a11 i x y).2.2.2.2 lane hl.1 hl.2).1.symm) (fun i x y => by rw [e152]; exact (a20 i x y).1)
theorem m_number {M M0 : Mem} {t : Nat} {n nI nS lane v : Int} {Nm : Int → Int} (h : InvQ M t n nI nS) (k : Kp M M0) (hl : 0 ≤ lane ∧ lane < 4) (v0 : 0 ≤ v) (v1 : v < n) (hN : NmOK n (M 45) (M 46) (fun i => M 54 (4 * i + lane)) (M 55) Nm) : ∃ r, fX12_numbersIn lane M0 = some r ∧ Kp M r ∧ r 157 v = Nm v := by
  obtain ⟨r, f, kr, N⟩ := m_numbers h k hl
  exact ⟨r, f, kr, Nm_uniq h.2.2.2.1 hN N (v.toNat + 1) v (by omega) v0 v1⟩
theorem c_number {M M0 : Mem} {t : Nat} {n nI nS lane v : Int} {Nm : Int → Int} (h : InvQ M t n nI nS) (k : Kp M M0) (hl : 0 ≤ lane ∧ lane < 4) (v0 : 0 ≤ v) (v1 : v < n) (hN : NmOK n (M 45) (M 46) (fun i => M 54 (4 * i + lane)) (M 55) Nm) : ∃ r, fX4_reckonLane lane v M0 = some (Nm v, r) ∧ Kp M r := by
  obtain ⟨a1, a2, a3, a4, a5, a6, a7, a8, a9, a10, a11, a12, a13, a14, a15, a16, a17, a18, a19, a20⟩ := id h
  have e : ∀ b : Nat, 44 ≤ b ∧ b ≤ 55 → M0 b = M b := fun b hb => k.1 b (by unfold scr; omega)
  obtain ⟨r, f, fr⟩ := s_X4_reckonLane (M := M0) (Nm := Nm) (n := n) (nI := nI) (by rw [e 45 (by omega), e 46 (by omega), e 47 (by omega)]; exact a4) hl v0 v1 (fun i x y => by rw [e 54 (by omega)]; have := (a11 i x y).2.2.2.2 lane hl.1 hl.2; omega) (fun i x y => by rw [e 55 (by omega)]; have := a20 i x y; omega) (by rw [e 45 (by omega), e 46 (by omega), e 54 (by omega), e 55 (by omega)]; exact hN)
  exact ⟨r, f, Kp_trans k ⟨fun b hb => fr b (by unfold scr at hb; omega) (by unfold scr at hb; omega), by rw [fr 132 (by omega) (by omega)], by rw [fr 132 (by omega) (by omega)]⟩⟩
set_option maxHeartbeats 4000000 in
set_option maxRecDepth 20000 in
theorem q_is {M : Mem} {t : Nat} {n nI nS : Int} (h : InvQ M t n nI nS) (v l : Int) : Ans (fX11_is v l) (fX12_is v l) M := by
  obtain ⟨a1, a2, a3, a4, a5, -⟩ := id h
  by_cases hv : 0 ≤ v ∧ v < n
  · by_cases hl : 0 ≤ l ∧ l ≤ 3
    · obtain ⟨w, -, -, hN⟩ := m_numbers (lane := l) h (Kp_refl M) (by omega)
      obtain ⟨r, f, kr⟩ := c_number h (Kp_refl M) (by omega) hv.1 hv.2 hN
      obtain ⟨r2, f2, kr2, e2⟩ := m_number (M0 := wr r 132 0 0) h (Kp_trans kr (Kp_th r 0)) (by omega) hv.1 hv.2 hN
      have e8 : r 138 8 = n := by rw [kr.1 138 (by unfold scr; omega)]; exact a5.1
      have n1 := a4.2.1
      refine ⟨w 157 v, r, r2, ?_, ?_, kr2⟩
      · unfold fX11_is
        simp only [s_X11_isValue, a3, hv, ob, Nat.reduceAdd, reduceIte, Int.reduceEq, Int.reduceLT, Int.reduceLE, Int.reduceNeg, Int.reduceAdd, Int.reduceSub, Int.reduceMul, Int.reduceNe, or_true, true_or, or_false, false_or, or_self, and_true, true_and, and_false, false_and, and_self, not_true_eq_false, not_false_eq_true, ne_eq, Bool.false_eq_true, Bool.true_eq_false, decide_true, decide_false, s_X11_isLane, hl, f]
      · unfold fX12_is
        simp (disch := omega) only [pI_ok, ob, s_X12_isValue, wr_ne, e8, hv, Nat.reduceAdd, reduceIte, Int.reduceEq, Int.reduceLT, Int.reduceLE, Int.reduceNeg, Int.reduceAdd, Int.reduceSub, Int.reduceMul, Int.reduceNe, or_true, true_or, or_false, false_or, or_self, and_true, true_and, and_false, false_and, and_self, not_true_eq_false, not_false_eq_true, ne_eq, Bool.false_eq_true, Bool.true_eq_false, decide_true, decide_false, s_X12_isLane, hl, f2, ld157 _ _ hv.1 (show v < 64 by omega), e2]
    · refine ⟨-2147483648, M, wr M 132 0 0, ?_, ?_, Kp_th M 0⟩
      · unfold fX11_is
        simp only [s_X11_isValue, a3, hv, ob, Nat.reduceAdd, reduceIte, Int.reduceEq, Int.reduceLT, Int.reduceLE, Int.reduceNeg, Int.reduceAdd, Int.reduceSub, Int.reduceMul, Int.reduceNe, or_true, true_or, or_false, false_or, or_self, and_true, true_and, and_false, false_and, and_self, not_true_eq_false, not_false_eq_true, ne_eq, Bool.false_eq_true, Bool.true_eq_false, decide_true, decide_false, s_X11_isLane, hl]
      · unfold fX12_is
        simp (disch := omega) only [pI_ok, ob, s_X12_isValue, wr_ne, a5.1, hv, Nat.reduceAdd, reduceIte, Int.reduceEq, Int.reduceLT, Int.reduceLE, Int.reduceNeg, Int.reduceAdd, Int.reduceSub, Int.reduceMul, Int.reduceNe, or_true, true_or, or_false, false_or, or_self, and_true, true_and, and_false, false_and, and_self, not_true_eq_false, not_false_eq_true, ne_eq, Bool.false_eq_true, Bool.true_eq_false, decide_true, decide_false, s_X12_isLane, hl]
  · refine ⟨-2147483648, M, wr M 132 0 0, ?_, ?_, Kp_th M 0⟩
    · unfold fX11_is
      simp only [s_X11_isValue, a3, hv, ob, Nat.reduceAdd, reduceIte, Int.reduceEq, Int.reduceLT, Int.reduceLE, Int.reduceNeg, Int.reduceAdd, Int.reduceSub, Int.reduceMul, Int.reduceNe, or_true, true_or, or_false, false_or, or_self, and_true, true_and, and_false, false_and, and_self, not_true_eq_false, not_false_eq_true, ne_eq, Bool.false_eq_true, Bool.true_eq_false, decide_true, decide_false]
    · unfold fX12_is
      simp (disch := omega) only [pI_ok, ob, s_X12_isValue, wr_ne, a5.1, hv, Nat.reduceAdd, reduceIte, Int.reduceEq, Int.reduceLT, Int.reduceLE, Int.reduceNeg, Int.reduceAdd, Int.reduceSub, Int.reduceMul, Int.reduceNe, or_true, true_or, or_false, false_or, or_self, and_true, true_and, and_false, false_and, and_self, not_true_eq_false, not_false_eq_true, ne_eq, Bool.false_eq_true, Bool.true_eq_false, decide_true, decide_false]
def orB (c : Prop) [Decidable c] (a b : Int) : Int := if c then a else ior a b
theorem orB_m (c : Prop) [Decidable c] {a b : Int} (ha : a = 0 ∨ a = 2 ∨ a = 4 ∨ a = 6) : ior a (if c then 0 else b) = orB c a b := by
  unfold orB
  by_cases h : c
  · rw [if_pos h, if_pos h]
    rcases ha with rfl | rfl | rfl | rfl <;> decide
  · rw [if_neg h, if_neg h]
theorem orB1 (c : Prop) [Decidable c] : orB c 0 (ishl 1 1) = 0 ∨ orB c 0 (ishl 1 1) = 2 := by
  unfold orB
  split
  · exact Or.inl rfl
  · exact Or.inr (by decide)
theorem orB2 (c : Prop) [Decidable c] {a : Int} (ha : a = 0 ∨ a = 2) : orB c a (ishl 1 2) = 0 ∨ orB c a (ishl 1 2) = 2 ∨ orB c a (ishl 1 2) = 4 ∨ orB c a (ishl 1 2) = 6 := by
  unfold orB
  split
  · omega
  · rcases ha with rfl | rfl
    · exact Or.inr (Or.inr (Or.inl (by decide)))
    · exact Or.inr (Or.inr (Or.inr (by decide)))
set_option maxHeartbeats 4000000 in
set_option maxRecDepth 20000 in
theorem q_differs {M : Mem} {t : Nat} {n nI nS : Int} (h : InvQ M t n nI nS) (v : Int) : Ans (fX11_differs v) (fX12_differs v) M := by
  obtain ⟨a1, a2, a3, a4, a5, -⟩ := id h
  by_cases hv : 0 ≤ v ∧ v < n
  · have n1 := a4.2.1
    obtain ⟨w0, -, -, N0⟩ := m_numbers (lane := 0) h (Kp_refl M) (by omega)
    obtain ⟨w1, -, -, N1⟩ := m_numbers (lane := 1) h (Kp_refl M) (by omega)
    obtain ⟨w2, -, -, N2⟩ := m_numbers (lane := 2) h (Kp_refl M) (by omega)
    obtain ⟨w3, -, -, N3⟩ := m_numbers (lane := 3) h (Kp_refl M) (by omega)
    obtain ⟨c0, f0, k0⟩ := c_number h (Kp_refl M) (by omega) hv.1 hv.2 N0
    obtain ⟨c1, f1, k1⟩ := c_number h k0 (by omega) hv.1 hv.2 N1
    obtain ⟨c2, f2, k2⟩ := c_number h k1 (by omega) hv.1 hv.2 N2
    obtain ⟨c3, f3, k3⟩ := c_number h k2 (by omega) hv.1 hv.2 N3
    obtain ⟨d0, g0, l0, e0⟩ := m_number (M0 := wr c3 132 0 0) h (Kp_trans k3 (Kp_th c3 0)) (by omega) hv.1 hv.2 N0
    obtain ⟨d1, g1, l1, e1⟩ := m_number h l0 (by omega) hv.1 hv.2 N1
    obtain ⟨d2, g2, l2, e2⟩ := m_number h l1 (by omega) hv.1 hv.2 N2
    obtain ⟨d3, g3, l3, e3⟩ := m_number h l2 (by omega) hv.1 hv.2 N3
    have e8 : c3 138 8 = n := by rw [k3.1 138 (by unfold scr; omega)]; exact a5.1
    have t1 : w32 (1 + 1) = 2 := by decide
    have t2 : w32 (2 + 1) = 3 := by decide
    have t3 : w32 (3 + 1) = 4 := by decide
    have i1 : ¬ (4 : Int) ≤ 1 := by decide
    have i2 : ¬ (4 : Int) ≤ 2 := by decide
    have i3 : ¬ (4 : Int) ≤ 3 := by decide
    have i4 : (4 : Int) ≤ 4 := by decide
    have o1 := orB1 (w1 157 v = w0 157 v)
    have o2 := orB2 (w2 157 v = w0 157 v) o1
    refine ⟨orB (w3 157 v = w0 157 v) (orB (w2 157 v = w0 157 v) (orB (w1 157 v = w0 157 v) 0 (ishl 1 1)) (ishl 1 2)) (ishl 1 3), c3, d3, ?_, ?_, l3⟩
    · have s1 : fX11_differs_b1 v (w0 157 v) (0, 1, c0) = some (.inl (orB (w1 157 v = w0 157 v) 0 (ishl 1 1), 2, c1)) := by
        unfold fX11_differs_b1 orB
        simp only [i1, if_false, f1, ob, t1]
        split <;> simp only [ob]
      have s2 : ∀ a, fX11_differs_b1 v (w0 157 v) (a, 2, c1) = some (.inl (orB (w2 157 v = w0 157 v) a (ishl 1 2), 3, c2)) := by
        intro a
        unfold fX11_differs_b1 orB
        simp only [i2, if_false, f2, ob, t2]
        split <;> simp only [ob]
      have s3 : ∀ a, fX11_differs_b1 v (w0 157 v) (a, 3, c2) = some (.inl (orB (w3 157 v = w0 157 v) a (ishl 1 3), 4, c3)) := by
        intro a
        unfold fX11_differs_b1 orB
        simp only [i3, if_false, f3, ob, t3]
        split <;> simp only [ob]
      have s4 : ∀ a, fX11_differs_b1 v (w0 157 v) (a, 4, c3) = some (.inr (a, c3)) := by
        intro a
        unfold fX11_differs_b1
        simp only [i4, if_true]
      unfold fX11_differs
      simp only [s_X11_isValue, a3, hv, ob, Nat.reduceAdd, reduceIte, Int.reduceEq, Int.reduceLT, Int.reduceLE, Int.reduceNeg, Int.reduceAdd, Int.reduceSub, Int.reduceMul, Int.reduceNe, or_true, true_or, or_false, false_or, or_self, and_true, true_and, and_false, false_and, and_self, not_true_eq_false, not_false_eq_true, ne_eq, Bool.false_eq_true, Bool.true_eq_false, decide_true, decide_false, f0]
      rw [lp_in s1, lp_in (s2 _), lp_in (s3 _), lp_out (s4 _), ob]
    · have s1 : fX12_differs_b1 v (w0 157 v) (0, 1, d0) = some (.inl (orB (w1 157 v = w0 157 v) 0 (ishl 1 1), 2, d1)) := by
        unfold fX12_differs_b1
        simp only [i1, if_false, g1, ob, t1, ld157 _ _ hv.1 (show v < 64 by omega), e1, oite]
        rw [← orB_m (w1 157 v = w0 157 v) (Or.inl rfl)]
        split <;> rfl
      have s2 : ∀ a, (a = 0 ∨ a = 2) → fX12_differs_b1 v (w0 157 v) (a, 2, d1) = some (.inl (orB (w2 157 v = w0 157 v) a (ishl 1 2), 3, d2)) := by
        intro a ha
        unfold fX12_differs_b1
        simp only [i2, if_false, g2, ob, t2, ld157 _ _ hv.1 (show v < 64 by omega), e2, oite]
        rw [← orB_m (w2 157 v = w0 157 v) (by omega)]
        split <;> rfl
      have s3 : ∀ a, (a = 0 ∨ a = 2 ∨ a = 4 ∨ a = 6) → fX12_differs_b1 v (w0 157 v) (a, 3, d2) = some (.inl (orB (w3 157 v = w0 157 v) a (ishl 1 3), 4, d3)) := by
        intro a ha
        unfold fX12_differs_b1
        simp only [i3, if_false, g3, ob, t3, ld157 _ _ hv.1 (show v < 64 by omega), e3, oite]
        rw [← orB_m (w3 157 v = w0 157 v) ha]
        split <;> rfl
      have s4 : ∀ a, fX12_differs_b1 v (w0 157 v) (a, 4, d3) = some (.inr (a, d3)) := by
        intro a
        unfold fX12_differs_b1
        simp only [i4, if_true]
      unfold fX12_differs
      simp (disch := omega) only [pI_ok, ob, s_X12_isValue, wr_ne, e8, hv, Nat.reduceAdd, reduceIte, Int.reduceEq, Int.reduceLT, Int.reduceLE, Int.reduceNeg, Int.reduceAdd, Int.reduceSub, Int.reduceMul, Int.reduceNe, or_true, true_or, or_false, false_or, or_self, and_true, true_and, and_false, false_and, and_self, not_true_eq_false, not_false_eq_true, ne_eq, Bool.false_eq_true, Bool.true_eq_false, decide_true, decide_false, g0, ld157 _ _ hv.1 (show v < 64 by omega), e0]
      rw [lp_in s1, lp_in (s2 _ o1), lp_in (s3 _ o2), lp_out (s4 _), ob]
  · refine ⟨-1, M, wr M 132 0 0, ?_, ?_, Kp_th M 0⟩
    · unfold fX11_differs
      simp only [s_X11_isValue, a3, hv, ob, Nat.reduceAdd, reduceIte, Int.reduceEq, Int.reduceLT, Int.reduceLE, Int.reduceNeg, Int.reduceAdd, Int.reduceSub, Int.reduceMul, Int.reduceNe, or_true, true_or, or_false, false_or, or_self, and_true, true_and, and_false, false_and, and_self, not_true_eq_false, not_false_eq_true, ne_eq, Bool.false_eq_true, Bool.true_eq_false, decide_true, decide_false]
    · unfold fX12_differs
      simp (disch := omega) only [pI_ok, ob, s_X12_isValue, wr_ne, a5.1, hv, Nat.reduceAdd, reduceIte, Int.reduceEq, Int.reduceLT, Int.reduceLE, Int.reduceNeg, Int.reduceAdd, Int.reduceSub, Int.reduceMul, Int.reduceNe, or_true, true_or, or_false, false_or, or_self, and_true, true_and, and_false, false_and, and_self, not_true_eq_false, not_false_eq_true, ne_eq, Bool.false_eq_true, Bool.true_eq_false, decide_true, decide_false]
