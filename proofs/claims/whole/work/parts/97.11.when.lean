set_option maxHeartbeats 4000000 in
set_option maxRecDepth 20000 in
theorem ln_when {A B : Mem} {t : Nat} {T : Int → Int} {n N c j : Int} {G : Nat → Int → Int → Int} (h : PR A B t T n N G c j) (h5 : A 1 4 = 5) (h6 : A 1 6 = 5) : ∃ x A' B', fX6_readWhen A = some (x, A') ∧ ((fX12_readBlock 1 B).bind fun q => fX12_takeEnd q) = some B' ∧ LnRes t T n N j A B x A' B' := by
  obtain ⟨hP, hAt, hpos⟩ := h
  obtain ⟨p1, p2, p3, p4, p5, p6, p7, p8, p9, p10, p11, p12, p13, p14, p15, p16⟩ := id hP
  have ht := p1.1
  have n0 := p1.2.2.1.2.1
  have n1 := p2.2.1
  have nN := p2.1.2.1
  obtain ⟨hA, h7, j0, j1, h8⟩ := id hAt
  obtain ⟨-, tl, pn, t1⟩ := tk_len p1 hA h5 h6
  rw [rl_v.2.2.2.2.2.1] at tl
  have o := p16.2.1 c p4.2.2 (Int.le_refl _)
  have d0 := o.1
  have c0 := p4.2.2
  by_cases hd : A 4 7 < 4
  · have hd' : ¬ B 132 18 = 4 := by rw [p11.2, ← p11.1]; omega
    have d4 : G 0 c 0 < 4 := by rw [← p11.1]; exact hd
    obtain ⟨c200, jN, A1, A2, B1, f1, f2, g1, cf1, fr2, at2, mf1, x1, x2, x3, x4, x5, x6, x7, y1, y2, y3, y4, y5⟩ := ln_open (kind := 5) (what := 1) hP hAt hpos (by omega)
    have gA : gm A 4 1 = some t := gm41 ht p1.2.1
    have cf2 : CFr t A A2 := CFr_trans cf1 (F1_CFr ht fr2)
    have e7 : w32 (B1 132 7 + 1) = j + 1 := by rw [y5 132 (by omega) (by omega), h7, w32_id (by omega) (by omega)]
    -- the reference writes the line's head first
    generalize hB2 : wr (wr (wr (wr B1 132 7 (j + 1)) 139 (12 * (210 + c) + 1) (G 1 c 0)) 139 (12 * (210 + c) + 2) (A t 16)) 138 414 (A t 16 + 1) = B2
    have b2b : ∀ b, b ≠ 132 → b ≠ 138 → b ≠ 139 → B2 b = B1 b := fun b e1 e2 e3 => by rw [← hB2, wr_ne e2, wr_ne e3, wr_ne e3, wr_ne e1]
    have b22 : ∀ k, B2 132 k = if k = 7 then j + 1 else B1 132 k := fun k => by rw [← hB2, wr_ne (by omega), wr_ne (by omega), wr_ne (by omega), wr_at]
    have b28 : ∀ k, B2 138 k = if k = 414 then A t 16 + 1 else B1 138 k := fun k => by rw [← hB2, wr_at, wr_ne (by omega), wr_ne (by omega), wr_ne (by omega)]
    have b29 : ∀ y, B2 139 y = if y = 12 * (210 + c) + 2 then A t 16 else if y = 12 * (210 + c) + 1 then G 1 c 0 else B1 139 y := fun y => by rw [← hB2, wr_ne (by omega), wr_at, wr_at, wr_ne (by omega)]
    have mf2 : MFr B B2 := MFr_trans mf1 ⟨fun b e1 e2 => b2b b e1 (by omega) (by omega), fun k hk => by rw [b28, if_neg (by omega)], fun y hy => by rw [b29, if_neg (by omega), if_neg (by omega)], fun k k7 _ _ _ _ => by rw [b22, if_neg k7]⟩
    have at' : AtB A2 B2 T n N (j + 1) := ⟨at2, by rw [b22, if_pos rfl], by omega, jN, by rw [b22, if_neg (by omega), y5 132 (by omega) (by omega)]; exact h8⟩
    have nm2 : NmR A2 B2 (G 1 c 0) := NmR_fr p3 (by rw [fr2.1 4 (by omega), x7 4 (by omega) (by omega) (by omega) (by omega)]) (by rw [fr2.1 18 (by omega), x7 18 (by omega) (by omega) (by omega) (by omega)]) (by rw [fr2.1 19 (by omega), x7 19 (by omega) (by omega) (by omega) (by omega)]) (by rw [fr2.1 20 (by omega), x7 20 (by omega) (by omega) (by omega) (by omega)]) (by rw [b22, if_neg (by omega), y5 132 (by omega) (by omega)]) (by rw [b2b 140 (by omega) (by omega) (by omega), y5 140 (by omega) (by omega)]) (by rw [b2b 141 (by omega) (by omega) (by omega), y5 141 (by omega) (by omega)])
    obtain ⟨x, A3, B3, f3, g3, u1, u2, u3, v1, v2, v3, res⟩ := r_arg (i := c) (k := 0) (ty' := 1) (CK_CFr p1 cf2) (MK_MFr p2 mf2) nm2 at' c0 c200 (by omega) (by omega) (Or.inr (Or.inl rfl))
    rw [if_neg (show ¬ (1 : Int) = 2 by decide), show 12 * (210 + c) + 5 + 2 * 0 = 12 * (210 + c) + 5 by omega] at g3
    have cf3 : CFr t A A3 := CFr_trans cf2 ⟨fun b b1 b4 b18 bt => u1 b b4 (by omega) (by omega), by rw [u1 1 (by omega) (by omega) (by omega)], u2 1 (by omega)⟩
    have mf3 : MFr B B3 := MFr_trans mf2 ⟨fun b b1 b2 => v1 b b1 (by omega), fun k hk => by rw [v1 138 (by omega) (by omega)], fun y hy => v3 y (by omega) (by omega), fun k a b _ _ e => v2 k a b e⟩
    have b318 : B3 132 18 = G 0 c 0 := by rw [v2 18 (by omega) (by omega) (by omega), b22, if_neg (by omega), y5 132 (by omega) (by omega)]; exact p11.2
    have b314 : B3 132 14 = G 1 c 0 := by rw [v2 14 (by omega) (by omega) (by omega), b22, if_neg (by omega), y5 132 (by omega) (by omega)]; exact p3.2.1
    obtain ⟨B4, g4, z1, z2, z3, z4, z5, z6⟩ := m_opens (B := B3) (kind := 1) b318 d0.1 d4 b314 c0 c200
    have mf4 : MFr B B4 := MFr_trans mf3 ⟨fun b b1 b2 => by rw [z6 b b1 (by omega) (by omega) (by omega)], fun k _ => by rw [z6 138 (by omega) (by omega) (by omega) (by omega)], fun y hy => by rw [z6 139 (by omega) (by omega) (by omega) (by omega)], fun k _ _ _ k18 _ => by rw [z2 k k18]⟩
    have cl0 : fX6_readWhen A = ((if x = 0 then (gm A3 4 1).bind fun t5 => (stI A3 (t5 + 3) c (A3 4 5)).bind fun M6 => (gm M6 4 1).bind fun t7 => (gm M6 4 1).bind fun t8 => (stI M6 (t7 + 9) c (M6 t8 16)).bind fun M9 => (gm M9 4 1).bind fun t10 => (pI M9 t10 16 (w32 ((M9 t10 16) + 1))).bind fun M11 => (pI M11 4 8 (w32 ((M11 4 8) + 1))).bind fun M12 => (stI M12 21 (M12 4 7) c).bind fun M13 => (pI M13 4 7 (w32 ((M13 4 7) + 1))).bind fun M14 => (fX6_readSemicolon M14).bind fun q15 => some (q15.1, q15.2) else some (x, A3) : Option (Int × Mem))).bind fun q16 => some (q16.1, q16.2) := by
      unfold fX6_readWhen
      rw [if_pos hd, gA, ob, f1, ob]
      dsimp only
      rw [f2, ob, f3, ob]
    have ml0 : ((fX12_readBlock 1 B).bind fun q => fX12_takeEnd q) = fX12_takeEnd B4 := by
      unfold fX12_readBlock
      have w14 : wr B1 132 7 (j + 1) 132 14 = G 1 c 0 := by rw [wr_at, if_neg (by omega), y5 132 (by omega) (by omega)]; exact p3.2.1
      have l14 : wr (wr B1 132 7 (j + 1)) 139 (12 * (210 + c) + 1) (G 1 c 0) 138 414 = A t 16 := by rw [wr_ne (by omega), wr_ne (by omega), y2 414 (by omega)]; exact p6.1.symm
      have l14' : wr (wr (wr B1 132 7 (j + 1)) 139 (12 * (210 + c) + 1) (G 1 c 0)) 139 (12 * (210 + c) + 2) (A t 16) 138 414 = A t 16 := by rw [wr_ne (by omega)]; exact l14
      rw [if_neg hd', if_neg (show ¬ (1 : Int) = 0 by decide), ob, g1, ob]
      dsimp only
      rw [pI_ok, ob, e7, if_neg (show ¬ (1 : Int) = 0 by decide), w14, w32_id (show -2147483648 ≤ 12 * (210 + c) + 1 by omega) (by omega), st139 _ _ _ (by omega) (by omega), ob, ld138 _ _ (by omega) (by omega), ob, l14, w32_id (show -2147483648 ≤ 12 * (210 + c) + 2 by omega) (by omega), st139 _ _ _ (by omega) (by omega), ob, ld138 _ _ (by omega) (by omega), ob, l14', w32_id (show -2147483648 ≤ A t 16 + 1 by omega) (by omega), st138 _ _ _ (by omega) (by omega), ob, hB2, w32_id (show -2147483648 ≤ 12 * (210 + c) + 5 by omega) (by omega), g3, ob, ob, ob, g4, ob, ob]
    rcases res with ⟨rfl, b7, b8, jN2, pn1, ar, ta, ta01, tt, tl'⟩ | ⟨xp, b8⟩
    · have a31 : A3 1 = A2 1 := u1 1 (by omega) (by omega) (by omega)
      have a3b : ∀ b, b ≠ 1 → b ≠ 4 → b ≠ t + 6 → b ≠ t + 7 → A3 b = A1 b := fun b e1 e2 e3 e4 => by rw [u1 b e2 e3 e4, fr2.1 b e1]
      have a34 : ∀ k, k ≠ 11 → A3 4 k = A 4 k := fun k hk => by rw [u2 k hk, fr2.1 4 (by omega), x7 4 (by omega) (by omega) (by omega) (by omega)]
      have a3t : ∀ k, k ≠ 0 → A3 t k = A t k := fun k hk => by rw [a3b t (by omega) (by omega) (by omega) (by omega)]; exact x5 k hk
      generalize hA5 : wr (wr (wr (wr (wr (wr A3 (t + 3) c (G 1 c 0)) (t + 9) c (A t 16)) t 16 (A t 16 + 1)) 4 8 (A 4 8 + 1)) 21 (G 0 c 0) c) 4 7 (G 0 c 0 + 1) = A5
      have a45 : A3 4 5 = G 1 c 0 := by rw [a34 5 (by omega)]; exact p3.1
      have g41 : gm A3 4 1 = some t := gm41 ht (by rw [a34 1 (by omega)]; exact p1.2.1)
      have g42 : gm (wr A3 (t + 3) c (G 1 c 0)) 4 1 = some t := gm41 ht (by rw [wr_ne (by omega), a34 1 (by omega)]; exact p1.2.1)
      have g43 : gm (wr (wr A3 (t + 3) c (G 1 c 0)) (t + 9) c (A t 16)) 4 1 = some t := gm41 ht (by rw [wr_ne (by omega), wr_ne (by omega), a34 1 (by omega)]; exact p1.2.1)
      have m16 : wr A3 (t + 3) c (G 1 c 0) t 16 = A t 16 := by rw [wr_ne (by omega)]; exact a3t 16 (by omega)
      have m16' : wr (wr A3 (t + 3) c (G 1 c 0)) (t + 9) c (A t 16) t 16 = A t 16 := by rw [wr_ne (by omega)]; exact m16
      have m48 : wr (wr (wr A3 (t + 3) c (G 1 c 0)) (t + 9) c (A t 16)) t 16 (A t 16 + 1) 4 8 = A 4 8 := by rw [wr_ne (by omega), wr_ne (by omega), wr_ne (by omega)]; exact a34 8 (by omega)
      have m47 : wr (wr (wr (wr A3 (t + 3) c (G 1 c 0)) (t + 9) c (A t 16)) t 16 (A t 16 + 1)) 4 8 (A 4 8 + 1) 4 7 = G 0 c 0 := by rw [wr_at, if_neg (by omega), wr_ne (by omega), wr_ne (by omega), wr_ne (by omega), a34 7 (by omega)]; exact p11.1
      have m47' : wr (wr (wr (wr (wr A3 (t + 3) c (G 1 c 0)) (t + 9) c (A t 16)) t 16 (A t 16 + 1)) 4 8 (A 4 8 + 1)) 21 (G 0 c 0) c 4 7 = G 0 c 0 := by rw [wr_ne (by omega)]; exact m47
      have w48 := sm_bd (f := whO A t G c) (c := 1) (k := (G 0 c 0).toNat) (fun i _ _ => by unfold whO; split <;> omega)
      rw [if_pos rfl, g41, ob, a45, ts3 ht _ _ _ c0 c200, ob, g42, ob, ob, m16, ts9 ht _ _ _ c0 c200, ob, g43, ob, pI_ok, ob, m16', w32_id (show -2147483648 ≤ A t 16 + 1 by omega) (by omega), pI_ok, ob, m48, w32_id (show -2147483648 ≤ A 4 8 + 1 by omega) (by omega), m47, st21 _ _ _ d0.1 d4, ob, pI_ok, ob, m47', w32_id (show -2147483648 ≤ G 0 c 0 + 1 by omega) (by omega), hA5] at cl0
      have a5b : ∀ b, b ≠ 4 → b ≠ 21 → b ≠ t → b ≠ t + 3 → b ≠ t + 9 → A5 b = A3 b := fun b b1 b2 b3 b4 b5 => by rw [← hA5, wr_ne b1, wr_ne b2, wr_ne b1, wr_ne b3, wr_ne b5, wr_ne b4]
      have a54 : ∀ k, A5 4 k = if k = 7 then G 0 c 0 + 1 else if k = 8 then A 4 8 + 1 else A3 4 k := fun k => by rw [← hA5, wr_at, wr_ne (by omega), wr_at, wr_ne (by omega), wr_ne (by omega), wr_ne (by omega)]
      have a521 : ∀ l, A5 21 l = if l = G 0 c 0 then c else A3 21 l := fun l => by rw [← hA5, wr_ne (by omega), wr_at, wr_ne (by omega), wr_ne (by omega), wr_ne (by omega), wr_ne (by omega)]
      have a5t : ∀ k, A5 t k = if k = 16 then A t 16 + 1 else A3 t k := fun k => by rw [← hA5, wr_ne (by omega), wr_ne (by omega), wr_ne (by omega), wr_at, wr_ne (by omega), wr_ne (by omega)]
      have a53 : ∀ i, A5 (t + 3) i = if i = c then G 1 c 0 else A3 (t + 3) i := fun i => by rw [← hA5, wr_ne (by omega), wr_ne (by omega), wr_ne (by omega), wr_ne (by omega), wr_ne (by omega), wr_at]
      have a59 : ∀ i, A5 (t + 9) i = if i = c then A t 16 else A3 (t + 9) i := fun i => by rw [← hA5, wr_ne (by omega), wr_ne (by omega), wr_ne (by omega), wr_ne (by omega), wr_at, wr_ne (by omega)]
      have cf5 : CFr t A A5 := CFr_trans cf3 ⟨fun b b1 b4 b18 bt => a5b b b4 (by omega) (by omega) (by omega) (by omega), by rw [a5b 1 (by omega) (by omega) (by omega) (by omega) (by omega)], by rw [a54, if_neg (by omega), if_neg (by omega)]⟩
      obtain ⟨x', A4, B5, f4, g5, fr4, mr4, res4⟩ := r_semi (A := A5) (B := B4) (j := j + 1) (CK_CFr p1 cf5) (MK_MFr p2 mf4) (by rw [a5b 1 (by omega) (by omega) (by omega) (by omega) (by omega), a31]; exact at2.2.1) (by omega) jN2 (by rw [z2 7 (by omega)]; exact b7) (by rw [z2 8 (by omega)]; exact b8)
      rw [f4, ob, ob] at cl0
      rw [g5] at ml0
      refine ⟨x', A4, B5, cl0, ml0, CFr_trans cf5 (F1_CFr ht fr4), MFr_trans mf4 (F78_MFr mr4), ?_⟩
      rcases res4 with ⟨rfl, at4, b47, b48, jN3, pn2⟩ | hf
      · left
        refine ⟨rfl, psG G c, c + 1, j + 1 + 1, ?_, at4, by omega, b48, by omega, by omega, ?_, ?_⟩
        · have ue : GEq G (psG G c) c := upG_eq
          have eA : ∀ b, b ≠ 1 → b ≠ 4 → b ≠ 21 → b ≠ t → b ≠ t + 1 → b ≠ t + 2 → b ≠ t + 3 → b ≠ t + 6 → b ≠ t + 7 → b ≠ t + 8 → b ≠ t + 9 → A4 b = A b := fun b e1 e2 e3 e4 e5 e6 e7 e8 e9 e10 e11 => by rw [fr4.1 b e1, a5b b e2 e3 e4 e7 e11, a3b b e1 e2 e8 e9, x7 b e4 e5 e6 e10]
          have eAt : ∀ b, b = t + 1 ∨ b = t + 2 ∨ b = t + 8 → A4 b = A1 b := fun b hb => by rw [fr4.1 b (by omega), a5b b (by omega) (by omega) (by omega) (by omega) (by omega), a3b b (by omega) (by omega) (by omega) (by omega)]
          have eA4 : ∀ k, k ≠ 11 → A4 4 k = if k = 7 then G 0 c 0 + 1 else if k = 8 then A 4 8 + 1 else A 4 k := fun k hk => by rw [fr4.1 4 (by omega), a54, a34 k hk]
          have eT : ∀ k, k ≠ 0 → A4 t k = if k = 16 then A t 16 + 1 else A t k := fun k hk => by rw [fr4.1 t (by omega), a5t, a3t k hk]
          have eT0 : A4 t 0 = c + 1 := by rw [fr4.1 t (by omega), a5t, if_neg (by omega), a3b t (by omega) (by omega) (by omega) (by omega)]; exact x1
          have e3o : ∀ i, A4 (t + 3) i = if i = c then G 1 c 0 else A (t + 3) i := fun i => by rw [fr4.1 _ (by omega), a53, a3b (t + 3) (by omega) (by omega) (by omega) (by omega), x7 (t + 3) (by omega) (by omega) (by omega) (by omega)]
          have e9o : ∀ i, A4 (t + 9) i = if i = c then A t 16 else A (t + 9) i := fun i => by rw [fr4.1 _ (by omega), a59, a3b (t + 9) (by omega) (by omega) (by omega) (by omega), x7 (t + 9) (by omega) (by omega) (by omega) (by omega)]
          have e6 : A4 (t + 6) = A3 (t + 6) := by rw [fr4.1 _ (by omega), a5b _ (by omega) (by omega) (by omega) (by omega) (by omega)]
          have e7' : A4 (t + 7) = A3 (t + 7) := by rw [fr4.1 _ (by omega), a5b _ (by omega) (by omega) (by omega) (by omega) (by omega)]
          have e6o : ∀ y, y ≠ 3 * c + 0 → A4 (t + 6) y = A (t + 6) y ∧ A4 (t + 7) y = A (t + 7) y := fun y hy => by
            rw [e6, e7', (u3 y hy).1, (u3 y hy).2, fr2.1 _ (by omega), fr2.1 _ (by omega), x7 _ (by omega) (by omega) (by omega) (by omega), x7 _ (by omega) (by omega) (by omega) (by omega)]
            exact ⟨rfl, rfl⟩
          have eB : ∀ b, b ≠ 132 → b ≠ 138 → b ≠ 139 → b ≠ 142 → b ≠ 143 → b ≠ 144 → B5 b = B b := fun b e1 e2 e3 e4 e5 e6 => by rw [mr4.1 b e1, z6 b e1 e4 e5 e6, v1 b e1 e3, b2b b e1 e2 e3, y5 b e2 e3]
          have eB2 : ∀ k, k ≠ 7 → k ≠ 8 → k ≠ 18 → k ≠ 19 → B5 132 k = B 132 k := fun k e1 e2 e3 e4 => by rw [mr4.2 k e1 e2, z2 k e3, v2 k e1 e2 e4, b22, if_neg e1, y5 132 (by omega) (by omega)]
          have eB8 : ∀ k, B5 138 k = if k = 414 then A t 16 + 1 else B1 138 k := fun k => by rw [mr4.1 138 (by omega), z6 138 (by omega) (by omega) (by omega) (by omega), v1 138 (by omega) (by omega), b28]
          have eB9' : B5 139 = B3 139 := by rw [mr4.1 139 (by omega), z6 139 (by omega) (by omega) (by omega) (by omega)]
          have eB9 : ∀ y, y ≠ 12 * (210 + c) + 5 → y ≠ 12 * (210 + c) + 6 → B5 139 y = if y = 12 * (210 + c) + 2 then A t 16 else if y = 12 * (210 + c) + 1 then G 1 c 0 else B1 139 y := fun y e1 e2 => by rw [eB9', v3 y (by omega) (by omega), b29]
          have eB4 : ∀ b l, b = 142 ∨ b = 143 ∨ b = 144 → B3 b l = B b l := fun b l hb => by rw [v1 b (by omega) (by omega), b2b b (by omega) (by omega) (by omega), y5 b (by omega) (by omega)]
          have k5 : A4 (t + 1) c = 5 := by rw [eAt (t + 1) (by omega)]; exact x2
          have lf : LnF A A4 B B5 t 210 c := ⟨fun i i0 i1 => by
            rw [eAt (t + 1) (by omega), eAt (t + 2) (by omega), e3o, if_neg (by omega), eA (t + 4) (by omega) (by omega) (by omega) (by omega) (by omega) (by omega) (by omega) (by omega) (by omega) (by omega) (by omega), eA (t + 5) (by omega) (by omega) (by omega) (by omega) (by omega) (by omega) (by omega) (by omega) (by omega) (by omega) (by omega), e9o, if_neg (by omega)]
            exact ⟨(x6 i (by omega)).1, (x6 i (by omega)).2.1, rfl, rfl, rfl, rfl⟩, fun y y0 y1 => e6o y (by omega), by rw [eT 10 (by omega), if_neg (by omega)]; exact Int.le_refl _, by rw [eT 16 (by omega), if_pos rfl]; omega, fun i k i0 i1 k0 k1 _ => by rw [eB9 _ (by omega) (by omega), if_neg (by omega), if_neg (by omega), y3 _ (by omega)]⟩
          have ar4 : ArR A4 B5 t 210 c 0 (G 1 c 0) := by unfold ArR; rw [e6, e7', eB9']; exact ar
          have nb : ∀ k, 0 ≤ k → k < 12 → k ≠ 1 → k ≠ 2 → k ≠ 5 → k ≠ 6 → B5 139 (12 * (210 + c) + k) = if k = 11 then B 132 18 else if k = 3 then pos T n j else if k = 0 then 1 else 0 := fun k k0 k1 q1 q2 q5 q6 => by rw [eB9 _ (by omega) (by omega), if_neg (by omega), if_neg (by omega)]; exact y4 k k0 k1
          have pb := pos_b T (n := n) (j := j) n0
          have E := fun b (hb : b = 18 ∨ b = 19 ∨ b = 20 ∨ b = t + 10 ∨ b = t + 11 ∨ b = t + 12) => eA b (by omega) (by omega) (by omega) (by omega) (by omega) (by omega) (by omega) (by omega) (by omega) (by omega) (by omega)
          refine PC_push hP (CFr_trans cf5 (F1_CFr ht fr4)) (MFr_trans mf4 (F78_MFr mr4)) d4 (NmR_fr p3 (by rw [eA4 5 (by omega), if_neg (by omega), if_neg (by omega)]) (E 18 (by omega)) (E 19 (by omega)) (E 20 (by omega)) (eB2 14 (by omega) (by omega) (by omega) (by omega)) (eB 140 (by omega) (by omega) (by omega) (by omega) (by omega) (by omega)) (eB 141 (by omega) (by omega) (by omega) (by omega) (by omega) (by omega))) (E 19 (by omega)) eT0 (by rw [eB8, if_neg (by omega)]; exact y1) (fun k k0 k16 => by rw [eT k k0, if_neg k16]) (fun k k0 k1 => by rw [eB8, if_neg k1]; exact y2 k (by omega)) (by rw [eT 16 (by omega), if_pos rfl, eB8, if_pos rfl]; exact ⟨rfl, by omega, by omega, by rw [eA4 8 (by omega), if_neg (by omega), if_pos rfl]; omega⟩) ⟨E (t + 10) (by omega), E (t + 11) (by omega), E (t + 12) (by omega)⟩ (fun k k5 k7 k8 k11 => by rw [eA4 k k11, if_neg k7, if_neg k8]) (by rw [eA4 7 (by omega), if_pos rfl]) (by rw [eA4 8 (by omega), if_neg (by omega), if_pos rfl, k5, if_pos rfl]) (by rw [mr4.2 18 (by omega) (by omega)]; exact z1) (fun l => by rw [fr4.1 21 (by omega), a521, a3b 21 (by omega) (by omega) (by omega) (by omega), x7 21 (by omega) (by omega) (by omega) (by omega)]) (fun l => by rw [mr4.1 142 (by omega), z3, eB4 142 l (by omega), k5, if_neg (show ¬ (5 : Int) = 7 by decide)]) (fun l => by rw [mr4.1 143 (by omega), z4, eB4 143 l (by omega)]) (fun l => by rw [mr4.1 144 (by omega), z5, eB4 144 l (by omega)]) lf (fun y y0 y1 => by rw [eAt (t + 8) (by omega)]; exact (x6 y (by omega)).2.2) (by rw [eAt (t + 8) (by omega)]; exact x4) (fun y y0 y1 => by rw [eB9 _ (by omega) (by omega), eB9 _ (by omega) (by omega), if_neg (by omega), if_neg (by omega), if_neg (by omega), if_neg (by omega), y3 _ (by omega), y3 _ (by omega)]; exact ⟨rfl, rfl⟩) (by rw [nb 7 (by omega) (by omega) (by omega) (by omega) (by omega) (by omega), if_neg (by omega), if_neg (by omega), if_neg (by omega)]) ?_ (Or.inl k5) (fun _ => ⟨by rw [e3o, if_pos rfl], ?_⟩)
          · have g0 := ue 0 c 0 (by omega) (Int.le_refl _)
            have g1 := ue 1 c 0 (by omega) (Int.le_refl _)
            have e0 := nb 0 (by omega) (by omega) (by omega) (by omega) (by omega) (by omega)
            rw [Int.add_zero] at e0
            unfold LnR
            rw [k5, g0, g1, e0, nb 3 (by omega) (by omega) (by omega) (by omega) (by omega) (by omega), nb 11 (by omega) (by omega) (by omega) (by omega) (by omega) (by omega), eAt (t + 2) (by omega), x3]
            refine ⟨by rw [if_neg (by omega), if_neg (by omega), if_pos rfl]; rfl, by rw [if_neg (by omega), if_pos rfl], by omega, fun z => by omega, fun z => by omega, fun _ => ?_, fun z => by omega, fun z => by omega, by rw [if_pos rfl, if_neg (by omega)]; exact p11.2⟩
            rw [eB9 _ (by omega) (by omega), eB9 _ (by omega) (by omega), if_neg (by omega), if_pos rfl, if_pos rfl, e3o, if_pos rfl, e9o, if_pos rfl, eT 16 (by omega), if_pos rfl]
            exact ⟨rfl, rfl, by omega, ar4⟩
          · unfold aTy
            rw [e6, ue 4 c _ (by omega) (Int.le_refl _)]
            have tt0 := tt (by decide)
            rw [tl'] at tt0
            by_cases z : 0 ≤ A3 (t + 6) (3 * c + 0)
            · rw [if_pos z] at tt0 ⊢
              rw [fr2.1 19 (by omega), x7 19 (by omega) (by omega) (by omega) (by omega)] at tt0
              rw [p14 _ z ar.2.2.2.1]; exact tt0
            · rw [if_neg z] at tt0; omega
        · have : psG G c 0 (c + 1) 0 = G 0 c 0 + 1 := upG_n.1
          rw [this]
          have q1 := pos_nx (T := T) (j := j) n0 j0
          have q2 := pos_nx (T := T) (j := j + 1) n0 (by omega)
          have q3 := pos_te (T := T) (j := j + 1) n0 pn1
          have q4 := pos_te (T := T) (j := j + 1 + 1) n0 pn2
          omega
        · have q1 := pos_nx (T := T) (j := j) n0 j0
          have q2 := pos_nx (T := T) (j := j + 1) n0 (by omega)
          have q3 := pos_te (T := T) (j := j + 1) n0 pn1
          have q4 := pos_te (T := T) (j := j + 1 + 1) n0 pn2
          omega
      · exact Or.inr hf
    · rw [if_neg (by omega), ob] at cl0
      have e8 : B4 132 8 = x := by rw [z2 8 (by omega)]; exact b8
      obtain ⟨B5, g5, mr5, b58⟩ := m_takeEnd8 (B := B4) (by omega)
      rw [g5] at ml0
      exact ⟨x, A3, B5, cl0, ml0, cf3, MFr_trans mf4 (F78_MFr mr5), Or.inr ⟨xp, by rw [b58, e8]⟩⟩
  · have hd' : B 132 18 = 4 := by rw [p11.2]; have := p11.1; omega
    obtain ⟨fa, fb, B', fe, res⟩ := ln_fault (k := 5) p1 p2 hAt (by omega) (by omega)
    refine ⟨_, A, B', ?_, ?_, res⟩
    · unfold fX6_readWhen
      rw [if_neg hd, fa, ob]
    · unfold fX12_readBlock
      rw [if_pos hd', fb, ob, ob, fe]
