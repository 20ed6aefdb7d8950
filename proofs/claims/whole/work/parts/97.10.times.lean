set_option maxHeartbeats 4000000 in
set_option maxRecDepth 20000 in
theorem ln_times {A B : Mem} {t : Nat} {T : Int → Int} {n N c j : Int} {G : Nat → Int → Int → Int} (h : PR A B t T n N G c j) (h5 : A 1 4 = 5) (h6 : A 1 6 = 7) : ∃ x A' B', fX6_readTimes A = some (x, A') ∧ ((fX12_readBlock 0 B).bind fun q => fX12_takeEnd q) = some B' ∧ LnRes t T n N j A B x A' B' := by
  obtain ⟨hP, hAt, hpos⟩ := h
  obtain ⟨p1, p2, p3, p4, p5, p6, p7, p8, p9, p10, p11, p12, p13, p14, p15, p16⟩ := id hP
  have ht := p1.1
  have n0 := p1.2.2.1.2.1
  have n1 := p2.2.1
  have nN := p2.1.2.1
  obtain ⟨hA, h7, j0, j1, h8⟩ := id hAt
  obtain ⟨-, tl, pn, t1⟩ := tk_len p1 hA h5 h6
  rw [rl_v.2.2.2.2.2.2.2.1] at tl
  have o := p16.2.1 c p4.2.2 (Int.le_refl _)
  have d0 := o.1
  have c0 := p4.2.2
  by_cases hd : A 4 7 < 4
  · have hd' : ¬ B 132 18 = 4 := by rw [p11.2, ← p11.1]; omega
    have d4 : G 0 c 0 < 4 := by rw [← p11.1]; exact hd
    obtain ⟨c200, jN, A1, A2', B1, f1, -, g1, cf1, -, -, mf1, x1, x2, x3, x4, x5, x6, x7, y1, y2, y3, y4, y5⟩ := ln_open (kind := 7) (what := 3) hP hAt hpos (by omega)
    have gA : gm A 4 1 = some t := gm41 ht p1.2.1
    have mf2 : MFr B (wr B1 132 7 (j + 1)) := MFr_trans mf1 (F78_MFr (F78_7 B1 _))
    obtain ⟨x, A2, v, B2, f2, g2, fr2, mr2, res⟩ := r_number (lo := 2) (hi := 9) (CK_CFr p1 cf1) (MK_MFr p2 mf2) (by rw [x7 1 (by omega) (by omega) (by omega) (by omega)]; exact hA.2.1) j0 jN (by rw [wr_at, if_pos rfl]) (by rw [wr_at, if_neg (by omega), y5 132 (by omega) (by omega)]; exact h8) (by omega) (by omega)
    have e7 : w32 (B1 132 7 + 1) = j + 1 := by rw [y5 132 (by omega) (by omega), h7, w32_id (by omega) (by omega)]
    have cf2 : CFr t A A2 := CFr_trans cf1 (F1_CFr ht fr2)
    generalize hB3 : wr B2 139 (12 * (210 + c) + 1) v = B3
    have b3b : ∀ b, b ≠ 139 → B3 b = B2 b := fun b hb => by rw [← hB3, wr_ne hb]
    have b318 : B3 132 18 = G 0 c 0 := by rw [b3b 132 (by omega), mr2.2 18 (by omega) (by omega), wr_at, if_neg (by omega), y5 132 (by omega) (by omega)]; exact p11.2
    have b314 : B3 132 14 = G 1 c 0 := by rw [b3b 132 (by omega), mr2.2 14 (by omega) (by omega), wr_at, if_neg (by omega), y5 132 (by omega) (by omega)]; exact p3.2.1
    obtain ⟨B4, g4, z1, z2, z3, z4, z5, z6⟩ := m_opens (B := B3) (kind := 3) b318 d0.1 d4 b314 c0 c200
    have mf4 : MFr B B4 := MFr_trans (MFr_trans mf2 (F78_MFr mr2)) ⟨fun b b1 b2 => by rw [z6 b b1 (by omega) (by omega) (by omega), b3b b (by omega)], fun k _ => by rw [z6 138 (by omega) (by omega) (by omega) (by omega), b3b 138 (by omega)], fun y hy => by rw [z6 139 (by omega) (by omega) (by omega) (by omega), ← hB3, wr_at, if_neg (by omega)], fun k _ _ _ k18 _ => by rw [z2 k k18, b3b 132 (by omega)]⟩
    have cl0 : fX6_readTimes A = ((if x = 0 then (gm A2 4 1).bind fun t4 => (stI A2 (t4 + 9) c (A2 1 6)).bind fun M5 => (stI M5 21 (M5 4 7) c).bind fun M6 => (pI M6 4 7 (w32 ((M6 4 7) + 1))).bind fun M7 => (fX6_readSemicolon M7).bind fun q8 => some (q8.1, q8.2) else some (x, A2) : Option (Int × Mem))).bind fun q9 => some (q9.1, q9.2) := by
      unfold fX6_readTimes
      rw [if_pos hd, gA, ob, f1, ob]
      dsimp only
      rw [f2, ob]
    have ml0 : ((fX12_readBlock 0 B).bind fun q => fX12_takeEnd q) = fX12_takeEnd B4 := by
      unfold fX12_readBlock
      rw [if_neg hd', if_pos rfl, ob, g1, ob]
      dsimp only
      rw [pI_ok, ob, e7, if_pos rfl, g2, ob]
      dsimp only
      rw [w32_id (show -2147483648 ≤ 12 * (210 + c) + 1 by omega) (by omega), st139 _ _ _ (by omega) (by omega), ob, ob, ob, hB3, g4, ob, ob]
    rcases res with ⟨rfl, at2, v6, v1, v9, b7, b8, jN2, pn1⟩ | ⟨xp, b8⟩
    · generalize hA3 : wr (wr (wr A2 (t + 9) c v) 21 (G 0 c 0) c) 4 7 (G 0 c 0 + 1) = A3
      have g41 : gm A2 4 1 = some t := gm41 ht (by rw [fr2.1 4 (by omega), x7 4 (by omega) (by omega) (by omega) (by omega)]; exact p1.2.1)
      have e47 : wr A2 (t + 9) c v 4 7 = G 0 c 0 := by rw [wr_ne (by omega), fr2.1 4 (by omega), x7 4 (by omega) (by omega) (by omega) (by omega)]; exact p11.1
      have e47' : wr (wr A2 (t + 9) c v) 21 (G 0 c 0) c 4 7 = G 0 c 0 := by rw [wr_ne (by omega)]; exact e47
      rw [if_pos rfl, g41, ob, v6, ts9 ht _ _ _ c0 c200, ob, e47, st21 _ _ _ d0.1 d4, ob, pI_ok, ob, e47', w32_id (by omega) (by omega), hA3] at cl0
      have a3b : ∀ b, b ≠ 4 → b ≠ 21 → b ≠ t + 9 → A3 b = A2 b := fun b b1 b2 b3 => by rw [← hA3, wr_ne b1, wr_ne b2, wr_ne b3]
      have a34 : ∀ k, A3 4 k = if k = 7 then G 0 c 0 + 1 else A2 4 k := fun k => by rw [← hA3, wr_at, wr_ne (by omega), wr_ne (by omega)]
      have a321 : ∀ l, A3 21 l = if l = G 0 c 0 then c else A2 21 l := fun l => by rw [← hA3, wr_ne (by omega), wr_at, wr_ne (by omega)]
      have a39 : ∀ i, A3 (t + 9) i = if i = c then v else A2 (t + 9) i := fun i => by rw [← hA3, wr_ne (by omega), wr_ne (by omega), wr_at]
      have cf3 : CFr t A A3 := CFr_trans cf2 ⟨fun b b1 b4 b18 bt => a3b b b4 (by omega) (by omega), by rw [a3b 1 (by omega) (by omega) (by omega)], by rw [a34, if_neg (by omega)]⟩
      obtain ⟨x', A4, B5, f4, g5, fr4, mr4, res4⟩ := r_semi (A := A3) (B := B4) (j := j + 1) (CK_CFr p1 cf3) (MK_MFr p2 mf4) (by rw [a3b 1 (by omega) (by omega) (by omega)]; exact at2.2.1) (by omega) (by omega) (by rw [z2 7 (by omega), b3b 132 (by omega)]; omega) (by rw [z2 8 (by omega), b3b 132 (by omega)]; exact b8)
      rw [f4, ob, ob] at cl0
      rw [g5] at ml0
      refine ⟨x', A4, B5, cl0, ml0, CFr_trans cf3 (F1_CFr ht fr4), MFr_trans mf4 (F78_MFr mr4), ?_⟩
      rcases res4 with ⟨rfl, at4, b47, b48, jN3, pn2⟩ | hf
      · left
        refine ⟨rfl, psG G c, c + 1, j + 1 + 1, ?_, at4, by omega, b48, by omega, by omega, ?_, ?_⟩
        · have ue : GEq G (psG G c) c := upG_eq
          have eA : ∀ b, b ≠ 1 → b ≠ 4 → b ≠ 21 → b ≠ t + 9 → b ≠ t → b ≠ t + 1 → b ≠ t + 2 → b ≠ t + 8 → A4 b = A b := fun b e1 e2 e3 e4 e5 e6 e7 e8 => by rw [fr4.1 b e1, a3b b e2 e3 e4, fr2.1 b e1, x7 b e5 e6 e7 e8]
          have eAt : ∀ b, b ≠ 1 → b ≠ 4 → b ≠ 21 → b ≠ t + 9 → A4 b = A1 b := fun b e1 e2 e3 e4 => by rw [fr4.1 b e1, a3b b e2 e3 e4, fr2.1 b e1]
          have eA4 : ∀ k, A4 4 k = if k = 7 then G 0 c 0 + 1 else A 4 k := fun k => by rw [fr4.1 4 (by omega), a34, fr2.1 4 (by omega), x7 4 (by omega) (by omega) (by omega) (by omega)]
          have eB : ∀ b, b ≠ 132 → b ≠ 138 → b ≠ 139 → b ≠ 142 → b ≠ 143 → b ≠ 144 → B5 b = B b := fun b e1 e2 e3 e4 e5 e6 => by rw [mr4.1 b e1, z6 b e1 e4 e5 e6, b3b b e3, mr2.1 b e1, wr_ne e1, y5 b e2 e3]
          have eB2 : ∀ k, k ≠ 7 → k ≠ 8 → k ≠ 18 → B5 132 k = B 132 k := fun k e1 e2 e3 => by rw [mr4.2 k e1 e2, z2 k e3, b3b 132 (by omega), mr2.2 k e1 e2, wr_at, if_neg e1, y5 132 (by omega) (by omega)]
          have eB8 : B5 138 = B1 138 := by rw [mr4.1 138 (by omega), z6 138 (by omega) (by omega) (by omega) (by omega), b3b 138 (by omega), mr2.1 138 (by omega), wr_ne (by omega)]
          have eB9 : ∀ y, B5 139 y = if y = 12 * (210 + c) + 1 then v else B1 139 y := fun y => by rw [mr4.1 139 (by omega), z6 139 (by omega) (by omega) (by omega) (by omega), ← hB3, wr_at, mr2.1 139 (by omega), wr_ne (by omega)]
          have eB4 : ∀ b l, b = 142 ∨ b = 143 ∨ b = 144 → B3 b l = B b l := fun b l hb => by rw [b3b b (by omega), mr2.1 b (by omega), wr_ne (by omega), y5 b (by omega) (by omega)]
          have k7 : A4 (t + 1) c = 7 := by rw [eAt (t + 1) (by omega) (by omega) (by omega) (by omega)]; exact x2
          have lf : LnF A A4 B B5 t 210 c := ⟨fun i i0 i1 => by
            rw [eAt (t + 1) (by omega) (by omega) (by omega) (by omega), eAt (t + 2) (by omega) (by omega) (by omega) (by omega), eA (t + 3) (by omega) (by omega) (by omega) (by omega) (by omega) (by omega) (by omega) (by omega), eA (t + 4) (by omega) (by omega) (by omega) (by omega) (by omega) (by omega) (by omega) (by omega), eA (t + 5) (by omega) (by omega) (by omega) (by omega) (by omega) (by omega) (by omega) (by omega), fr4.1 (t + 9) (by omega), a39, if_neg (by omega), fr2.1 (t + 9) (by omega), x7 (t + 9) (by omega) (by omega) (by omega) (by omega)]
            exact ⟨(x6 i (by omega)).1, (x6 i (by omega)).2.1, rfl, rfl, rfl, rfl⟩, fun y y0 y1 => by rw [eA (t + 6) (by omega) (by omega) (by omega) (by omega) (by omega) (by omega) (by omega) (by omega), eA (t + 7) (by omega) (by omega) (by omega) (by omega) (by omega) (by omega) (by omega) (by omega)]; exact ⟨rfl, rfl⟩, by rw [eAt t (by omega) (by omega) (by omega) (by omega), x5 10 (by omega)]; exact Int.le_refl _, by rw [eAt t (by omega) (by omega) (by omega) (by omega), x5 16 (by omega)]; exact Int.le_refl _, fun i k i0 i1 k0 k1 _ => by rw [eB9, if_neg (by omega), y3 _ (by omega)]⟩
          have nb : ∀ k, 0 ≤ k → k < 12 → k ≠ 1 → B5 139 (12 * (210 + c) + k) = if k = 11 then B 132 18 else if k = 3 then pos T n j else if k = 0 then 3 else 0 := fun k k0 k1 k5 => by rw [eB9, if_neg (by omega)]; exact y4 k k0 k1
          have pb := pos_b T (n := n) (j := j) n0
          refine PC_push hP (CFr_trans cf3 (F1_CFr ht fr4)) (MFr_trans mf4 (F78_MFr mr4)) d4 (NmR_fr p3 (by rw [eA4, if_neg (by omega)]) (eA 18 (by omega) (by omega) (by omega) (by omega) (by omega) (by omega) (by omega) (by omega)) (eA 19 (by omega) (by omega) (by omega) (by omega) (by omega) (by omega) (by omega) (by omega)) (eA 20 (by omega) (by omega) (by omega) (by omega) (by omega) (by omega) (by omega) (by omega)) (eB2 14 (by omega) (by omega) (by omega)) (eB 140 (by omega) (by omega) (by omega) (by omega) (by omega) (by omega)) (eB 141 (by omega) (by omega) (by omega) (by omega) (by omega) (by omega))) (eA 19 (by omega) (by omega) (by omega) (by omega) (by omega) (by omega) (by omega) (by omega)) (by rw [eAt t (by omega) (by omega) (by omega) (by omega)]; exact x1) (by rw [eB8]; exact y1) (fun k k0 k10 => by rw [eAt t (by omega) (by omega) (by omega) (by omega)]; exact x5 k k0) (fun k k0 k1 => by rw [eB8]; exact y2 k (by omega)) (by rw [eAt t (by omega) (by omega) (by omega) (by omega), x5 16 (by omega), eB8, y2 414 (by omega)]; exact ⟨p6.1, p6.2.1, by omega, by rw [eA4, if_neg (by omega)]; omega⟩) ⟨eA (t + 10) (by omega) (by omega) (by omega) (by omega) (by omega) (by omega) (by omega) (by omega), eA (t + 11) (by omega) (by omega) (by omega) (by omega) (by omega) (by omega) (by omega) (by omega), eA (t + 12) (by omega) (by omega) (by omega) (by omega) (by omega) (by omega) (by omega) (by omega)⟩ (fun k k5 k7 k8 k11 => by rw [eA4, if_neg k7]) (by rw [eA4, if_pos rfl]) (by rw [eA4, if_neg (by omega), k7, if_neg (by omega), Int.add_zero]) (by rw [mr4.2 18 (by omega) (by omega)]; exact z1) (fun l => by rw [fr4.1 21 (by omega), a321, fr2.1 21 (by omega), x7 21 (by omega) (by omega) (by omega) (by omega)]) (fun l => by rw [mr4.1 142 (by omega), z3, eB4 142 l (by omega), k7, if_pos (show (7 : Int) = 7 from rfl)]) (fun l => by rw [mr4.1 143 (by omega), z4, eB4 143 l (by omega)]) (fun l => by rw [mr4.1 144 (by omega), z5, eB4 144 l (by omega)]) lf (fun y y0 y1 => by rw [eAt (t + 8) (by omega) (by omega) (by omega) (by omega)]; exact (x6 y (by omega)).2.2) (by rw [eAt (t + 8) (by omega) (by omega) (by omega) (by omega)]; exact x4) (fun y y0 y1 => by rw [eB9, eB9, if_neg (by omega), if_neg (by omega), y3 _ (by omega), y3 _ (by omega)]; exact ⟨rfl, rfl⟩) (by rw [nb 7 (by omega) (by omega) (by omega), if_neg (by omega), if_neg (by omega), if_neg (by omega)]) ?_ (Or.inr k7) (fun z => by omega)
          have g0 := ue 0 c 0 (by omega) (Int.le_refl _)
          have e0 := nb 0 (by omega) (by omega) (by omega)
          rw [Int.add_zero] at e0
          unfold LnR
          rw [k7, g0, e0, nb 3 (by omega) (by omega) (by omega), nb 11 (by omega) (by omega) (by omega), eAt (t + 2) (by omega) (by omega) (by omega) (by omega), x3]
          refine ⟨by rw [if_neg (by omega), if_neg (by omega), if_pos rfl]; rfl, by rw [if_neg (by omega), if_pos rfl], by omega, fun z => by omega, fun z => by omega, fun z => by omega, fun _ => ?_, fun z => by omega, by rw [if_pos rfl, if_neg (by omega)]; exact p11.2⟩
          rw [eB9, if_pos rfl, fr4.1 (t + 9) (by omega), a39, if_pos rfl]
          exact ⟨rfl, v1, v9⟩
        · have : psG G c 0 (c + 1) 0 = G 0 c 0 + 1 := upG_n.1
          rw [this]
          have q1 := pos_nx (T := T) (j := j) n0 j0
          have q2 := pos_nx (T := T) (j := j + 1) n0 (by omega)
          have q3 := pos_te (T := T) (j := j + 1) n0 pn1
          have q4 := pos_te (T := T) (j := j + 1 + 1) n0 pn2
          omega
        · have q1 := pos_nx (T := T) (j := j) n0 j0
          have q2 := pos_nx (T := T) (j := j + 1) n0 (by omega)
          have q3 := pos_te (T := T) (j := j + 1) n0 pn1
          have q4 := pos_te (T := T) (j := j + 1 + 1) n0 pn2
          omega
      · exact Or.inr hf
    · rw [if_neg (by omega), ob] at cl0
      have e8 : B4 132 8 = x := by rw [z2 8 (by omega), b3b 132 (by omega)]; exact b8
      obtain ⟨B5, g5, mr5, b58⟩ := m_takeEnd8 (B := B4) (by omega)
      rw [g5] at ml0
      exact ⟨x, A2, B5, cl0, ml0, cf2, MFr_trans mf4 (F78_MFr mr5), Or.inr ⟨xp, by rw [b58, e8]⟩⟩
  · have hd' : B 132 18 = 4 := by rw [p11.2]; have := p11.1; omega
    obtain ⟨fa, fb, B', fe, res⟩ := ln_fault (k := 5) p1 p2 hAt (by omega) (by omega)
    refine ⟨_, A, B', ?_, ?_, res⟩
    · unfold fX6_readTimes
      rw [if_neg hd, fa, ob]
    · unfold fX12_readBlock
      rw [if_pos hd', fb, ob, ob, fe]
