set_option maxHeartbeats 4000000 in
set_option maxRecDepth 20000 in
theorem ln_else {A B : Mem} {t : Nat} {T : Int → Int} {n N c j : Int} {G : Nat → Int → Int → Int} (h : PR A B t T n N G c j) (h5 : A 1 4 = 5) (h6 : A 1 6 = 6) : ∃ x A' B', fX6_readElse A = some (x, A') ∧ ((fX12_readElse B).bind fun q => fX12_takeEnd q) = some B' ∧ LnRes t T n N j A B x A' B' := by
  obtain ⟨hP, hAt, hpos⟩ := h
  obtain ⟨p1, p2, p3, p4, p5, p6, p7, p8, p9, p10, p11, p12, p13, p14, p15, p16⟩ := id hP
  have ht := p1.1
  have n0 := p1.2.2.1.2.1
  have n1 := p2.2.1
  have nN := p2.1.2.1
  obtain ⟨hA, h7, j0, j1, h8⟩ := id hAt
  obtain ⟨-, tl, pn, t1⟩ := tk_len p1 hA h5 h6
  rw [rl_v.2.2.2.2.2.2.1] at tl
  have o := p16.2.1 c p4.2.2 (Int.le_refl _)
  have d0 := o.1
  have c0 := p4.2.2
  have gA : gm A 4 1 = some t := gm41 ht p1.2.1
  obtain ⟨fa, fb, Bf, fe, resf⟩ := ln_fault (k := 1) p1 p2 hAt (by omega) (by omega)
  by_cases hd : G 0 c 0 = 0
  · refine ⟨_, A, Bf, ?_, ?_, resf⟩
    · unfold fX6_readElse
      rw [if_pos (by rw [p11.1]; omega), ob, if_pos rfl, fa, ob]
    · unfold fX12_readElse
      rw [if_pos (by rw [p11.2]; exact hd), fb, ob, ob, fe]
  · obtain ⟨oo1, oo2, oo3, oo4, oo5, oo6, oo7, oo8⟩ := o.2.2.2 (G 0 c 0 - 1) (by omega) (by omega)
    obtain ⟨q1, q2, q3, q4⟩ := p15 (G 0 c 0 - 1) (by omega) (by omega)
    obtain ⟨op1, op2⟩ := p16.2.2.1 (G 0 c 0 - 1) (by omega) (by omega)
    have lw := p16.1 (G 2 c (G 0 c 0 - 1)) oo1.1 oo1.2
    generalize hw : G 2 c (G 0 c 0 - 1) = w at *
    have wd : w32 (A 4 7 - 1) = G 0 c 0 - 1 := by rw [p11.1, w32_id (by omega) (by omega)]
    have wd' : w32 (B 132 18 - 1) = G 0 c 0 - 1 := by rw [p11.2, w32_id (by omega) (by omega)]
    have n7 : ¬ A 4 7 ≤ 0 := by rw [p11.1]; omega
    have n18 : ¬ B 132 18 = 0 := by rw [p11.2]; exact hd
    have c200' : c < 200 := by omega
    by_cases hk : A (t + 1) w = 5
    · by_cases he : G 3 c (G 0 c 0 - 1) = 1
      · -- a second else
        have p8n : ¬ A (t + 8) w = -1 := by
          obtain ⟨z1, z2, z3, z4⟩ := lw.2.2.1 hk
          have e6 : G 6 w 0 ≠ -1 := (op2 hk).mp he
          rw [z3, if_neg e6]; exact e6
        refine ⟨_, A, Bf, ?_, ?_, resf⟩
        · unfold fX6_readElse
          rw [if_neg n7, wd, ld21 _ _ (by omega) (by omega), ob, ob, q1, if_neg (by omega), gA, ob, tl1 ht _ _ oo1.1 (by omega), ob, if_pos hk, ob, tl8 ht _ _ oo1.1 (by omega), ob, if_neg p8n, fa, ob]
        · unfold fX12_readElse
          rw [if_neg n18, wd', ld142 _ _ (by omega) (by omega), ob, q3, if_neg (by rw [if_neg (by omega), if_pos he]; decide), fb, ob, ob, fe]
      · have he0 : G 3 c (G 0 c 0 - 1) = 0 := by omega
        have g6 : G 6 w 0 = -1 := by
          by_cases z : G 6 w 0 = -1
          · exact z
          · exact absurd ((op2 hk).mpr z) he
        have p8 : A (t + 8) w = -1 := by
          obtain ⟨z1, z2, z3, z4⟩ := lw.2.2.1 hk
          rw [z3, if_pos g6]; exact op1
        have s3 : A (t + 3) w = G 1 w 0 := (lw.2.1.2.2.2.2.2.1 hk).1
        -- the reference: kind, names, depth first
        generalize hB0 : wr (wr (wr B 142 (G 0 c 0 - 1) 2) 132 14 (G 1 w 0)) 132 18 (G 0 c 0 - 1) = B0
        have b0b : ∀ b, b ≠ 132 → b ≠ 142 → B0 b = B b := fun b e1 e2 => by rw [← hB0, wr_ne e1, wr_ne e1, wr_ne e2]
        have b02 : ∀ k, B0 132 k = if k = 18 then G 0 c 0 - 1 else if k = 14 then G 1 w 0 else B 132 k := fun k => by rw [← hB0, wr_at, wr_at, wr_ne (by omega)]
        have b042 : ∀ l, B0 142 l = if l = G 0 c 0 - 1 then 2 else B 142 l := fun l => by rw [← hB0, wr_ne (by omega), wr_ne (by omega), wr_at]
        have mf0 : MFr B B0 := ⟨fun b e1 e2 => b0b b e1 (by omega), fun k _ => by rw [b0b 138 (by omega) (by omega)], fun y _ => by rw [b0b 139 (by omega) (by omega)], fun k _ _ k14 k18 _ => by rw [b02, if_neg k18, if_neg k14]⟩
        obtain ⟨c200, jN, A1, A2', B1', f1, -, -, cf1, -, -, -, x1, x2, x3, x4, x5, x6, x7, -⟩ := ln_open (kind := 6) (what := 2) hP hAt hpos (by omega)
        obtain ⟨B1, g1, y1, y2, y3, y4, y5⟩ := m_newLine (what := 2) (MK_MFr p2 mf0) (show B0 132 7 = j by rw [b02, if_neg (by omega), if_neg (by omega)]; exact h7) j0 j1 (show B0 138 412 = c by rw [b0b 138 (by omega) (by omega)]; exact p4.2.1) c0 c200
        have mf1 : MFr B B1 := MFr_trans mf0 ⟨fun b b1 b2 => y5 b (by omega) (by omega), fun k hk' => y2 k (by omega), fun y hy => y3 y (by omega), fun k _ _ _ _ _ => by rw [y5 132 (by omega) (by omega)]⟩
        generalize hA3 : wr (wr A1 (t + 8) w c) 4 5 (G 1 w 0) = A3
        have a3b : ∀ b, b ≠ 4 → b ≠ t + 8 → A3 b = A1 b := fun b e1 e2 => by rw [← hA3, wr_ne e1, wr_ne e2]
        have a34 : ∀ k, A3 4 k = if k = 5 then G 1 w 0 else A 4 k := fun k => by rw [← hA3, wr_at, wr_ne (by omega), x7 4 (by omega) (by omega) (by omega) (by omega)]
        have a38 : ∀ i, A3 (t + 8) i = if i = w then c else A1 (t + 8) i := fun i => by rw [← hA3, wr_ne (by omega), wr_at]
        have cf3 : CFr t A A3 := CFr_trans cf1 ⟨fun b b1 b4 b18 bt => a3b b b4 (by omega), by rw [a3b 1 (by omega) (by omega)], by rw [a34, if_neg (by omega), x7 4 (by omega) (by omega) (by omega) (by omega)]⟩
        generalize hB4 : wr (wr (wr (wr B1 139 (12 * (210 + c) + 7) w) 139 (12 * (210 + w) + 7) c) 132 18 (G 0 c 0)) 132 7 (j + 1) = B4
        have b4b : ∀ b, b ≠ 132 → b ≠ 139 → B4 b = B1 b := fun b e1 e2 => by rw [← hB4, wr_ne e1, wr_ne e1, wr_ne e2, wr_ne e2]
        have b42 : ∀ k, B4 132 k = if k = 7 then j + 1 else if k = 18 then G 0 c 0 else B0 132 k := fun k => by rw [← hB4, wr_at, wr_at, wr_ne (by omega), wr_ne (by omega), y5 132 (by omega) (by omega)]
        have b49 : ∀ y, B4 139 y = if y = 12 * (210 + w) + 7 then c else if y = 12 * (210 + c) + 7 then w else B1 139 y := fun y => by rw [← hB4, wr_ne (by omega), wr_ne (by omega), wr_at, wr_at]
        have mf4 : MFr B B4 := MFr_trans mf1 ⟨fun b b1 b2 => b4b b b1 (by omega), fun k _ => by rw [b4b 138 (by omega) (by omega)], fun y hy => by rw [b49, if_neg (by omega), if_neg (by omega)], fun k k7 _ _ k18 _ => by rw [b42, if_neg k7, if_neg k18, y5 132 (by omega) (by omega)]⟩
        obtain ⟨x', A4, B5, f4, g5, fr4, mr4, res4⟩ := r_semi (A := A3) (B := B4) (j := j) (CK_CFr p1 cf3) (MK_MFr p2 mf4) (by rw [a3b 1 (by omega) (by omega), x7 1 (by omega) (by omega) (by omega) (by omega)]; exact hA.2.1) j0 jN (by rw [b42, if_pos rfl]) (by rw [b42, if_neg (by omega), if_neg (by omega), b02, if_neg (by omega), if_neg (by omega)]; exact h8)
        have cl0 : fX6_readElse A = some (x', A4) := by
          unfold fX6_readElse
          have gA1 : gm (wr A1 (t + 8) w c) 4 1 = some t := gm41 ht (by rw [wr_ne (by omega), x7 4 (by omega) (by omega) (by omega) (by omega)]; exact p1.2.1)
          have l3 : wr A1 (t + 8) w c (t + 3) w = G 1 w 0 := by rw [wr_ne (by omega), x7 (t + 3) (by omega) (by omega) (by omega) (by omega)]; exact s3
          rw [if_neg n7, wd, ld21 _ _ (by omega) (by omega), ob, ob, q1, if_neg (by omega), gA, ob, tl1 ht _ _ oo1.1 (by omega), ob, if_pos hk, ob, tl8 ht _ _ oo1.1 (by omega), ob, if_pos p8, ob, ob, f1, ob]
          dsimp only
          rw [ts8 ht _ _ _ oo1.1 (by omega), ob, gA1, ob, tl3 ht _ _ oo1.1 (by omega), ob, l3, pI_ok, ob, hA3, f4, ob]
        have ml0 : ((fX12_readElse B).bind fun q => fX12_takeEnd q) = some B5 := by
          unfold fX12_readElse
          have e1 : wr B 142 (G 0 c 0 - 1) 2 132 18 = G 0 c 0 := by rw [wr_ne (by omega)]; exact p11.2
          have e2 : wr B 142 (G 0 c 0 - 1) 2 143 (G 0 c 0 - 1) = G 1 w 0 := by rw [wr_ne (by omega)]; exact q4 hk
          have e3 : wr (wr B 142 (G 0 c 0 - 1) 2) 132 14 (G 1 w 0) 132 18 = G 0 c 0 := by rw [wr_at, if_neg (by omega)]; exact e1
          have e4 : B1 132 18 = G 0 c 0 - 1 := by rw [y5 132 (by omega) (by omega), b02, if_pos rfl]
          have e5 : B1 144 (G 0 c 0 - 1) = w := by rw [y5 144 (by omega) (by omega), b0b 144 (by omega) (by omega)]; exact q2
          have e6 : wr B1 139 (12 * (210 + c) + 7) w 132 18 = G 0 c 0 - 1 := by rw [wr_ne (by omega)]; exact e4
          have e7 : wr B1 139 (12 * (210 + c) + 7) w 144 (G 0 c 0 - 1) = w := by rw [wr_ne (by omega)]; exact e5
          have e8 : wr (wr B1 139 (12 * (210 + c) + 7) w) 139 (12 * (210 + w) + 7) c 132 18 = G 0 c 0 - 1 := by rw [wr_ne (by omega)]; exact e6
          have e9 : wr (wr (wr B1 139 (12 * (210 + c) + 7) w) 139 (12 * (210 + w) + 7) c) 132 18 (G 0 c 0) 132 7 = j := by rw [wr_at, if_neg (by omega), wr_ne (by omega), wr_ne (by omega), y5 132 (by omega) (by omega), b02, if_neg (by omega), if_neg (by omega)]; exact h7
          have q31 : B 142 (G 0 c 0 - 1) = 1 := by rw [q3, if_neg (by omega), if_neg he]
          rw [if_neg n18, wd', ld142 _ _ (by omega) (by omega), ob, if_pos q31, st142 _ _ _ (by omega) (by omega), ob, e1, w32_id (show -2147483648 ≤ G 0 c 0 - 1 by omega) (by omega), ld143 _ _ (by omega) (by omega), ob, e2, pI_ok, ob, pI_ok, ob, e3, w32_id (show -2147483648 ≤ G 0 c 0 - 1 by omega) (by omega), hB0, g1, ob]
          dsimp only
          rw [e4, ld144 _ _ (by omega) (by omega), ob, e5, w32_id (show -2147483648 ≤ 12 * (210 + c) + 7 by omega) (by omega), st139 _ _ _ (by omega) (by omega), ob, e6, ld144 _ _ (by omega) (by omega), ob, e7, w32_id (show -2147483648 ≤ 210 + w by omega) (by omega), w32_id (show -2147483648 ≤ 12 * (210 + w) by omega) (by omega), w32_id (show -2147483648 ≤ 12 * (210 + w) + 7 by omega) (by omega), idv12 (by omega) (by omega), w32_id (show -2147483648 ≤ 210 + c - 210 by omega) (by omega), show 210 + c - 210 = c by omega, st139 _ _ _ (by omega) (by omega), ob, pI_ok, ob, e8, w32_id (show -2147483648 ≤ G 0 c 0 - 1 + 1 by omega) (by omega), show G 0 c 0 - 1 + 1 = G 0 c 0 by omega, pI_ok, ob, ob, e9, w32_id (show -2147483648 ≤ j + 1 by omega) (by omega), hB4, g5]
        refine ⟨x', A4, B5, cl0, ml0, CFr_trans cf3 (F1_CFr ht fr4), MFr_trans mf4 (F78_MFr mr4), ?_⟩
        rcases res4 with ⟨rfl, at4, b47, b48, jN3, pn2⟩ | hf
        · left
          refine ⟨rfl, elG G c, c + 1, j + 1, ?_, at4, by omega, b48, by omega, by omega, ?_, ?_⟩
          · have ue : GEq G (elG G c) c := fun a i l ha hi => by
              unfold elG
              rw [if_neg (by omega)]
              exact upG_eq a i l ha hi
            have eA : ∀ b, b ≠ 1 → b ≠ 4 → b ≠ t → b ≠ t + 1 → b ≠ t + 2 → b ≠ t + 8 → A4 b = A b := fun b e1 e2 e3 e4 e5 e6 => by rw [fr4.1 b e1, a3b b e2 e6, x7 b e3 e4 e5 e6]
            have eAt : ∀ b, b = t ∨ b = t + 1 ∨ b = t + 2 → A4 b = A1 b := fun b hb => by rw [fr4.1 b (by omega), a3b b (by omega) (by omega)]
            have eA4 : ∀ k, A4 4 k = if k = 5 then G 1 w 0 else A 4 k := fun k => by rw [fr4.1 4 (by omega), a34]
            have eA8 : ∀ i, A4 (t + 8) i = if i = w then c else A1 (t + 8) i := fun i => by rw [fr4.1 _ (by omega), a38]
            have eB : ∀ b, b ≠ 132 → b ≠ 138 → b ≠ 139 → b ≠ 142 → B5 b = B b := fun b e1 e2 e3 e4 => by rw [mr4.1 b e1, b4b b e1 e3, y5 b e2 e3, b0b b e1 e4]
            have eB8 : B5 138 = B1 138 := by rw [mr4.1 138 (by omega), b4b 138 (by omega) (by omega)]
            have y28 : ∀ k, k ≠ 412 → B1 138 k = B 138 k := fun k hk' => by rw [y2 k hk', b0b 138 (by omega) (by omega)]
            have y39 : ∀ y, y < 12 * (210 + c) ∨ 12 * (210 + c) + 12 ≤ y → B1 139 y = B 139 y := fun y hy => by rw [y3 y hy, b0b 139 (by omega) (by omega)]
            have eB9 : ∀ y, B5 139 y = if y = 12 * (210 + w) + 7 then c else if y = 12 * (210 + c) + 7 then w else B1 139 y := fun y => by rw [mr4.1 139 (by omega), b49]
            have k6 : A4 (t + 1) c = 6 := by rw [eAt (t + 1) (by omega)]; exact x2
            have lf : LnF A A4 B B5 t 210 c := ⟨fun i i0 i1 => by
              rw [eAt (t + 1) (by omega), eAt (t + 2) (by omega), eA (t + 3) (by omega) (by omega) (by omega) (by omega) (by omega) (by omega), eA (t + 4) (by omega) (by omega) (by omega) (by omega) (by omega) (by omega), eA (t + 5) (by omega) (by omega) (by omega) (by omega) (by omega) (by omega), eA (t + 9) (by omega) (by omega) (by omega) (by omega) (by omega) (by omega)]
              exact ⟨(x6 i (by omega)).1, (x6 i (by omega)).2.1, rfl, rfl, rfl, rfl⟩, fun y y0 y1 => by rw [eA (t + 6) (by omega) (by omega) (by omega) (by omega) (by omega) (by omega), eA (t + 7) (by omega) (by omega) (by omega) (by omega) (by omega) (by omega)]; exact ⟨rfl, rfl⟩, by rw [eAt t (by omega), x5 10 (by omega)]; exact Int.le_refl _, by rw [eAt t (by omega), x5 16 (by omega)]; exact Int.le_refl _, fun i k i0 i1 k0 k1 hh => by rw [eB9, if_neg (fun z => by
                have hi : i = w := by omega
                rw [hi, hk] at hh; omega), if_neg (by omega), y39 _ (by omega)]⟩
            have nb : ∀ k, 0 ≤ k → k < 12 → k ≠ 7 → B5 139 (12 * (210 + c) + k) = if k = 11 then G 0 c 0 - 1 else if k = 3 then pos T n j else if k = 0 then 2 else 0 := fun k k0 k1 q7 => by
              rw [eB9, if_neg (by omega), if_neg (by omega), y4 k k0 k1, b02, if_pos rfl]
            have pb := pos_b T (n := n) (j := j) n0
            have nmE : NmR A4 B5 (G 1 w 0) := NmR_less p3 ((p16.2.1 w oo1.1 (by omega)).2.1).1 oo6 (by rw [eA4, if_pos rfl]) (eA 18 (by omega) (by omega) (by omega) (by omega) (by omega) (by omega)) (eA 19 (by omega) (by omega) (by omega) (by omega) (by omega) (by omega)) (eA 20 (by omega) (by omega) (by omega) (by omega) (by omega) (by omega)) (by rw [mr4.2 14 (by omega) (by omega), b42, if_neg (by omega), if_neg (by omega), b02, if_neg (by omega), if_pos rfl]) (eB 140 (by omega) (by omega) (by omega) (by omega)) (eB 141 (by omega) (by omega) (by omega) (by omega))
            have ea8' : ∀ y, 0 ≤ y → y < c → A4 (t + 8) y = if y = w then c else A (t + 8) y := fun y y0 y1 => by
              rw [eA8]
              by_cases z : y = w
              · rw [if_pos z, if_pos z]
              · rw [if_neg z, if_neg z]; exact (x6 y (by omega)).2.2
            refine PC_else hP (CFr_trans cf3 (F1_CFr ht fr4)) (MFr_trans mf4 (F78_MFr mr4)) (by omega) (by rw [hw]; exact hk) he0 (by rw [hw]; exact nmE) (eA 19 (by omega) (by omega) (by omega) (by omega) (by omega) (by omega)) (by rw [eAt t (by omega)]; exact x1) (by rw [eB8]; exact y1) (fun k k0 => by rw [eAt t (by omega)]; exact x5 k k0) (fun k k0 => by rw [eB8]; exact y28 k (by omega)) ⟨eA (t + 10) (by omega) (by omega) (by omega) (by omega) (by omega) (by omega), eA (t + 11) (by omega) (by omega) (by omega) (by omega) (by omega) (by omega), eA (t + 12) (by omega) (by omega) (by omega) (by omega) (by omega) (by omega)⟩ (fun k k5 k11 => by rw [eA4, if_neg k5]) (by rw [mr4.2 18 (by omega) (by omega), b42, if_neg (by omega), if_pos rfl]; exact p11.2.symm) (eA 21 (by omega) (by omega) (by omega) (by omega) (by omega) (by omega)) (fun l => by rw [mr4.1 142 (by omega), b4b 142 (by omega) (by omega), y5 142 (by omega) (by omega), b042]) (eB 143 (by omega) (by omega) (by omega) (by omega)) (eB 144 (by omega) (by omega) (by omega) (by omega)) lf (fun y y0 y1 => by rw [hw]; exact ea8' y y0 y1) (by rw [eA8, if_neg (by omega)]; exact x4) (fun y y0 y1 => ?_) (by rw [hw, eB9, if_neg (by omega), if_pos rfl]) k6 ?_
            · rw [hw, eB9, eB9]
              refine ⟨?_, by rw [if_neg (by omega), if_neg (by omega), y39 _ (by omega)]⟩
              by_cases z : y = w
              · rw [if_pos (by omega), if_pos z]
              · rw [if_neg (by omega), if_neg (by omega), if_neg z, y39 _ (by omega)]
            · have g0 := ue 0 c 0 (by omega) (Int.le_refl _)
              have e0 := nb 0 (by omega) (by omega) (by omega)
              rw [Int.add_zero] at e0
              unfold LnR
              rw [k6, g0, e0, nb 3 (by omega) (by omega) (by omega), nb 11 (by omega) (by omega) (by omega), eAt (t + 2) (by omega), x3]
              exact ⟨by rw [if_neg (by omega), if_neg (by omega), if_pos rfl]; rfl, by rw [if_neg (by omega), if_pos rfl], by omega, fun z => by omega, fun z => by omega, fun z => by omega, fun z => by omega, fun z => by omega, by rw [if_pos rfl, if_pos (Or.inl rfl)]⟩
          · have : elG G c 0 (c + 1) 0 = G 0 c 0 := by
              unfold elG
              rw [if_neg (by omega)]
              exact upG_n.1
            rw [this]
            have q1 := pos_nx (T := T) (j := j) n0 j0
            have q4 := pos_te (T := T) (j := j + 1) n0 pn2
            omega
          · have q1 := pos_nx (T := T) (j := j) n0 j0
            have q4 := pos_te (T := T) (j := j + 1) n0 pn2
            omega
        · exact Or.inr hf
    · -- of times
      have k7 : A (t + 1) w = 7 := by omega
      refine ⟨_, A, Bf, ?_, ?_, resf⟩
      · unfold fX6_readElse
        rw [if_neg n7, wd, ld21 _ _ (by omega) (by omega), ob, ob, q1, if_neg (by omega), gA, ob, tl1 ht _ _ oo1.1 (by omega), ob, if_neg hk, fa, ob]
      · unfold fX12_readElse
        rw [if_neg n18, wd', ld142 _ _ (by omega) (by omega), ob, q3, if_neg (by rw [if_pos k7]; decide), fb, ob, ob, fe]
