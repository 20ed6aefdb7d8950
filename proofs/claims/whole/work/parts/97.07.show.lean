/-! LINES read alike: show -/
theorem mkd_v : mkd 0 = 6 ∧ mkd 4 = 0 ∧ mkd 5 = 1 ∧ mkd 6 = 2 ∧ mkd 7 = 3 ∧ mkd 8 = 4 ∧ mkd 9 = 5 := by decide
/-- a line is begun by both: a new record, the next token -/
theorem ln_open {A B : Mem} {t : Nat} {T : Int → Int} {n N c j kind what : Int} {G : Nat → Int → Int → Int} (hP : PC A B t T n N G c) (hAt : AtB A B T n N j) (hp : 5 * c + G 0 c 0 ≤ pos T n j) (hne : ty T n (pos T n j) ≠ 0) : c < 200 ∧ j + 1 ≤ N ∧ ∃ A1 A2 B1, fX3_open t kind (A 1 5) A = some (c, A1) ∧ fX8_advance A1 = some A2 ∧ fX12_newLine what B = some (12 * (210 + c), B1) ∧ CFr t A A1 ∧ F1 A1 A2 ∧ CAt A2 T n (pos T n (j + 1)) ∧ MFr B B1 ∧ A1 t 0 = c + 1 ∧ A1 (t + 1) c = kind ∧ A1 (t + 2) c = pos T n j ∧ A1 (t + 8) c = -1 ∧ (∀ k, k ≠ 0 → A1 t k = A t k) ∧ (∀ i, i ≠ c → A1 (t + 1) i = A (t + 1) i ∧ A1 (t + 2) i = A (t + 2) i ∧ A1 (t + 8) i = A (t + 8) i) ∧ (∀ b, b ≠ t → b ≠ t + 1 → b ≠ t + 2 → b ≠ t + 8 → A1 b = A b) ∧ B1 138 412 = c + 1 ∧ (∀ k, k ≠ 412 → B1 138 k = B 138 k) ∧ (∀ y, y < 12 * (210 + c) ∨ 12 * (210 + c) + 12 ≤ y → B1 139 y = B 139 y) ∧ (∀ k, 0 ≤ k → k < 12 → B1 139 (12 * (210 + c) + k) = if k = 11 then B 132 18 else if k = 3 then pos T n j else if k = 0 then what else 0) ∧ ∀ b, b ≠ 138 → b ≠ 139 → B1 b = B b := by
  obtain ⟨p1, p2, p3, p4, p5, p6, p7, p8, p9, p10, p11, p12, p13, p14, p15, p16⟩ := id hP
  have ht := p1.1
  have n1 := p2.2.1
  obtain ⟨hA, h7, j0, j1, h8⟩ := id hAt
  have ne := not_end p2 j1 hne
  have o := p16.2.1 c p4.2.2 (Int.le_refl _)
  have c200 : c < 200 := by have := o.1; omega
  obtain ⟨A1, f1, a1, a2, a3, a4, a5, a6, a7⟩ := c_open (kind := kind) (start := A 1 5) ht p4.1 p4.2.2 c200
  have cf1 : CFr t A A1 := ⟨fun b b1 b4 b18 bt => a7 b (by omega) (by omega) (by omega) (by omega), by rw [a7 1 (by omega) (by omega) (by omega) (by omega)], by rw [a7 4 (by omega) (by omega) (by omega) (by omega)]⟩
  obtain ⟨A2, f2, fr2, at2⟩ := c_advance (CK_CFr p1 cf1) j0 (by rw [a7 1 (by omega) (by omega) (by omega) (by omega)]; exact hA.2.1)
  obtain ⟨B1, g1, b1, b2, b3, b4, b5⟩ := m_newLine (what := what) p2 h7 j0 j1 p4.2.1 p4.2.2 c200
  refine ⟨c200, by omega, A1, A2, B1, f1, f2, g1, cf1, fr2, at2, ?_, a1, a2, by rw [a3]; exact hA.1, a4, a5, a6, a7, b1, b2, b3, b4, b5⟩
  have c0 := p4.2.2
  exact ⟨fun b x y => b5 b (by omega) (by omega), fun k hk => b2 k (by omega), fun y hy => b3 y (by omega), fun k _ _ _ _ _ => by rw [b5 132 (by omega) (by omega)]⟩
set_option maxHeartbeats 4000000 in
set_option maxRecDepth 20000 in
theorem ln_show {A B : Mem} {t : Nat} {T : Int → Int} {n N c j : Int} {G : Nat → Int → Int → Int} (h : PR A B t T n N G c j) (h5 : A 1 4 = 5) (h6 : A 1 6 = 9) : ∃ x A' B', fX6_readShow A = some (x, A') ∧ ((fX12_readShow B).bind fun q => fX12_takeEnd q) = some B' ∧ LnRes t T n N j A B x A' B' := by
  obtain ⟨hP, hAt, hpos⟩ := h
  obtain ⟨p1, p2, p3, p4, p5, p6, p7, p8, p9, p10, p11, p12, p13, p14, p15, p16⟩ := id hP
  have ht := p1.1
  have n0 := p1.2.2.1.2.1
  have n1 := p2.2.1
  have nN := p2.1.2.1
  obtain ⟨hA, h7, j0, j1, h8⟩ := id hAt
  obtain ⟨-, tl, pn, t1⟩ := tk_len p1 hA h5 h6
  rw [rl_v.2.2.2.2.2.2.2.2.2] at tl
  have o := p16.2.1 c p4.2.2 (Int.le_refl _)
  have c0 := p4.2.2
  have mw := m_within hP
  by_cases hw : A 4 8 ≤ 0
  · obtain ⟨c200, jN, A1, A2, B1, f1, f2, g1, cf1, fr2, at2, mf1, x1, x2, x3, x4, x5, x6, x7, y1, y2, y3, y4, y5⟩ := ln_open (kind := 9) (what := 5) hP hAt hpos (by omega)
    have gA : gm A 4 1 = some t := gm41 ht p1.2.1
    have cf2 : CFr t A A2 := CFr_trans cf1 (F1_CFr ht fr2)
    have mf2 : MFr B (wr B1 132 7 (j + 1)) := MFr_trans mf1 (F78_MFr (F78_7 B1 _))
    have at' : AtB A2 (wr B1 132 7 (j + 1)) T n N (j + 1) := ⟨at2, by rw [wr_at, if_pos rfl], by omega, jN, by rw [wr_at, if_neg (by omega), y5 132 (by omega) (by omega)]; exact h8⟩
    have nm2 : NmR A2 (wr B1 132 7 (j + 1)) (G 1 c 0) := NmR_fr p3 (by rw [fr2.1 4 (by omega), x7 4 (by omega) (by omega) (by omega) (by omega)]) (by rw [fr2.1 18 (by omega), x7 18 (by omega) (by omega) (by omega) (by omega)]) (by rw [fr2.1 19 (by omega), x7 19 (by omega) (by omega) (by omega) (by omega)]) (by rw [fr2.1 20 (by omega), x7 20 (by omega) (by omega) (by omega) (by omega)]) (by rw [wr_at, if_neg (by omega), y5 132 (by omega) (by omega)]) (by rw [wr_ne (by omega), y5 140 (by omega) (by omega)]) (by rw [wr_ne (by omega), y5 141 (by omega) (by omega)])
    obtain ⟨x, A3, B3, f3, g3, u1, u2, u3, v1, v2, v3, res⟩ := r_arg (i := c) (k := 0) (ty' := 0) (CK_CFr p1 cf2) (MK_MFr p2 mf2) nm2 at' c0 c200 (by omega) (by omega) (Or.inl rfl)
    rw [if_neg (show ¬ (0 : Int) = 2 by decide), show 12 * (210 + c) + 5 + 2 * 0 = 12 * (210 + c) + 5 by omega] at g3
    have cf3 : CFr t A A3 := CFr_trans cf2 ⟨fun b b1 b4 b18 bt => u1 b b4 (by omega) (by omega), by rw [u1 1 (by omega) (by omega) (by omega)], u2 1 (by omega)⟩
    have mf3 : MFr B B3 := MFr_trans mf2 ⟨fun b b1 b2 => v1 b b1 (by omega), fun k hk => by rw [v1 138 (by omega) (by omega)], fun y hy => v3 y (by omega) (by omega), fun k a b _ _ e => v2 k a b e⟩
    have e7 : w32 (B1 132 7 + 1) = j + 1 := by rw [y5 132 (by omega) (by omega), h7, w32_id (by omega) (by omega)]
    have cl0 : fX6_readShow A = ((if x = 0 then (fX6_readSemicolon A3).bind fun q5 => some (q5.1, q5.2) else some (x, A3) : Option (Int × Mem))).bind fun q6 => some (q6.1, q6.2) := by
      unfold fX6_readShow
      rw [if_pos hw, gA, ob, f1, ob]
      dsimp only
      rw [f2, ob, f3, ob]
    have ml0 : ((fX12_readShow B).bind fun q => fX12_takeEnd q) = fX12_takeEnd B3 := by
      unfold fX12_readShow
      rw [mw, if_pos hw, ob]
      dsimp only
      rw [if_pos rfl, g1, ob]
      dsimp only
      rw [pI_ok, ob, e7, w32_id (show -2147483648 ≤ 12 * (210 + c) + 5 by omega) (by omega), g3, ob, ob]
    rcases res with ⟨rfl, b7, b8, jN2, pn1, ar, ta, ta01, tt, tl'⟩ | ⟨xp, b8⟩
    · have a31 : A3 1 = A2 1 := u1 1 (by omega) (by omega) (by omega)
      obtain ⟨x', A4, B4, f4, g4, fr4, mr4, res4⟩ := r_semi (j := j + 1) (CK_CFr p1 cf3) (MK_MFr p2 mf3) (by rw [a31]; exact at2.2.1) (by omega) jN2 b7 b8
      rw [if_pos rfl, f4, ob, ob] at cl0
      rw [g4] at ml0
      refine ⟨x', A4, B4, cl0, ml0, CFr_trans cf3 (F1_CFr ht fr4), MFr_trans mf3 (F78_MFr mr4), ?_⟩
      rcases res4 with ⟨rfl, at4, b47, b48, jN3, pn2⟩ | hf
      · left
        refine ⟨rfl, upG G c (G 0 c 0) (G 1 c 0) (G 2 c) (G 3 c) (G 4 c), c + 1, j + 1 + 1, ?_, at4, by omega, b48, by omega, by omega, ?_, ?_⟩
        · obtain ⟨w0, w1, w2, w3, w4⟩ := upG_n (G := G) (c := c) (d := G 0 c 0) (m := G 1 c 0) (op := G 2 c) (el := G 3 c) (ts := G 4 c)
          have ue := upG_eq (G := G) (c := c) (d := G 0 c 0) (m := G 1 c 0) (op := G 2 c) (el := G 3 c) (ts := G 4 c)
          have eA : ∀ b, b ≠ 1 → b ≠ 4 → b ≠ t → b ≠ t + 1 → b ≠ t + 2 → b ≠ t + 6 → b ≠ t + 7 → b ≠ t + 8 → A4 b = A b := fun b e1 e2 e3 e4 e5 e6 e7 e8 => by rw [fr4.1 b e1, u1 b e2 e6 e7, fr2.1 b e1, x7 b e3 e4 e5 e8]
          have eAt : ∀ b, b ≠ 1 → b ≠ 4 → b ≠ t + 6 → b ≠ t + 7 → A4 b = A1 b := fun b e1 e2 e6 e7 => by rw [fr4.1 b e1, u1 b e2 e6 e7, fr2.1 b e1]
          have eB : ∀ b, b ≠ 132 → b ≠ 138 → b ≠ 139 → B4 b = B b := fun b e1 e2 e3 => by rw [mr4.1 b e1, v1 b e1 e3, wr_ne e1, y5 b e2 e3]
          have eB2 : ∀ k, k ≠ 7 → k ≠ 8 → k ≠ 19 → B4 132 k = B 132 k := fun k e1 e2 e3 => by rw [mr4.2 k e1 e2, v2 k e1 e2 e3, wr_at, if_neg e1, y5 132 (by omega) (by omega)]
          have eB8 : B4 138 = B1 138 := by rw [mr4.1 138 (by omega), v1 138 (by omega) (by omega), wr_ne (by omega)]
          have eB9 : ∀ y, y ≠ 12 * (210 + c) + 5 → y ≠ 12 * (210 + c) + 6 → B4 139 y = B1 139 y := fun y e1 e2 => by rw [mr4.1 139 (by omega), v3 y (by omega) (by omega), wr_ne (by omega)]
          have eB9' : B4 139 = B3 139 := mr4.1 139 (by omega)
          have e6 : A4 (t + 6) = A3 (t + 6) := fr4.1 _ (by omega)
          have e7' : A4 (t + 7) = A3 (t + 7) := fr4.1 _ (by omega)
          have e6o : ∀ y, y ≠ 3 * c + 0 → A4 (t + 6) y = A (t + 6) y ∧ A4 (t + 7) y = A (t + 7) y := fun y hy => by
            rw [e6, e7', (u3 y hy).1, (u3 y hy).2, fr2.1 _ (by omega), fr2.1 _ (by omega), x7 _ (by omega) (by omega) (by omega) (by omega), x7 _ (by omega) (by omega) (by omega) (by omega)]
            exact ⟨rfl, rfl⟩
          have lf : LnF A A4 B B4 t 210 c := ⟨fun i i0 i1 => by
            rw [eAt (t + 1) (by omega) (by omega) (by omega) (by omega), eAt (t + 2) (by omega) (by omega) (by omega) (by omega), eA (t + 3) (by omega) (by omega) (by omega) (by omega) (by omega) (by omega) (by omega) (by omega), eA (t + 4) (by omega) (by omega) (by omega) (by omega) (by omega) (by omega) (by omega) (by omega), eA (t + 5) (by omega) (by omega) (by omega) (by omega) (by omega) (by omega) (by omega) (by omega), eA (t + 9) (by omega) (by omega) (by omega) (by omega) (by omega) (by omega) (by omega) (by omega)]
            exact ⟨(x6 i (by omega)).1, (x6 i (by omega)).2.1, rfl, rfl, rfl, rfl⟩, fun y y0 y1 => e6o y (by omega), by rw [eAt t (by omega) (by omega) (by omega) (by omega), x5 10 (by omega)]; exact Int.le_refl _, by rw [eAt t (by omega) (by omega) (by omega) (by omega), x5 16 (by omega)]; exact Int.le_refl _, fun i k i0 i1 k0 k1 _ => by rw [eB9 _ (by omega) (by omega), y3 _ (by omega)]⟩
          have k9 : A4 (t + 1) c = 9 := by rw [eAt (t + 1) (by omega) (by omega) (by omega) (by omega)]; exact x2
          have ar4 : ArR A4 B4 t 210 c 0 (G 1 c 0) := by unfold ArR; rw [e6, e7', eB9']; exact ar
          have nb : ∀ k, 0 ≤ k → k < 12 → k ≠ 5 → k ≠ 6 → B4 139 (12 * (210 + c) + k) = if k = 11 then B 132 18 else if k = 3 then pos T n j else if k = 0 then 5 else 0 := fun k k0 k1 k5 k6 => by rw [eB9 _ (by omega) (by omega)]; exact y4 k k0 k1
          have pb := pos_b T (n := n) (j := j) n0
          refine PC_same hP (CFr_trans cf3 (F1_CFr ht fr4)) (MFr_trans mf3 (F78_MFr mr4)) (NmR_fr p3 (by rw [fr4.1 4 (by omega), u2 5 (by omega), fr2.1 4 (by omega), x7 4 (by omega) (by omega) (by omega) (by omega)]) (eA 18 (by omega) (by omega) (by omega) (by omega) (by omega) (by omega) (by omega) (by omega)) (eA 19 (by omega) (by omega) (by omega) (by omega) (by omega) (by omega) (by omega) (by omega)) (eA 20 (by omega) (by omega) (by omega) (by omega) (by omega) (by omega) (by omega) (by omega)) (eB2 14 (by omega) (by omega) (by omega)) (eB 140 (by omega) (by omega) (by omega)) (eB 141 (by omega) (by omega) (by omega))) (Int.le_refl _) (fun _ _ _ => rfl) (fun s s0 s1 => by rw [eA 19 (by omega) (by omega) (by omega) (by omega) (by omega) (by omega) (by omega) (by omega)]; exact p14 s s0 s1) (by rw [eAt t (by omega) (by omega) (by omega) (by omega)]; exact x1) (by rw [eB8]; exact y1) ?_ ?_ (fun k k0 k10 => by rw [eAt t (by omega) (by omega) (by omega) (by omega)]; exact x5 k k0) (fun k k0 k1 => by rw [eB8]; exact y2 k (by omega)) (fun k k5 k11 => by rw [fr4.1 4 (by omega), u2 k k11, fr2.1 4 (by omega), x7 4 (by omega) (by omega) (by omega) (by omega)]) (eB2 18 (by omega) (by omega) (by omega)) (eA 21 (by omega) (by omega) (by omega) (by omega) (by omega) (by omega) (by omega) (by omega)) (eB 142 (by omega) (by omega) (by omega)) (eB 143 (by omega) (by omega) (by omega)) (eB 144 (by omega) (by omega) (by omega)) lf (fun y y0 y1 => by rw [eAt (t + 8) (by omega) (by omega) (by omega) (by omega)]; exact (x6 y (by omega)).2.2) (fun y y0 y1 => by rw [eB9 _ (by omega) (by omega), eB9 _ (by omega) (by omega), y3 _ (by omega), y3 _ (by omega)]; exact ⟨rfl, rfl⟩) ?_ ?_ (Or.inr (Or.inr k9))
          · rw [eAt t (by omega) (by omega) (by omega) (by omega), x5 10 (by omega), eB8, y2 413 (by omega)]; exact p5
          · intro i i0 i1
            rw [eAt t (by omega) (by omega) (by omega) (by omega), x5 10 (by omega)] at i1
            rw [eA (t + 10) (by omega) (by omega) (by omega) (by omega) (by omega) (by omega) (by omega) (by omega), eA (t + 11) (by omega) (by omega) (by omega) (by omega) (by omega) (by omega) (by omega) (by omega), eA (t + 12) (by omega) (by omega) (by omega) (by omega) (by omega) (by omega) (by omega) (by omega), eB8, y2 _ (by omega), y2 _ (by omega), y2 _ (by omega)]
            exact p13 i i0 i1
          · have g0 := ue 0 c 0 (by omega) (Int.le_refl _)
            have g1 := ue 1 c 0 (by omega) (Int.le_refl _)
            have e0 := nb 0 (by omega) (by omega) (by omega) (by omega)
            rw [Int.add_zero] at e0
            unfold LnR
            rw [k9, g0, g1, e0, nb 3 (by omega) (by omega) (by omega) (by omega), nb 11 (by omega) (by omega) (by omega) (by omega), eAt (t + 2) (by omega) (by omega) (by omega) (by omega), x3]
            refine ⟨by rw [if_neg (by omega), if_neg (by omega), if_pos rfl]; rfl, by rw [if_neg (by omega), if_pos rfl], by omega, fun z => by omega, fun z => by omega, fun z => by omega, fun z => by omega, fun _ => ar4, by rw [if_pos rfl, if_neg (by omega)]; exact p11.2⟩
          · have nowh : ∀ l, 0 ≤ l → l < upG G c (G 0 c 0) (G 1 c 0) (G 2 c) (G 3 c) (G 4 c) 0 c 0 → A4 (t + 1) (upG G c (G 0 c 0) (G 1 c 0) (G 2 c) (G 3 c) (G 4 c) 2 c l) ≠ 5 := fun l l0 l1 => by
              rw [ue 0 c 0 (by omega) (Int.le_refl _)] at l1
              rw [ue 2 c l (by omega) (Int.le_refl _)]
              have ol := (o.2.2.2 l l0 l1).1
              rw [(lf.1 _ ol.1 ol.2).1]
              intro e5
              have q := sm_pos (f := whO A t G c) (k := (G 0 c 0).toNat) (fun i _ _ => by unfold whO; split <;> omega) l0 (by omega)
              have q1 : whO A t G c l = 1 := by unfold whO; rw [if_pos e5]
              omega
            unfold LnT samG
            rw [k9]
            refine ⟨by omega, fun s s0 s1 s2 => by rw [w4, ue 4 c s (by omega) (Int.le_refl _)], fun z => by omega, fun z => by omega, fun _ => ⟨by rw [w1, ue 1 c 0 (by omega) (Int.le_refl _)], ?_, ⟨by rw [w0, ue 0 c 0 (by omega) (Int.le_refl _)], fun l l0 l1 => by rw [w2, w3, ue 2 c l (by omega) (Int.le_refl _), ue 3 c l (by omega) (Int.le_refl _)]; exact ⟨rfl, rfl⟩⟩, nowh⟩, fun z => by omega, fun z => by omega, fun z => by omega, fun z => by omega⟩
            unfold aTy
            rw [e6, ue 4 c _ (by omega) (Int.le_refl _)]
            have tt0 := tt (by decide)
            rw [tl'] at tt0
            by_cases z : 0 ≤ A3 (t + 6) (3 * c + 0)
            · rw [if_pos z] at tt0 ⊢
              rw [fr2.1 19 (by omega), x7 19 (by omega) (by omega) (by omega) (by omega)] at tt0
              rw [p14 _ z ar.2.2.2.1]; exact tt0
            · rw [if_neg z]
        · rw [upG_n.1]
          have q1 := pos_nx (T := T) (j := j) n0 j0
          have q2 := pos_nx (T := T) (j := j + 1) n0 (by omega)
          have q3 := pos_te (T := T) (j := j + 1) n0 pn1
          have q4 := pos_te (T := T) (j := j + 1 + 1) n0 pn2
          omega
        · have q1 := pos_nx (T := T) (j := j) n0 j0
          have q2 := pos_nx (T := T) (j := j + 1) n0 (by omega)
          have q3 := pos_te (T := T) (j := j + 1) n0 pn1
          have q4 := pos_te (T := T) (j := j + 1 + 1) n0 pn2
          omega
      · exact Or.inr hf
    · rw [if_neg (by omega), ob] at cl0
      obtain ⟨B4, g4, mr4, b48⟩ := m_takeEnd8 (B := B3) (by omega)
      rw [g4] at ml0
      exact ⟨x, A3, B4, cl0, ml0, cf3, MFr_trans mf3 (F78_MFr mr4), Or.inr ⟨xp, by rw [b48, b8]⟩⟩
  · obtain ⟨fa, fb, B', fe, res⟩ := ln_fault (k := 1) p1 p2 hAt (by omega) (by omega)
    refine ⟨_, A, B', ?_, ?_, res⟩
    · unfold fX6_readShow
      rw [if_neg hw, fa, ob]
    · unfold fX12_readShow
      rw [mw, if_neg hw, ob]
      dsimp only
      rw [if_neg (show ¬ (1 : Int) = 0 by decide), fb, ob, ob, fe]
