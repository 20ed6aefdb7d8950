/-! the end of a when, whole -/
theorem c_hasE {A : Mem} {t : Nat} {p q : Int} (ht : t = 5 ∨ t = 119) (p0 : 0 ≤ p) (p1 : p < 200) (hq : A (t + 8) p = q) (q0 : 0 ≤ q) (q1 : q < 200) : fX3_hasElse t p A = some (if A (t + 1) q = 6 then 1 else 0, A) := by
  unfold fX3_hasElse
  rw [tl8 ht _ _ p0 p1, ob, hq, if_neg (by omega), ob, tl1 ht _ _ q0 q1, ob]
  by_cases z : A (t + 1) q = 6
  · rw [if_pos z, if_pos z, ob]; exact rz1
  · rw [if_neg z, if_neg z, ob]; exact rz0
theorem c_endW0 {A : Mem} {t : Nat} {i p q d : Int} (ht : t = 5 ∨ t = 119) (i0 : 0 ≤ i) (i1 : i < 200) (p0 : 0 ≤ p) (p1 : p < 200) (hp : A (t + 8) i = p) (h7 : A 22 7 = d + 1) (d0 : 0 ≤ d) (d4 : d < 4) (hq : A (t + 8) p = q) (q0 : 0 ≤ q) (q1 : q < 200) : fX10_endWhen t i A = ((if (if A (t + 1) q = 6 then (1 : Int) else 0) = 0 then (fX10_endFirstPart d (wr A 22 7 d)).bind fun q4 => some q4 else some (wr A 22 7 d) : Option (Mem))).bind fun q5 => (lp (fX10_endWhen_b1 i t p) (0, q5)).bind fun q15 => some (w32 (i + 1), q15) := by
  have e8 : wr A 22 7 d (t + 8) p = q := by rw [wr_ne (by omega)]; exact hq
  have e1 : wr A 22 7 d (t + 1) q = A (t + 1) q := by rw [wr_ne (by omega)]
  have e7 : wr A 22 7 d 22 7 = d := by rw [wr_at, if_pos rfl]
  have ce := c_hasE (A := wr A 22 7 d) ht p0 p1 e8 q0 q1
  rw [e1] at ce
  unfold fX10_endWhen
  rw [tl8 ht _ _ i0 i1, ob, hp, h7, if_neg (by omega), if_pos p0, pI_ok, ob, show d + 1 - 1 = d by omega, w32_id (show -2147483648 ≤ d by omega) (by omega), ce, ob]
  dsimp only
  rw [e7]
set_option maxHeartbeats 4000000 in
set_option maxRecDepth 20000 in
theorem wk_endW {A B : Mem} {t : Nat} {G : Nat → Int → Int → Int} {c nI n i w st : Int} {giv : Int → Int} (h : WI A B t G c nI giv n i w st) (hk : A (t + 1) i = 8) (h5 : A (t + 1) (G 2 i (G 0 i 0 - 1)) = 5) : ∃ A' B', fX10_endWhen t i A = some (i + 1, A') ∧ B 139 (12 * (210 + i) + 1) ≠ 1 ∧ fX12_closes (12 * (210 + i)) B = some B' ∧ WRes A B t G c nI giv i w st (i + 1) A' B' := by
  obtain ⟨hS, ⟨i0, i1⟩, hD, a9, b8, w01, st0, hp⟩ := h
  rw [if_neg (by omega)] at hp
  obtain ⟨ht, hL, c0, c200, -, h16, h10, -, -, hg⟩ := id hS
  obtain ⟨lR, lT, lP⟩ := hL.1 i i0 i1
  have r11 := lR.2.2.2.2.2.2.2.2
  rw [if_pos (by omega)] at r11
  have r3 := lR.2.1
  have rs := lR.2.2.1
  obtain ⟨t1, t2, t3, t4, t5⟩ := lT.2.2.2.2.2.2.2.2 hk
  obtain ⟨l1', l2', l3'⟩ := lP.2.2 hk
  rw [if_neg (by omega)] at l3'
  rw [if_pos h5] at t5
  have o0 := hL.2.1 i i0 (by omega)
  obtain ⟨d, hd⟩ : ∃ d, d = G 0 i 0 - 1 := ⟨_, rfl⟩
  rw [← hd] at r11 t2 t3 t4 t5 h5 l1' l2' l3'
  obtain ⟨p, hpp⟩ : ∃ p, p = G 2 i d := ⟨_, rfl⟩
  rw [← hpp] at t2 t5 h5 l1' l2'
  have d4 : d < 4 := by have := o0.1.2; omega
  have d0 : 0 ≤ d := by omega
  have gd : G 0 i 0 = d + 1 := by omega
  have e7 := hD.2.2.2.2.2.1
  have ow := o0.2.2.2 d d0 (by omega)
  rw [← hpp] at ow
  have p0 : 0 ≤ p := by omega
  have p1 : p < i := by omega
  obtain ⟨pR, pT, pP⟩ := hL.1 p p0 (by omega)
  obtain ⟨x1, x2, x3, x4⟩ := pP.1 h5
  have gp : G 0 p 0 = d := ow.2.1
  have op := hL.2.1 p p0 (by omega)
  have m20 := op.2.1.2
  have m0 := op.2.1.1
  have pm : A (t + 3) p = G 1 p 0 := (pT.2.2.2.2.2.1 h5).1
  have pB : B 139 (12 * (210 + p) + 1) = G 1 p 0 := by rw [(pR.2.2.2.2.2.1 h5).1]; exact pm
  have g3 : G 3 i d = if G 6 p 0 = -1 then 0 else 1 := by
    rcases x2 with y | ⟨y1, y2, y3, y4, y5, y6, y7⟩
    · omega
    · rw [l1', gp] at y6; exact y6
  obtain ⟨h1, h2, h3, h4, h5', h6, h7', h8⟩ := hD
  obtain ⟨hfl, hbg, hfs⟩ := (h3 d d0 (by omega)).1 (by rw [← hpp]; exact h5)
  rw [← hpp] at hbg hfs
  have bb := bgb d0 d4
  have ty4 : ∀ s, 0 ≤ s → s < G 1 p 0 → A 30 s = B 145 s ∧ 0 ≤ A 30 s ∧ A 30 s < n ∧ A 26 (A 30 s) = G 4 p s := fun s s0 s1 => by
    have q := h2 s s0 (by have := ow.2.2.2.2.2.1; omega)
    rw [← ow.2.2.2.2.2.2.1 s s0 s1]
    exact q
  have start : ∃ (A0 : Mem) (one two : Int → Int) (q4 : Int), fX10_endWhen t i A = (lp (fX10_endWhen_b1 i t p) (0, A0)).bind (fun q15 => some (w32 (i + 1), q15)) ∧ (∀ b, b ≠ 22 → b ≠ 30 → b ≠ fsB d → A0 b = A b) ∧ (∀ k, A0 22 k = if k = 7 then d else A 22 k) ∧ (∀ s, 0 ≤ s → s < G 1 p 0 → A0 (fsB d) s = one s ∧ A0 30 s = two s ∧ (0 ≤ one s ∧ one s < n ∧ A 26 (one s) = G 4 p s) ∧ (0 ≤ two s ∧ two s < n ∧ A 26 (two s) = G 4 p s)) ∧ ((q4 = 0 ∧ ∀ s, 0 ≤ s → s < G 1 p 0 → B 145 s = one s ∧ B 146 (20 * d + s) = two s) ∨ (q4 = 1 ∧ ∀ s, 0 ≤ s → s < G 1 p 0 → B 147 (20 * d + s) = one s ∧ B 145 s = two s)) ∧ B 139 (12 * (210 + i) + 1) ≠ 1 ∧ q4 = (if B 139 (12 * (210 + i) + 1) = 2 then 1 else 0) := by
    by_cases e6 : G 6 p 0 = -1
    · rw [if_pos e6, l1'] at x3
      rw [if_pos e6] at g3
      rw [g3, if_neg (by decide)] at l3'
      have cw := c_endW0 ht i0 (by omega) p0 (by omega) t2 (by omega) d0 d4 x3 i0 (by omega)
      rw [hk, if_neg (show ¬ ((8 : Int) = 6) by decide), if_pos rfl] at cw
      obtain ⟨A0, c1, c2, c3, c4⟩ := c_efp (M := wr A 22 7 d) d0 d4
      rw [c1, ob, ob] at cw
      refine ⟨A0, A 30, A (bgB d), 0, cw, fun b b1 b2 b3 => by rw [c2 b b2 b3, wr_ne b1], fun k => by rw [c2 22 (by omega) (by omega), wr_at], fun s s0 s1 => ⟨by rw [c3 s s0 (by omega), wr_ne (by omega)], by rw [c4 s s0 (by omega), wr_ne (by omega)], (ty4 s s0 s1).2, (hbg s s0 s1).2⟩, Or.inl ⟨rfl, fun s s0 s1 => ⟨(ty4 s s0 s1).1.symm, (hbg s s0 s1).1.symm⟩⟩, by rw [l3']; decide, by rw [l3', if_neg (by decide)]⟩
    · rw [if_neg e6] at x3 g3
      rw [g3, if_pos rfl] at l3'
      rcases x1 with y | ⟨y1, y2, y3, y4, y5⟩
      · exact absurd y e6
      · have cw := c_endW0 ht i0 (by omega) p0 (by omega) t2 (by omega) d0 d4 x3 (by omega) (by omega)
        rw [y3, if_pos rfl, if_neg (show ¬ ((1 : Int) = 0) by decide), ob] at cw
        have hf := hfs g3
        refine ⟨wr A 22 7 d, A (fsB d), A 30, 1, cw, fun b b1 b2 b3 => wr_ne b1, fun k => by rw [wr_at], fun s s0 s1 => ⟨by rw [wr_ne (by omega)], by rw [wr_ne (by omega)], (hf s s0 s1).2, (ty4 s s0 s1).2⟩, Or.inr ⟨rfl, fun s s0 s1 => ⟨(hf s s0 s1).1.symm, (ty4 s s0 s1).1.symm⟩⟩, by rw [l3']; decide, by rw [l3', if_pos rfl]⟩
  obtain ⟨A0, one, two, q4, cw, k1, k2, k3, k4, k5, k6⟩ := start
  have a026 : A0 26 = A 26 := k1 26 (by omega) (by omega) (by omega)
  have vx0 : VX A0 B n nI giv := VX_cg h1 (by rw [k1 23 (by omega) (by omega) (by omega)]) (k1 _ (by omega) (by omega) (by omega)) (k1 _ (by omega) (by omega) (by omega)) a026 (k1 _ (by omega) (by omega) (by omega)) (fun _ _ => rfl)
  obtain ⟨A', B', f1, g1, fr, hm⟩ := ew_loop (ts := G 4 p) (one := one) (two := two) (q4 := q4) ht i0 (by omega) p0 (by omega) d0 d4 m0 m20 vx0 (by rw [k2, if_neg (by omega)]; exact a9) b8 (by rw [k2, if_pos rfl]) (by rw [k1 _ (by omega) (by omega) (by omega)]; exact pm) pB r11 (by rw [k1 _ (by omega) (by omega) (by omega)]; exact r3) (by rw [k1 _ (by omega) (by omega) (by omega)]; exact rs.1) (by rw [k1 _ (by omega) (by omega) (by omega)]; exact rs.2) (by rw [a026, k1 41 (by omega) (by omega) (by omega)]; exact hfl) (by rw [a026]; exact k3) k4
  rw [f1, ob, w32_id (show -2147483648 ≤ i + 1 by omega) (by omega)] at cw
  have sl0 : SL A A0 B B := ⟨fun b hb => k1 b (by omega) (by omega) (by omega), fun _ _ _ _ _ => rfl, fun _ _ => rfl, fun _ _ => rfl, by rw [k2, if_neg (by omega)]⟩
  have sl : SL A A' B B' := SL_trans sl0 (EFr_SL fr)
  refine ⟨A', B', cw, k5, ?_, sl, ?_⟩
  · have e4 : ((if B 139 (12 * (210 + i) + 1) = 2 then some 1 else some 0 : Option (Int))) = some q4 := by rw [k6]; split <;> rfl
    unfold fX12_closes
    rw [w32_id (show -2147483648 ≤ 12 * (210 + i) + 11 by omega) (by omega), ld139 _ _ (by omega) (by omega), ob, r11, ob, w32_id (show -2147483648 ≤ 20 * d by omega) (by omega), w32_id (show -2147483648 ≤ 12 * (210 + i) + 1 by omega) (by omega), ld139 _ _ (by omega) (by omega), ob, e4, ob, w32_id (show -2147483648 ≤ 12 * (210 + i) + 7 by omega) (by omega), ld139 _ _ (by omega) (by omega), ob, l2', ob, w32_id (show -2147483648 ≤ 210 + p by omega) (by omega), w32_id (show -2147483648 ≤ 12 * (210 + p) by omega) (by omega), g1, ob]
  · obtain ⟨n', nn, vx', hh⟩ := hm
    rcases hh with ⟨f9, f8, pre, -⟩ | hh
    · have a26 : ∀ v, v < n → A' 26 v = A 26 v := fun v hv => by rw [fr.2.2.2.1 v hv, a026]
      have kA : ∀ b, ¬ (22 ≤ b ∧ b ≤ 27) → b ≠ 30 → b ≠ 43 → b ≠ fsB d → A' b = A b := fun b b1 b2 b3 b4 => by rw [fr.1 b (by omega) (by omega) b2 b3, k1 b (by omega) b2 b4]
      have a42 : A' 42 = A 42 := kA 42 (by omega) (by omega) (by omega) (by omega)
      have a1 : A' (t + 1) = A (t + 1) := kA _ (by omega) (by omega) (by omega) (by omega)
      refine Or.inl ⟨f9, f8, by omega, by omega, ⟨n', vx', fun s s0 s1 => ?_, fun l l0 l1 => ?_, fun k k0 k1' => ?_, ?_, ?_, by omega, fun v v0 v1 => by rw [a26 v (by omega)]; exact h8 v v0 v1⟩, ?_, ?_, ?_, fun l l0 l1 => ?_⟩
      · rw [t5] at s1
        have q := pre s s0 s1
        have := ow.2.2.2.2.2.1
        rw [lT.2.1 s s0 (by omega) (by omega), ow.2.2.2.2.2.2.1 s s0 s1]
        exact q
      · rw [t3] at l1
        have ol := o0.2.2.2 l l0 (by omega)
        have g20 : G 1 (G 2 i l) 0 ≤ 20 := (hL.2.1 (G 2 i l) ol.1.1 (by omega)).2.1.2
        have bl := bgb l0 (show l < 4 by omega)
        have bq := bgfs l0 (show l < d by omega) (show d ≤ 4 by omega)
        have y := t4 l l0 (by omega)
        exact OpW_fr (h3 l l0 (by omega)) y.1 (fun z => by rw [← y.2]; exact z) a1 (by rw [kA 41 (by omega) (by omega) (by omega) (by omega)]) (by rw [a42]) (kA _ (by omega) (by omega) (by omega) bq.2.1) (kA _ (by omega) (by omega) (by omega) bq.2.2.2) a26 nn (by rw [fr.2.2.2.2.1 148 (by omega) (by omega) (by omega)]) (by rw [fr.2.2.2.2.1 149 (by omega) (by omega) (by omega)]) (fun s _ _ => by rw [fr.2.2.2.2.1 146 (by omega) (by omega) (by omega)]) (fun s _ _ => by rw [fr.2.2.2.2.1 147 (by omega) (by omega) (by omega)]) g20
      · rw [sl.1 t (by omega)] at k1'
        rw [kA 29 (by omega) (by omega) (by omega) (by omega), fr.2.2.2.2.2.2 _ (by omega)]
        exact h4 k k0 k1'
      · exact ShW_fr h5' (by rw [fr.2.2.1 5 (by omega), k1 23 (by omega) (by omega) (by omega)]) (kA 28 (by omega) (by omega) (by omega) (by omega)) (fun f g0 g1 => fr.2.2.2.2.2.2 f (by omega)) nn
      · rw [fr.2.1 7 (by omega), k2, if_pos rfl, t3]
      · have smd : sm (rW A' t G (i + 1)) d.toNat = sm (rW A t G i) d.toNat := by
          apply sm_congr
          intro l l0 l1
          unfold rW
          rw [(t4 l l0 (by omega)).1, (t4 l l0 (by omega)).2, a1, a42]
        have top1 : 1 ≤ rW A t G i d := by
          unfold rW
          rw [← hpp, h5, if_neg (by decide)]
          split <;> omega
        have b00 : b0W G i = G 2 i 0 := by unfold b0W; rw [if_neg (by omega)]
        have e2 : G 2 i 0 ≤ b0W G (i + 1) := by
          unfold b0W
          have z1 := (o0.2.2.2 0 (by omega) (by omega)).1
          by_cases y : G 0 (i + 1) 0 = 0
          · rw [if_pos y]; omega
          · rw [if_neg y, (t4 0 (by omega) (by omega)).1]; omega
        rw [gd, sm_s d0, b00] at hp
        rw [t3, smd]
        omega
      · unfold nxL
        rw [← hd, ← hpp, h5, if_neg (fun z => by omega)]
      · rw [if_neg (by omega), fr.2.2.1 5 (by omega), k1 23 (by omega) (by omega) (by omega), Int.add_zero]
      · unfold nxK
        rw [← hd, ← hpp, h5, a42, if_neg (fun z => by omega), if_neg (fun z => by omega)]
    · exact Or.inr hh
