/-! else -/
theorem c_efp {M : Mem} {d : Int} (d0 : 0 ≤ d) (d4 : d < 4) : ∃ M', fX10_endFirstPart d M = some M' ∧ (∀ b, b ≠ 30 → b ≠ fsB d → M' b = M b) ∧ (∀ s, 0 ≤ s → s < 20 → M' (fsB d) s = M 30 s) ∧ ∀ s, 0 ≤ s → s < 20 → M' 30 s = M (bgB d) s := by
  have bb := bgb d0 d4
  have nb := bgfs2 d0 d4 d0 d4
  obtain ⟨M1, c1, c2, c3⟩ := cp20 (M := M) (a := 30) (b := fsB d) (Or.inl rfl) (Or.inr (Or.inr bb.2))
  obtain ⟨M2, e1, e2, e3⟩ := cp20 (M := M1) (a := bgB d) (b := 30) (Or.inr (Or.inl bb.1)) (Or.inl rfl)
  unfold fX10_endFirstPart
  rw [if_neg (by omega), ldA36 d0 d4, ob, c1, ob, ldA31 d0 d4, ob, e1, ob, ob]
  refine ⟨M2, rfl, fun b h1 h2 => by rw [e2 b h1, c2 b h2], fun s s0 s1 => ?_, fun s s0 s1 => ?_⟩
  · rw [e2 _ (by omega), c3 s s0 s1]
  · rw [e3 s s0 s1, c2 _ nb]
set_option maxHeartbeats 4000000 in
set_option maxRecDepth 20000 in
theorem wk_else {A B : Mem} {t : Nat} {G : Nat → Int → Int → Int} {c nI n i w st : Int} {giv : Int → Int} (h : WI A B t G c nI giv n i w st) (hk : A (t + 1) i = 6) : ∃ A' B', ((fX10_endFirstPart (w32 ((A 22 7) - 1)) A).bind fun q7 => some (w32 (i + 1), q7)) = some (i + 1, A') ∧ ((fX12_moves 145 147 0 (w32 (20 * (B 139 (12 * (210 + i) + 11)))) B).bind fun q25 => (fX12_moves 146 145 (w32 (20 * (B 139 (12 * (210 + i) + 11)))) 0 q25).bind fun q26 => some (w32 (i + 1), q26)) = some (i + 1, B') ∧ WRes A B t G c nI giv i w st (i + 1) A' B' := by
  obtain ⟨hS, ⟨i0, i1⟩, hD, a9, b8, w01, st0, hp⟩ := h
  rw [if_neg (by omega)] at hp
  obtain ⟨ht, hL, c0, c200, -, h16, h10, -, -, hg⟩ := id hS
  obtain ⟨lR, lT, lP⟩ := hL.1 i i0 i1
  have r11 := lR.2.2.2.2.2.2.2.2
  rw [if_pos (by omega)] at r11
  obtain ⟨t1, t2, t3, t4, t5, t6, t7, t8⟩ := lT.2.2.2.2.2.2.2.1 hk
  have o0 := hL.2.1 i i0 (by omega)
  have o1 := hL.2.1 (i + 1) (by omega) (by omega)
  obtain ⟨d, hd⟩ : ∃ d, d = G 0 i 0 - 1 := ⟨_, rfl⟩
  rw [← hd] at r11 t2 t3 t6 t7 t8
  have d4 : d < 4 := by have := o0.1.2; omega
  have d0 : 0 ≤ d := by omega
  have gd : G 0 i 0 = d + 1 := by omega
  have e7 := hD.2.2.2.2.2.1
  have ow := o0.2.2.2 d d0 (by omega)
  have ow1 := o1.2.2.2 d d0 (by omega)
  have tw := t5 d d0 (by omega)
  rw [tw] at ow1
  have m20 : G 1 (G 2 i d) 0 ≤ 20 := (hL.2.1 (G 2 i d) ow.1.1 (by omega)).2.1.2
  obtain ⟨A', c1, c2, c3, c4⟩ := c_efp (M := A) d0 d4
  obtain ⟨B1, m1, m2, m3, m4⟩ := m_moves (B := B) (a := 145) (b := 147) (p := 0) (q := 20 * d) (by omega) (by omega) (by omega) (by omega) (by rw [if_pos rfl]; omega) (by omega) (by rw [if_neg (by omega)]; omega)
  obtain ⟨B', v1, v2, v3, v4⟩ := m_moves (B := B1) (a := 146) (b := 145) (p := 20 * d) (q := 0) (by omega) (by omega) (by omega) (by omega) (by rw [if_neg (by omega)]; omega) (by omega) (by rw [if_pos rfl]; omega)
  rw [e7, gd, show d + 1 - 1 = d by omega, w32_id (show -2147483648 ≤ d by omega) (by omega), c1, ob, r11, w32_id (show -2147483648 ≤ 20 * d by omega) (by omega), m1, ob, v1, ob, w32_id (show -2147483648 ≤ i + 1 by omega) (by omega)]
  have bb := bgb d0 d4
  have k146 : B' 146 = B 146 := by rw [v2 146 (by omega), m2 146 (by omega)]
  have kB : ∀ b, b ≠ 145 → b ≠ 147 → B' b = B b := fun b h1 h2 => by rw [v2 b h1, m2 b h2]
  have sl : SL A A' B B' := ⟨fun b hb => c2 b (by omega) (by omega), fun b _ _ hb _ => kB b (by omega) (by omega), fun k _ => by rw [kB 132 (by omega) (by omega)], fun f _ => by rw [kB 138 (by omega) (by omega)], by rw [c2 22 (by omega) (by omega)]⟩
  have a42 : A' 42 = A 42 := c2 42 (by omega) (by omega)
  have a1 : A' (t + 1) = A (t + 1) := sl.1 _ (by omega)
  have a26 : A' 26 = A 26 := c2 26 (by omega) (by omega)
  obtain ⟨h1, h2, h3, h4, h5, h6, h7, h8⟩ := hD
  have hd3 := h3 d d0 (by omega)
  have hb := (hd3.1 t2)
  refine ⟨A', B', rfl, rfl, sl, Or.inl ⟨by rw [c2 22 (by omega) (by omega)]; exact a9, by rw [kB 132 (by omega) (by omega)]; exact b8, by omega, by omega, ⟨n, ?_, ?_, ?_, ?_, ?_, ?_, h7, ?_⟩, ?_, NX_o (by omega) (by omega) a42 (by omega) (by rw [c2 23 (by omega) (by omega)])⟩⟩
  · exact VX_cg h1 (by rw [c2 23 (by omega) (by omega)]) (c2 _ (by omega) (by omega)) (c2 _ (by omega) (by omega)) a26 (c2 _ (by omega) (by omega)) (fun f _ => by rw [kB 138 (by omega) (by omega)])
  · intro s s0 s1
    rw [t8] at s1
    have v3' := v3 s s0 (by omega)
    rw [Int.zero_add] at v3'
    rw [a26, c4 s s0 (by omega), v3', m2 146 (by omega), ow1.2.2.2.2.2.2.1 s s0 s1]
    exact hb.2.1 s s0 s1
  · intro l l0 l1
    rw [t4] at l1
    have ol := o0.2.2.2 l l0 l1
    have g20 : G 1 (G 2 i l) 0 ≤ 20 := (hL.2.1 (G 2 i l) ol.1.1 (by omega)).2.1.2
    by_cases e : l = d
    · rw [e]
      unfold OpW
      rw [tw, a1, a26, a42, c2 41 (by omega) (by omega), c2 (bgB d) (by omega) (bgfs2 d0 d4 d0 d4), kB 148 (by omega) (by omega), kB 149 (by omega) (by omega), k146]
      refine ⟨fun _ => ⟨hb.1, hb.2.1, fun _ s s0 s1 => ?_⟩, fun z => by omega⟩
      have q := h2 s s0 (by have := ow.2.2.2.2.2.1; omega)
      rw [c3 s s0 (by omega), v2 147 (by omega), m3 s s0 (by omega), Int.zero_add, ← ow.2.2.2.2.2.2.1 s s0 s1]
      exact q
    · have ld : l < d := by omega
      have bl := bgb l0 (show l < 4 by omega)
      have bq := bgfs l0 ld (show d ≤ 4 by omega)
      exact OpW_fr (h3 l l0 l1) (t5 l l0 l1) (fun z => by rw [← t6 l l0 ld]; exact z) a1 (by rw [c2 41 (by omega) (by omega)]) (by rw [a42]) (c2 _ (by omega) bq.2.1) (c2 _ (by omega) bq.2.2.2) (fun v _ => by rw [a26]) (Int.le_refl _) (by rw [kB 148 (by omega) (by omega)]) (by rw [kB 149 (by omega) (by omega)]) (fun s _ _ => by rw [k146]) (fun s s0 s1 => by rw [v2 147 (by omega), m4 _ (by omega)]) g20
  · intro k k0 k1
    rw [sl.1 t (by omega)] at k1
    rw [c2 29 (by omega) (by omega), kB 138 (by omega) (by omega)]
    exact h4 k k0 k1
  · exact ShW_fr h5 (by rw [c2 23 (by omega) (by omega)]) (c2 28 (by omega) (by omega)) (fun f _ _ => by rw [kB 138 (by omega) (by omega)]) (Int.le_refl _)
  · rw [c2 22 (by omega) (by omega), h6, t4]
  · intro v v0 v1; rw [a26]; exact h8 v v0 v1
  · have eS : sm (rW A' t G (i + 1)) d.toNat = sm (rW A t G i) d.toNat := by
      apply sm_congr
      intro l l0 l1
      unfold rW
      rw [t5 l l0 (by omega), t6 l l0 (by omega), a1, a42]
    have eb : b0W G (i + 1) = b0W G i := by
      unfold b0W
      rw [t4, if_neg (by omega), if_neg (by omega), t5 0 (Int.le_refl _) (by omega)]
    have x1 : rW A' t G (i + 1) d = 1 := by
      unfold rW
      rw [tw, a1, t2, if_neg (by decide), t7, if_pos rfl]
    have x2 : rW A t G i d = 2 := by
      unfold rW
      rw [t2, if_neg (by decide), t3, if_neg (by decide)]
    rw [gd, sm_s d0, x2] at hp
    rw [t4, gd, sm_s d0, x1, eS, eb]
    omega
