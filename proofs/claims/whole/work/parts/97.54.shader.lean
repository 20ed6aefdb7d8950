/-! shader, both sides -/
def ShRes (M : Mem) (t u : Nat) (N : Mem) (x : Int) (A' B' : Mem) : Prop := (∀ b, 132 ≤ b → A' b = M b) ∧ (∀ b, b < 132 → B' b = N b) ∧ A' 1 2 = 0 ∧ A' 3 = M 3 ∧ B' 132 2 = 0 ∧ B' 137 = N 137 ∧ (∀ R : Mem, (∀ b, b < 132 → R b = A' b) → (∀ b, 132 ≤ b → R b = B' b) → (x ≠ 0 ∧ R 4 1 = (u : Int) ∧ (∀ b, b = 0 ∨ (t ≤ b ∧ b ≤ t + 12) ∨ (44 ≤ b ∧ b ≤ 131 ∧ ¬ (u ≤ b ∧ b ≤ u + 12)) → R b = M b) ∧ (∀ b, 150 ≤ b → b ≤ 152 → R b = M b) ∧ (∀ k, k < 412 → R 138 k = M 138 k) ∧ (∀ y, y < 2520 → R 139 y = M 139 y) ∧ R 132 28 = M 132 28) ∨ (x = 0 ∧ R 4 1 = (t : Int) ∧ R 0 15 = -2 ∧ ∃ n nI nS D G c, InvQ R u n nI nS ∧ Cch R u n nS D ∧ Wlk R u G c))
set_option maxHeartbeats 4000000 in
set_option maxRecDepth 20000 in
theorem sh_both {M N : Mem} {t u : Nat} {n nI nS : Int} (hQ : InvQ M t n nI nS) (hT : TpR M) (hu : u = 5 ∨ u = 119) (ut : u ≠ t) (h41 : M 4 1 = u) (hw : ∀ w, 0 ≤ w → w < 23 → M 3 w = cdS 32 (ra w) (rl w)) (hw2 : ∀ w, 0 ≤ w → w < 23 → M 137 w = cdS 27 (ra w) (rl w)) (hN : ∀ b, 132 ≤ b → N b = M b) : ∃ x A' B', fX11_shader M = some (x, A') ∧ fX12_shader N = some (x, B') ∧ ShRes M t u N x A' B' := by
  have ht := hQ.1
  obtain ⟨⟨l0, l1⟩, e2, hsg, hte⟩ := hT
  have hC : CK M u (M 2) (M 1 2) := ⟨hu, h41, ⟨rfl, l0, l1, fun _ _ _ => rfl⟩, hw⟩
  obtain ⟨q2, K, c1, c2, c3, c4, c5, c6, c7, c8⟩ := s_X12_cutAll (M := wr N 132 0 0) (T := M 2) (n := M 1 2) (by rw [wr_at, if_neg (by omega), hN 132 (by omega)]; exact e2) l0 l1 (fun i i0 i1 => by rw [wr_ne (by omega), hN 133 (by omega)]; exact hte i i0 i1) (fun i i0 i1 => by have := hsg i i0 i1; omega)
  have q2n : ∀ b, b ≠ 132 → b ≠ 134 → b ≠ 135 → b ≠ 136 → q2 b = N b := fun b h1 h2 h3 h4 => by rw [c2 b h1 h2 h3 h4, wr_ne h1]
  have q22 : ∀ k, k ≠ 0 → k ≠ 2 → k ≠ 3 → k ≠ 7 → k ≠ 8 → q2 132 k = N 132 k := fun k h0 h1 h2 h3 h4 => by rw [c3 k h1 h2 h3 h4, wr_at, if_neg h0]
  have hM : MK q2 (M 2) (M 1 2) K := ⟨c8, l1, fun w w0 w1 => by rw [q2n 137 (by omega) (by omega) (by omega) (by omega), hN 137 (by omega)]; exact hw2 w w0 w1⟩
  obtain ⟨x, A1, q3, r, r2, f1, g1, g2, g3, cf, mf, res⟩ := ps_parse hC hM c6 c7
  obtain ⟨Bp, hBp⟩ : ∃ Bp, Bp = wr r2 138 417 (r2 132 14) := ⟨_, rfl⟩
  rw [← hBp] at mf res
  have RES : Unit → _ := fun _ => res
  clear res
  have m0 : fX12_shader N = ((if (Bp 132 8) = 0 then (fX12_works Bp).bind fun q14 => some q14 else some Bp : Option (Mem))).bind fun q15 => if (q15 132 8) ≤ 0 then (lp (fX12_shader_b2) (0, q15)).bind fun q19 => (lp (fX12_shader_b3) (0, q19)).bind fun q24 => (lp (fX12_shader_b4) (0, q24)).bind fun q35 => some (0, q35) else some (q15 132 8, q15) := by
    unfold fX12_shader
    rw [pI_ok, ob, c1, ob, g1, ob, pI_ok, ob, pI_ok, ob, g2, ob, g3, ob, st138 _ _ _ (by omega) (by omega), ob, ← hBp]
  have a0 : fX11_shader M = ((if x = 0 then (gm (wr A1 1 2 0) 4 1).bind fun t3 => (fX10_work t3 (wr A1 1 2 0)).bind fun q4 => some (q4.1, q4.2) else some (x, wr A1 1 2 0) : Option (Int × Mem))).bind fun q5 => ((if q5.1 = 0 then cTail q5.2 else some q5.2 : Option (Mem))).bind fun q14 => some (q5.1, q14) := by
    unfold fX11_shader fX8_wipe cTail
    rw [f1, ob]
    dsimp only
    rw [pI_ok, ob, ob]
  have aM : ∀ b, b ≠ 1 → b ≠ 4 → ¬ (18 ≤ b ∧ b ≤ 21) → ¬ (u ≤ b ∧ b ≤ u + 12) → wr A1 1 2 0 b = M b := fun b h1 h2 h3 h4 => by rw [wr_ne h1]; exact cf.1 b h1 h2 h3 h4
  have bN : ∀ b, b ≠ 132 → ¬ (134 ≤ b ∧ b ≤ 136) → ¬ (138 ≤ b ∧ b ≤ 144) → Bp b = N b := fun b h1 h2 h3 => by rw [mf.1 b h1 h3]; exact q2n b h1 (by omega) (by omega) (by omega)
  have bN8 : ∀ k, k < 412 → Bp 138 k = M 138 k := fun k hk => by rw [mf.2.1 k hk, q2n 138 (by omega) (by omega) (by omega) (by omega), hN 138 (by omega)]
  have bN9 : ∀ y, y < 2520 → Bp 139 y = M 139 y := fun y hy => by rw [mf.2.2.1 y hy, q2n 139 (by omega) (by omega) (by omega) (by omega), hN 139 (by omega)]
  have bN2 : ∀ k, k ≠ 0 → k ≠ 2 → k ≠ 3 → k ≠ 7 → k ≠ 8 → k ≠ 14 → k ≠ 18 → k ≠ 19 → Bp 132 k = M 132 k := fun k h0 h1 h2 h3 h4 h5 h6 h7 => by rw [mf.2.2.2 k h3 h4 h5 h6 h7, q22 k h0 h1 h2 h3 h4, hN 132 (by omega)]
  have bp2 : Bp 132 2 = 0 := by rw [mf.2.2.2 2 (by omega) (by omega) (by omega) (by omega) (by omega)]; exact c4
  have aw41 : wr A1 1 2 0 4 1 = u := by rw [wr_ne (by omega), cf.2.2]; exact h41
  -- refused
  have bad : ∀ (y : Int) (A2 B2 : Mem), y ≠ 0 → WkF (wr A1 1 2 0) A2 Bp B2 → ShRes M t u N y A2 B2 := by
    intro y A2 B2 y0 hF
    refine ⟨fun b hb => by rw [hF.1 b (by omega)]; exact aM b (by omega) (by omega) (by omega) (by omega), fun b hb => by rw [hF.2.1 b (by omega) (by omega) (by omega) (by omega)]; exact bN b (by omega) (by omega) (by omega), ?_, ?_, ?_, ?_, fun R R1 R2 => Or.inl ⟨y0, ?_, fun b hb => ?_, fun b b0 b1 => ?_, fun k hk => ?_, fun k hk => ?_, ?_⟩⟩
    · rw [hF.1 1 (by omega), wr_at, if_pos rfl]
    · rw [hF.1 3 (by omega)]; exact aM 3 (by omega) (by omega) (by omega) (by omega)
    · rw [hF.2.2.1 2 (by omega)]; exact bp2
    · rw [hF.2.1 137 (by omega) (by omega) (by omega) (by omega)]; exact bN 137 (by omega) (by omega) (by omega)
    · rw [R1 4 (by omega), hF.1 4 (by omega)]; exact aw41
    · rw [R1 b (by omega), hF.1 b (by omega)]; exact aM b (by omega) (by omega) (by omega) (by omega)
    · rw [R2 b (by omega), hF.2.1 b (by omega) (by omega) (by omega) (by omega), bN b (by omega) (by omega) (by omega)]; exact hN b (by omega)
    · rw [R2 138 (by omega), hF.2.2.2 k (by omega)]; exact bN8 k hk
    · rw [R2 139 (by omega), hF.2.1 139 (by omega) (by omega) (by omega) (by omega)]; exact bN9 k hk
    · rw [R2 132 (by omega), hF.2.2.1 28 (by omega)]; exact bN2 28 (by omega) (by omega) (by omega) (by omega) (by omega) (by omega) (by omega) (by omega)
  rcases RES () with ⟨x0, b8, hz, G, c, hP, g0, a17, b417, c200⟩ | ⟨xp, b8⟩
  · obtain ⟨y, A2, B2, v1, v2, hF, v4, v5, v6⟩ := wk_all hP g0 c200 hz b8
    rw [if_pos x0, gm41 hu aw41, ob, v1, ob, ob] at a0
    rw [if_pos b8, v2, ob, ob, v4] at m0
    dsimp only at a0
    by_cases y0 : y = 0
    · obtain ⟨⟨n', hD⟩, tr⟩ := v6 y0
      obtain ⟨p1, p2, p3, p4, p5, p6, p7, p8, p9, p10, p11, p12, p13, p14, p15, p16⟩ := id hP
      have w100 : A1 u 16 ≤ 100 := by
        have w0 : A1 4 8 = 0 := by rw [p12, g0]; rfl
        have := p6.2.2.2
        omega
      obtain ⟨A6, D, s1, k1, k2, k3, k4, k5, k6, k7, k8, k9, k10, k11, k12, k13⟩ := sh_cls ht hu ut hQ.2.1 h41 cf hP hF hD w100
      obtain ⟨B3, d1, d2, d3, d4⟩ := m_cp2 (B := B2)
      have e0 : B3 138 0 = c := by
        rw [d3 0 (by omega) (by omega), hF.2.2.2 _ (by omega)]; exact p4.2.1
      obtain ⟨B4, e1, e2', e3, e4⟩ := m_cp3 (B := B3) e0 p4.2.2 c200
      have e13 : B4 138 1 = A1 u 10 := by
        rw [e2' 138 (by omega), d3 1 (by omega) (by omega), hF.2.2.2 _ (by omega)]; exact p5.1.symm
      obtain ⟨B5, h1, h2, h3⟩ := m_cp4 (B := B4) e13 p5.2.1 p5.2.2
      rw [if_pos y0, s1, ob, y0] at a0
      rw [if_pos (by omega), d1, ob, e1, ob, h1, ob] at m0
      have z5 : ∀ b, b ≠ 138 → b ≠ 139 → b ≠ 150 → b ≠ 151 → B5 b = B2 b := fun b q1 q2' q3 q4 => by rw [h2 b q3 q4, e2' b q2', d2 b q1]
      have z58 : B5 138 = B3 138 := by rw [h2 138 (by omega) (by omega), e2' 138 (by omega)]
      have ak : ∀ b, b ≠ 0 → b ≠ 4 → ¬ (44 ≤ b ∧ b ≤ 50) → b ≠ 52 → b ≠ 53 → b ≠ 54 → b < 63 ∨ 87 < b → ¬ (22 ≤ b ∧ b ≤ 43) → A6 b = wr A1 1 2 0 b := fun b q1 q2' q3 q4 q5 q6 q7 q8 => by rw [k1 b q1 q2' q3 q4 q5 q6 q7, hF.1 b q8]
      have a12 : A6 1 2 = 0 := by rw [ak 1 (by omega) (by omega) (by omega) (by omega) (by omega) (by omega) (by omega) (by omega), wr_at, if_pos rfl]
      have b22 : B5 132 2 = 0 := by rw [z5 132 (by omega) (by omega) (by omega) (by omega), hF.2.2.1 2 (by omega)]; exact bp2
      refine ⟨0, A6, B5, a0, m0, fun b hb => ?_, fun b hb => ?_, a12, ?_, b22, ?_, fun R R1 R2 => Or.inr ⟨rfl, by rw [R1 4 (by omega)]; exact k5, by rw [R1 0 (by omega)]; exact k4, n', A1 u 10, A2 23 5, D, G, c, ?_⟩⟩
      · rw [ak b (by omega) (by omega) (by omega) (by omega) (by omega) (by omega) (by omega) (by omega)]; exact aM b (by omega) (by omega) (by omega) (by omega)
      · rw [z5 b (by omega) (by omega) (by omega) (by omega), hF.2.1 b (by omega) (by omega) (by omega) (by omega)]; exact bN b (by omega) (by omega) (by omega)
      · rw [ak 3 (by omega) (by omega) (by omega) (by omega) (by omega) (by omega) (by omega) (by omega)]; exact aM 3 (by omega) (by omega) (by omega) (by omega)
      · rw [z5 137 (by omega) (by omega) (by omega) (by omega), hF.2.1 137 (by omega) (by omega) (by omega) (by omega)]; exact bN 137 (by omega) (by omega) (by omega)
      · refine sh_fin hQ hu hP g0 c200 a17 b417 w100 hF hD tr k1 k2 k3 k6 k7 k8 k9 k10 k11 k12 k13 (fun k x y => by rw [z58]; exact d3 k x y) (fun k x y => by rw [h2 139 (by omega) (by omega), e3 k x y, d2 139 (by omega)]) (fun i x y => by rw [h2 138 (by omega) (by omega)]; exact h3 i x y) ?_ b22 ?_ ?_ a12 R1 R2
        · rw [z5 132 (by omega) (by omega) (by omega) (by omega), hF.2.2.1 28 (by omega)]; exact bN2 28 (by omega) (by omega) (by omega) (by omega) (by omega) (by omega) (by omega) (by omega)
        · rw [z5 152 (by omega) (by omega) (by omega) (by omega), hF.2.1 152 (by omega) (by omega) (by omega) (by omega), bN 152 (by omega) (by omega) (by omega)]; exact hN 152 (by omega)
        · rw [ak 55 (by omega) (by omega) (by omega) (by omega) (by omega) (by omega) (by omega) (by omega)]; exact aM 55 (by omega) (by omega) (by omega) (by omega)
    · rw [if_neg y0, ob] at a0
      rw [if_neg (by omega)] at m0
      exact ⟨y, A2, B2, a0, m0, bad y A2 B2 y0 hF⟩
  · rw [if_neg (by omega), ob] at a0
    dsimp only at a0
    rw [if_neg (by omega), ob] at a0
    rw [if_neg (by omega), ob, b8, if_neg (by omega)] at m0
    exact ⟨x, _, Bp, a0, m0, bad x _ Bp (by omega) (WkF_refl _ _)⟩
