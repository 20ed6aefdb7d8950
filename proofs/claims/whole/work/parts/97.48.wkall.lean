/-! working, from its start to its end -/
theorem WkF_trans {A A' A'' B B' B'' : Mem} (h : WkF A A' B B') (f : WkF A' A'' B' B'') : WkF A A'' B B'' := ⟨fun d hd => by rw [f.1 d hd, h.1 d hd], fun d h1 h2 h3 h4 => by rw [f.2.1 d h1 h2 h3 h4, h.2.1 d h1 h2 h3 h4], fun k hk => by rw [f.2.2.1 k hk, h.2.2.1 k hk], fun g hg => by rw [f.2.2.2 g hg, h.2.2.2 g hg]⟩
set_option maxHeartbeats 4000000 in
set_option maxRecDepth 20000 in
theorem wk_all {A B : Mem} {t : Nat} {T : Int → Int} {n N c : Int} {G : Nat → Int → Int → Int} (hP : PC A B t T n N G c) (g0 : G 0 c 0 = 0) (c200 : c ≤ 200) (hz : ∀ k, (k = 420 ∨ k = 421 ∨ 440 ≤ k) → k < 824 → B 138 k = 0) (b8 : B 132 8 = 0) : ∃ x A' B', fX10_work t (wr A 1 2 0) = some (x, A') ∧ fX12_works B = some B' ∧ WkF (wr A 1 2 0) A' B B' ∧ B' 132 8 = x ∧ 0 ≤ x ∧ (x = 0 → (∃ n', WD A' B' t G n' (A t 10) (fun i => B 138 (422 + 3 * i + 2)) c) ∧ TrF A' t G c (A' 23 5)) := by
  obtain ⟨p1, p2, p3, p4, p5, p6, p7, p8, p9, p10, p11, p12, p13, p14, p15, p16⟩ := hP
  have ht := p1.1
  have w0 : A 4 8 = 0 := by rw [p12, g0]; rfl
  obtain ⟨A0, hA0⟩ : ∃ A0, A0 = wr (wr (wr A 1 2 0) 23 0 0) 23 5 0 := ⟨_, rfl⟩
  have z0 : ∀ d, d ≠ 1 → d ≠ 23 → A0 d = A d := fun d h1 h2 => by rw [hA0, wr_ne h2, wr_ne h2, wr_ne h1]
  have z1 : ∀ d, d ≠ 23 → A0 d = wr A 1 2 0 d := fun d h2 => by rw [hA0, wr_ne h2, wr_ne h2]
  have z23 : ∀ k, A0 23 k = if k = 5 then 0 else if k = 0 then 0 else A 23 k := fun k => by rw [hA0, wr_at, wr_at, wr_ne (by omega)]
  obtain ⟨A1, B1, f1, g1, vx, hin, fa, f23, fb, f138⟩ := wk_in (A := A0) (B := B) (t := t) (nI := A t 10) (giv := fun i => B 138 (422 + 3 * i + 2)) ht (by rw [z0 t (by omega) (by omega)]) p5.1.symm p5.2.1 p5.2.2 (by rw [z23, if_neg (by omega), if_pos rfl]) (hz 420 (by omega) (by omega)) (fun i i0 i1 => by
    have q := p13 i i0 i1
    rw [z0 _ (by omega) (by omega)]
    exact ⟨q.1, by rw [← q.1]; exact q.2.1⟩) b8
  have at1 : A1 t = A t := by rw [fa t (by omega), z0 t (by omega) (by omega)]
  obtain ⟨A2, f2, fr2, hz2⟩ := wk_pt (A := A1) (t := t) ht (by rw [at1]; omega) (by rw [at1]; omega)
  obtain ⟨A5, hA5⟩ : ∃ A5, A5 = wr (wr (wr A2 22 7 0) 22 8 0) 22 9 0 := ⟨_, rfl⟩
  have y0 : ∀ d, d ≠ 22 → d ≠ 29 → A5 d = A1 d := fun d h1 h2 => by rw [hA5, wr_ne h1, wr_ne h1, wr_ne h1, fr2 d h2]
  have y1 : ∀ d, ¬ (22 ≤ d ∧ d ≤ 29) → A5 d = wr A 1 2 0 d := fun d hd => by rw [y0 d (by omega) (by omega), fa d (by omega), z1 d (by omega)]
  have y2 : ∀ d, ¬ (22 ≤ d ∧ d ≤ 29) → d ≠ 1 → A5 d = A d := fun d hd h1 => by rw [y1 d hd, wr_ne h1]
  have y22 : ∀ k, A5 22 k = if k = 9 then 0 else if k = 8 then 0 else if k = 7 then 0 else A2 22 k := fun k => by rw [hA5, wr_at, wr_at, wr_at]
  have b138 : ∀ f, f < 420 ∨ (420 < f ∧ f < 448) ∨ 704 ≤ f → B1 138 f = B 138 f := fun f hf => f138 f (by omega) (by omega)
  have b139 : B1 139 = B 139 := fb 139 (by omega)
  have tu : ∀ k, k ≤ 12 → A5 (t + k) = A (t + k) := fun k hk => y2 _ (by omega) (by omega)
  have t0 : A5 t = A t := tu 0 (by omega)
  have lS : LnS A5 B1 t 210 G c := LnS_cg p16 (tu 1 (by omega)) (tu 2 (by omega)) (tu 3 (by omega)) (tu 4 (by omega)) (tu 5 (by omega)) (tu 6 (by omega)) (tu 7 (by omega)) (tu 8 (by omega)) (tu 9 (by omega)) (by rw [t0]) (by rw [t0]) b139
  have wS : WS A5 B1 t G c (A t 10) (fun i => B 138 (422 + 3 * i + 2)) := ⟨ht, lS, p4.2.2, c200, g0, by rw [t0, b138 414 (by omega)]; exact ⟨p6.1, p6.2.1, by omega⟩, by rw [t0], by rw [t0]; exact p4.1, by rw [b138 412 (by omega)]; exact p4.2.1, fun i i0 i1 => by rw [b138 _ (by omega)]⟩
  have g00 : G 0 0 0 = 0 := by
    have o0 := lS.2.1 0 (Int.le_refl _) p4.2.2
    by_cases z : G 0 0 0 = 0
    · exact z
    · have o1 := o0.1.1
      have := (o0.2.2.2 0 (Int.le_refl _) (by omega)).1
      omega
  have g10 := lS.2.2.2
  have a5 : A5 23 5 = 0 := by rw [y0 23 (by omega) (by omega), f23 5 (by omega), z23, if_pos rfl]
  have wD : WD A5 B1 t G (A t 10) (A t 10) (fun i => B 138 (422 + 3 * i + 2)) 0 := by
    refine ⟨VX_cg vx (by rw [y0 23 (by omega) (by omega)]) (y0 _ (by omega) (by omega)) (y0 _ (by omega) (by omega)) (y0 _ (by omega) (by omega)) (y0 _ (by omega) (by omega)) (fun _ _ => rfl), fun s s0 s1 => by omega, fun l l0 l1 => by omega, fun k k0 k1 => ?_, ⟨?_, by omega, by omega, fun k k0 k1 => by omega⟩, ?_, Int.le_refl _, fun v v0 v1 => ?_⟩
    · rw [t0] at k1
      have e29 : A5 29 k = 0 := by rw [hA5, wr_ne (by omega), wr_ne (by omega), wr_ne (by omega)]; exact hz2 k k0 (by rw [at1]; exact k1)
      rw [e29, b138 _ (by omega), hz _ (by omega) (by omega)]
      exact ⟨rfl, Or.inl rfl⟩
    · rw [a5, b138 421 (by omega), hz 421 (by omega) (by omega)]
    · rw [y22, if_neg (by omega), if_neg (by omega), if_pos rfl, g00]
    · rw [y0 26 (by omega) (by omega)]; exact (hin v v0 v1).2.2
  obtain ⟨A', B', l1, l2, hF, res⟩ := wk_loop wS p5.2.2 wD (by rw [y22, if_pos rfl]) (by rw [fb 132 (by omega)]; exact b8) (by rw [y22, if_neg (by omega), if_pos rfl]) a5
  have RES : Unit → _ := fun _ => res
  clear res
  have hF0 : WkF (wr A 1 2 0) A5 B B1 := ⟨fun d hd => y1 d (by omega), fun d _ h2 _ _ => fb d h2, fun k _ => by rw [fb 132 (by omega)], fun f hf => b138 f (by omega)⟩
  have cw : fX10_work t (wr A 1 2 0) = some (A' 22 9, A') := by
    unfold fX10_work fX9_start
    rw [pI_ok, ob, pI_ok, ob, ← hA0, f1, ob, f2, ob, ob, pI_ok, ob, pI_ok, ob, pI_ok, ob, ← hA5, l1, ob]
  have mw : fX12_works B = some B' := by
    unfold fX12_works
    rw [g1, ob, l2, ob]
  refine ⟨A' 22 9, A', B', cw, mw, WkF_trans hF0 hF, ?_, ?_, fun x0 => ?_⟩
  · rcases RES () with ⟨r1, r2, -⟩ | ⟨r1, r2⟩ <;> omega
  · rcases RES () with ⟨r1, r2, -⟩ | ⟨r1, r2⟩ <;> omega
  · rcases RES () with ⟨r1, r2, r3, r4⟩ | ⟨r1, r2⟩
    · exact ⟨r3, TrF_cg r4 (hF.1 _ (by omega)) (hF.1 _ (by omega))⟩
    · omega
