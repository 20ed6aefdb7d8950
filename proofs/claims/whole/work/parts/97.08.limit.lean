/-! fetch, alu -/
theorem LnS_cg {A A' B B' : Mem} {t : Nat} {off c : Int} {G : Nat → Int → Int → Int} (h : LnS A B t off G c) (e1 : A' (t + 1) = A (t + 1)) (e2 : A' (t + 2) = A (t + 2)) (e3 : A' (t + 3) = A (t + 3)) (e4 : A' (t + 4) = A (t + 4)) (e5 : A' (t + 5) = A (t + 5)) (e6 : A' (t + 6) = A (t + 6)) (e7 : A' (t + 7) = A (t + 7)) (e8 : A' (t + 8) = A (t + 8)) (e9 : A' (t + 9) = A (t + 9)) (e10 : A' t 10 = A t 10) (e16 : A' t 16 = A t 16) (b : B' 139 = B 139) : LnS A' B' t off G c := by
  unfold LnS LnR LnT LnO LnP ArR OpT aTy at *
  rw [e1, e2, e3, e4, e5, e6, e7, e8, e9, e10, e16, b]
  exact h
set_option maxHeartbeats 4000000 in
set_option maxRecDepth 20000 in
theorem PC_lim {A A' B B' : Mem} {t : Nat} {T : Int → Int} {n N c : Int} {G : Nat → Int → Int → Int} (h : PC A B t T n N G c) (cf : CFr t A A') (mf : MFr B B') (eb : ∀ b, 0 < b → b ≤ 12 → A' (t + b) = A (t + b)) (atk : ∀ k, k ≠ 14 → k ≠ 15 → A' t k = A t k) (a4 : ∀ k, k ≠ 9 → k ≠ 10 → A' 4 k = A 4 k) (a18 : ∀ b, 18 ≤ b → b ≤ 21 → A' b = A b) (bk : ∀ k, k ≠ 415 → k ≠ 416 → k ≠ 418 → k ≠ 419 → B' 138 k = B 138 k) (b2 : ∀ k, k ≠ 7 → k ≠ 8 → B' 132 k = B 132 k) (bb : ∀ b, 139 ≤ b → b ≤ 144 → B' b = B b) (q7 : A' t 14 = B' 138 415 ∧ 1 ≤ A' t 14 ∧ A' t 14 ≤ 8) (q8 : A' t 15 = B' 138 416 ∧ 1 ≤ A' t 15 ∧ A' t 15 ≤ 16) (q9 : A' 4 9 = B' 138 418 ∧ (A' 4 9 = 0 ∨ A' 4 9 = 1)) (q10 : A' 4 10 = B' 138 419 ∧ (A' 4 10 = 0 ∨ A' 4 10 = 1)) : PC A' B' t T n N G c := by
  obtain ⟨p1, p2, p3, p4, p5, p6, p7, p8, p9, p10, p11, p12, p13, p14, p15, p16⟩ := h
  have e : ∀ k, k < 14 ∨ k > 15 → A' t k = A t k := fun k hk => atk k (by omega) (by omega)
  have d : ∀ k, k < 415 ∨ k > 419 → B' 138 k = B 138 k := fun k hk => bk k (by omega) (by omega) (by omega) (by omega)
  unfold PC
  refine ⟨CK_CFr p1 cf, MK_MFr p2 mf, NmR_fr p3 (a4 5 (by omega) (by omega)) (a18 18 (by omega) (by omega)) (a18 19 (by omega) (by omega)) (a18 20 (by omega) (by omega)) (b2 14 (by omega) (by omega)) (bb 140 (by omega) (by omega)) (bb 141 (by omega) (by omega)), ?_, ?_, ?_, q7, q8, q9, q10, ?_, ?_, fun i i0 i1 => ?_, fun s s0 s1 => ?_, fun l l0 l1 => ?_, LnS_cg p16 (eb 1 (by omega) (by omega)) (eb 2 (by omega) (by omega)) (eb 3 (by omega) (by omega)) (eb 4 (by omega) (by omega)) (eb 5 (by omega) (by omega)) (eb 6 (by omega) (by omega)) (eb 7 (by omega) (by omega)) (eb 8 (by omega) (by omega)) (eb 9 (by omega) (by omega)) (e 10 (by omega)) (e 16 (by omega)) (bb 139 (by omega) (by omega))⟩
  · rw [e 0 (by omega), d 412 (by omega)]; exact p4
  · rw [e 10 (by omega), d 413 (by omega)]; exact p5
  · rw [e 16 (by omega), d 414 (by omega), a4 8 (by omega) (by omega)]; exact p6
  · rw [a4 7 (by omega) (by omega), b2 18 (by omega) (by omega)]; exact p11
  · rw [a4 8 (by omega) (by omega), p12]
    apply sm_congr
    intro i _ _
    unfold whO
    rw [eb 1 (by omega) (by omega)]
  · rw [e 10 (by omega)] at i1
    rw [eb 10 (by omega) (by omega), eb 11 (by omega) (by omega), eb 12 (by omega) (by omega), d _ (by omega), d _ (by omega), d _ (by omega)]
    exact p13 i i0 i1
  · rw [a18 19 (by omega) (by omega)]; exact p14 s s0 s1
  · rw [a18 21 (by omega) (by omega), bb 144 (by omega) (by omega), bb 142 (by omega) (by omega), bb 143 (by omega) (by omega), eb 1 (by omega) (by omega)]
    exact p15 l l0 l1
set_option maxHeartbeats 4000000 in
set_option maxRecDepth 20000 in
theorem ln_fetch {A B : Mem} {t : Nat} {T : Int → Int} {n N c j : Int} {G : Nat → Int → Int → Int} (h : PR A B t T n N G c j) (h5 : A 1 4 = 5) (h6 : A 1 6 = 2) : ∃ x A' B', fX6_readFetch A = some (x, A') ∧ ((fX12_readLimit 2 3 8 B).bind fun q => fX12_takeEnd q) = some B' ∧ LnRes t T n N j A B x A' B' := by
  obtain ⟨hP, hAt, hpos⟩ := h
  obtain ⟨p1, p2, p3, p4, p5, p6, p7, p8, p9, p10, p11, p12, p13, p14, p15, p16⟩ := id hP
  have ht := p1.1
  have n0 := p1.2.2.1.2.1
  have n1 := p2.2.1
  have nN := p2.1.2.1
  obtain ⟨hA, h7, j0, j1, h8⟩ := id hAt
  obtain ⟨-, tl, pn, t1⟩ := tk_len p1 hA h5 h6
  rw [rl_v.2.2.1] at tl
  have o := p16.2.1 c p4.2.2 (Int.le_refl _)
  have ne := not_end p2 j1 (by omega)
  have ws : w32 (w32 (418 + 2) - 2) = 418 := by decide
  have wf : w32 (412 + 3) = 415 := by decide
  by_cases hd : A 4 7 ≤ 0
  · have hd' : B 132 18 ≤ 0 := by rw [p11.2, ← p11.1]; exact hd
    by_cases hf : A 4 9 = 0
    · have hf' : B 138 418 ≤ 0 := by rw [← p9.1, hf]; exact Int.le_refl _
      generalize hB1 : wr (wr B 138 418 1) 132 7 (j + 1) = B1
      have mf1 : MFr B B1 := by
        rw [← hB1]
        exact ⟨fun b b1 b2 => by rw [wr_ne b1, wr_ne (by omega)], fun k hk => by rw [wr_ne (by omega), wr_at, if_neg (by omega)], fun y _ => by rw [wr_ne (by omega), wr_ne (by omega)], fun k a _ _ _ _ => by rw [wr_at, if_neg a, wr_ne (by omega)]⟩
      obtain ⟨x, A2, v, B2, f2, g2, fr2, mr2, res⟩ := r_number (lo := 1) (hi := 8) p1 (MK_MFr p2 mf1) hA.2.1 j0 (by omega) (by rw [← hB1, wr_at, if_pos rfl]) (by rw [← hB1, wr_at, if_neg (by omega), wr_ne (by omega)]; exact h8) (by omega) (by omega)
      have e18 : wr B 138 418 1 132 7 = j := by rw [wr_ne (by omega), h7]
      have cl0 : fX6_readFetch A = ((if x = 0 then (pz A2 4 9 1).bind fun M2 => (gm M2 4 1).bind fun t3 => (pI M2 t3 14 (M2 1 6)).bind fun M4 => (fX6_readSemicolon M4).bind fun q5 => some (q5.1, q5.2) else some (x, A2) : Option (Int × Mem))).bind fun q6 => some (q6.1, q6.2) := by
        unfold fX6_readFetch
        rw [if_pos hd, if_pos hf, f2, ob]
      have ml0 : ((fX12_readLimit 2 3 8 B).bind fun q => fX12_takeEnd q) = fX12_takeEnd (wr B2 138 415 v) := by
        unfold fX12_readLimit
        rw [ob, ws, wf, if_pos hd', ld138 _ _ (by omega) (by omega), ob, if_pos hf', ob]
        have e8 : B 132 8 ≤ 0 := by omega
        rw [if_pos e8, st138 _ _ _ (by omega) (by omega), ob, pI_ok, ob, e18, w32_id (by omega) (by omega), hB1, g2, ob]
        dsimp only
        rw [st138 _ _ _ (by omega) (by omega), ob, ob]
      have mf3 : MFr B (wr B2 138 415 v) := MFr_trans (MFr_trans mf1 (F78_MFr mr2)) ⟨fun b b1 b2 => by rw [wr_ne (by omega)], fun k hk => by rw [wr_at, if_neg (by omega)], fun y _ => by rw [wr_ne (by omega)], fun k _ _ _ _ _ => by rw [wr_ne (by omega)]⟩
      rcases res with ⟨rfl, at2, v6, v1, v8, b7, b8, jN2, pn1⟩ | ⟨xp, b8⟩
      · generalize hA3 : wr (wr A2 4 9 1) t 14 v = A3
        have g41 : gm (wr A2 4 9 1) 4 1 = some t := gm41 ht (by rw [wr_at, if_neg (by omega), fr2.1 4 (by omega)]; exact p1.2.1)
        have e16 : wr A2 4 9 1 1 6 = v := by rw [wr_ne (by omega)]; exact v6
        rw [if_pos rfl, pz_ok (Or.inr rfl), ob, g41, ob, pI_ok, ob, e16, hA3] at cl0
        have cf3 : CFr t A A3 := CFr_trans (F1_CFr ht fr2) (by
          rw [← hA3]
          exact ⟨fun b b1 b4 b18 bt => by rw [wr_ne (by omega), wr_ne b4], by rw [wr_ne (by omega), wr_ne (by omega)], by rw [wr_ne (by omega), wr_at, if_neg (by omega)]⟩)
        have a31 : A3 1 = A2 1 := by rw [← hA3, wr_ne (by omega), wr_ne (by omega)]
        obtain ⟨x', A4, B4, f4, g4, fr4, mr4, res4⟩ := r_semi (A := A3) (B := wr B2 138 415 v) (j := j + 1) (CK_CFr p1 cf3) (MK_MFr p2 mf3) (by rw [a31]; exact at2.2.1) (by omega) (by omega) (by rw [wr_ne (by omega)]; omega) (by rw [wr_ne (by omega)]; exact b8)
        rw [f4, ob, ob] at cl0
        rw [g4] at ml0
        refine ⟨x', A4, B4, cl0, ml0, CFr_trans cf3 (F1_CFr ht fr4), MFr_trans mf3 (F78_MFr mr4), ?_⟩
        rcases res4 with ⟨rfl, at4, b47, b48, jN3, pn2⟩ | hf
        · left
          have eA : ∀ b, b ≠ 1 → b ≠ 4 → b ≠ t → A4 b = A b := fun b e1 e2 e3 => by rw [fr4.1 b e1, ← hA3, wr_ne e3, wr_ne e2, fr2.1 b e1]
          have eAt : ∀ k, A4 t k = if k = 14 then v else A t k := fun k => by rw [fr4.1 t (by omega), ← hA3, wr_at, wr_ne (by omega), fr2.1 t (by omega)]
          have eA4 : ∀ k, A4 4 k = if k = 9 then 1 else A 4 k := fun k => by rw [fr4.1 4 (by omega), ← hA3, wr_ne (by omega), wr_at, fr2.1 4 (by omega)]
          have eB8 : ∀ k, B4 138 k = if k = 415 then v else if k = 418 then 1 else B 138 k := fun k => by rw [mr4.1 138 (by omega), wr_at, mr2.1 138 (by omega), ← hB1, wr_ne (by omega), wr_at]
          have eB2 : ∀ k, k ≠ 7 → k ≠ 8 → B4 132 k = B 132 k := fun k e1 e2 => by rw [mr4.2 k e1 e2, wr_ne (by omega), mr2.2 k e1 e2, ← hB1, wr_at, if_neg e1, wr_ne (by omega)]
          have eB : ∀ b, b ≠ 132 → b ≠ 138 → B4 b = B b := fun b e1 e2 => by rw [mr4.1 b e1, wr_ne e2, mr2.1 b e1, ← hB1, wr_ne e1, wr_ne e2]
          refine ⟨rfl, G, c, j + 1 + 1, PC_lim hP (CFr_trans cf3 (F1_CFr ht fr4)) (MFr_trans mf3 (F78_MFr mr4)) (fun b b0 b1 => eA _ (by omega) (by omega) (by omega)) (fun k k1 k2 => by rw [eAt, if_neg k1]) (fun k k1 k2 => by rw [eA4, if_neg k1]) (fun b b0 b1 => eA b (by omega) (by omega) (by omega)) (fun k k1 k2 k3 k4 => by rw [eB8, if_neg k1, if_neg k3]) eB2 (fun b b0 b1 => eB b (by omega) (by omega)) ?_ ?_ ?_ ?_, at4, by omega, b48, by omega, by omega, ?_, ?_⟩
          · rw [eAt, if_pos rfl, eB8, if_pos rfl]; exact ⟨rfl, v1, v8⟩
          · rw [eAt, if_neg (by omega), eB8, if_neg (by omega), if_neg (by omega)]; exact p8
          · rw [eA4, if_pos rfl, eB8, if_neg (by omega), if_pos rfl]; exact ⟨rfl, Or.inr rfl⟩
          · rw [eA4, if_neg (by omega), eB8, if_neg (by omega), if_neg (by omega)]; exact p10
          · have q1 := pos_nx (T := T) (j := j) n0 j0
            have q2 := pos_nx (T := T) (j := j + 1) n0 (by omega)
            have q3 := pos_te (T := T) (j := j + 1) n0 pn1
            have q4 := pos_te (T := T) (j := j + 1 + 1) n0 pn2
            omega
          · have q1 := pos_nx (T := T) (j := j) n0 j0
            have q2 := pos_nx (T := T) (j := j + 1) n0 (by omega)
            have q3 := pos_te (T := T) (j := j + 1) n0 pn1
            have q4 := pos_te (T := T) (j := j + 1 + 1) n0 pn2
            omega
        · exact Or.inr hf
      · rw [if_neg (by omega), ob] at cl0
        obtain ⟨B4, g4, mr4, b48⟩ := m_takeEnd8 (B := wr B2 138 415 v) (by rw [wr_ne (by omega)]; omega)
        rw [g4] at ml0
        exact ⟨x, A2, B4, cl0, ml0, F1_CFr ht fr2, MFr_trans mf3 (F78_MFr mr4), Or.inr ⟨xp, by rw [b48, wr_ne (by omega), b8]⟩⟩
    · obtain ⟨fa, fb, B', fe, res⟩ := ln_fault (k := 3) p1 p2 hAt (by omega) (by omega)
      refine ⟨_, A, B', ?_, ?_, res⟩
      · unfold fX6_readFetch
        rw [if_pos hd, if_neg hf, fa, ob]
      · unfold fX12_readLimit
        have e8 : wr B 132 8 (3 + 16 * pos T n j) 132 8 = 3 + 16 * pos T n j := by rw [wr_at, if_pos rfl]
        have fp := flt_pos (T := T) (n := n) (j := j) (k := 3) n0 (by omega)
        rw [ob, ws, if_pos hd', ld138 _ _ (by omega) (by omega), ob, if_neg (by omega), fb, ob, ob]
        simp only [e8]
        rw [if_neg (by omega), ob, fe]
  · obtain ⟨fa, fb, B', fe, res⟩ := ln_fault (k := 1) p1 p2 hAt (by omega) (by omega)
    refine ⟨_, A, B', ?_, ?_, res⟩
    · unfold fX6_readFetch
      rw [if_neg hd, fa, ob]
    · unfold fX12_readLimit
      have e8 : wr B 132 8 (1 + 16 * pos T n j) 132 8 = 1 + 16 * pos T n j := by rw [wr_at, if_pos rfl]
      have fp := flt_pos (T := T) (n := n) (j := j) (k := 1) n0 (by omega)
      rw [ob, ws, if_neg (by omega), fb, ob, ob]
      simp only [e8]
      rw [if_neg (by omega), ob, fe]
set_option maxHeartbeats 4000000 in
set_option maxRecDepth 20000 in
theorem ln_alu {A B : Mem} {t : Nat} {T : Int → Int} {n N c j : Int} {G : Nat → Int → Int → Int} (h : PR A B t T n N G c j) (h5 : A 1 4 = 5) (h6 : A 1 6 = 3) : ∃ x A' B', fX6_readAlu A = some (x, A') ∧ ((fX12_readLimit 3 4 16 B).bind fun q => fX12_takeEnd q) = some B' ∧ LnRes t T n N j A B x A' B' := by
  obtain ⟨hP, hAt, hpos⟩ := h
  obtain ⟨p1, p2, p3, p4, p5, p6, p7, p8, p9, p10, p11, p12, p13, p14, p15, p16⟩ := id hP
  have ht := p1.1
  have n0 := p1.2.2.1.2.1
  have n1 := p2.2.1
  have nN := p2.1.2.1
  obtain ⟨hA, h7, j0, j1, h8⟩ := id hAt
  obtain ⟨-, tl, pn, t1⟩ := tk_len p1 hA h5 h6
  rw [rl_v.2.2.2.1] at tl
  have o := p16.2.1 c p4.2.2 (Int.le_refl _)
  have ne := not_end p2 j1 (by omega)
  have ws : w32 (w32 (418 + 3) - 2) = 419 := by decide
  have wf : w32 (412 + 4) = 416 := by decide
  by_cases hd : A 4 7 ≤ 0
  · have hd' : B 132 18 ≤ 0 := by rw [p11.2, ← p11.1]; exact hd
    by_cases hf : A 4 10 = 0
    · have hf' : B 138 419 ≤ 0 := by rw [← p10.1, hf]; exact Int.le_refl _
      generalize hB1 : wr (wr B 138 419 1) 132 7 (j + 1) = B1
      have mf1 : MFr B B1 := by
        rw [← hB1]
        exact ⟨fun b b1 b2 => by rw [wr_ne b1, wr_ne (by omega)], fun k hk => by rw [wr_ne (by omega), wr_at, if_neg (by omega)], fun y _ => by rw [wr_ne (by omega), wr_ne (by omega)], fun k a _ _ _ _ => by rw [wr_at, if_neg a, wr_ne (by omega)]⟩
      obtain ⟨x, A2, v, B2, f2, g2, fr2, mr2, res⟩ := r_number (lo := 1) (hi := 16) p1 (MK_MFr p2 mf1) hA.2.1 j0 (by omega) (by rw [← hB1, wr_at, if_pos rfl]) (by rw [← hB1, wr_at, if_neg (by omega), wr_ne (by omega)]; exact h8) (by omega) (by omega)
      have e18 : wr B 138 419 1 132 7 = j := by rw [wr_ne (by omega), h7]
      have cl0 : fX6_readAlu A = ((if x = 0 then (pz A2 4 10 1).bind fun M2 => (gm M2 4 1).bind fun t3 => (pI M2 t3 15 (M2 1 6)).bind fun M4 => (fX6_readSemicolon M4).bind fun q5 => some (q5.1, q5.2) else some (x, A2) : Option (Int × Mem))).bind fun q6 => some (q6.1, q6.2) := by
        unfold fX6_readAlu
        rw [if_pos hd, if_pos hf, f2, ob]
      have ml0 : ((fX12_readLimit 3 4 16 B).bind fun q => fX12_takeEnd q) = fX12_takeEnd (wr B2 138 416 v) := by
        unfold fX12_readLimit
        rw [ob, ws, wf, if_pos hd', ld138 _ _ (by omega) (by omega), ob, if_pos hf', ob]
        have e8 : B 132 8 ≤ 0 := by omega
        rw [if_pos e8, st138 _ _ _ (by omega) (by omega), ob, pI_ok, ob, e18, w32_id (by omega) (by omega), hB1, g2, ob]
        dsimp only
        rw [st138 _ _ _ (by omega) (by omega), ob, ob]
      have mf3 : MFr B (wr B2 138 416 v) := MFr_trans (MFr_trans mf1 (F78_MFr mr2)) ⟨fun b b1 b2 => by rw [wr_ne (by omega)], fun k hk => by rw [wr_at, if_neg (by omega)], fun y _ => by rw [wr_ne (by omega)], fun k _ _ _ _ _ => by rw [wr_ne (by omega)]⟩
      rcases res with ⟨rfl, at2, v6, v1, v8, b7, b8, jN2, pn1⟩ | ⟨xp, b8⟩
      · generalize hA3 : wr (wr A2 4 10 1) t 15 v = A3
        have g41 : gm (wr A2 4 10 1) 4 1 = some t := gm41 ht (by rw [wr_at, if_neg (by omega), fr2.1 4 (by omega)]; exact p1.2.1)
        have e16 : wr A2 4 10 1 1 6 = v := by rw [wr_ne (by omega)]; exact v6
        rw [if_pos rfl, pz_ok (Or.inr rfl), ob, g41, ob, pI_ok, ob, e16, hA3] at cl0
        have cf3 : CFr t A A3 := CFr_trans (F1_CFr ht fr2) (by
          rw [← hA3]
          exact ⟨fun b b1 b4 b18 bt => by rw [wr_ne (by omega), wr_ne b4], by rw [wr_ne (by omega), wr_ne (by omega)], by rw [wr_ne (by omega), wr_at, if_neg (by omega)]⟩)
        have a31 : A3 1 = A2 1 := by rw [← hA3, wr_ne (by omega), wr_ne (by omega)]
        obtain ⟨x', A4, B4, f4, g4, fr4, mr4, res4⟩ := r_semi (A := A3) (B := wr B2 138 416 v) (j := j + 1) (CK_CFr p1 cf3) (MK_MFr p2 mf3) (by rw [a31]; exact at2.2.1) (by omega) (by omega) (by rw [wr_ne (by omega)]; omega) (by rw [wr_ne (by omega)]; exact b8)
        rw [f4, ob, ob] at cl0
        rw [g4] at ml0
        refine ⟨x', A4, B4, cl0, ml0, CFr_trans cf3 (F1_CFr ht fr4), MFr_trans mf3 (F78_MFr mr4), ?_⟩
        rcases res4 with ⟨rfl, at4, b47, b48, jN3, pn2⟩ | hf
        · left
          have eA : ∀ b, b ≠ 1 → b ≠ 4 → b ≠ t → A4 b = A b := fun b e1 e2 e3 => by rw [fr4.1 b e1, ← hA3, wr_ne e3, wr_ne e2, fr2.1 b e1]
          have eAt : ∀ k, A4 t k = if k = 15 then v else A t k := fun k => by rw [fr4.1 t (by omega), ← hA3, wr_at, wr_ne (by omega), fr2.1 t (by omega)]
          have eA4 : ∀ k, A4 4 k = if k = 10 then 1 else A 4 k := fun k => by rw [fr4.1 4 (by omega), ← hA3, wr_ne (by omega), wr_at, fr2.1 4 (by omega)]
          have eB8 : ∀ k, B4 138 k = if k = 416 then v else if k = 419 then 1 else B 138 k := fun k => by rw [mr4.1 138 (by omega), wr_at, mr2.1 138 (by omega), ← hB1, wr_ne (by omega), wr_at]
          have eB2 : ∀ k, k ≠ 7 → k ≠ 8 → B4 132 k = B 132 k := fun k e1 e2 => by rw [mr4.2 k e1 e2, wr_ne (by omega), mr2.2 k e1 e2, ← hB1, wr_at, if_neg e1, wr_ne (by omega)]
          have eB : ∀ b, b ≠ 132 → b ≠ 138 → B4 b = B b := fun b e1 e2 => by rw [mr4.1 b e1, wr_ne e2, mr2.1 b e1, ← hB1, wr_ne e1, wr_ne e2]
          refine ⟨rfl, G, c, j + 1 + 1, PC_lim hP (CFr_trans cf3 (F1_CFr ht fr4)) (MFr_trans mf3 (F78_MFr mr4)) (fun b b0 b1 => eA _ (by omega) (by omega) (by omega)) (fun k k1 k2 => by rw [eAt, if_neg k2]) (fun k k1 k2 => by rw [eA4, if_neg k2]) (fun b b0 b1 => eA b (by omega) (by omega) (by omega)) (fun k k1 k2 k3 k4 => by rw [eB8, if_neg k2, if_neg k4]) eB2 (fun b b0 b1 => eB b (by omega) (by omega)) ?_ ?_ ?_ ?_, at4, by omega, b48, by omega, by omega, ?_, ?_⟩
          · rw [eAt, if_neg (by omega), eB8, if_neg (by omega), if_neg (by omega)]; exact p7
          · rw [eAt, if_pos rfl, eB8, if_pos rfl]; exact ⟨rfl, v1, v8⟩
          · rw [eA4, if_neg (by omega), eB8, if_neg (by omega), if_neg (by omega)]; exact p9
          · rw [eA4, if_pos rfl, eB8, if_neg (by omega), if_pos rfl]; exact ⟨rfl, Or.inr rfl⟩
          · have q1 := pos_nx (T := T) (j := j) n0 j0
            have q2 := pos_nx (T := T) (j := j + 1) n0 (by omega)
            have q3 := pos_te (T := T) (j := j + 1) n0 pn1
            have q4 := pos_te (T := T) (j := j + 1 + 1) n0 pn2
            omega
          · have q1 := pos_nx (T := T) (j := j) n0 j0
            have q2 := pos_nx (T := T) (j := j + 1) n0 (by omega)
            have q3 := pos_te (T := T) (j := j + 1) n0 pn1
            have q4 := pos_te (T := T) (j := j + 1 + 1) n0 pn2
            omega
        · exact Or.inr hf
      · rw [if_neg (by omega), ob] at cl0
        obtain ⟨B4, g4, mr4, b48⟩ := m_takeEnd8 (B := wr B2 138 416 v) (by rw [wr_ne (by omega)]; omega)
        rw [g4] at ml0
        exact ⟨x, A2, B4, cl0, ml0, F1_CFr ht fr2, MFr_trans mf3 (F78_MFr mr4), Or.inr ⟨xp, by rw [b48, wr_ne (by omega), b8]⟩⟩
    · obtain ⟨fa, fb, B', fe, res⟩ := ln_fault (k := 3) p1 p2 hAt (by omega) (by omega)
      refine ⟨_, A, B', ?_, ?_, res⟩
      · unfold fX6_readAlu
        rw [if_pos hd, if_neg hf, fa, ob]
      · unfold fX12_readLimit
        have e8 : wr B 132 8 (3 + 16 * pos T n j) 132 8 = 3 + 16 * pos T n j := by rw [wr_at, if_pos rfl]
        have fp := flt_pos (T := T) (n := n) (j := j) (k := 3) n0 (by omega)
        rw [ob, ws, if_pos hd', ld138 _ _ (by omega) (by omega), ob, if_neg (by omega), fb, ob, ob]
        simp only [e8]
        rw [if_neg (by omega), ob, fe]
  · obtain ⟨fa, fb, B', fe, res⟩ := ln_fault (k := 1) p1 p2 hAt (by omega) (by omega)
    refine ⟨_, A, B', ?_, ?_, res⟩
    · unfold fX6_readAlu
      rw [if_neg hd, fa, ob]
    · unfold fX12_readLimit
      have e8 : wr B 132 8 (1 + 16 * pos T n j) 132 8 = 1 + 16 * pos T n j := by rw [wr_at, if_pos rfl]
      have fp := flt_pos (T := T) (n := n) (j := j) (k := 1) n0 (by omega)
      rw [ob, ws, if_neg (by omega), fb, ob, ob]
      simp only [e8]
      rw [if_neg (by omega), ob, fe]
