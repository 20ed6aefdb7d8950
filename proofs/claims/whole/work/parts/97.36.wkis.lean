/-! input, show -/
set_option maxHeartbeats 4000000 in
set_option maxRecDepth 20000 in
theorem wk_input {A B : Mem} {t : Nat} {G : Nat → Int → Int → Int} {c nI n i w st : Int} {giv : Int → Int} (h : WI A B t G c nI giv n i w st) (hk : A (t + 1) i = 0) : ∃ A' B', ((ldI A (t + 3) i).bind fun v2 => (ldI A (t + 9) i).bind fun v3 => (stI A 30 v2 v3).bind fun M4 => some (w32 (i + 1), M4)) = some (i + 1, A') ∧ ((ldI B 139 (w32 (12 * (210 + i) + 1))).bind fun v44 => (ldI B 139 (w32 (12 * (210 + i) + 2))).bind fun v45 => (stI B 145 v44 v45).bind fun M46 => some (w32 (i + 1), M46)) = some (i + 1, B') ∧ WRes A B t G c nI giv i w st (i + 1) A' B' := by
  obtain ⟨hS, ⟨i0, i1⟩, hD, a9, b8, w01, st0, hp⟩ := h
  obtain ⟨ht, hL, c0, c200, -, h16, h10, -, -, hg⟩ := id hS
  obtain ⟨lR, lT, lP⟩ := hL.1 i i0 i1
  obtain ⟨r1, r2, r3, r4⟩ := lR.2.2.2.1 hk
  obtain ⟨t1, t2, t3, t4, t5⟩ := lT.2.2.1 hk
  have o1 := hL.2.1 (i + 1) (by omega) (by omega)
  have o0 := hL.2.1 i i0 (by omega)
  have m20 := o1.2.1.2
  have m0 := o0.2.1.1
  rw [tl3 ht _ _ i0 (by omega), ob, tl9 ht _ _ i0 (by omega), ob, st30 _ _ _ (by omega) (by omega), ob, w32_id (show -2147483648 ≤ i + 1 by omega) (by omega), w32_id (show -2147483648 ≤ 12 * (210 + i) + 1 by omega) (by omega), ld139 _ _ (by omega) (by omega), ob, w32_id (show -2147483648 ≤ 12 * (210 + i) + 2 by omega) (by omega), ld139 _ _ (by omega) (by omega), ob, r1, r2, st145 _ _ _ (by omega) (by omega), ob]
  have sl : SL A (wr A 30 (A (t + 3) i) (A (t + 9) i)) B (wr B 145 (A (t + 3) i) (A (t + 9) i)) := ⟨fun d a => wr_ne (by omega), fun d _ _ a _ => wr_ne (by omega), fun k _ => by rw [wr_ne (by omega)], fun f _ => by rw [wr_ne (by omega)], by rw [wr_ne (by omega)]⟩
  refine ⟨_, _, rfl, rfl, sl, Or.inl ⟨by rw [wr_ne (by omega)]; exact a9, by rw [wr_ne (by omega)]; exact b8, by omega, by omega, ⟨n, WD_sam hS i0 i1 hD t5 (Int.le_refl _) (VX_cg hD.1 (by rw [wr_ne (by omega)]) (wr_ne (by omega)) (wr_ne (by omega)) (wr_ne (by omega)) (wr_ne (by omega)) (fun f _ => by rw [wr_ne (by omega)])) ?_ (fun d _ _ e _ => wr_ne e) (by rw [wr_ne (by omega)]) (fun v _ => by rw [wr_ne (by omega)]) (fun d _ _ => wr_ne (by omega)) (ShW_fr hD.2.2.2.2.1 (by rw [wr_ne (by omega)]) (wr_ne (by omega)) (fun f _ _ => by rw [wr_ne (by omega)]) (Int.le_refl _)) (fun f _ => by rw [wr_ne (by omega)])⟩, WP_sam t5 o0.1.1 (wr_ne (by omega)) (wr_ne (by omega)) hp (Or.inr t1), NX_o (by omega) (by omega) (wr_ne (by omega)) (by omega) (by rw [wr_ne (by omega)])⟩⟩
  intro s s0 s1
  rw [wr_at, wr_at, wr_ne (show 26 ≠ 30 by omega)]
  by_cases e : s = A (t + 3) i
  · rw [if_pos e, if_pos e, e, t2, t4]
    exact ⟨rfl, r3, by have := hD.2.2.2.2.2.2.1; omega, hD.2.2.2.2.2.2.2 _ r3 (by omega)⟩
  · rw [if_neg e, if_neg e, lT.2.1 s s0 (by omega) (by omega)]
    exact hD.2.1 s s0 (by omega)
set_option maxHeartbeats 4000000 in
set_option maxRecDepth 20000 in
theorem wk_show {A B : Mem} {t : Nat} {G : Nat → Int → Int → Int} {c nI n i w st : Int} {giv : Int → Int} (h : WI A B t G c nI giv n i w st) (hk : A (t + 1) i = 9) (h8 : B 138 421 ≠ 8) : ∃ A' B', fX10_workShow t i A = some A' ∧ ((ldI B 138 421).bind fun v36 => (fX12_argValue (w32 (12 * (210 + i) + 5)) B).bind fun q37 => (stI q37.2 138 (w32 (440 + v36)) q37.1).bind fun M38 => (ldI M38 138 421).bind fun v39 => (stI M38 138 421 (w32 (v39 + 1))).bind fun M40 => some (w32 (i + 1), M40)) = some (i + 1, B') ∧ WRes A B t G c nI giv i w st (i + 1) A' B' := by
  obtain ⟨hS, ⟨i0, i1⟩, hD, a9, b8, w01, st0, hp⟩ := h
  obtain ⟨ht, hL, c0, c200, -, h16, h10, -, -, hg⟩ := id hS
  obtain ⟨lR, lT, lP⟩ := hL.1 i i0 i1
  have ar := lR.2.2.2.2.2.2.2.1 hk
  obtain ⟨t1, t2, t3, -⟩ := lT.2.2.2.2.1 hk
  have o0 := hL.2.1 i i0 (by omega)
  obtain ⟨s1, s2, s3, s4⟩ := hD.2.2.2.2.1
  have lt8 : A 23 5 < 8 := by omega
  obtain ⟨x, A1, y, B1, f1, g1, ⟨n', w1, w2, w3, w4⟩, ty', e43⟩ := r_argV ht ar i0 (by omega) (Int.le_refl 0) (by omega) o0.2.1.2 hD.1 hD.2.1 a9 b8
  rw [show 12 * (210 + i) + 5 + 2 * 0 = 12 * (210 + i) + 5 by omega] at g1
  have b421 : B1 138 421 = B 138 421 := w3.2.2.2.2.2.2 421 (by omega)
  have a235 : A1 23 5 = A 23 5 := w3.2.2.1 5 (by omega)
  have W4 : Unit → _ := fun _ => w4
  clear w4
  unfold fX10_workShow
  rw [if_pos lt8, f1, ob, ld138 _ _ (by omega) (by omega), ob, w32_id (show -2147483648 ≤ 12 * (210 + i) + 5 by omega) (by omega), g1, ob]
  dsimp only
  rw [w32_id (show -2147483648 ≤ 440 + B 138 421 by omega) (by omega), st138 _ _ _ (by omega) (by omega), ob, ld138 _ _ (by omega) (by omega), ob]
  have e421 : wr B1 138 (440 + B 138 421) y 138 421 = A 23 5 := by rw [wr_at, if_neg (by omega), b421, s1]
  rw [e421, w32_id (show -2147483648 ≤ A 23 5 + 1 by omega) (by omega), st138 _ _ _ (by omega) (by omega), ob, w32_id (show -2147483648 ≤ i + 1 by omega) (by omega)]
  have slB : ∀ A', SL A A' B B1 → SL A A' B (wr (wr B1 138 (440 + B 138 421) y) 138 421 (A 23 5 + 1)) := fun A' q => ⟨q.1, fun d a b e e' => by rw [wr_ne b, wr_ne b]; exact q.2.1 d a b e e', fun k a => by rw [wr_ne (by omega), wr_ne (by omega)]; exact q.2.2.1 k a, fun f a => by rw [wr_at, if_neg (by omega), wr_at, if_neg (by omega)]; exact q.2.2.2.1 f a, q.2.2.2.2⟩
  rcases W4 () with ⟨u1, u2, u3, u4, u5⟩ | ⟨f, u1, u2, u3, -, -, -⟩
  · rw [if_pos u1, a235, st28 _ _ _ s2 (by omega), ob, pI_ok, ob, ob]
    have e5 : wr A1 28 (A 23 5) x 23 5 = A 23 5 := by rw [wr_ne (by omega)]; exact a235
    rw [e5, w32_id (by omega) (by omega)]
    obtain ⟨A', hA'⟩ : ∃ A', A' = wr (wr A1 28 (A 23 5) x) 23 5 (A 23 5 + 1) := ⟨_, rfl⟩
    rw [← hA']
    have z1 : ∀ d, d ≠ 23 → d ≠ 28 → A' d = A1 d := fun d a b => by rw [hA', wr_ne a, wr_ne b]
    have slA : SL A A' B B1 := SL_trans (WFr_SL w3) ⟨fun d a => z1 d (by omega) (by omega), fun _ _ _ _ _ => rfl, fun _ _ => rfl, fun _ _ => rfl, by rw [z1 22 (by omega) (by omega)]⟩
    have vx' : VX A' (wr (wr B1 138 (440 + B 138 421) y) 138 421 (A 23 5 + 1)) n' nI giv := VX_cg w2 (by rw [hA', wr_at, if_neg (by omega), wr_ne (by omega)]) (z1 _ (by omega) (by omega)) (z1 _ (by omega) (by omega)) (z1 _ (by omega) (by omega)) (z1 _ (by omega) (by omega)) (fun f hf => by rw [wr_at, if_neg (by omega), wr_at, if_neg (by omega)])
    have nm1 := NmV_fr hD.2.1 w3 w1
    refine ⟨_, _, rfl, rfl, slB A' slA, Or.inl ⟨by rw [z1 22 (by omega) (by omega)]; exact u1, by rw [wr_ne (by omega), wr_ne (by omega)]; exact u2, by omega, by omega, ⟨n', WD_sam hS i0 i1 hD t3 w1 vx' ?_ (fun d d1 d2 d3 d4 => by rw [z1 d (by omega) (by omega)]; exact w3.1 d d1 (by omega) d4) (by rw [z1 22 (by omega) (by omega)]; exact w3.2.1 7 (by omega)) (fun v hv => by rw [z1 26 (by omega) (by omega)]; exact w3.2.2.2.1 v hv) (fun d d1 d2 => by rw [wr_ne (by omega), wr_ne (by omega)]; exact w3.2.2.2.2.1 d (by omega) (by omega)) ?_ (fun f hf => by rw [wr_at, if_neg (by omega), wr_at, if_neg (by omega)]; exact w3.2.2.2.2.2.2 f (by omega))⟩, WP_sam t3 o0.1.1 (slA.1 _ (by omega)) (by rw [z1 42 (by omega) (by omega)]; exact w3.1 42 (by omega) (by omega) (by omega)) hp (Or.inl (Or.inr hk)), ?_⟩⟩
    · rw [t1]
      intro s s0 s1'
      obtain ⟨q1, q2, q3, q4⟩ := nm1 s s0 s1'
      rw [z1 30 (by omega) (by omega), z1 26 (by omega) (by omega), wr_ne (show 145 ≠ 138 by omega), wr_ne (show 145 ≠ 138 by omega), lT.2.1 s s0 s1' (by omega)]
      exact ⟨q1, q2, q3, q4⟩
    · have e235 : A' 23 5 = A 23 5 + 1 := by rw [hA', wr_at, if_pos rfl]
      have e28 : ∀ k, A' 28 k = if k = A 23 5 then x else A 28 k := fun k => by rw [hA', wr_ne (by omega), wr_at, w3.1 28 (by omega) (by omega) (by omega)]
      unfold ShW
      rw [e235, wr_at, if_pos rfl]
      refine ⟨rfl, by omega, by omega, fun k k0 k1 => ?_⟩
      rw [e28, wr_at, if_neg (show ¬ (440 + k = 421) by omega), wr_at]
      by_cases e : k = A 23 5
      · rw [if_pos e, if_pos (by omega)]; exact ⟨u3, u4, u5⟩
      · rw [if_neg e, if_neg (by omega), w3.2.2.2.2.2.2 _ (by omega)]
        obtain ⟨q1, q2, q3⟩ := s4 k k0 (by omega)
        exact ⟨q1, q2, by omega⟩
    · have e42 : A' 42 = A 42 := by rw [z1 42 (by omega) (by omega)]; exact w3.1 42 (by omega) (by omega) (by omega)
      unfold NX nxL nxK
      refine ⟨by rw [if_neg (fun z => by omega)], by rw [if_pos hk, hA', wr_at, if_pos rfl], fun l _ _ => by rw [if_neg (fun z => by omega), if_neg (fun z => by omega), e42]⟩
  · rw [if_neg (by omega), ob]
    exact ⟨_, _, rfl, rfl, slB A1 (WFr_SL w3), Or.inr ⟨by omega, by rw [wr_ne (by omega), wr_ne (by omega)]; omega⟩⟩
