/-! walking: input, is, when, else -/
theorem wl_pre {M N a b : Mem} {t : Nat} {G : Nat → Int → Int → Int} {c lane i seen st : Int} {L : Nat} (hC : WkC M N t G c L lane) (hW : WkW M N t G c L i seen st a b) : a (t + 1) = M (t + 1) ∧ a (t + 3) = M (t + 3) ∧ a (t + 6) = M (t + 6) ∧ a (t + 8) = M (t + 8) ∧ a (t + 9) = M (t + 9) ∧ b 139 = M 139 ∧ b 151 = M 151 ∧ b 152 = M 152 := by
  have ht := hC.1
  have fa := hW.1
  have fb := hW.2.1
  refine ⟨fa _ (by omega) (by omega) (by omega) (by omega), fa _ (by omega) (by omega) (by omega) (by omega), fa _ (by omega) (by omega) (by omega) (by omega), fa _ (by omega) (by omega) (by omega) (by omega), fa _ (by omega) (by omega) (by omega) (by omega), ?_, ?_, ?_⟩
  · rw [fb 139 (by omega) (by omega)]; exact hC.2.2.2.2.2.2.2.1
  · rw [fb 151 (by omega) (by omega)]; exact hC.2.2.2.2.2.2.2.2.1
  · rw [fb 152 (by omega) (by omega)]; exact hC.2.2.2.2.2.2.2.2.2.1
theorem nxK_o {M : Mem} {t : Nat} {G : Nat → Int → Int → Int} {i : Int} {K : Int → Int} (h7 : M (t + 1) i ≠ 7) (h8 : M (t + 1) i ≠ 8) : nxL M t G i K = i + 1 ∧ nxK M t G i K = K := by
  constructor
  · unfold nxL; rw [if_neg (fun y => h8 y.1)]
  · funext l; unfold nxK; rw [if_neg (fun y => h7 y.1), if_neg (fun y => h8 y.1)]
set_option maxHeartbeats 4000000 in
set_option maxRecDepth 20000 in
theorem wl_input {M N a b : Mem} {t : Nat} {G : Nat → Int → Int → Int} {c lane i seen st : Int} {L : Nat} (hC : WkC M N t G c L lane) (hW : WkW M N t G c L i seen st a b) (ic : i < c) (hk : M (t + 1) i = 0) : ∃ i' a' b', fX4_walkLine t i lane a = some (i', a') ∧ mWk i lane seen b = some (.inl (i', seen, b')) ∧ WkW M N t G c L i' seen (st + 1) a' b' := by
  obtain ⟨p1, p3, p6, p8, p9, q9, q151, q152⟩ := wl_pre hC hW
  obtain ⟨ht, hL, ⟨c0, c200⟩, g0, L5, tE, tI, n139, n151, n152, ⟨la0, la4⟩, i6, hIn, hCl⟩ := id hC
  obtain ⟨fa, fb, ⟨i0, -⟩, hN, s05, st0, k, kL, tk, tc, sk, hP⟩ := hW
  obtain ⟨lR, lT, lP⟩ := hL.1 i i0 ic
  have o0 := hL.2.1 i i0 (by omega)
  have o1 := hL.2.1 (i + 1) (by omega) (by omega)
  obtain ⟨r1, r2, r3, r4⟩ := lR.2.2.2.1 hk
  obtain ⟨t1, t2, t3, t4, t5⟩ := lT.2.2.1 hk
  rw [Int.zero_add] at r1 r2
  have e0 : b 139 (12 * i) = 6 := by
    have := lR.1
    rw [Int.zero_add, hk] at this
    rw [q9, this]; decide
  have m20 := o1.2.1.2
  have m0 := o0.2.1.1
  have e54 : a 54 (4 * M (t + 9) i + lane) = M 54 (4 * M (t + 9) i + lane) := by rw [fa 54 (by omega) (by omega) (by omega) (by omega)]
  obtain ⟨y1, y2, y3⟩ := hIn (M (t + 9) i) r3 r4
  have e51 : b 151 (4 * M (t + 9) i + lane) = M 54 (4 * M (t + 9) i + lane) := by rw [q151]; exact y1
  obtain ⟨x1, x2⟩ := nxK_o (G := G) (K := (trS M t G k).2) (show M (t + 1) i ≠ 7 by omega) (by omega)
  refine ⟨i + 1, wr a 58 (M (t + 3) i) (M 54 (4 * M (t + 9) i + lane)), wr b 145 (M (t + 3) i) (M 54 (4 * M (t + 9) i + lane)), ?_, ?_, ?_⟩
  · unfold fX4_walkLine
    rw [tl1 ht _ _ i0 (by omega), ob, p1, hk, if_pos rfl, tl3 ht _ _ i0 (by omega), ob, tl9 ht _ _ i0 (by omega), ob, p3, p9, w32_id (show -2147483648 ≤ 4 * M (t + 9) i by omega) (by omega), w32_id (show -2147483648 ≤ 4 * M (t + 9) i + lane by omega) (by omega), ld54 _ _ (by omega) (by omega), ob, e54, st58 _ _ _ (by omega) (by omega), ob, w32_id (show -2147483648 ≤ i + 1 by omega) (by omega)]
  · unfold mWk
    rw [if_pos e0, w32_id (show -2147483648 ≤ 12 * i + 1 by omega) (by omega), ld139 _ _ (by omega) (by omega), ob, w32_id (show -2147483648 ≤ 12 * i + 2 by omega) (by omega), ld139 _ _ (by omega) (by omega), ob, q9, r1, r2, w32_id (show -2147483648 ≤ 4 * M (t + 9) i by omega) (by omega), w32_id (show -2147483648 ≤ 4 * M (t + 9) i + lane by omega) (by omega), ld151 _ _ (by omega) (by omega), ob, e51, st145 _ _ _ (by omega) (by omega), ob]
  · refine WkW_nx (a := a) (b := b) (k := k) (K := (trS M t G k).2) hC i0 ic kL (by rw [← tk]) tc sk st0 s05.1 (by omega) (fun d h1 h2 h3 h4 => by rw [wr_ne h2]; exact fa d h1 h2 h3 h4) (fun d h1 h2 => by rw [wr_ne h1]; exact fb d h1 h2) x1 (fun s s0 s1 => ?_) ?_
    · rw [wr_at, wr_at]
      by_cases e : s = M (t + 3) i
      · rw [if_pos e, if_pos e, e, t2, t4]
        exact ⟨rfl, by omega, fun z => by omega⟩
      · rw [if_neg e, if_neg e, lT.2.1 s s0 (by omega) s1]
        exact hN s s0 (by omega)
    · rw [x2]
      exact wLp_go hP o0.1.1 o1.1.1 (fun l l0 l1 _ => (t5.2 l l0 l1).1) (Or.inl t5.1) (fun _ _ _ _ => rfl) (by rw [wr_ne (by omega)]) (wr_ne (by omega)) (wr_ne (by omega))
set_option maxHeartbeats 4000000 in
set_option maxRecDepth 20000 in
theorem wl_isL {M N a b : Mem} {t : Nat} {G : Nat → Int → Int → Int} {c lane i seen st : Int} {L : Nat} (hC : WkC M N t G c L lane) (hW : WkW M N t G c L i seen st a b) (ic : i < c) (hk : M (t + 1) i = 4) : ∃ i' a' b', fX4_walkLine t i lane a = some (i', a') ∧ mWk i lane seen b = some (.inl (i', seen, b')) ∧ WkW M N t G c L i' seen (st + 1) a' b' := by
  obtain ⟨p1, p3, p6, p8, p9, q9, q151, q152⟩ := wl_pre hC hW
  obtain ⟨ht, hL, ⟨c0, c200⟩, g0, L5, tE, tI, n139, n151, n152, ⟨la0, la4⟩, i6, hIn, hCl⟩ := id hC
  obtain ⟨fa, fb, ⟨i0, -⟩, hN, s05, st0, k, kL, tk, tc, sk, hP⟩ := hW
  obtain ⟨lR, lT, lP⟩ := hL.1 i i0 ic
  have o0 := hL.2.1 i i0 (by omega)
  have o1 := hL.2.1 (i + 1) (by omega) (by omega)
  obtain ⟨r1, r2, r3, ⟨v2, v14⟩, -, ar⟩ := lR.2.2.2.2.1 hk
  obtain ⟨⟨t1, t2⟩, t3, ot, sg⟩ := lT.2.2.2.1 hk
  rw [Int.zero_add] at r1 r2
  have e0 : b 139 (12 * i) = 0 := by
    have := lR.1
    rw [Int.zero_add, hk] at this
    rw [q9, this]; decide
  have m20' := o1.2.1.2
  have sl20 : M (t + 3) i < 20 := by
    have := o0.2.1.2
    by_cases z : M (t + 3) i = G 1 i 0
    · rw [if_pos z] at t3; omega
    · omega
  have m2 : ∀ s, s < G 1 (i + 1) 0 → s ≠ M (t + 3) i → s < G 1 i 0 := fun s x y => by
    rw [t3] at x
    by_cases z : M (t + 3) i = G 1 i 0
    · rw [if_pos z] at x; omega
    · rw [if_neg z] at x; exact x
  clear t3
  obtain ⟨x, a', f, g, fr, f58, bd, fl⟩ := wl_is (v := M (t + 4) i) (sl := M (t + 3) i) ht i0 (by omega) rfl rfl r2 v2 v14 ar ot t1 sl20 o0.2.1.2 fa q9 q152 hCl hN
  obtain ⟨x1, x2⟩ := nxK_o (G := G) (K := (trS M t G k).2) (show M (t + 1) i ≠ 7 by omega) (by omega)
  refine ⟨i + 1, a', wr b 145 (M (t + 3) i) x, ?_, ?_, ?_⟩
  · unfold fX4_walkLine
    rw [tl1 ht _ _ i0 (by omega), ob, p1, hk, if_neg (show ¬ ((4 : Int) = 0) by decide), if_pos rfl, f, ob, w32_id (show -2147483648 ≤ i + 1 by omega) (by omega)]
  · unfold mWk
    rw [e0, if_neg (show ¬ ((0 : Int) = 6) by decide), if_pos rfl, w32_id (show -2147483648 ≤ 12 * i + 1 by omega) (by omega), ld139 _ _ (by omega) (by omega), ob, q9, r1, g, ob]
    dsimp only
    rw [st145 _ _ _ t1 sl20, ob]
  · refine WkW_nx (a := a) (b := b) (k := k) (K := (trS M t G k).2) hC i0 ic kL (by rw [← tk]) tc sk st0 s05.1 (by omega) (fun d h1 h2 h3 h4 => by rw [fr d h2 h4]; exact fa d h1 h2 h3 h4) (fun d h1 h2 => by rw [wr_ne h1]; exact fb d h1 h2) x1 (fun s s0 s1 => ?_) ?_
    · rw [f58, wr_at]
      by_cases e : s = M (t + 3) i
      · rw [if_pos e, if_pos e, e]
        exact ⟨rfl, bd, fl⟩
      · have sm := m2 s s1 e
        rw [if_neg e, if_neg e, lT.2.1 s s0 sm s1]
        exact hN s s0 sm
    · rw [x2]
      exact wLp_go hP o0.1.1 o1.1.1 (fun l l0 l1 _ => (sg.2 l l0 l1).1) (Or.inl sg.1) (fun _ _ _ _ => rfl) (by rw [fr 56 (by omega) (by omega)]) (fr 59 (by omega) (by omega)) (wr_ne (by omega))
set_option maxHeartbeats 4000000 in
set_option maxRecDepth 20000 in
theorem wl_when {M N a b : Mem} {t : Nat} {G : Nat → Int → Int → Int} {c lane i seen st : Int} {L : Nat} (hC : WkC M N t G c L lane) (hW : WkW M N t G c L i seen st a b) (ic : i < c) (hk : M (t + 1) i = 5) : ∃ i' a' b', fX4_walkLine t i lane a = some (i', a') ∧ mWk i lane seen b = some (.inl (i', seen, b')) ∧ WkW M N t G c L i' seen (st + 1) a' b' := by
  obtain ⟨p1, p3, p6, p8, p9, q9, q151, q152⟩ := wl_pre hC hW
  obtain ⟨ht, hL, ⟨c0, c200⟩, g0, L5, tE, tI, n139, n151, n152, ⟨la0, la4⟩, i6, hIn, hCl⟩ := id hC
  obtain ⟨fa, fb, ⟨i0, -⟩, hN, s05, st0, k, kL, tk, tc, sk, hP⟩ := hW
  obtain ⟨lR, lT, lP⟩ := hL.1 i i0 ic
  have o0 := hL.2.1 i i0 (by omega)
  have o1 := hL.2.1 (i + 1) (by omega) (by omega)
  obtain ⟨-, -, -, ar⟩ := lR.2.2.2.2.2.1 hk
  obtain ⟨t1, t2, t3, hs⟩ := lT.2.2.2.2.2.1 hk
  obtain ⟨-, -, l3, l4⟩ := lP.1 hk
  rw [Int.zero_add] at l4
  have e0 : b 139 (12 * i) = 1 := by
    have := lR.1
    rw [Int.zero_add, hk] at this
    rw [q9, this]; decide
  obtain ⟨f, g, -, -⟩ := wl_arg ht ar p6 q9 i0 (by omega) (Int.le_refl 0) (by omega) o0.2.1.2 hN
  rw [show 12 * i + 5 + 2 * 0 = 12 * i + 5 by omega] at g
  have be := blk_end hL g0 i0 ic (Or.inl hk)
  have tk' : trS M t G k = (i, (trS M t G k).2) := by rw [← tk]
  -- the class, the reference
  have cl : fX4_walkLine t i lane a = ((if wlx M t a i 0 = 1 then some (i + 1) else some (w32 (M (t + 8) i + 1)) : Option (Int))).bind fun q9 => some (q9, a) := by
    unfold fX4_walkLine
    rw [tl1 ht _ _ i0 (by omega), ob, p1, hk, if_neg (show ¬ ((5 : Int) = 0) by decide), if_neg (show ¬ ((5 : Int) = 4) by decide), if_pos rfl, f, ob]
    dsimp only
    rw [tl8 ht _ _ i0 (by omega), ob, p8, w32_id (show -2147483648 ≤ i + 1 by omega) (by omega)]
  have ml : mWk i lane seen b = (((if wlx M t a i 0 = 1 then some (i + 1) else if M 139 (12 * i + 7) ≤ 0 then some (w32 (M 139 (12 * i + 9) + 1)) else some (w32 (M 139 (12 * i + 7) + 1)) : Option (Int))).bind fun q17 => some (q17, b)).bind fun q6 => some (.inl (q6.1, seen, q6.2)) := by
    unfold mWk
    rw [e0, if_neg (show ¬ ((1 : Int) = 6) by decide), if_neg (show ¬ ((1 : Int) = 0) by decide), if_neg (show ¬ ((1 : Int) = 3) by decide)]
    unfold fX12_nextLine
    rw [ob, w32_id (show -2147483648 ≤ 12 * i by omega) (by omega), w32_id (show -2147483648 ≤ 12 * i + 11 by omega) (by omega), ld139 _ _ (by omega) (by omega), ob, ld139 _ (12 * i) (by omega) (by omega), ob, e0, if_pos rfl, w32_id (show -2147483648 ≤ 12 * i + 5 by omega) (by omega), g, ob]
    dsimp only
    rw [w32_id (show -2147483648 ≤ 12 * i + 7 by omega) (by omega), ld139 _ (12 * i + 7) (by omega) (by omega), ob, ob, w32_id (show -2147483648 ≤ 12 * i + 9 by omega) (by omega), ld139 _ (12 * i + 9) (by omega) (by omega), ob, q9, w32_id (show -2147483648 ≤ i + 1 by omega) (by omega)]
  by_cases z : wlx M t a i 0 = 1
  · rw [if_pos z, ob] at cl
    rw [if_pos z, ob, ob] at ml
    obtain ⟨x1, x2⟩ := nxK_o (G := G) (K := (trS M t G k).2) (show M (t + 1) i ≠ 7 by omega) (by omega)
    refine ⟨i + 1, a, b, cl, ml, WkW_nx (a := a) (b := b) (k := k) (K := (trS M t G k).2) hC i0 ic kL tk' tc sk st0 s05.1 (by omega) fa fb x1 (wNm_go hN (fun s s0 s1 => ⟨by omega, lT.2.1 s s0 (by omega) s1⟩) rfl rfl) ?_⟩
    rw [x2]
    exact wLp_go hP o0.1.1 o1.1.1 (fun l l0 l1 _ => (hs.2.2.2 l l0 l1).1) (Or.inr (Or.inr ⟨hs.1, by rw [hs.2.1, hk]; decide⟩)) (fun _ _ _ _ => rfl) rfl rfl rfl
  · rw [if_neg z, ob] at cl
    rw [if_neg z] at ml
    by_cases e6 : G 6 i 0 = -1
    · obtain ⟨w1, w2, w3, w4, w5⟩ := w_end hL g0 i0 ic hk
      rw [Int.zero_add] at w5
      rw [if_pos e6] at l3 l4
      rw [l3, w32_id (show -2147483648 ≤ G 5 i 0 + 1 by omega) (by omega)] at cl
      rw [l4, if_pos (Int.le_refl _), ob, ob, w5, w32_id (show -2147483648 ≤ G 5 i 0 + 1 by omega) (by omega)] at ml
      refine ⟨G 5 i 0 + 1, a, b, cl, ml, WkW_sk (a := a) (b := b) (k := k) (K := (trS M t G k).2) (w := i) hC i0 ic kL tk' tc sk st0 s05 i0 ic hk (Or.inr rfl) (by omega) (fun _ => be.1) (Int.le_refl _) fa fb (wNm_go hN (fun s s0 s1 => ⟨by omega, w4 s s0 (by omega)⟩) rfl rfl) (fun K' hK' => ?_)⟩
      exact wLp_go hP o0.1.1 (by rw [w1]; exact o0.1.1) (fun l l0 l1 _ => w2 l l0 l1) (Or.inl w1) (fun l l0 l1 _ => hK' l l0 (by omega)) rfl rfl rfl
    · have el := els_lt hL g0 i0 ic hk e6
      obtain ⟨w1, w2, w3, w4, w5⟩ := w_els hL i0 ic hk e6
      rw [if_neg e6] at l3 l4
      rw [l3, w32_id (show -2147483648 ≤ G 6 i 0 + 1 by omega) (by omega)] at cl
      rw [l4, if_neg (by omega), ob, ob, w32_id (show -2147483648 ≤ G 6 i 0 + 1 by omega) (by omega)] at ml
      refine ⟨G 6 i 0 + 1, a, b, cl, ml, WkW_sk (a := a) (b := b) (k := k) (K := (trS M t G k).2) (w := i) hC i0 ic kL tk' tc sk st0 s05 i0 ic hk (Or.inr rfl) (by omega) (fun _ => el.1) (by omega) fa fb (wNm_go hN (fun s s0 s1 => ⟨by omega, w5 s s0 (by omega)⟩) rfl rfl) (fun K' hK' => ?_)⟩
      refine wLp_go hP o0.1.1 (by have := o0.1.1; omega) (fun l l0 l1 _ => w2 l l0 l1) (Or.inr (Or.inr ⟨w1, by rw [w3, hk]; decide⟩)) (fun l l0 l1 l7 => ?_) rfl rfl rfl
      by_cases e : l = G 0 i 0
      · rw [e, w3] at l7; omega
      · exact hK' l l0 (by omega)
set_option maxHeartbeats 4000000 in
set_option maxRecDepth 20000 in
theorem wl_else {M N a b : Mem} {t : Nat} {G : Nat → Int → Int → Int} {c lane i seen st : Int} {L : Nat} (hC : WkC M N t G c L lane) (hW : WkW M N t G c L i seen st a b) (ic : i < c) (hk : M (t + 1) i = 6) : ∃ i' a' b', fX4_walkLine t i lane a = some (i', a') ∧ mWk i lane seen b = some (.inl (i', seen, b')) ∧ WkW M N t G c L i' seen (st + 1) a' b' := by
  obtain ⟨p1, p3, p6, p8, p9, q9, q151, q152⟩ := wl_pre hC hW
  obtain ⟨ht, hL, ⟨c0, c200⟩, g0, L5, tE, tI, n139, n151, n152, ⟨la0, la4⟩, i6, hIn, hCl⟩ := id hC
  obtain ⟨fa, fb, ⟨i0, -⟩, hN, s05, st0, k, kL, tk, tc, sk, hP⟩ := hW
  obtain ⟨lR, lT, lP⟩ := hL.1 i i0 ic
  have o0 := hL.2.1 i i0 (by omega)
  obtain ⟨t1, t2, t3, t4, t5, t6, t7, t8⟩ := lT.2.2.2.2.2.2.2.1 hk
  obtain ⟨l1, l2, l3⟩ := lP.2.1 hk
  rw [Int.zero_add] at l3
  have e0 : b 139 (12 * i) = 2 := by
    have := lR.1
    rw [Int.zero_add, hk] at this
    rw [q9, this]; decide
  have ow := o0.2.2.2 (G 0 i 0 - 1) (by omega) (by omega)
  obtain ⟨w, hw⟩ : ∃ w, w = G 2 i (G 0 i 0 - 1) := ⟨_, rfl⟩
  rw [← hw] at t2 l1 l2 l3 ow
  have wb := ow.1
  have el := els_lt hL g0 wb.1 (by omega) t2 (by omega)
  have be := blk_end hL g0 wb.1 (by omega) (Or.inl t2)
  obtain ⟨w1, w2, w3, w4, w5⟩ := w_end hL g0 wb.1 (by omega) t2
  rw [Int.zero_add] at w5
  have tk' : trS M t G k = (i, (trS M t G k).2) := by rw [← tk]
  refine ⟨G 5 w 0 + 1, a, b, ?_, ?_, WkW_sk (a := a) (b := b) (k := k) (K := (trS M t G k).2) (w := w) hC i0 ic kL tk' tc sk st0 s05 wb.1 (by omega) t2 (Or.inl wb.2) (by omega) (fun z => by omega) (Int.le_refl _) fa fb (wNm_go hN (fun s s0 s1 => ⟨by have := ow.2.2.2.2.2.1; omega, ?_⟩) rfl rfl) (fun K' hK' => ?_)⟩
  · unfold fX4_walkLine
    rw [tl1 ht _ _ i0 (by omega), ob, p1, hk, if_neg (show ¬ ((6 : Int) = 0) by decide), if_neg (show ¬ ((6 : Int) = 4) by decide), if_neg (show ¬ ((6 : Int) = 5) by decide), if_pos rfl, tl8 ht _ _ i0 (by omega), ob, p8, l1, w32_id (show -2147483648 ≤ G 5 w 0 + 1 by omega) (by omega)]
  · unfold mWk
    rw [e0, if_neg (show ¬ ((2 : Int) = 6) by decide), if_neg (show ¬ ((2 : Int) = 0) by decide), if_neg (show ¬ ((2 : Int) = 3) by decide)]
    unfold fX12_nextLine
    rw [ob, w32_id (show -2147483648 ≤ 12 * i by omega) (by omega), w32_id (show -2147483648 ≤ 12 * i + 11 by omega) (by omega), ld139 _ _ (by omega) (by omega), ob, ld139 _ (12 * i) (by omega) (by omega), ob, e0, if_neg (show ¬ ((2 : Int) = 1) by decide), ob, if_pos rfl, w32_id (show -2147483648 ≤ 12 * i + 7 by omega) (by omega), ld139 _ (12 * i + 7) (by omega) (by omega), ob, q9, l3, w32_id (show -2147483648 ≤ 12 * w by omega) (by omega), w32_id (show -2147483648 ≤ 12 * w + 9 by omega) (by omega), ld139 _ (12 * w + 9) (by omega) (by omega), ob, q9, w5, w32_id (show -2147483648 ≤ G 5 w 0 + 1 by omega) (by omega), ob]
  · rw [w4 s s0 (by omega)]
    exact (ow.2.2.2.2.2.2.1 s s0 (by omega)).symm
  · refine wLp_go hP o0.1.1 (by rw [w1, ow.2.1]; omega) (fun l l0 l1' l2' => ?_) (Or.inr (Or.inl ⟨by rw [w1, ow.2.1], by rw [w1, ow.2.1, ← hw, t2]; decide⟩)) (fun l l0 l1' _ => hK' l l0 (by omega)) rfl rfl rfl
    rw [w2 l l0 (by omega)]
    exact (ow.2.2.2.2.2.2.2 l l0 (by rw [w1, ow.2.1] at l2'; exact l2')).1.symm
