/-! walking: times, end -/
set_option maxHeartbeats 4000000 in
set_option maxRecDepth 20000 in
theorem wl_times {M N a b : Mem} {t : Nat} {G : Nat → Int → Int → Int} {c lane i seen st : Int} {L : Nat} (hC : WkC M N t G c L lane) (hW : WkW M N t G c L i seen st a b) (ic : i < c) (hk : M (t + 1) i = 7) : ∃ i' a' b', fX4_walkLine t i lane a = some (i', a') ∧ mWk i lane seen b = some (.inl (i', seen, b')) ∧ WkW M N t G c L i' seen (st + 1) a' b' := by
  obtain ⟨p1, p3, p6, p8, p9, q9, q151, q152⟩ := wl_pre hC hW
  obtain ⟨ht, hL, ⟨c0, c200⟩, g0, L5, tE, tI, n139, n151, n152, ⟨la0, la4⟩, i6, hIn, hCl⟩ := id hC
  obtain ⟨fa, fb, ⟨i0, -⟩, hN, s05, st0, k, kL, tk, tc, sk, hP⟩ := hW
  obtain ⟨lR, lT, lP⟩ := hL.1 i i0 ic
  have o0 := hL.2.1 i i0 (by omega)
  have o1 := hL.2.1 (i + 1) (by omega) (by omega)
  obtain ⟨r1, r2, r3⟩ := lR.2.2.2.2.2.2.1 hk
  have r11 := lR.2.2.2.2.2.2.2.2
  rw [if_neg (by omega)] at r11
  obtain ⟨t1, hs⟩ := lT.2.2.2.2.2.2.1 hk
  rw [Int.zero_add] at r1 r11
  have e0 : b 139 (12 * i) = 3 := by
    have := lR.1
    rw [Int.zero_add, hk] at this
    rw [q9, this]; decide
  have d0 := o0.1.1
  have d4 : G 0 i 0 < 4 := by have := o1.1.2; have := hs.1; omega
  have cb := ct_bd (A := M) (t := t) (G := G) (i := i) d0
  obtain ⟨h1, h2⟩ := hP
  obtain ⟨K, hK⟩ : ∃ K, K = (trS M t G k).2 := ⟨_, rfl⟩
  rw [← hK] at h2
  have tk' : trS M t G k = (i, K) := by rw [← tk, hK]
  obtain ⟨C, hCt⟩ : ∃ C, C = ctF M t G i (G 0 i 0) := ⟨_, rfl⟩
  rw [← hCt] at h1 cb
  have x1 : nxL M t G i K = i + 1 := by unfold nxL; rw [if_neg (fun y => by omega)]
  have x2 : ∀ l, nxK M t G i K l = if l = G 0 i 0 then M (t + 9) i else K l := fun l => by
    unfold nxK
    by_cases e : l = G 0 i 0
    · rw [if_pos ⟨hk, e⟩, if_pos e]
    · rw [if_neg (fun y => e y.2), if_neg e, if_neg (fun y => by omega)]
  have e56 : wr a 59 C (M (t + 9) i) 56 6 = C := by rw [wr_ne (by omega)]; exact h1
  obtain ⟨a', ha'⟩ : ∃ a', a' = wr (wr a 59 C (M (t + 9) i)) 56 6 (C + 1) := ⟨_, rfl⟩
  have z1 : ∀ d, d ≠ 56 → d ≠ 59 → a' d = a d := fun d y1 y2 => by rw [ha', wr_ne y1, wr_ne y2]
  have z59 : ∀ j, a' 59 j = if j = C then M (t + 9) i else a 59 j := fun j => by rw [ha', wr_ne (by omega), wr_at]
  have z56 : a' 56 6 = C + 1 := by rw [ha', wr_at, if_pos rfl]
  refine ⟨i + 1, a', wr b 149 (G 0 i 0) (M (t + 9) i), ?_, ?_, ?_⟩
  · unfold fX4_walkLine fX4_walkTimes
    rw [tl1 ht _ _ i0 (by omega), ob, p1, hk, if_neg (show ¬ ((7 : Int) = 0) by decide), if_neg (show ¬ ((7 : Int) = 4) by decide), if_neg (show ¬ ((7 : Int) = 5) by decide), if_neg (show ¬ ((7 : Int) = 6) by decide), if_pos rfl, tl9 ht _ _ i0 (by omega), ob, p9, if_neg (show ¬ (4 ≤ a 56 6) by omega), h1, st59 _ _ _ (by omega) (by omega), ob, pI_ok, ob, ob, ob, e56, w32_id (show -2147483648 ≤ C + 1 by omega) (by omega), w32_id (show -2147483648 ≤ i + 1 by omega) (by omega), ← ha']
  · unfold mWk
    rw [e0, if_neg (show ¬ ((3 : Int) = 6) by decide), if_neg (show ¬ ((3 : Int) = 0) by decide), if_pos rfl, w32_id (show -2147483648 ≤ 12 * i + 11 by omega) (by omega), ld139 _ _ (by omega) (by omega), ob, w32_id (show -2147483648 ≤ 12 * i + 1 by omega) (by omega), ld139 _ _ (by omega) (by omega), ob, q9, r1, r11, st149 _ _ _ d0 d4, ob]
  · refine WkW_nx (a := a) (b := b) (k := k) (K := K) hC i0 ic kL tk' tc sk st0 s05.1 (by omega) (fun d y1 y2 y3 y4 => by rw [z1 d y1 y3]; exact fa d y1 y2 y3 y4) (fun d y1 y2 => by rw [wr_ne y2]; exact fb d y1 y2) x1 (wNm_go hN (fun s s0 s1 => ⟨by omega, lT.2.1 s s0 (by omega) s1⟩) (z1 58 (by omega) (by omega)) (wr_ne (by omega))) ⟨?_, fun l l0 l1 l7 => ?_⟩
    · have q := ct_s (A := M) (t := t) (G := G) (i := i + 1) d0
      rw [hs.2.1, if_pos hk, ct_cg (i := i) (fun j j0 j1 => (hs.2.2.2 j j0 j1).1), ← hCt] at q
      rw [z56, hs.1, q]
    · rw [hs.1] at l1
      rw [x2, ct_cg (i := i) (fun j j0 j1 => (hs.2.2.2 j j0 (by omega)).1), z59, wr_at]
      by_cases e : l = G 0 i 0
      · rw [if_pos e, if_pos e, e, if_pos hCt.symm]
        exact ⟨rfl, rfl, by omega, by omega⟩
      · have ld : l < G 0 i 0 := by omega
        rw [(hs.2.2.2 l l0 ld).1] at l7
        have lt := ct_lt (A := M) (t := t) (G := G) l0 l7 ld
        rw [if_neg e, if_neg e, if_neg (by omega)]
        exact h2 l l0 ld l7
set_option maxHeartbeats 4000000 in
set_option maxRecDepth 20000 in
theorem wl_end {M N a b : Mem} {t : Nat} {G : Nat → Int → Int → Int} {c lane i seen st : Int} {L : Nat} (hC : WkC M N t G c L lane) (hW : WkW M N t G c L i seen st a b) (ic : i < c) (hk : M (t + 1) i = 8) : ∃ i' a' b', fX4_walkLine t i lane a = some (i', a') ∧ mWk i lane seen b = some (.inl (i', seen, b')) ∧ WkW M N t G c L i' seen (st + 1) a' b' := by
  obtain ⟨p1, p3, p6, p8, p9, q9, q151, q152⟩ := wl_pre hC hW
  obtain ⟨ht, hL, ⟨c0, c200⟩, g0, L5, tE, tI, n139, n151, n152, ⟨la0, la4⟩, i6, hIn, hCl⟩ := id hC
  obtain ⟨fa, fb, ⟨i0, -⟩, hN, s05, st0, k, kL, tk, tc, sk, hP⟩ := hW
  obtain ⟨lR, lT, lP⟩ := hL.1 i i0 ic
  have o0 := hL.2.1 i i0 (by omega)
  have o1 := hL.2.1 (i + 1) (by omega) (by omega)
  have r11 := lR.2.2.2.2.2.2.2.2
  rw [if_pos (by omega), Int.zero_add] at r11
  obtain ⟨t1, t2, t3, t4, t5⟩ := lT.2.2.2.2.2.2.2.2 hk
  obtain ⟨l1', l2', l3'⟩ := lP.2.2 hk
  rw [Int.zero_add] at l2' l3'
  have e0 : b 139 (12 * i) = 4 := by
    have := lR.1
    rw [Int.zero_add, hk] at this
    rw [q9, this]; decide
  have ow := o0.2.2.2 (G 0 i 0 - 1) (by omega) (by omega)
  obtain ⟨d, hd⟩ : ∃ d, d = G 0 i 0 - 1 := ⟨_, rfl⟩
  obtain ⟨p, hpp⟩ : ∃ p, p = G 2 i d := ⟨_, rfl⟩
  rw [← hd, ← hpp] at ow l2' l3' t2 t5
  rw [← hd] at t3 t4 r11
  have d0 : 0 ≤ d := by omega
  have gd : G 0 i 0 = d + 1 := by omega
  have d4 : d < 4 := by have := o0.1.2; omega
  obtain ⟨K, hK⟩ : ∃ K, K = (trS M t G k).2 := ⟨_, rfl⟩
  rw [← hK] at hP
  have tk' : trS M t G k = (i, K) := by rw [← tk, hK]
  have ce := c_endsT (A := a) ht i0 (show i < 200 by omega) (by rw [p8]; exact t2) ow.1.1 (by omega)
  rw [p1] at ce
  have cl : fX4_walkLine t i lane a = ((if (if M (t + 1) p = 7 then (1 : Int) else 0) = 0 then some (w32 (i + 1), a) else (fX4_walkTimesEnd t i a).bind fun q14 => some (q14.1, q14.2) : Option (Int × Mem))).bind fun q15 => some (q15.1, q15.2) := by
    unfold fX4_walkLine
    rw [tl1 ht _ _ i0 (by omega), ob, p1, hk, if_neg (show ¬ ((8 : Int) = 0) by decide), if_neg (show ¬ ((8 : Int) = 4) by decide), if_neg (show ¬ ((8 : Int) = 5) by decide), if_neg (show ¬ ((8 : Int) = 6) by decide), if_neg (show ¬ ((8 : Int) = 7) by decide), if_pos rfl, ce, ob]
  have ml : mWk i lane seen b = ((if M 139 (12 * i + 1) = 1 then (ldI b 149 d).bind fun v6 => (stI b 149 d (w32 (v6 - 1))).bind fun M7 => (ldI M7 149 d).bind fun v8 => ((if v8 ≤ 0 then some (w32 (i + 1)) else (ldI M7 139 (w32 (12 * i + 7))).bind fun v9 => some (w32 (v9 + 1)) : Option (Int))).bind fun q10 => some (q10, M7) else some (w32 (i + 1), b) : Option (Int × Mem))).bind fun q6 => some (.inl (q6.1, seen, q6.2)) := by
    unfold mWk
    rw [e0, if_neg (show ¬ ((4 : Int) = 6) by decide), if_neg (show ¬ ((4 : Int) = 0) by decide), if_neg (show ¬ ((4 : Int) = 3) by decide)]
    unfold fX12_nextLine
    rw [ob, w32_id (show -2147483648 ≤ 12 * i by omega) (by omega), w32_id (show -2147483648 ≤ 12 * i + 11 by omega) (by omega), ld139 _ _ (by omega) (by omega), ob, ld139 _ (12 * i) (by omega) (by omega), ob, e0, if_neg (show ¬ ((4 : Int) = 1) by decide), ob, if_neg (show ¬ ((4 : Int) = 2) by decide), w32_id (show -2147483648 ≤ 12 * i + 1 by omega) (by omega), ld139 _ (12 * i + 1) (by omega) (by omega), ob, q9, r11]
  rcases ow.2.2.1 with z5 | z7
  · -- of a when
    have n1 : M 139 (12 * i + 1) ≠ 1 := by
      rw [l3', if_neg (by omega)]
      split <;> decide
    rw [if_neg (show ¬ (M (t + 1) p = 7) by omega), if_pos rfl, ob, w32_id (show -2147483648 ≤ i + 1 by omega) (by omega)] at cl
    rw [if_neg n1, ob, w32_id (show -2147483648 ≤ i + 1 by omega) (by omega)] at ml
    rw [if_pos z5] at t5
    have x1 : nxL M t G i K = i + 1 := by unfold nxL; rw [← hd, ← hpp, if_neg (fun y => by omega)]
    have x2 : nxK M t G i K = K := by funext l; unfold nxK; rw [← hd, ← hpp, if_neg (fun y => by omega), if_neg (fun y => by omega)]
    refine ⟨i + 1, a, b, cl, ml, WkW_nx (a := a) (b := b) (k := k) (K := K) hC i0 ic kL tk' tc sk st0 s05.1 (by omega) fa fb x1 (wNm_go hN (fun s s0 s1 => ?_) rfl rfl) ?_⟩
    · have := ow.2.2.2.2.2.1
      exact ⟨by omega, lT.2.1 s s0 (by omega) s1⟩
    · rw [x2]
      exact wLp_go hP o0.1.1 o1.1.1 (fun l l0 _ l2 => (t4 l l0 (by omega)).1) (Or.inr (Or.inl ⟨by omega, by rw [t3, ← hpp, z5]; decide⟩)) (fun _ _ _ _ => rfl) rfl rfl rfl
  · -- of a loop
    rw [if_neg (show ¬ (M (t + 1) p = 5) by omega)] at t5
    rw [if_pos z7] at l3' cl
    rw [if_neg (show ¬ ((1 : Int) = 0) by decide)] at cl
    rw [if_pos l3'] at ml
    obtain ⟨h1, h2⟩ := hP
    obtain ⟨C, hCt⟩ : ∃ C, C = ctF M t G i d := ⟨_, rfl⟩
    have cb := ct_bd (A := M) (t := t) (G := G) (i := i) d0
    have c1 := ct_s (A := M) (t := t) (G := G) (i := i) d0
    rw [← hpp, if_pos z7, ← hCt] at c1
    rw [← hCt] at cb
    rw [gd, c1] at h1
    obtain ⟨k59, k149, k1, k9⟩ := h2 d d0 (by omega) (by rw [← hpp]; exact z7)
    rw [← hCt] at k59
    have lo : ∀ l, 0 ≤ l → l < d → M (t + 1) (G 2 i l) = 7 → ctF M t G i l < C := fun l l0 l1 l7 => by rw [hCt]; exact ct_lt l0 l7 l1
    have e59 : wr a 59 C (K d - 1) 59 C = K d - 1 := by rw [wr_at, if_pos rfl]
    have e56 : wr a 59 C (K d - 1) 56 6 = C + 1 := by rw [wr_ne (by omega)]; exact h1
    have e8 : wr a 59 C (K d - 1) (t + 8) i = p := by rw [wr_ne (by omega), p8]; exact t2
    have b149 : wr b 149 d (K d - 1) 149 d = K d - 1 := by rw [wr_at, if_pos rfl]
    have b7 : wr b 149 d (K d - 1) 139 (12 * i + 7) = p := by rw [wr_ne (by omega), q9]; exact l2'
    have ct : fX4_walkTimesEnd t i a = some (if K d ≤ 1 then (i + 1, wr (wr a 59 C (K d - 1)) 56 6 C) else (p + 1, wr a 59 C (K d - 1))) := by
      unfold fX4_walkTimesEnd
      rw [h1, if_neg (by omega), show C + 1 - 1 = C by omega, w32_id (show -2147483648 ≤ C by omega) (by omega), ld59 _ _ (by omega) (by omega), ob, k59, w32_id (show -2147483648 ≤ K d - 1 by omega) (by omega), st59 _ _ _ (by omega) (by omega), ob, e56, show C + 1 - 1 = C by omega, w32_id (show -2147483648 ≤ C by omega) (by omega), ld59 _ _ (by omega) (by omega), ob, e59]
      by_cases z : K d ≤ 1
      · rw [if_pos (by omega), if_pos z, pI_ok, ob, w32_id (show -2147483648 ≤ i + 1 by omega) (by omega)]
      · rw [if_neg (by omega), if_neg z, tl8 ht _ _ i0 (by omega), ob, e8, w32_id (show -2147483648 ≤ p + 1 by omega) (by omega)]
    rw [ld149 _ _ d0 d4, ob, k149, w32_id (show -2147483648 ≤ K d - 1 by omega) (by omega), st149 _ _ _ d0 d4, ob, ld149 _ _ d0 d4, ob, b149] at ml
    rw [ct, ob, ob] at cl
    have x2 : ∀ l, nxK M t G i K l = if l = d then K d - 1 else K l := fun l => by
      unfold nxK
      rw [← hd, ← hpp, if_neg (fun y => by omega)]
      by_cases e : l = d
      · rw [if_pos ⟨hk, z7, e⟩, if_pos e, e]
      · rw [if_neg (fun y => e y.2.2), if_neg e]
    by_cases z : K d ≤ 1
    · rw [if_pos z] at cl
      rw [if_pos (by omega), ob, ob, w32_id (show -2147483648 ≤ i + 1 by omega) (by omega)] at ml
      have x1 : nxL M t G i K = i + 1 := by unfold nxL; rw [← hd, ← hpp, if_neg (fun y => by omega)]
      obtain ⟨a', ha'⟩ : ∃ a', a' = wr (wr a 59 C (K d - 1)) 56 6 C := ⟨_, rfl⟩
      rw [← ha'] at cl
      dsimp only at cl ml
      have y1 : ∀ b, b ≠ 56 → b ≠ 59 → a' b = a b := fun b u v => by rw [ha', wr_ne u, wr_ne v]
      have y59 : ∀ j, a' 59 j = if j = C then K d - 1 else a 59 j := fun j => by rw [ha', wr_ne (by omega), wr_at]
      refine ⟨i + 1, a', wr b 149 d (K d - 1), cl, ml, WkW_nx (a := a) (b := b) (k := k) (K := K) hC i0 ic kL tk' tc sk st0 s05.1 (by omega) (fun e u1 u2 u3 u4 => by rw [y1 e u1 u3]; exact fa e u1 u2 u3 u4) (fun e u1 u2 => by rw [wr_ne u2]; exact fb e u1 u2) x1 (wNm_go hN (fun s s0 s1 => ⟨by omega, lT.2.1 s s0 (by omega) s1⟩) (y1 58 (by omega) (by omega)) (wr_ne (by omega))) ⟨?_, fun l l0 l1 l7 => ?_⟩⟩
      · rw [ha', wr_at, if_pos rfl, t3, hCt]
        exact (ct_cg (fun j j0 j1 => (t4 j j0 j1).1)).symm
      · rw [t3] at l1
        rw [(t4 l l0 l1).1] at l7
        have := lo l l0 l1 l7
        rw [x2, if_neg (by omega), ct_cg (i := i) (fun j j0 j1 => (t4 j j0 (by omega)).1), y59, if_neg (by omega), wr_at, if_neg (by omega)]
        exact h2 l l0 (by omega) l7
    · rw [if_neg z] at cl
      rw [if_neg (by omega), w32_id (show -2147483648 ≤ 12 * i + 7 by omega) (by omega), ld139 _ _ (by omega) (by omega), ob, ob, ob, b7, w32_id (show -2147483648 ≤ p + 1 by omega) (by omega)] at ml
      dsimp only at cl ml
      have x1 : nxL M t G i K = p + 1 := by unfold nxL; rw [← hd, ← hpp, if_pos ⟨hk, z7, by omega⟩]
      obtain ⟨pR, pT, -⟩ := hL.1 p ow.1.1 (by omega)
      obtain ⟨v1, v2⟩ := pT.2.2.2.2.2.2.1 z7
      have gp : G 0 p 0 = d := ow.2.1
      have g1 : G 0 (p + 1) 0 = d + 1 := by rw [v2.1, gp]
      have gpd : G 2 (p + 1) d = p := by have := v2.2.1; rw [gp] at this; exact this
      have q5 : ∀ l, 0 ≤ l → l < d + 1 → G 2 (p + 1) l = G 2 i l := fun l u1 u2 => by
        by_cases e : l = d
        · rw [e, gpd, hpp]
        · rw [(v2.2.2.2 l u1 (by omega)).1, (ow.2.2.2.2.2.2.2 l u1 (by omega)).1]
      refine ⟨p + 1, wr a 59 C (K d - 1), wr b 149 d (K d - 1), cl, ml, WkW_nx (a := a) (b := b) (k := k) (K := K) hC i0 ic kL tk' tc sk st0 s05.1 (by omega) (fun e u1 u2 u3 u4 => by rw [wr_ne u3]; exact fa e u1 u2 u3 u4) (fun e u1 u2 => by rw [wr_ne u2]; exact fb e u1 u2) x1 (wNm_go hN (fun s s0 s1 => ?_) (wr_ne (by omega)) (wr_ne (by omega))) ⟨?_, fun l l0 l1 l7 => ?_⟩⟩
      · rw [v1] at s1
        have := ow.2.2.2.2.2.1
        refine ⟨by omega, ?_⟩
        rw [pT.2.1 s s0 s1 (by omega)]
        exact (ow.2.2.2.2.2.2.1 s s0 s1).symm
      · rw [e56, g1, ct_cg (i := i) (fun j j0 j1 => q5 j j0 j1), c1]
      · rw [g1] at l1
        rw [q5 l l0 l1] at l7
        rw [x2, ct_cg (i := i) (fun j j0 j1 => q5 j j0 (by omega)), wr_at, wr_at]
        by_cases e : l = d
        · rw [if_pos e, if_pos e, e, if_pos hCt.symm]
          exact ⟨rfl, rfl, by omega, by omega⟩
        · have := lo l l0 (by omega) l7
          rw [if_neg e, if_neg e, if_neg (by omega)]
          exact h2 l l0 (by omega) l7
