/-! walking, whole -/
theorem wl_line {M N a b : Mem} {t : Nat} {G : Nat → Int → Int → Int} {c lane i seen st : Int} {L : Nat} (hC : WkC M N t G c L lane) (hW : WkW M N t G c L i seen st a b) (ic : i < c) (n9 : M (t + 1) i ≠ 9) : ∃ i' a' b', fX4_walkLine t i lane a = some (i', a') ∧ mWk i lane seen b = some (.inl (i', seen, b')) ∧ WkW M N t G c L i' seen (st + 1) a' b' := by
  have lT := (hC.2.1.1 i hW.2.2.1.1 ic).2.1
  rcases lT.1 with k | k | k | k | k | k | k
  · exact wl_input hC hW ic k
  · exact wl_isL hC hW ic k
  · exact wl_when hC hW ic k
  · exact wl_else hC hW ic k
  · exact wl_times hC hW ic k
  · exact wl_end hC hW ic k
  · exact absurd k n9
theorem m_wk {b : Mem} {lane wt i seen c : Int} (h0 : b 138 0 = c) (i0 : 0 ≤ i) (ic : i < c) (c200 : c ≤ 200) (h5 : b 139 (12 * i) ≠ 5) : fX12_walk_b1 lane wt (i, seen, b) = mWk i lane seen b := by
  unfold fX12_walk_b1 mWk
  dsimp only
  rw [ld138 _ _ (by omega) (by omega), ob, h0, if_neg (by omega), ob, w32_id (show -2147483648 ≤ 12 * i by omega) (by omega), ld139 _ (12 * i) (by omega) (by omega), ob, ob, w32_id (show -2147483648 ≤ i + 1 by omega) (by omega), if_neg h5]
set_option maxHeartbeats 4000000 in
set_option maxRecDepth 20000 in
theorem wl_loop {M N A B : Mem} {t : Nat} {G : Nat → Int → Int → Int} {c lane wt : Int} {L : Nat} (hC : WkC M N t G c L lane) (hc : M t 0 = c) (hn : N 138 0 = c) (w0 : 0 ≤ wt) (w1 : wt < trC M t G L) (hW : WkW M N t G c L 0 0 0 A B) : ∃ r r', lp (fX4_walk_b1 lane wt t) (0, 0, 0, A) = some r ∧ lp (fX12_walk_b1 lane wt) (0, 0, B) = some r' ∧ ∃ (x : Int) (A' B' : Mem), r = .inr (x, A') ∧ r' = .inr (x, B') ∧ (∀ d, d ≠ 56 → d ≠ 58 → d ≠ 59 → d ≠ 61 → A' d = M d) ∧ ∀ d, d ≠ 145 → d ≠ 149 → B' d = N d := by
  refine lp_rel (fun (u : Int × Int × Int × Mem) (v : Int × Int × Mem) => u.1 = v.2.1 ∧ u.2.1 = v.1 ∧ u.1 ≤ wt ∧ WkW M N t G c L u.2.1 u.1 u.2.2.1 u.2.2.2 v.2.2) (fun (r : Mem ⊕ (Int × Mem)) (r' : Mem ⊕ (Int × Mem)) => ∃ (x : Int) (A' B' : Mem), r = .inr (x, A') ∧ r' = .inr (x, B') ∧ (∀ d, d ≠ 56 → d ≠ 58 → d ≠ 59 → d ≠ 61 → A' d = M d) ∧ ∀ d, d ≠ 145 → d ≠ 149 → B' d = N d) (fun u _ => (10000 - u.2.2.1).toNat) ?_ 20000 (0, 0, 0, A) (0, 0, B) (by dsimp only; decide) ⟨rfl, rfl, w0, hW⟩
  rintro ⟨seen, i, st, a⟩ ⟨i', seen', b⟩ ⟨h1, h2, h3, hW⟩
  dsimp only at h1 h2 h3 hW
  subst h1
  subst h2
  obtain ⟨ht, hL, ⟨c0, c200⟩, g0, L5, tE, tI, n139, -⟩ := id hC
  obtain ⟨fa, fb, ⟨i0, i1⟩, hN, s05, st0, k, kL, tk, tc, sk, hP⟩ := id hW
  have ic : i < c := by
    by_cases e : i = c
    · have : k = L := by
        by_cases y : k = L
        · exact y
        · have := tI k (by omega)
          omega
      rw [this] at tc
      omega
    · omega
  have e0 : a t 0 = c := by rw [fa t (by omega) (by omega) (by omega) (by omega)]; exact hc
  have f0 : b 138 0 = c := by rw [fb 138 (by omega) (by omega)]; exact hn
  have p1 : a (t + 1) = M (t + 1) := fa _ (by omega) (by omega) (by omega) (by omega)
  have q9 : b 139 = M 139 := by rw [fb 139 (by omega) (by omega)]; exact n139
  obtain ⟨lR, lT, lP⟩ := hL.1 i i0 ic
  have o0 := hL.2.1 i i0 (by omega)
  have o1 := hL.2.1 (i + 1) (by omega) (by omega)
  have mk := lR.1
  rw [Int.zero_add] at mk
  have st1 : w32 (st + 1) = st + 1 := w32_id (by omega) (by omega)
  have cl : fX4_walk_b1 lane wt t (seen, i, st, a) = if M (t + 1) i = 9 then if seen = wt then (fX4_argNumber t i 0 a).bind fun q6 => some (.inr (.inr (q6.1, q6.2))) else (fX4_walkLine t i lane a).bind fun q5 => some (.inl (w32 (seen + 1), q5.1, st + 1, q5.2)) else (fX4_walkLine t i lane a).bind fun q4 => some (.inl (seen, q4.1, st + 1, q4.2)) := by
    unfold fX4_walk_b1
    dsimp only
    rw [if_neg (by omega), if_neg (show ¬ (a t 0 ≤ i) by omega), tl1 ht _ _ i0 (by omega), ob, p1, st1]
  by_cases k9 : M (t + 1) i = 9
  · have m5 : b 139 (12 * i) = 5 := by rw [q9, mk, k9]; decide
    have ml : fX12_walk_b1 lane wt (i, seen, b) = if seen = wt then (fX12_argNumber (12 * i + 5) b).bind fun q7 => some (.inr (.inr (q7.1, q7.2))) else some (.inl (i + 1, w32 (seen + 1), b)) := by
      unfold fX12_walk_b1
      dsimp only
      rw [ld138 _ _ (by omega) (by omega), ob, f0, if_neg (by omega), ob, w32_id (show -2147483648 ≤ 12 * i by omega) (by omega), ld139 _ (12 * i) (by omega) (by omega), ob, ob, w32_id (show -2147483648 ≤ i + 1 by omega) (by omega), m5, if_neg (show ¬ ((5 : Int) = 6) by decide), if_neg (show ¬ ((5 : Int) = 0) by decide), if_neg (show ¬ ((5 : Int) = 3) by decide), if_pos rfl, w32_id (show -2147483648 ≤ 12 * i + 5 by omega) (by omega)]
    rw [if_pos k9] at cl
    obtain ⟨t1, t2, sg, -⟩ := lT.2.2.2.2.1 k9
    by_cases e : seen = wt
    · have ar := lR.2.2.2.2.2.2.2.1 k9
      obtain ⟨f, g, -, -⟩ := wl_arg ht ar (fa _ (by omega) (by omega) (by omega) (by omega)) q9 i0 (by omega) (Int.le_refl 0) (by omega) o0.2.1.2 hN
      rw [show 12 * i + 5 + 2 * 0 = 12 * i + 5 by omega] at g
      rw [if_pos e, f, ob] at cl
      rw [if_pos e, g, ob] at ml
      rw [cl, ml]
      exact Or.inr ⟨_, _, rfl, rfl, _, _, _, rfl, rfl, fa, fb⟩
    · have wl : fX4_walkLine t i lane a = some (i + 1, a) := by
        unfold fX4_walkLine
        rw [tl1 ht _ _ i0 (by omega), ob, p1, k9, if_neg (show ¬ ((9 : Int) = 0) by decide), if_neg (show ¬ ((9 : Int) = 4) by decide), if_neg (show ¬ ((9 : Int) = 5) by decide), if_neg (show ¬ ((9 : Int) = 6) by decide), if_neg (show ¬ ((9 : Int) = 7) by decide), if_neg (show ¬ ((9 : Int) = 8) by decide), w32_id (show -2147483648 ≤ i + 1 by omega) (by omega)]
      have s1 : w32 (seen + 1) = seen + 1 := w32_id (by omega) (by omega)
      rw [if_neg e, wl, ob, s1] at cl
      rw [if_neg e, s1] at ml
      rw [cl, ml]
      have kl := WkW_in (i := i) (seen := seen) (st := st) (a := a) (b := b) hC ic kL tk
      obtain ⟨x1, x2⟩ := nxK_o (G := G) (K := (trS M t G k).2) (show M (t + 1) i ≠ 7 by omega) (by omega)
      have ts : trS M t G (k + 1) = (i + 1, (trS M t G k).2) := by
        show (nxL M t G (trS M t G k).1 (trS M t G k).2, nxK M t G (trS M t G k).1 (trS M t G k).2) = _
        rw [tk, x1, x2]
      have tc' : trC M t G (k + 1) = seen + 1 := by
        show trC M t G k + (if M (t + 1) (trS M t G k).1 = 9 then 1 else 0) = seen + 1
        rw [tk, if_pos k9, tc]
      have sb : seen + 1 ≤ 5000 := by
        have h : ∀ j : Nat, trC M t G j ≤ j := fun j => by
          induction j with
          | zero => exact Int.le_refl _
          | succ j ih =>
            show trC M t G j + (if M (t + 1) (trS M t G j).1 = 9 then 1 else 0) ≤ _
            split <;> omega
        have := h (k + 1)
        omega
      refine Or.inl ⟨_, _, rfl, rfl, ⟨rfl, rfl, by dsimp only; omega, fa, fb, by dsimp only; omega, ?_, by dsimp only; omega, by dsimp only; omega, k + 1, by omega, by rw [ts], tc', by dsimp only; omega, ?_⟩, by dsimp only; omega⟩
      · exact wNm_go hN (fun s s0 s1 => ⟨by dsimp only at s1; omega, lT.2.1 s s0 (by dsimp only at s1; omega) s1⟩) rfl rfl
      · rw [ts]
        exact wLp_go hP o0.1.1 o1.1.1 (fun l l0 l1 _ => (sg.2 l l0 l1).1) (Or.inl sg.1) (fun _ _ _ _ => rfl) rfl rfl rfl
  · have m5 : b 139 (12 * i) ≠ 5 := by
      have mk' := mkd_k (k := M (t + 1) i)
      rw [q9, mk]
      rcases lT.1 with z | z | z | z | z | z | z
      · rw [mk'.1 z]; decide
      · rw [mk'.2.1 z]; decide
      · rw [mk'.2.2.1 z]; decide
      · rw [mk'.2.2.2.1 z]; decide
      · rw [mk'.2.2.2.2.1 z]; decide
      · rw [mk'.2.2.2.2.2.1 z]; decide
      · exact absurd z k9
    obtain ⟨j, a', b', f, g, hW'⟩ := wl_line hC hW ic k9
    rw [if_neg k9, f, ob] at cl
    rw [cl, m_wk f0 i0 ic c200 m5, g]
    exact Or.inl ⟨_, _, rfl, rfl, ⟨rfl, rfl, h3, hW'⟩, by dsimp only; omega⟩
set_option maxHeartbeats 4000000 in
set_option maxRecDepth 20000 in
theorem q_walk {M : Mem} {t : Nat} {n nI nS lane wt c : Int} {G : Nat → Int → Int → Int} (h : InvQ M t n nI nS) (hw : Wlk M t G c) (hl : 0 ≤ lane ∧ lane < 4) (w0 : 0 ≤ wt) (w1 : wt < nS) : ∃ x M1, fX4_walk t lane wt M = some (x, M1) ∧ Kp M M1 ∧ ∀ z : Int, ∃ M2, fX12_walked lane wt (wr M1 173 0 z) = some (x, M2) ∧ M2 132 0 = 0 ∧ Kp M M2 := by
  obtain ⟨a1, a2, a3, a4, a5, a6, a7, a8, a9, a10, a11, a12, a13, a14, a15, a16, a17, a18, a19, a20⟩ := id h
  obtain ⟨hL, c0, c200, g0, hc, hc', L, L5, tE, tI, tS⟩ := hw
  have ht := a1
  have key : ∀ N : Mem, (∀ b, 132 < b → b < 173 → N b = M b) → ∃ x A' B', fX4_walk t lane wt M = some (x, A') ∧ fX12_walk lane wt N = some (x, B') ∧ (∀ d, d ≠ 56 → d ≠ 58 → d ≠ 59 → d ≠ 61 → A' d = M d) ∧ ∀ d, d ≠ 145 → d ≠ 149 → B' d = N d := by
    intro N hN
    have hC : WkC M N t G c L lane := ⟨ht, hL, ⟨c0, c200⟩, g0, L5, tE, tI, hN 139 (by omega) (by omega), hN 151 (by omega) (by omega), hN 152 (by omega) (by omega), hl, by rw [a10.1]; exact a4.2.2.2.1, fun i i0 i1 => (a11 i i0 (by rw [← a10.1]; exact i1)).2.2.2.2 lane hl.1 hl.2, fun i i0 i1 => a20 i i0 i1⟩
    have g00 : G 0 0 0 = 0 := by
      have o0 := hL.2.1 0 (Int.le_refl _) c0
      by_cases z : G 0 0 0 = 0
      · exact z
      · have o1 := o0.1.1
        have := (o0.2.2.2 0 (Int.le_refl _) (by omega)).1
        omega
    have hW : WkW M N t G c L 0 0 0 (wr M 56 6 0) N := by
      refine ⟨fun d h1 _ _ _ => wr_ne h1, fun _ _ _ => rfl, ⟨Int.le_refl _, c0⟩, fun s s0 s1 => by rw [hL.2.2.2] at s1; omega, by omega, Int.le_refl _, 0, by omega, rfl, rfl, Int.le_refl _, ?_, fun l l0 l1 => by omega⟩
      rw [wr_at, if_pos rfl, g00]
      rfl
    obtain ⟨r, r', f, g, x, A', B', e1, e2, fA, fB⟩ := wl_loop hC hc (by rw [hN 138 (by omega) (by omega)]; exact hc') w0 (by omega) hW
    refine ⟨x, A', B', ?_, ?_, fA, fB⟩
    · unfold fX4_walk
      rw [pI_ok, ob, f, ob, e1]
      rfl
    · unfold fX12_walk
      rw [g, ob, e2]
      rfl
  obtain ⟨x, M1, -, f1, -, fA, -⟩ := key M (fun _ _ _ => rfl)
  refine ⟨x, M1, f1, ⟨fun b hb => ?_, by rw [fA 132 (by omega) (by omega) (by omega) (by omega)], by rw [fA 132 (by omega) (by omega) (by omega) (by omega)]⟩, fun z => ?_⟩
  · unfold scr at hb
    exact fA b (by omega) (by omega) (by omega) (by omega)
  obtain ⟨y, M1', B', f2, g2, -, fB⟩ := key (wr (wr M1 173 0 z) 132 0 0) (fun b hb hb2 => by rw [wr_ne (by omega), wr_ne (by omega)]; exact fA b (by omega) (by omega) (by omega) (by omega))
  rw [f1] at f2
  injection f2 with f2
  injection f2 with f3 f4
  subst f3
  refine ⟨B', ?_, ?_, fun b hb => ?_, ?_, ?_⟩
  · have e9 : wr M1 173 0 z 138 9 = nS := by rw [wr_ne (by omega), fA 138 (by omega) (by omega) (by omega) (by omega)]; exact a7.1
    have e00 : wr (wr M1 173 0 z) 132 0 0 132 0 ≤ 0 := by rw [wr_at, if_pos rfl]; decide
    have es : fX12_isShown lane wt (wr M1 173 0 z) = some (1, wr M1 173 0 z) := by rw [s_X12_isShown, if_pos (by omega)]
    unfold fX12_walked
    rw [es, ob]
    dsimp only
    rw [if_neg (show ¬ ((1 : Int) = 0) by decide), ob, pI_ok, ob, if_pos e00, g2, ob, ob]
  · rw [fB 132 (by omega) (by omega), wr_at, if_pos rfl]
  · unfold scr at hb
    rw [fB b (by omega) (by omega), wr_ne (by omega), wr_ne (by omega)]
    exact fA b (by omega) (by omega) (by omega) (by omega)
  · rw [fB 132 (by omega) (by omega), wr_at, if_neg (by omega), wr_ne (by omega), fA 132 (by omega) (by omega) (by omega) (by omega)]
  · rw [fB 132 (by omega) (by omega), wr_at, if_neg (by omega), wr_ne (by omega), fA 132 (by omega) (by omega) (by omega) (by omega)]
/-- where nothing is walked, or run -/
theorem q_nowalk {M : Mem} {t : Nat} {n nI nS lane wt : Int} (h : InvQ M t n nI nS) (hl : ¬ ((0 ≤ lane ∧ lane < 4) ∧ 0 ≤ wt ∧ wt < nS)) : fX12_walked lane wt M = some (0, wr M 132 0 1) ∧ Kp M (wr M 132 0 1) := by
  have a7 := h.2.2.2.2.2.2.1.1
  refine ⟨?_, fun b hb => wr_ne (fun e => hb (by unfold scr; omega)), by rw [wr_at, if_neg (by omega)], by rw [wr_at, if_neg (by omega)]⟩
  have e00 : ¬ wr M 132 0 1 132 0 ≤ 0 := by rw [wr_at, if_pos rfl]; decide
  have es : fX12_isShown lane wt M = some (0, M) := by rw [s_X12_isShown, if_neg (by omega)]
  unfold fX12_walked
  rw [es, ob]
  dsimp only
  rw [if_pos rfl, ob, pI_ok, ob, if_neg e00, ob]
