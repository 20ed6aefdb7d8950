/-! the end of a loop -/
theorem c_endsT {A : Mem} {t : Nat} {i p : Int} (ht : t = 5 ∨ t = 119) (i0 : 0 ≤ i) (i1 : i < 200) (hp : A (t + 8) i = p) (p0 : 0 ≤ p) (p1 : p < 200) : fX3_endsTimes t i A = some (if A (t + 1) p = 7 then 1 else 0, A) := by
  unfold fX3_endsTimes
  rw [tl8 ht _ _ i0 i1, ob, hp, if_neg (by omega), ob, tl1 ht _ _ p0 p1, ob]
  by_cases z : A (t + 1) p = 7
  · rw [if_pos z, if_pos z, ob]; exact rz1
  · rw [if_neg z, if_neg z, ob]; exact rz0
/-! a loop's end and what it means -/
set_option maxHeartbeats 4000000 in
set_option maxRecDepth 20000 in
theorem c_endT {A : Mem} {t : Nat} {i p d v : Int} (ht : t = 5 ∨ t = 119) (i0 : 0 ≤ i) (i1 : i < 200) (hp : A (t + 8) i = p) (p0 : 0 ≤ p) (p1 : p < 200) (d0 : 0 ≤ d) (d4 : d < 4) (h7 : A 22 7 = d + 1) (hv : A 42 d = v) (v0 : 1 ≤ v) (v1 : v ≤ 9) : fX10_endTimes t i A = some (if v ≤ 1 then (i + 1, wr (wr A 42 d (v - 1)) 22 7 d) else (p + 1, wr A 42 d (v - 1))) := by
  unfold fX10_endTimes
  rw [h7, if_neg (by omega), show d + 1 - 1 = d by omega, w32_id (show -2147483648 ≤ d by omega) (by omega), ld42 _ _ d0 d4, ob, hv, w32_id (show -2147483648 ≤ v - 1 by omega) (by omega), st42 _ _ _ d0 d4, ob]
  have e7 : wr A 42 d (v - 1) 22 7 = d + 1 := by rw [wr_ne (by omega)]; exact h7
  have e42 : wr A 42 d (v - 1) 42 d = v - 1 := by rw [wr_at, if_pos rfl]
  rw [e7, show d + 1 - 1 = d by omega, w32_id (show -2147483648 ≤ d by omega) (by omega), ld42 _ _ d0 d4, ob, e42]
  by_cases z : v ≤ 1
  · rw [if_pos (by omega), if_pos z, pI_ok, ob, w32_id (show -2147483648 ≤ i + 1 by omega) (by omega)]
  · have e8 : wr A 42 d (v - 1) (t + 8) i = p := by rw [wr_ne (by omega)]; exact hp
    rw [if_neg (by omega), if_neg z, tl8 ht _ _ i0 i1, ob, e8, w32_id (show -2147483648 ≤ p + 1 by omega) (by omega)]
set_option maxHeartbeats 4000000 in
set_option maxRecDepth 20000 in
theorem wk_endT {A B : Mem} {t : Nat} {G : Nat → Int → Int → Int} {c nI n i w st : Int} {giv : Int → Int} (h : WI A B t G c nI giv n i w st) (hk : A (t + 1) i = 8) (h7 : A (t + 1) (G 2 i (G 0 i 0 - 1)) = 7) : ∃ i' A' B', fX10_endTimes t i A = some (i', A') ∧ B 139 (12 * (210 + i) + 1) = 1 ∧ ((ldI B 149 (B 139 (12 * (210 + i) + 11))).bind fun v17 => (stI B 149 (B 139 (12 * (210 + i) + 11)) (w32 (v17 - 1))).bind fun M18 => (ldI M18 149 (B 139 (12 * (210 + i) + 11))).bind fun v19 => ((if v19 ≤ 0 then some (w32 (i + 1)) else (ldI M18 139 (w32 (12 * (210 + i) + 7))).bind fun v20 => some (w32 (v20 + 1)) : Option (Int))).bind fun q21 => some (q21, M18)) = some (i', B') ∧ WRes A B t G c nI giv i w st i' A' B' := by
  obtain ⟨hS, ⟨i0, i1⟩, hD, a9, b8, w01, st0, hp⟩ := h
  rw [if_neg (by omega)] at hp
  obtain ⟨ht, hL, c0, c200, -, h16, h10, -, -, hg⟩ := id hS
  obtain ⟨lR, lT, lP⟩ := hL.1 i i0 i1
  have r11 := lR.2.2.2.2.2.2.2.2
  rw [if_pos (by omega)] at r11
  obtain ⟨t1, t2, t3, t4, t5⟩ := lT.2.2.2.2.2.2.2.2 hk
  obtain ⟨l1', l2', l3'⟩ := lP.2.2 hk
  rw [if_pos h7] at l3'
  rw [if_neg (by omega)] at t5
  have o0 := hL.2.1 i i0 (by omega)
  have o1 := hL.2.1 (i + 1) (by omega) (by omega)
  obtain ⟨d, hd⟩ : ∃ d, d = G 0 i 0 - 1 := ⟨_, rfl⟩
  rw [← hd] at r11 t2 t3 t4 h7 l2'
  obtain ⟨p, hpp⟩ : ∃ p, p = G 2 i d := ⟨_, rfl⟩
  rw [← hpp] at t2 h7 l2'
  have d4 : d < 4 := by have := o0.1.2; omega
  have d0 : 0 ≤ d := by omega
  have gd : G 0 i 0 = d + 1 := by omega
  have e7 := hD.2.2.2.2.2.1
  have ow := o0.2.2.2 d d0 (by omega)
  rw [← hpp] at ow
  obtain ⟨x1, x2, x3⟩ := (hD.2.2.1 d d0 (by omega)).2 (by rw [← hpp]; exact h7)
  have cl := c_endT (A := A) (d := d) (v := A 42 d) ht i0 (by omega) t2 (by omega) (by omega) d0 d4 (by omega) rfl x2 x3
  have e149 : wr B 149 d (A 42 d - 1) 149 d = A 42 d - 1 := by rw [wr_at, if_pos rfl]
  rw [cl, r11, ld149 _ _ d0 d4, ob, ← x1, w32_id (show -2147483648 ≤ A 42 d - 1 by omega) (by omega), st149 _ _ _ d0 d4, ob, ld149 _ _ d0 d4, ob, e149]
  obtain ⟨h1, h2, h3, h4, h5, h6, h7', h8⟩ := hD
  have bgl : ∀ l, 0 ≤ l → l < 4 → bgB l ≠ 42 ∧ bgB l ≠ 22 ∧ fsB l ≠ 42 ∧ fsB l ≠ 22 := fun l a b => by unfold bgB fsB; omega
  have SLm : ∀ A' : Mem, (∀ b, b ≠ 42 → b ≠ 22 → A' b = A b) → A' 22 8 = A 22 8 → SL A A' B (wr B 149 d (A 42 d - 1)) := fun A' q1 q2 => ⟨fun b hb => q1 b (by omega) (by omega), fun b _ _ hb _ => wr_ne (by omega), fun k _ => by rw [wr_ne (by omega)], fun f _ => by rw [wr_ne (by omega)], q2⟩
  -- what both have in common
  have mk : ∀ (A' : Mem) (i' : Int), (∀ b, b ≠ 42 → b ≠ 22 → A' b = A b) → (∀ l, A' 42 l = if l = d then A 42 d - 1 else A 42 l) → A' 22 7 = G 0 i' 0 → (∀ s, 0 ≤ s → s < G 1 i' 0 → s < G 1 i 0 ∧ G 4 i' s = G 4 i s) → (∀ l, 0 ≤ l → l < d → G 2 i' l = G 2 i l ∧ G 3 i' l = G 3 i l) → (d < G 0 i' 0 → G 2 i' d = p ∧ 2 ≤ A 42 d) → G 0 i' 0 ≤ d + 1 → WD A' (wr B 149 d (A 42 d - 1)) t G n nI giv i' := by
    intro A' i' q1 q2 q3 q4 q5 q6 q7
    have a26 : A' 26 = A 26 := q1 26 (by omega) (by omega)
    refine ⟨VX_cg h1 (by rw [q1 23 (by omega) (by omega)]) (q1 _ (by omega) (by omega)) (q1 _ (by omega) (by omega)) a26 (q1 _ (by omega) (by omega)) (fun f _ => by rw [wr_ne (by omega)]), fun s s0 s1 => ?_, fun l l0 l1 => ?_, fun k k0 k1 => ?_, ?_, q3, h7', fun v v0 v1 => by rw [a26]; exact h8 v v0 v1⟩
    · obtain ⟨y1, y2⟩ := q4 s s0 s1
      rw [a26, q1 30 (by omega) (by omega), wr_ne (by omega), y2]
      exact h2 s s0 y1
    · by_cases e : l = d
      · subst e
        obtain ⟨y1, y2⟩ := q6 l1
        unfold OpW
        rw [y1, q1 (t + 1) (by omega) (by omega), h7, q2, if_pos rfl, wr_at, if_pos rfl]
        exact ⟨fun z => by omega, fun _ => ⟨rfl, by omega, by omega⟩⟩
      · have ld : l < d := by omega
        have ol := o0.2.2.2 l l0 (by omega)
        have g20 : G 1 (G 2 i l) 0 ≤ 20 := (hL.2.1 (G 2 i l) ol.1.1 (by omega)).2.1.2
        have bl := bgl l l0 (by omega)
        have y := q5 l l0 ld
        exact OpW_fr (h3 l l0 (by omega)) y.1 (fun z => by rw [← y.2]; exact z) (q1 _ (by omega) (by omega)) (by rw [q1 41 (by omega) (by omega)]) (by rw [q2, if_neg e]) (q1 _ bl.1 bl.2.1) (q1 _ bl.2.2.1 bl.2.2.2) (fun v _ => by rw [a26]) (Int.le_refl _) (by rw [wr_ne (by omega)]) (by rw [wr_at, if_neg e]) (fun s _ _ => by rw [wr_ne (by omega)]) (fun s _ _ => by rw [wr_ne (by omega)]) g20
    · rw [q1 t (by omega) (by omega)] at k1
      rw [q1 29 (by omega) (by omega), wr_ne (by omega)]
      exact h4 k k0 k1
    · exact ShW_fr h5 (by rw [q1 23 (by omega) (by omega)]) (q1 28 (by omega) (by omega)) (fun f _ _ => by rw [wr_ne (by omega)]) (Int.le_refl _)
  have smd : ∀ (A' : Mem) (i' : Int), A' (t + 1) = A (t + 1) → (∀ l, A' 42 l = if l = d then A 42 d - 1 else A 42 l) → (∀ l, 0 ≤ l → l < d → G 2 i' l = G 2 i l ∧ G 3 i' l = G 3 i l) → sm (rW A' t G i') d.toNat = sm (rW A t G i) d.toNat := by
    intro A' i' q1 q2 q5
    apply sm_congr
    intro l l0 l1
    unfold rW
    rw [(q5 l l0 (by omega)).1, (q5 l l0 (by omega)).2, q1, q2, if_neg (show ¬ (l = d) by omega)]
  have top0 : rW A t G i d = A 42 d := by
    unfold rW
    rw [← hpp, if_pos h7]
  have b00 : b0W G i = G 2 i 0 := by unfold b0W; rw [if_neg (by omega)]
  rw [gd, sm_s d0, top0, b00] at hp
  have k8 : nxL A t G i (A 42) = if 1 < A 42 d then p + 1 else i + 1 := by
    unfold nxL
    rw [← hd, ← hpp]
    by_cases z : 1 < A 42 d
    · rw [if_pos z, if_pos ⟨hk, h7, z⟩]
    · rw [if_neg z, if_neg (fun y => z y.2.2)]
  have k9 : ∀ l, nxK A t G i (A 42) l = if l = d then A 42 d - 1 else A 42 l := fun l => by
    unfold nxK
    rw [← hd, ← hpp, if_neg (fun y => by omega)]
    by_cases e : l = d
    · rw [if_pos e, if_pos ⟨hk, h7, e⟩, e]
    · rw [if_neg e, if_neg (fun y => e y.2.2)]
  by_cases z : A 42 d ≤ 1
  · rw [if_pos z, if_pos (by omega), ob, w32_id (show -2147483648 ≤ i + 1 by omega) (by omega)]
    obtain ⟨A', hA'⟩ : ∃ A', A' = wr (wr A 42 d (A 42 d - 1)) 22 7 d := ⟨_, rfl⟩
    rw [← hA']
    have q1 : ∀ b, b ≠ 42 → b ≠ 22 → A' b = A b := fun b y1 y2 => by rw [hA', wr_ne y2, wr_ne y1]
    have q2 : ∀ l, A' 42 l = if l = d then A 42 d - 1 else A 42 l := fun l => by rw [hA', wr_ne (by omega), wr_at]
    have q22 : ∀ k, A' 22 k = if k = 7 then d else A 22 k := fun k => by rw [hA', wr_at, wr_ne (by omega)]
    have q5 : ∀ l, 0 ≤ l → l < d → G 2 (i + 1) l = G 2 i l ∧ G 3 (i + 1) l = G 3 i l := fun l y1 y2 => t4 l y1 y2
    refine ⟨i + 1, A', _, rfl, l3', rfl, SLm A' q1 (by rw [q22, if_neg (by omega)]), Or.inl ⟨by rw [q22, if_neg (by omega)]; exact a9, by rw [wr_ne (by omega)]; exact b8, by omega, by omega, ⟨n, mk A' (i + 1) q1 q2 (by rw [q22, if_pos rfl]; omega) (fun s s0 s1 => ⟨by omega, lT.2.1 s s0 (by omega) s1⟩) q5 (fun y => by omega) (by omega)⟩, ?_, ⟨by rw [k8, if_neg (by omega)], by rw [if_neg (by omega), q1 23 (by omega) (by omega), Int.add_zero], fun l _ _ => by rw [k9, q2]⟩⟩⟩
    rw [show G 0 (i + 1) 0 = d by omega, smd A' (i + 1) (q1 _ (by omega) (by omega)) q2 q5]
    have e2 : G 2 i 0 ≤ b0W G (i + 1) := by
      unfold b0W
      have z1 := (o0.2.2.2 0 (by omega) (by omega)).1
      by_cases y : G 0 (i + 1) 0 = 0
      · rw [if_pos y]; omega
      · rw [if_neg y, (t4 0 (by omega) (by omega)).1]; omega
    omega
  · have e7' : wr B 149 d (A 42 d - 1) 139 (12 * (210 + i) + 7) = p := by rw [wr_ne (by omega)]; exact l2'
    rw [if_neg z, if_neg (by omega), w32_id (show -2147483648 ≤ 12 * (210 + i) + 7 by omega) (by omega), ld139 _ _ (by omega) (by omega), ob, ob, e7', w32_id (show -2147483648 ≤ p + 1 by omega) (by omega)]
    obtain ⟨A', hA'⟩ : ∃ A', A' = wr A 42 d (A 42 d - 1) := ⟨_, rfl⟩
    rw [← hA']
    have q1 : ∀ b, b ≠ 42 → A' b = A b := fun b y1 => by rw [hA', wr_ne y1]
    have q2 : ∀ l, A' 42 l = if l = d then A 42 d - 1 else A 42 l := fun l => by rw [hA', wr_at]
    obtain ⟨pR, pT, -⟩ := hL.1 p (by omega) (by omega)
    obtain ⟨v1, v2⟩ := pT.2.2.2.2.2.2.1 h7
    have op := hL.2.1 p (by omega) (by omega)
    have gp : G 0 p 0 = d := ow.2.1
    have g1 : G 0 (p + 1) 0 = d + 1 := by rw [v2.1, gp]
    have q5 : ∀ l, 0 ≤ l → l < d → G 2 (p + 1) l = G 2 i l ∧ G 3 (p + 1) l = G 3 i l := fun l y1 y2 => by
      have u := v2.2.2.2 l y1 (by omega)
      have u' := ow.2.2.2.2.2.2.2 l y1 y2
      rw [u.1, u.2, u'.1, u'.2]
      exact ⟨rfl, rfl⟩
    have gpd : G 2 (p + 1) d = p := by have := v2.2.1; rw [gp] at this; exact this
    refine ⟨p + 1, A', _, rfl, l3', rfl, SLm A' (fun b y1 _ => q1 b y1) (by rw [q1 22 (by omega)]), Or.inl ⟨by rw [q1 22 (by omega)]; exact a9, by rw [wr_ne (by omega)]; exact b8, by omega, by omega, ⟨n, mk A' (p + 1) (fun b y1 _ => q1 b y1) q2 (by rw [q1 22 (by omega)]; omega) (fun s s0 s1 => ?_) q5 (fun _ => ⟨gpd, by omega⟩) (by omega)⟩, ?_, ⟨by rw [k8, if_pos (by omega)], by rw [if_neg (by omega), q1 23 (by omega), Int.add_zero], fun l _ _ => by rw [k9, q2]⟩⟩⟩
    · rw [v1] at s1
      have := ow.2.2.2.2.2.1
      refine ⟨by omega, ?_⟩
      rw [pT.2.1 s s0 s1 (by omega)]
      exact (ow.2.2.2.2.2.2.1 s s0 s1).symm
    · have tp : rW A' t G (p + 1) d = A 42 d - 1 := by
        unfold rW
        rw [gpd, q1 (t + 1) (by omega), if_pos h7, q2, if_pos rfl]
      have e2 : b0W G (p + 1) = G 2 i 0 := by
        unfold b0W
        rw [g1, if_neg (by omega)]
        by_cases y : d = 0
        · rw [y] at gpd hpp; rw [gpd, hpp]
        · exact (q5 0 (by omega) (by omega)).1
      rw [g1, sm_s d0, tp, smd A' (p + 1) (q1 _ (by omega)) q2 q5, e2]
      omega
