/-! when: both begin it -/
theorem bgfs {l d : Int} (l0 : 0 ≤ l) (ld : l < d) (d4 : d ≤ 4) : bgB l ≠ bgB d ∧ bgB l ≠ fsB d ∧ fsB l ≠ bgB d ∧ fsB l ≠ fsB d := by
  unfold bgB fsB; omega
theorem bgfs2 {l d : Int} (l0 : 0 ≤ l) (l4 : l < 4) (d0 : 0 ≤ d) (d4 : d < 4) : bgB l ≠ fsB d := by
  unfold bgB fsB; omega
theorem bgb {l : Int} (l0 : 0 ≤ l) (l4 : l < 4) : (32 ≤ bgB l ∧ bgB l ≤ 35) ∧ 37 ≤ fsB l ∧ fsB l ≤ 40 := by
  unfold bgB fsB; omega
set_option maxHeartbeats 4000000 in
set_option maxRecDepth 20000 in
theorem c_when {A A1 : Mem} {t : Nat} {i x d k : Int} (ht : t = 5 ∨ t = 119) (i0 : 0 ≤ i) (i1 : i < 200) (hv : fX10_argValue t i 0 A = some (x, A1)) (x0 : 0 ≤ x) (x1 : x < 64) (d0 : 0 ≤ d) (d4 : d < 4) (h7 : A1 22 7 = d) (hk : A1 (t + 9) i = k) (k0 : 0 ≤ k) (k1 : k < 100) : ∃ A', fX10_beginWhen t i A = some A' ∧ (∀ b, b ≠ 22 → b ≠ 29 → b ≠ 41 → b ≠ bgB d → A' b = A1 b) ∧ (∀ j, A' 22 j = if j = 7 then d + 1 else A1 22 j) ∧ (∀ l, A' 41 l = if l = d then x else A1 41 l) ∧ (∀ j, A' 29 j = if j = k ∧ A1 27 x = 0 then 1 else A1 29 j) ∧ ∀ s, 0 ≤ s → s < 20 → A' (bgB d) s = A1 30 s := by
  have bb := (bgb d0 d4).1
  unfold fX10_beginWhen
  rw [hv, ob]
  dsimp only
  rw [if_neg (by omega), if_pos (by omega), h7, st41 _ _ _ d0 d4, ob, ld27 _ _ x0 x1, ob]
  have e27 : wr A1 41 d x 27 x = A1 27 x := by rw [wr_ne (by omega)]
  rw [e27]
  have st : ∃ A2, ((if A1 27 x = 0 then (ldI (wr A1 41 d x) (t + 9) i).bind fun v4 => (stZ (wr A1 41 d x) 29 v4 1).bind fun M5 => some M5 else some (wr A1 41 d x) : Option Mem)) = some A2 ∧ (∀ b, b ≠ 29 → A2 b = wr A1 41 d x b) ∧ ∀ j, A2 29 j = if j = k ∧ A1 27 x = 0 then 1 else A1 29 j := by
    by_cases z : A1 27 x = 0
    · have e9 : wr A1 41 d x (t + 9) i = k := by rw [wr_ne (by omega)]; exact hk
      rw [if_pos z, tl9 ht _ _ i0 i1, ob, e9, st29 _ _ _ k0 (by omega), ob, nz1]
      refine ⟨_, rfl, fun b hb => wr_ne hb, fun j => ?_⟩
      rw [wr_at]
      by_cases e : j = k
      · rw [if_pos e, if_pos ⟨e, z⟩]
      · rw [if_neg e, if_neg (fun y => e y.1), wr_ne (by omega)]
    · rw [if_neg z]
      refine ⟨_, rfl, fun b hb => rfl, fun j => ?_⟩
      rw [if_neg (fun y => z y.2), wr_ne (by omega)]
  obtain ⟨A2, s1, s2, s3⟩ := st
  have e7 : A2 22 7 = d := by rw [s2 22 (by omega), wr_ne (by omega)]; exact h7
  obtain ⟨A3, c1, c2, c3⟩ := cp20 (M := A2) (a := 30) (b := bgB d) (Or.inl rfl) (Or.inr (Or.inl bb))
  have e37 : A3 22 7 = d := by rw [c2 22 (by omega)]; exact e7
  rw [s1, ob, e7, ldA31 d0 d4, ob, c1, ob, pI_ok, ob, e37, w32_id (by omega) (by omega)]
  refine ⟨_, rfl, fun b h1 h2 h3 h4 => ?_, fun j => ?_, fun l => ?_, fun j => ?_, fun s s0 s1 => ?_⟩
  · rw [wr_ne h1, c2 b h4, s2 b h2, wr_ne h3]
  · rw [wr_at, c2 22 (by omega), s2 22 (by omega), wr_ne (by omega)]
  · rw [wr_ne (by omega), c2 41 (by omega), s2 41 (by omega), wr_at]
  · rw [wr_ne (by omega), c2 29 (by omega), s3]
  · rw [wr_ne (by omega), c3 s s0 s1, s2 30 (by omega), wr_ne (by omega)]
set_option maxHeartbeats 4000000 in
set_option maxRecDepth 20000 in
theorem wk_when {A B : Mem} {t : Nat} {G : Nat → Int → Int → Int} {c nI n i w st : Int} {giv : Int → Int} (h : WI A B t G c nI giv n i w st) (hk : A (t + 1) i = 5) : ∃ A' B', fX10_beginWhen t i A = some A' ∧ mWhen i (B 139 (12 * (210 + i) + 11)) B = some (i + 1, B') ∧ WRes A B t G c nI giv i w st (i + 1) A' B' := by
  obtain ⟨hS, ⟨i0, i1⟩, hD, a9, b8, w01, st0, hp⟩ := h
  have HP : Unit → _ := fun _ => hp
  clear hp
  obtain ⟨ht, hL, c0, c200, -, h16, h10, -, -, hg⟩ := id hS
  obtain ⟨lR, lT, lP⟩ := hL.1 i i0 i1
  obtain ⟨r1, r2, ⟨r3, r4⟩, ar⟩ := lR.2.2.2.2.2.1 hk
  have r11 := lR.2.2.2.2.2.2.2.2
  rw [if_neg (by omega)] at r11
  obtain ⟨t1, t2, t3, hs⟩ := lT.2.2.2.2.2.1 hk
  have o0 := hL.2.1 i i0 (by omega)
  have o1 := hL.2.1 (i + 1) (by omega) (by omega)
  have d4 : G 0 i 0 < 4 := by have := o1.1.2; have := hs.1; omega
  have d0 := o0.1.1
  have e7 := hD.2.2.2.2.2.1
  have m20 := o0.2.1.2
  have i6 : nI ≤ 6 := hD.1.2.2.1.2.2.2.1
  obtain ⟨x, A1, y, B1, f1, g1, ⟨n', w1, w2, w3, w4⟩, ty', e43⟩ := r_argV ht ar i0 (by omega) (Int.le_refl 0) (by omega) m20 hD.1 hD.2.1 a9 b8
  rw [show 12 * (210 + i) + 5 + 2 * 0 = 12 * (210 + i) + 5 by omega] at g1
  have n64 : n' ≤ 64 := w2.2.2.1.2.1
  have hg1 : ∀ i, 0 ≤ i → i < nI → giv i = B1 138 (422 + 3 * i + 2) := fun j a b => by rw [w3.2.2.2.2.2.2 _ (by omega)]; exact hg j a b
  have k2 : B1 139 (12 * (210 + i) + 2) = A (t + 9) i := by rw [w3.2.2.2.2.1 139 (by omega) (by omega)]; exact r2
  have y01 : 0 ≤ y ∧ y < n' := by
    rcases w4 with ⟨-, -, z1, z2, z3⟩ | ⟨f, -, -, -, z1, -, z2⟩ <;> omega
  have W4 : Unit → _ := fun _ => w4
  clear w4
  obtain ⟨B', m1, m2, m3, m4, m5, m6⟩ := m_when (d := G 0 i 0) w2 hg1 i0 (by omega) d0 d4 y01.1 y01.2 g1 k2 r3 (by omega)
  rw [r11, m1]
  have slB : ∀ A', SL A A' B B1 → SL A A' B B' := fun A' q => ⟨q.1, fun d a b e e' => by rw [m2 d b (by omega) (by omega) e']; exact q.2.1 d a b e e', fun k a => by rw [m2 132 (by omega) (by omega) (by omega) (by omega)]; exact q.2.2.1 k a, fun f a => by rw [m3, if_neg (by omega)]; exact q.2.2.2.1 f a, q.2.2.2.2⟩
  rcases W4 () with ⟨u1, u2, u3, u4, u5⟩ | ⟨f, u1, u2, u3, -, u5, -⟩
  · obtain ⟨A', c1, c2, c3, c4, c5, c6⟩ := c_when (d := G 0 i 0) (k := A (t + 9) i) ht i0 (by omega) f1 u4 (by omega) d0 d4 (by rw [w3.2.1 7 (by omega)]; exact e7) (by rw [w3.1 _ (by omega) (by omega) (by omega)]) r3 (by omega)
    have bb := (bgb d0 d4).1
    have slA : SL A A' B B1 := SL_trans (WFr_SL w3) ⟨fun d a => c2 d (by omega) (by omega) (by omega) (by omega), fun _ _ _ _ _ => rfl, fun _ _ => rfl, fun _ _ => rfl, by rw [c3, if_neg (by omega)]⟩
    have nm1 := NmV_fr hD.2.1 w3 w1
    have a26 : A' 26 = A1 26 := c2 26 (by omega) (by omega) (by omega) (by omega)
    have a42 : A' 42 = A 42 := by rw [c2 42 (by omega) (by omega) (by omega) (by omega)]; exact w3.1 42 (by omega) (by omega) (by omega)
    refine ⟨A', B', c1, rfl, slB A' slA, Or.inl ⟨by rw [c3, if_neg (by omega)]; exact u1, by rw [m2 132 (by omega) (by omega) (by omega) (by omega)]; exact u2, by omega, by omega, ⟨n', ?_⟩, WP_psh hs d0 (slA.1 _ (by omega)) (fun l _ _ => by rw [a42]) (HP ()) (Or.inl hk) (fun z => by omega), NX_o (by omega) (by omega) a42 (by omega) (by rw [c2 23 (by omega) (by omega) (by omega) (by omega)]; exact w3.2.2.1 5 (by omega))⟩⟩
    refine WD_psh hS i0 i1 hD hs t3 lT.2.1 w1 (VX_cg w2 (by rw [c2 23 (by omega) (by omega) (by omega) (by omega)]) (c2 _ (by omega) (by omega) (by omega) (by omega)) (c2 _ (by omega) (by omega) (by omega) (by omega)) a26 (c2 _ (by omega) (by omega) (by omega) (by omega)) (fun g hg' => by rw [m3, if_neg (by omega)])) (fun s s0 s1 => ?_) (fun d hd => slA.1 d (by omega)) (by rw [c3, if_pos rfl]) (fun v hv => by rw [a26]; exact w3.2.2.2.1 v hv) (fun l l0 l1 => ?_) ?_ (ShW_fr hD.2.2.2.2.1 (by rw [c2 23 (by omega) (by omega) (by omega) (by omega)]; exact w3.2.2.1 5 (by omega)) (by rw [c2 28 (by omega) (by omega) (by omega) (by omega)]; exact w3.1 28 (by omega) (by omega) (by omega)) (fun g g0 g1 => by rw [m3, if_neg (by omega)]; exact w3.2.2.2.2.2.2 g (by omega)) w1) (fun k k0 k1 => ?_)
    · rw [a26, c2 30 (by omega) (by omega) (by omega) (by omega), m2 145 (by omega) (by omega) (by omega) (by omega)]
      exact nm1 s s0 s1
    · have bl := bgb l0 (show l < 4 by omega)
      have bq := bgfs l0 l1 (show G 0 i 0 ≤ 4 by omega)
      refine ⟨by rw [c4, if_neg (by omega), w3.1 41 (by omega) (by omega) (by omega)], by rw [a42], ?_, ?_, by rw [m4, if_neg (by omega), w3.2.2.2.2.1 148 (by omega) (by omega)], by rw [m2 149 (by omega) (by omega) (by omega) (by omega), w3.2.2.2.2.1 149 (by omega) (by omega)], fun s s0 s1 => ⟨?_, by rw [m2 147 (by omega) (by omega) (by omega) (by omega), w3.2.2.2.2.1 147 (by omega) (by omega)]⟩⟩
      · rw [c2 _ (by omega) (by omega) (by omega) bq.1, w3.1 _ (by omega) (by omega) (by omega)]
      · rw [c2 _ (by omega) (by omega) (by omega) bq.2.2.1, w3.1 _ (by omega) (by omega) (by omega)]
      · rw [m6 _ (by omega), w3.2.2.2.2.1 146 (by omega) (by omega)]
    · unfold OpW
      rw [hs.2.1, slA.1 (t + 1) (by omega), hk]
      refine ⟨fun _ => ⟨⟨by rw [c4, if_pos rfl, m4, if_pos rfl]; exact u3, by rw [c4, if_pos rfl]; exact u4, by rw [c4, if_pos rfl]; exact u5, ?_⟩, fun s s0 s1 => ?_, fun z => by rw [hs.2.2.1] at z; omega⟩, fun z => by omega⟩
      · rw [c4, if_pos rfl, a26, ty' u1]; exact t2
      · rw [c6 s s0 (by omega), m5 s s0 (by omega), a26]
        exact nm1 s s0 s1
    · have p := hD.2.2.2.1 k k0 k1
      have e29 : A1 29 k = A 29 k := by rw [w3.1 29 (by omega) (by omega) (by omega)]
      have e704 : B1 138 (704 + k) = B 138 (704 + k) := w3.2.2.2.2.2.2 _ (by omega)
      rw [c5, m3, u3, e29]
      by_cases e : k = A (t + 9) i
      · rw [if_pos (show 704 + k = 704 + A (t + 9) i by omega), ← e, e704, ← p.1, ior01 p.2 (by split <;> omega)]
        by_cases z : A1 27 y = 0
        · rw [if_pos ⟨rfl, z⟩, if_pos z, if_pos rfl]; exact ⟨rfl, Or.inr rfl⟩
        · rw [if_neg (fun q => z q.2), if_neg z, if_neg (by decide)]; exact ⟨rfl, p.2⟩
      · rw [if_neg (fun q => e q.1), if_neg (by omega), e704]; exact p
  · refine ⟨A1, B', ?_, rfl, slB A1 (WFr_SL w3), Or.inr ⟨by omega, by rw [m2 132 (by omega) (by omega) (by omega) (by omega)]; omega⟩⟩
    unfold fX10_beginWhen
    rw [f1, ob, if_pos u5]
