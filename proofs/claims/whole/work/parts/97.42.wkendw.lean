/-! the end of a when: both parts are merged, name by name -/
def EFr (A A' B B' : Mem) (n : Int) : Prop := (∀ d, d ≠ 22 → ¬ (23 ≤ d ∧ d ≤ 27) → d ≠ 30 → d ≠ 43 → A' d = A d) ∧ (∀ k, k ≠ 9 → A' 22 k = A 22 k) ∧ (∀ f, f ≠ 0 → A' 23 f = A 23 f) ∧ (∀ v, v < n → A' 26 v = A 26 v) ∧ (∀ d, d ≠ 132 → d ≠ 138 → d ≠ 145 → B' d = B d) ∧ (∀ k, k ≠ 8 → B' 132 k = B 132 k) ∧ ∀ f, f < 420 ∨ (420 < f ∧ f < 448) ∨ 704 ≤ f → B' 138 f = B 138 f
theorem EFr_refl (A B : Mem) (n : Int) : EFr A A B B n := ⟨fun _ _ _ _ _ => rfl, fun _ _ => rfl, fun _ _ => rfl, fun _ _ => rfl, fun _ _ _ _ => rfl, fun _ _ => rfl, fun _ _ => rfl⟩
theorem EFr_W {A A' A'' B B' B'' : Mem} {n n' : Int} (h : EFr A A' B B' n) (h' : WFr A' A'' B' B'' n') (hn : n ≤ n') : EFr A A'' B B'' n := ⟨fun d a b c e => by rw [h'.1 d a b e, h.1 d a b c e], fun k a => by rw [h'.2.1 k a, h.2.1 k a], fun f a => by rw [h'.2.2.1 f a, h.2.2.1 f a], fun v a => by rw [h'.2.2.2.1 v (by omega), h.2.2.2.1 v a], fun d a b c => by rw [h'.2.2.2.2.1 d a b, h.2.2.2.2.1 d a b c], fun k a => by rw [h'.2.2.2.2.2.1 k a, h.2.2.2.2.2.1 k a], fun f a => by rw [h'.2.2.2.2.2.2 f a, h.2.2.2.2.2.2 f a]⟩
theorem EFr_A {A A' B B' : Mem} {n j x : Int} (h : EFr A A' B B' n) : EFr A (wr A' 30 j x) B B' n := ⟨fun d a b c e => by rw [wr_ne c, h.1 d a b c e], fun k a => by rw [wr_ne (by omega), h.2.1 k a], fun f a => by rw [wr_ne (by omega), h.2.2.1 f a], fun v a => by rw [wr_ne (by omega), h.2.2.2.1 v a], h.2.2.2.2⟩
theorem EFr_B {A A' B B' : Mem} {n j x : Int} (h : EFr A A' B B' n) : EFr A A' B (wr B' 145 j x) n := ⟨h.1, h.2.1, h.2.2.1, h.2.2.2.1, fun d a b c => by rw [wr_ne c, h.2.2.2.2.1 d a b c], fun k a => by rw [wr_ne (by omega), h.2.2.2.2.2.1 k a], fun f a => by rw [wr_ne (by omega), h.2.2.2.2.2.2 f a]⟩
theorem EFr_SL {A A' B B' : Mem} {n : Int} (h : EFr A A' B B' n) : SL A A' B B' := ⟨fun d a => h.1 d (by omega) (by omega) (by omega) (by omega), fun d a b c _ => h.2.2.2.2.1 d a b (by omega), h.2.2.2.2.2.1, fun f a => h.2.2.2.2.2.2 f (by omega), h.2.1 8 (by omega)⟩
theorem tooM_fr {p : Int} {A A' : Mem} (h : fX10_tooMany p A = some A') : ∀ d, d ≠ 22 → A' d = A d := by
  intro d hd
  unfold fX10_tooMany at h
  by_cases z : A 22 9 = 0
  · rw [if_pos z, pI_ok, ob, ob] at h
    injection h with h
    rw [← h, wr_ne hd]
  · rw [if_neg z, ob] at h
    injection h with h
    rw [← h]
def MgR (A B : Mem) (n nI : Int) (giv : Int → Int) (m : Int) (ts : Int → Int) (j : Int) (A0 B0 : Mem) : Prop := ∃ n', n ≤ n' ∧ VX A B n' nI giv ∧ ((A 22 9 = 0 ∧ B 132 8 = 0 ∧ (∀ s, 0 ≤ s → s < j → A 30 s = B 145 s ∧ 0 ≤ A 30 s ∧ A 30 s < n' ∧ A 26 (A 30 s) = ts s) ∧ (∀ s, j ≤ s → s < m → A 30 s = A0 30 s ∧ B 145 s = B0 145 s)) ∨ (0 < A 22 9 ∧ B 132 8 = A 22 9))
/-! one name is merged -/
set_option maxHeartbeats 4000000 in
set_option maxRecDepth 20000 in
theorem mg_one {A B : Mem} {n nI j a b c p m : Int} {giv ts : Int → Int} {A0 B0 : Mem} (hx : VX A B n nI giv) (a9 : A 22 9 = 0) (b8 : B 132 8 = 0) (j0 : 0 ≤ j) (j1 : j < m) (m20 : m ≤ 20) (fa : 0 ≤ a ∧ a < n ∧ A 26 a = 1) (fb : 0 ≤ b ∧ b < n ∧ A 26 b = ts j) (fc : 0 ≤ c ∧ c < n ∧ A 26 c = ts j) (p0 : 0 ≤ p) (p1 : p ≤ 1000) (hpre : ∀ s, 0 ≤ s → s < j → A 30 s = B 145 s ∧ 0 ≤ A 30 s ∧ A 30 s < n ∧ A 26 (A 30 s) = ts s) (hpost : ∀ s, j ≤ s → s < m → A 30 s = A0 30 s ∧ B 145 s = B0 145 s) : ∃ x A1 A' y B1, fX9_ofOp 13 a b c A = some (x, A1) ∧ (∀ d, d ≠ 22 → ¬ (23 ≤ d ∧ d ≤ 27) → A1 d = A d) ∧ fX10_keep j x p A1 = some A' ∧ ((if b = c then some (b, B) else (fX12_made 13 a b c p B).bind fun q18 => some (q18.1, q18.2) : Option (Int × Mem))) = some (y, B1) ∧ EFr A A' B (wr B1 145 j y) n ∧ MgR A' (wr B1 145 j y) n nI giv m ts (j + 1) A0 B0 := by
  have ext : ∀ (A2 B2 : Mem) (n2 x : Int), n ≤ n2 → VX A2 B2 n2 nI giv → WFr A A2 B B2 n → A2 22 9 = 0 → B2 132 8 = 0 → 0 ≤ x → x < n2 → A2 26 x = ts j → EFr A (wr A2 30 j x) B (wr B2 145 j x) n ∧ MgR (wr A2 30 j x) (wr B2 145 j x) n nI giv m ts (j + 1) A0 B0 := by
    intro A2 B2 n2 x q1 q2 q3 q4 q5 q6 q7 q8
    refine ⟨EFr_B (EFr_A (EFr_W (EFr_refl A B n) q3 (Int.le_refl _))), n2, q1, VX_cg q2 (by rw [wr_ne (by omega)]) (wr_ne (by omega)) (wr_ne (by omega)) (wr_ne (by omega)) (wr_ne (by omega)) (fun f _ => by rw [wr_ne (by omega)]), Or.inl ⟨by rw [wr_ne (by omega)]; exact q4, by rw [wr_ne (by omega)]; exact q5, fun s s0 s1 => ?_, fun s s0 s1 => ?_⟩⟩
    · rw [wr_at, wr_at, wr_ne (show 26 ≠ 30 by omega)]
      by_cases e : s = j
      · rw [if_pos e, if_pos e, e]; exact ⟨rfl, q6, q7, q8⟩
      · obtain ⟨y1, y2, y3, y4⟩ := hpre s s0 (by omega)
        rw [if_neg e, if_neg e, q3.1 30 (by omega) (by omega) (by omega), q3.2.2.2.2.1 145 (by omega) (by omega), q3.2.2.2.1 _ y3]
        exact ⟨y1, y2, by omega, y4⟩
    · rw [wr_at, if_neg (by omega), wr_at, if_neg (by omega), q3.1 30 (by omega) (by omega) (by omega), q3.2.2.2.2.1 145 (by omega) (by omega)]
      exact hpost s (by omega) s1
  by_cases e : b = c
  · obtain ⟨k1, k2⟩ := ext A B n b (Int.le_refl _) hx (WFr_refl _ _ _) a9 b8 fb.1 fb.2.1 fb.2.2
    refine ⟨b, A, wr A 30 j b, b, B, c_ofOpC.2 ⟨rfl, e⟩, fun _ _ _ => rfl, ?_, by rw [if_pos e], k1, k2⟩
    unfold fX10_keep
    rw [if_neg (by omega), st30 _ _ _ j0 (by omega), ob, ob]
  · have nv : NVok n nI (A 26) 13 a b c := ⟨by omega, fun z => by omega, fun z => by omega, fun _ => ⟨fa.1, fa.2.1⟩, fun _ _ _ => ⟨fb.1, fb.2.1⟩, fun _ => ⟨fc.1, fc.2.1⟩, fun z => by omega, fun z => by omega, fun _ => fa.2.2, fun z => by omega, fun _ => by rw [fb.2.2, fc.2.2]⟩
    obtain ⟨x, A1, A2, y, B2, f1, f2, f3, f4, ⟨n2, u1, u2, u3, u4⟩, f6, f7, f8⟩ := r_madeF hx nv (by omega) a9 b8 p0 p1
    have U4 : Unit → _ := fun _ => u4
    clear u4
    have g13 : gew 13 = 0 := by decide
    have co : fX9_ofOp 13 a b c A = some (x, A1) := by rw [c_ofOp (by omega) (fun z => e z.2), g13, if_neg (fun z => by omega)]; exact f1
    have fr : ∀ d, d ≠ 22 → ¬ (23 ≤ d ∧ d ≤ 27) → A1 d = A d := fun d h1 h2 => by
      by_cases d43 : d = 43
      · rw [d43]
        by_cases xe : x = -1
        · rw [← tooM_fr (f2 xe) 43 (by omega)]; exact f8
        · rw [← f3 xe]; exact f8
      · by_cases xe : x = -1
        · rw [← tooM_fr (f2 xe) d h1]; exact u3.1 d h1 h2 d43
        · rw [← f3 xe]; exact u3.1 d h1 h2 d43
    by_cases xe : x = -1
    · refine ⟨x, A1, A2, y, B2, co, fr, ?_, by rw [if_neg e, f4, ob], EFr_B (EFr_W (EFr_refl A B n) u3 (Int.le_refl _)), n2, u1, VX_cg u2 rfl rfl rfl rfl rfl (fun f _ => by rw [wr_ne (by omega)]), Or.inr ?_⟩
      · unfold fX10_keep
        rw [if_pos xe, f2 xe, ob, ob]
      · rcases U4 () with ⟨z, -⟩ | ⟨g, z1, z2, z3, -⟩
        · exact absurd z (f7 xe)
        · exact ⟨by omega, by rw [wr_ne (by omega)]; omega⟩
    · rcases U4 () with ⟨z1, z2, z3, z4, z5⟩ | ⟨g, -, -, -, -, z, -⟩
      · have t6 := f6 z1
        rw [if_pos rfl, fb.2.2] at t6
        obtain ⟨k1, k2⟩ := ext A2 B2 n2 x u1 u2 u3 z1 z2 z4 z5 t6
        refine ⟨x, A1, wr A2 30 j x, y, B2, co, fr, ?_, by rw [if_neg e, f4, ob], by rw [← z3]; exact k1, by rw [← z3]; exact k2⟩
        unfold fX10_keep
        rw [if_neg xe, ← f3 xe, st30 _ _ _ j0 (by omega), ob, ob]
      · exact absurd z xe
set_option maxHeartbeats 4000000 in
set_option maxRecDepth 20000 in
theorem ew_loop {A B : Mem} {t : Nat} {n nI i p d m q4 : Int} {giv one two ts : Int → Int} (ht : t = 5 ∨ t = 119) (i0 : 0 ≤ i) (i1 : i < 200) (p0 : 0 ≤ p) (p1 : p < 200) (d0 : 0 ≤ d) (d4 : d < 4) (m0 : 0 ≤ m) (m20 : m ≤ 20) (hx : VX A B n nI giv) (a9 : A 22 9 = 0) (b8 : B 132 8 = 0) (a7 : A 22 7 = d) (hA3 : A (t + 3) p = m) (hB1 : B 139 (12 * (210 + p) + 1) = m) (hB11 : B 139 (12 * (210 + i) + 11) = d) (hst : B 139 (12 * (210 + i) + 3) = A (t + 2) i) (s0 : 0 ≤ A (t + 2) i) (s1 : A (t + 2) i ≤ 1000) (fl : A 41 d = B 148 d ∧ 0 ≤ A 41 d ∧ A 41 d < n ∧ A 26 (A 41 d) = 1) (h1 : ∀ s, 0 ≤ s → s < m → A (fsB d) s = one s ∧ A 30 s = two s ∧ (0 ≤ one s ∧ one s < n ∧ A 26 (one s) = ts s) ∧ (0 ≤ two s ∧ two s < n ∧ A 26 (two s) = ts s)) (h2 : (q4 = 0 ∧ ∀ s, 0 ≤ s → s < m → B 145 s = one s ∧ B 146 (20 * d + s) = two s) ∨ (q4 = 1 ∧ ∀ s, 0 ≤ s → s < m → B 147 (20 * d + s) = one s ∧ B 145 s = two s)) : ∃ A' B', lp (fX10_endWhen_b1 i t p) (0, A) = some A' ∧ lp (fX12_closes_b1 (12 * (210 + i)) q4 (20 * d) (12 * (210 + p))) (0, B) = some B' ∧ EFr A A' B B' n ∧ MgR A' B' n nI giv m ts m A B := by
  have bb := (bgb d0 d4).2
  refine lp_rel (fun (u : Int × Mem) (v : Int × Mem) => u.1 = v.1 ∧ 0 ≤ u.1 ∧ u.1 ≤ m ∧ EFr A u.2 B v.2 n ∧ MgR u.2 v.2 n nI giv m ts u.1 A B) (fun a b => EFr A a B b n ∧ MgR a b n nI giv m ts m A B) (fun u _ => (m - u.1).toNat) ?_ (m.toNat + 1) (0, A) (0, B) (by dsimp only; omega) ?_
  · rintro ⟨j, a⟩ ⟨j', b⟩ ⟨hj, j0, j1, fr, hm⟩
    dsimp only at hj j0 j1 fr hm
    subst hj
    have e3 : a (t + 3) p = m := by rw [fr.1 _ (by omega) (by omega) (by omega) (by omega)]; exact hA3
    have e139 : b 139 = B 139 := fr.2.2.2.2.1 139 (by omega) (by omega) (by omega)
    unfold fX10_endWhen_b1 fX12_closes_b1
    dsimp only
    rw [tl3 ht _ _ p0 p1, ob, e3, w32_id (show -2147483648 ≤ 12 * (210 + p) + 1 by omega) (by omega), ld139 _ _ (by omega) (by omega), ob, e139, hB1]
    by_cases z : m ≤ j
    · rw [if_pos z, if_pos z]
      have : j = m := by omega
      subst this
      exact Or.inr ⟨a, b, rfl, rfl, fr, hm⟩
    · rw [if_neg z, if_neg z]
      obtain ⟨n', nn, vx, hh⟩ := hm
      rcases hh with ⟨f9, f8, pre, post⟩ | ⟨f9, f8⟩
      · obtain ⟨v1, v2, v3, v4⟩ := h1 j j0 (by omega)
        have e41 : a 41 d = A 41 d := by rw [fr.1 41 (by omega) (by omega) (by omega) (by omega)]
        have efs : a (fsB d) j = one j := by rw [fr.1 _ (by omega) (by omega) (by omega) (by omega)]; exact v1
        have e30 : a 30 j = two j := by rw [(post j (Int.le_refl _) (by omega)).1]; exact v2
        have e7 : a 22 7 = d := by rw [fr.2.1 7 (by omega)]; exact a7
        have e26 : ∀ v, v < n → a 26 v = A 26 v := fr.2.2.2.1
        have e148 : b 148 d = A 41 d := by rw [fr.2.2.2.2.1 148 (by omega) (by omega) (by omega)]; exact fl.1.symm
        have q11 : ((if q4 = 0 then (ldI b 145 j).bind fun v9 => some v9 else (ldI b 147 (w32 (20 * d + j))).bind fun v10 => some v10 : Option (Int))) = some (one j) := by
          rw [w32_id (show -2147483648 ≤ 20 * d + j by omega) (by omega), ld145 _ _ (by omega) (by omega), ob, ld147 _ _ (by omega) (by omega), ob]
          rcases h2 with ⟨y, h2⟩ | ⟨y, h2⟩
          · rw [if_pos y, (post j (Int.le_refl _) (by omega)).2, (h2 j j0 (by omega)).1]
          · rw [if_neg (by omega), fr.2.2.2.2.1 147 (by omega) (by omega) (by omega), (h2 j j0 (by omega)).1]
        have q14 : ((if q4 = 0 then (ldI b 146 (w32 (20 * d + j))).bind fun v12 => some v12 else (ldI b 145 j).bind fun v13 => some v13 : Option (Int))) = some (two j) := by
          rw [w32_id (show -2147483648 ≤ 20 * d + j by omega) (by omega), ld145 _ _ (by omega) (by omega), ob, ld146 _ _ (by omega) (by omega), ob]
          rcases h2 with ⟨y, h2⟩ | ⟨y, h2⟩
          · rw [if_pos y, fr.2.2.2.2.1 146 (by omega) (by omega) (by omega), (h2 j j0 (by omega)).2]
          · rw [if_neg (by omega), (post j (Int.le_refl _) (by omega)).2, (h2 j j0 (by omega)).2]
        obtain ⟨x, A1, A', y, B1, g1, g2, g3, g4, g5, g6⟩ := mg_one (A := a) (B := b) (a := A 41 d) (b := one j) (c := two j) (p := A (t + 2) i) (ts := ts) (A0 := A) (B0 := B) vx f9 f8 j0 (by omega) m20 ⟨fl.2.1, by omega, by rw [e26 _ fl.2.2.1]; exact fl.2.2.2⟩ ⟨v3.1, by omega, by rw [e26 _ v3.2.1]; exact v3.2.2⟩ ⟨v4.1, by omega, by rw [e26 _ v4.2.1]; exact v4.2.2⟩ s0 s1 pre post
        have eA2 : A1 (t + 2) i = A (t + 2) i := by rw [g2 _ (by omega) (by omega), fr.1 _ (by omega) (by omega) (by omega) (by omega)]
        rw [if_pos f9, if_pos f8, e7, ld41 _ _ d0 d4, ob, ldA36 d0 d4, ob, ld20r (Or.inr (Or.inr bb)) j0 (by omega), ob, ld30 _ _ j0 (by omega), ob, e41, efs, e30, g1, ob]
        dsimp only
        rw [tl2 ht _ _ i0 i1, ob, eA2, g3, ob, q11, ob, q14, ob, w32_id (show -2147483648 ≤ 12 * (210 + i) + 11 by omega) (by omega), ld139 _ _ (by omega) (by omega), ob, e139, hB11, ld148 _ _ d0 d4, ob, e148, w32_id (show -2147483648 ≤ 12 * (210 + i) + 3 by omega) (by omega), ld139 _ _ (by omega) (by omega), ob, e139, hst, g4, ob]
        dsimp only
        rw [st145 _ _ _ j0 (by omega), ob, w32_id (show -2147483648 ≤ j + 1 by omega) (by omega)]
        obtain ⟨n2, k1, k2, k3⟩ := g6
        refine Or.inl ⟨_, _, rfl, rfl, ⟨rfl, by dsimp only; omega, by dsimp only; omega, ?_, n2, by omega, k2, k3⟩, by dsimp only; omega⟩
        dsimp only
        exact ⟨fun d h1 h2 h3 h4 => by rw [g5.1 d h1 h2 h3 h4]; exact fr.1 d h1 h2 h3 h4, fun k h1 => by rw [g5.2.1 k h1]; exact fr.2.1 k h1, fun f h1 => by rw [g5.2.2.1 f h1]; exact fr.2.2.1 f h1, fun v h1 => by rw [g5.2.2.2.1 v (by omega)]; exact fr.2.2.2.1 v h1, fun d h1 h2 h3 => by rw [g5.2.2.2.2.1 d h1 h2 h3]; exact fr.2.2.2.2.1 d h1 h2 h3, fun k h1 => by rw [g5.2.2.2.2.2.1 k h1]; exact fr.2.2.2.2.2.1 k h1, fun f h1 => by rw [g5.2.2.2.2.2.2 f h1]; exact fr.2.2.2.2.2.2 f h1⟩
      · rw [if_neg (by omega), if_neg (by omega)]
        exact Or.inr ⟨a, b, rfl, rfl, fr, n', nn, vx, Or.inr ⟨f9, f8⟩⟩
  · exact ⟨rfl, Int.le_refl _, m0, EFr_refl _ _ _, n, Int.le_refl _, hx, Or.inl ⟨a9, b8, fun s a b => by dsimp only at b; omega, fun _ _ _ => ⟨rfl, rfl⟩⟩⟩
