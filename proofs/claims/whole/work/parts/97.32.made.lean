/-! the reference's values, and both together -/
def SmB (B : Mem) (k a b c w : Int) : Prop := B 138 (448 + 4 * w) = k ∧ B 138 (448 + 4 * w + 1) = a ∧ B 138 (448 + 4 * w + 2) = b ∧ B 138 (448 + 4 * w + 3) = c
def NewB (B B' : Mem) (n k a b c : Int) : Prop := (∀ d, d ≠ 138 → B' d = B d) ∧ ∀ f, B' 138 f = if f = 420 then n + 1 else if f = 448 + 4 * n then k else if f = 448 + 4 * n + 1 then a else if f = 448 + 4 * n + 2 then b else if f = 448 + 4 * n + 3 then c else B 138 f
set_option maxHeartbeats 4000000 in
set_option maxRecDepth 20000 in
theorem m_made1 {B : Mem} {n k a b c : Int} (n0 : 0 ≤ n) (n64 : n ≤ 64) : ∃ r, lp (fX12_made_b1 k a b c n) (0, B) = some r ∧ ((r = .inl B ∧ ∀ w, 0 ≤ w → w < n → ¬ SmB B k a b c w) ∨ ∃ x, r = .inr (x, B) ∧ 0 ≤ x ∧ x < n ∧ SmB B k a b c x ∧ ∀ w, 0 ≤ w → w < x → ¬ SmB B k a b c w) := by
  refine lp_ind (fun s : Int × Mem => 0 ≤ s.1 ∧ s.1 ≤ n ∧ s.2 = B ∧ ∀ w, 0 ≤ w → w < s.1 → ¬ SmB B k a b c w) (fun r : Mem ⊕ (Int × Mem) => (r = .inl B ∧ ∀ w, 0 ≤ w → w < n → ¬ SmB B k a b c w) ∨ ∃ x, r = .inr (x, B) ∧ 0 ≤ x ∧ x < n ∧ SmB B k a b c x ∧ ∀ w, 0 ≤ w → w < x → ¬ SmB B k a b c w) (fun s => (n - s.1).toNat) ?_ _ ?_
  · rintro ⟨s, q⟩ ⟨s0, s1, hq, hs⟩
    dsimp only at s0 s1 hq hs
    subst hq
    unfold fX12_made_b1 fX12_new1
    dsimp only
    by_cases z : n ≤ s
    · rw [if_pos z]
      exact Or.inr ⟨_, rfl, Or.inl ⟨rfl, fun w a b => hs w a (by omega)⟩⟩
    · have nx : ¬ SmB q k a b c s → ∃ s' : Int × Mem, (some (Sum.inl (w32 (s + 1), q)) : Option ((Int × Mem) ⊕ (Mem ⊕ (Int × Mem)))) = some (Sum.inl s') ∧ (0 ≤ s'.1 ∧ s'.1 ≤ n ∧ s'.2 = q ∧ ∀ w, 0 ≤ w → w < s'.1 → ¬ SmB q k a b c w) ∧ (n - s'.1).toNat < (n - s).toNat := fun hn => by
        rw [w32_id (by omega) (by omega)]
        refine ⟨_, rfl, ⟨by dsimp only; omega, by dsimp only; omega, rfl, fun w w0 w1 => ?_⟩, by dsimp only; omega⟩
        dsimp only at w1
        by_cases e : w = s
        · rw [e]; exact hn
        · exact hs w w0 (by omega)
      rw [if_neg z, ob]
      dsimp only
      rw [w32_id (show -2147483648 ≤ 4 * s by omega) (by omega), w32_id (show -2147483648 ≤ 448 + 4 * s by omega) (by omega), ld138 _ _ (by omega) (by omega), ob]
      by_cases e1 : q 138 (448 + 4 * s) = k
      · rw [if_pos e1, w32_id (show -2147483648 ≤ 448 + 4 * s + 1 by omega) (by omega), ld138 _ _ (by omega) (by omega), ob]
        by_cases e2 : q 138 (448 + 4 * s + 1) = a
        · rw [if_pos e2, w32_id (show -2147483648 ≤ 448 + 4 * s + 2 by omega) (by omega), ld138 _ _ (by omega) (by omega), ob]
          by_cases e3 : q 138 (448 + 4 * s + 2) = b
          · rw [if_pos e3, w32_id (show -2147483648 ≤ 448 + 4 * s + 3 by omega) (by omega), ld138 _ _ (by omega) (by omega), ob]
            by_cases e4 : q 138 (448 + 4 * s + 3) = c
            · rw [if_pos e4]
              exact Or.inr ⟨_, rfl, Or.inr ⟨s, rfl, s0, by omega, ⟨e1, e2, e3, e4⟩, hs⟩⟩
            · rw [if_neg e4]; exact Or.inl (nx (fun y => e4 y.2.2.2))
          · rw [if_neg e3]; exact Or.inl (nx (fun y => e3 y.2.2.1))
        · rw [if_neg e2]; exact Or.inl (nx (fun y => e2 y.2.1))
      · rw [if_neg e1]; exact Or.inl (nx (fun y => e1 y.1))
  · exact ⟨Int.le_refl _, n0, rfl, fun w a b => by dsimp only at b; omega⟩
theorem m_made3 {B : Mem} {n k a b c p : Int} (h0 : B 138 420 = n) {r : Mem ⊕ (Int × Mem)} (hf : lp (fX12_made_b1 k a b c n) (0, B) = some r) : fX12_made k a b c p B = Sum.elim (fun q8 => if n = 64 then (fX12_bad p q8).bind fun q16 => some (0, q16) else (fX12_new1 n q8).bind fun q9 => (stI q9.2 138 q9.1 k).bind fun M10 => (stI M10 138 (w32 (q9.1 + 1)) a).bind fun M11 => (stI M11 138 (w32 (q9.1 + 2)) b).bind fun M12 => (stI M12 138 (w32 (q9.1 + 3)) c).bind fun M13 => (ldI M13 138 420).bind fun v14 => (stI M13 138 420 (w32 (v14 + 1))).bind fun M15 => some (n, M15)) (fun r => some r) r := by
  unfold fX12_made
  rw [ld138 _ _ (by omega) (by omega), ob, h0, hf]
  rfl
theorem m_bad {B : Mem} {p : Int} (h8 : B 132 8 = 0) (p0 : 0 ≤ p) (p1 : p ≤ 1000) : fX12_bad p B = some (wr B 132 8 (5 + 16 * p)) := by
  unfold fX12_bad
  rw [if_pos h8, pI_ok, ob, ob, w32_id (show -2147483648 ≤ 16 * p by omega) (by omega), w32_id (by omega) (by omega)]
set_option maxHeartbeats 4000000 in
set_option maxRecDepth 20000 in
theorem m_made {B : Mem} {n k a b c p : Int} (h0 : B 138 420 = n) (n0 : 0 ≤ n) (n64 : n ≤ 64) (h8 : B 132 8 = 0) (p0 : 0 ≤ p) (p1 : p ≤ 1000) : ∃ y B', fX12_made k a b c p B = some (y, B') ∧ ((0 ≤ y ∧ y < n ∧ B' = B ∧ SmB B k a b c y ∧ ∀ w, 0 ≤ w → w < y → ¬ SmB B k a b c w) ∨ ((∀ w, 0 ≤ w → w < n → ¬ SmB B k a b c w) ∧ ((n < 64 ∧ y = n ∧ NewB B B' n k a b c) ∨ (n = 64 ∧ y = 0 ∧ B' = wr B 132 8 (5 + 16 * p))))) := by
  obtain ⟨r, f, hr⟩ := m_made1 (B := B) (k := k) (a := a) (b := b) (c := c) n0 n64
  rw [m_made3 h0 f]
  rcases hr with ⟨rfl, hr⟩ | ⟨x, rfl, x0, x1, x2, x3⟩
  · simp only [Sum.elim_inl]
    by_cases z : n = 64
    · rw [if_pos z, m_bad h8 p0 p1, ob]
      exact ⟨0, _, rfl, Or.inr ⟨hr, Or.inr ⟨z, rfl, rfl⟩⟩⟩
    · unfold fX12_new1
      rw [if_neg z, ob]
      dsimp only
      rw [w32_id (show -2147483648 ≤ 4 * n by omega) (by omega), w32_id (show -2147483648 ≤ 448 + 4 * n by omega) (by omega), st138 _ _ _ (by omega) (by omega), ob, w32_id (show -2147483648 ≤ 448 + 4 * n + 1 by omega) (by omega), st138 _ _ _ (by omega) (by omega), ob, w32_id (show -2147483648 ≤ 448 + 4 * n + 2 by omega) (by omega), st138 _ _ _ (by omega) (by omega), ob, w32_id (show -2147483648 ≤ 448 + 4 * n + 3 by omega) (by omega), st138 _ _ _ (by omega) (by omega), ob, ld138 _ _ (by omega) (by omega), ob]
      have e : wr (wr (wr (wr B 138 (448 + 4 * n) k) 138 (448 + 4 * n + 1) a) 138 (448 + 4 * n + 2) b) 138 (448 + 4 * n + 3) c 138 420 = n := by rw [wr_at, if_neg (by omega), wr_at, if_neg (by omega), wr_at, if_neg (by omega), wr_at, if_neg (by omega), h0]
      rw [e, w32_id (by omega) (by omega), st138 _ _ _ (by omega) (by omega), ob]
      refine ⟨n, _, rfl, Or.inr ⟨hr, Or.inl ⟨by omega, rfl, fun d hd => by rw [wr_ne hd, wr_ne hd, wr_ne hd, wr_ne hd, wr_ne hd], fun g => ?_⟩⟩⟩
      rw [wr_at]
      by_cases g0 : g = 420
      · rw [if_pos g0, if_pos g0]
      · rw [if_neg g0, if_neg g0, wr_at]
        by_cases g3 : g = 448 + 4 * n + 3
        · rw [if_pos g3, if_neg (by omega), if_neg (by omega), if_neg (by omega), if_pos g3]
        · rw [if_neg g3, wr_at]
          by_cases g2 : g = 448 + 4 * n + 2
          · rw [if_pos g2, if_neg (by omega), if_neg (by omega), if_pos g2]
          · rw [if_neg g2, wr_at]
            by_cases g1 : g = 448 + 4 * n + 1
            · rw [if_pos g1, if_neg (by omega), if_pos g1]
            · rw [if_neg g1, wr_at, if_neg g1, if_neg g2, if_neg g3]
  · simp only [Sum.elim_inr]
    exact ⟨x, B, rfl, Or.inl ⟨x0, x1, rfl, x2, x3⟩⟩
/-- the values of both -/
def VX (A B : Mem) (n nI : Int) (giv : Int → Int) : Prop := A 23 0 = n ∧ B 138 420 = n ∧ Val n (A 24) (A 25) (A 26) nI ∧ (∀ v, 0 ≤ v → v < n → B 138 (448 + 4 * v) = A 24 v ∧ B 138 (448 + 4 * v + 1) = A 25 (3 * v) ∧ B 138 (448 + 4 * v + 2) = A 25 (3 * v + 1) ∧ B 138 (448 + 4 * v + 3) = A 25 (3 * v + 2)) ∧ UnOK n (A 24) (A 25) giv (A 27)
/-- what working leaves alone -/
def WFr (A A' B B' : Mem) (n : Int) : Prop := (∀ d, d ≠ 22 → ¬ (23 ≤ d ∧ d ≤ 27) → d ≠ 43 → A' d = A d) ∧ (∀ k, k ≠ 9 → A' 22 k = A 22 k) ∧ (∀ f, f ≠ 0 → A' 23 f = A 23 f) ∧ (∀ v, v < n → A' 26 v = A 26 v) ∧ (∀ d, d ≠ 132 → d ≠ 138 → B' d = B d) ∧ (∀ k, k ≠ 8 → B' 132 k = B 132 k) ∧ ∀ f, f < 420 ∨ (420 < f ∧ f < 448) ∨ 704 ≤ f → B' 138 f = B 138 f
theorem WFr_refl (A B : Mem) (n : Int) : WFr A A B B n := ⟨fun _ _ _ _ => rfl, fun _ _ => rfl, fun _ _ => rfl, fun _ _ => rfl, fun _ _ _ => rfl, fun _ _ => rfl, fun _ _ => rfl⟩
theorem WFr_trans {A A' A'' B B' B'' : Mem} {n n' : Int} (h : WFr A A' B B' n) (h' : WFr A' A'' B' B'' n') (hn : n ≤ n') : WFr A A'' B B'' n := ⟨fun d a b c => by rw [h'.1 d a b c, h.1 d a b c], fun k a => by rw [h'.2.1 k a, h.2.1 k a], fun f a => by rw [h'.2.2.1 f a, h.2.2.1 f a], fun v a => by rw [h'.2.2.2.1 v (by omega), h.2.2.2.1 v a], fun d a b => by rw [h'.2.2.2.2.1 d a b, h.2.2.2.2.1 d a b], fun k a => by rw [h'.2.2.2.2.2.1 k a, h.2.2.2.2.2.1 k a], fun f a => by rw [h'.2.2.2.2.2.2 f a, h.2.2.2.2.2.2 f a]⟩
theorem WFr_43 {A B : Mem} {n i x : Int} : WFr A (wr A 43 i x) B B n := ⟨fun d _ _ c => wr_ne c, fun k _ => by rw [wr_ne (by omega)], fun f _ => by rw [wr_ne (by omega)], fun v _ => by rw [wr_ne (by omega)], fun _ _ _ => rfl, fun _ _ => rfl, fun _ _ => rfl⟩
theorem WFr_flt {A B : Mem} {n f g : Int} : WFr A (wr A 22 9 f) B (wr B 132 8 g) n := ⟨fun d a _ _ => wr_ne a, fun k a => by rw [wr_at, if_neg a], fun f _ => by rw [wr_ne (by omega)], fun v _ => by rw [wr_ne (by omega)], fun d a _ => wr_ne a, fun k a => by rw [wr_at, if_neg a], fun f _ => by rw [wr_ne (by omega)]⟩
theorem VX_cg {A A' B B' : Mem} {n nI : Int} {giv : Int → Int} (h : VX A B n nI giv) (e23 : A' 23 0 = A 23 0) (e24 : A' 24 = A 24) (e25 : A' 25 = A 25) (e26 : A' 26 = A 26) (e27 : A' 27 = A 27) (e : ∀ f, f = 420 ∨ (448 ≤ f ∧ f < 704) → B' 138 f = B 138 f) : VX A' B' n nI giv := by
  obtain ⟨h1, h2, h3, h4, h5⟩ := h
  have n64 := h3.2.1
  refine ⟨by rw [e23, h1], by rw [e _ (Or.inl rfl), h2], by rw [e24, e25, e26]; exact h3, fun v v0 v1 => ?_, by rw [e24, e25, e27]; exact h5⟩
  rw [e _ (by omega), e _ (by omega), e _ (by omega), e _ (by omega), e24, e25]
  exact h4 v v0 v1
set_option maxHeartbeats 4000000 in
set_option maxRecDepth 20000 in
theorem r_made {A B : Mem} {n nI k a b c p : Int} {giv : Int → Int} (h : VX A B n nI giv) (hk : NVok n nI (A 26) k a b c) (k1 : 1 ≤ k) (h8 : B 132 8 = 0) (p0 : 0 ≤ p) (p1 : p ≤ 1000) : ∃ x A' y B', fX9_single k a b c A = some (x, A') ∧ fX12_made k a b c p B = some (y, B') ∧ ((x = -1 ∧ A' = A ∧ y = 0 ∧ B' = wr B 132 8 (5 + 16 * p) ∧ n = 64) ∨ ∃ n', x = y ∧ 0 ≤ x ∧ x < n' ∧ n ≤ n' ∧ VX A' B' n' nI giv ∧ WFr A A' B B' n ∧ A' 22 = A 22 ∧ B' 132 = B 132 ∧ A' 43 = A 43 ∧ A' 26 x = if k = 13 then A 26 b else tmF k) := by
  obtain ⟨h1, h2, h3, h4, h5⟩ := id h
  have n0 := h3.1
  have n64 := h3.2.1
  obtain ⟨x, A', f, hx⟩ := c_single (nI := nI) (k := k) (a := a) (b := b) (c := c) h1 n0 n64 (fun v v0 v1 => F_01 h3 v0 v1) hk
  obtain ⟨y, B', g, hy⟩ := m_made (k := k) (a := a) (b := b) (c := c) h2 n0 n64 h8 p0 p1
  have sm : ∀ w, 0 ≤ w → w < n → (SmV A k a b c w ↔ SmB B k a b c w) := fun w w0 w1 => by
    unfold SmV SmB
    obtain ⟨u1, u2, u3, u4⟩ := h4 w w0 w1
    rw [u1, u2, u3, u4]
  refine ⟨x, A', y, B', f, g, ?_⟩
  rcases hx with ⟨x0, x1, xA, xs, xm⟩ | ⟨xn, hx⟩
  · rcases hy with ⟨y0, y1, yB, ys, ym⟩ | ⟨yn, hy⟩
    · have : x = y := by
        rcases Int.lt_trichotomy x y with z | z | z
        · exact absurd ((sm x x0 x1).mp xs) (ym x x0 z)
        · exact z
        · exact absurd ((sm y y0 y1).mpr ys) (xm y y0 z)
      subst xA
      subst yB
      refine Or.inr ⟨n, this, x0, x1, Int.le_refl _, h, WFr_refl _ _ _, rfl, rfl, rfl, ?_⟩
      have := (h3.2.2.2.2 x x0 x1).2.2.2.2.2.2.2.2.2.1
      rw [xs.1, xs.2.2.1] at this
      rw [this]; rfl
    · exact absurd ((sm x x0 x1).mp xs) (yn x x0 x1)
  · rcases hy with ⟨y0, y1, yB, ys, ym⟩ | ⟨yn, hy⟩
    · exact absurd ((sm y y0 y1).mpr ys) (xn y y0 y1)
    · rcases hx with ⟨nl, xe, nA⟩ | ⟨ne, xe, xA⟩
      · rcases hy with ⟨-, ye, nB⟩ | ⟨ne, -⟩
        · right
          obtain ⟨v1, v2, v3, v4, v5, v6, v7⟩ := nA
          obtain ⟨w1, w2⟩ := nB
          refine ⟨n + 1, by omega, by omega, by omega, by omega, ⟨v2, by rw [w2, if_pos rfl], Val_ext h3 nl hk v4 v5 v6, fun v a0 a1 => ?_, Un_ext h3 hk v4 v5 h5 (fun v hv => by rw [v7, if_neg (by omega)]) ⟨fun _ => by rw [v7, if_pos rfl], fun z => by omega⟩⟩, ⟨fun d _ b _ => v1 d (by omega) (by omega) (by omega) (by omega) (by omega), fun k _ => by rw [v1 22 (by omega) (by omega) (by omega) (by omega) (by omega)], v3, fun v hv => by rw [v6, if_neg (by omega)], fun d _ b => w1 d b, fun k _ => by rw [w1 132 (by omega)], fun f hf => by rw [w2, if_neg (by omega), if_neg (by omega), if_neg (by omega), if_neg (by omega), if_neg (by omega)]⟩, v1 22 (by omega) (by omega) (by omega) (by omega) (by omega), w1 132 (by omega), v1 43 (by omega) (by omega) (by omega) (by omega) (by omega), by rw [xe, v6, if_pos rfl]⟩
          have e0 := w2 (448 + 4 * v)
          have e1 := w2 (448 + 4 * v + 1)
          have e2 := w2 (448 + 4 * v + 2)
          have e3 := w2 (448 + 4 * v + 3)
          have k0 := v4 v
          have k1 := v5 (3 * v)
          have k2 := v5 (3 * v + 1)
          have k3 := v5 (3 * v + 2)
          by_cases e : v = n
          · rw [if_neg (by omega), if_pos (by omega)] at e0
            rw [if_neg (by omega), if_neg (by omega), if_pos (by omega)] at e1
            rw [if_neg (by omega), if_neg (by omega), if_neg (by omega), if_pos (by omega)] at e2
            rw [if_neg (by omega), if_neg (by omega), if_neg (by omega), if_neg (by omega), if_pos (by omega)] at e3
            rw [if_pos e] at k0
            rw [if_pos (by omega)] at k1
            rw [if_neg (by omega), if_pos (by omega)] at k2
            rw [if_neg (by omega), if_neg (by omega), if_pos (by omega)] at k3
            rw [e0, e1, e2, e3, k0, k1, k2, k3]
            exact ⟨rfl, rfl, rfl, rfl⟩
          · rw [if_neg (by omega), if_neg (by omega), if_neg (by omega), if_neg (by omega), if_neg (by omega)] at e0
            rw [if_neg (by omega), if_neg (by omega), if_neg (by omega), if_neg (by omega), if_neg (by omega)] at e1
            rw [if_neg (by omega), if_neg (by omega), if_neg (by omega), if_neg (by omega), if_neg (by omega)] at e2
            rw [if_neg (by omega), if_neg (by omega), if_neg (by omega), if_neg (by omega), if_neg (by omega)] at e3
            rw [if_neg e] at k0
            rw [if_neg (by omega), if_neg (by omega), if_neg (by omega)] at k1
            rw [if_neg (by omega), if_neg (by omega), if_neg (by omega)] at k2
            rw [if_neg (by omega), if_neg (by omega), if_neg (by omega)] at k3
            rw [e0, e1, e2, e3, k0, k1, k2, k3]
            exact h4 v a0 (by omega)
        · omega
      · rcases hy with ⟨nl, -⟩ | ⟨-, ye, yB⟩
        · omega
        · exact Or.inl ⟨xe, xA, ye, yB, ne⟩
/-- a fault of working -/
theorem c_many {A : Mem} {p : Int} (h9 : A 22 9 = 0) (p0 : 0 ≤ p) (p1 : p ≤ 1000) : fX10_tooMany p A = some (wr A 22 9 (5 + 16 * p)) := by
  unfold fX10_tooMany
  rw [if_pos h9, pI_ok, ob, ob, w32_id (show -2147483648 ≤ 16 * p by omega) (by omega), w32_id (by omega) (by omega)]
/-- what comes of a value that both look for -/
def WR (A B A' B' : Mem) (n nI : Int) (giv : Int → Int) (x y : Int) : Prop := ∃ n', n ≤ n' ∧ VX A' B' n' nI giv ∧ WFr A A' B B' n ∧ ((A' 22 9 = 0 ∧ B' 132 8 = 0 ∧ x = y ∧ 0 ≤ x ∧ x < n') ∨ (∃ f, 0 < f ∧ A' 22 9 = f ∧ B' 132 8 = f ∧ y = 0 ∧ x = -1 ∧ 0 < n'))
/-- a value made, or a fault of both -/
theorem r_madeF {A B : Mem} {n nI k a b c p : Int} {giv : Int → Int} (h : VX A B n nI giv) (hk : NVok n nI (A 26) k a b c) (k1 : 1 ≤ k) (h9 : A 22 9 = 0) (h8 : B 132 8 = 0) (p0 : 0 ≤ p) (p1 : p ≤ 1000) : ∃ x A1 A' y B', fX9_single k a b c A = some (x, A1) ∧ (x = -1 → fX10_tooMany p A1 = some A') ∧ (x ≠ -1 → A' = A1) ∧ fX12_made k a b c p B = some (y, B') ∧ WR A B A' B' n nI giv x y ∧ (A' 22 9 = 0 → A' 26 x = if k = 13 then A 26 b else tmF k) ∧ (x = -1 → A' 22 9 ≠ 0) ∧ A' 43 = A 43 := by
  obtain ⟨x, A1, y, B', f, g, hx⟩ := r_made h hk k1 h8 p0 p1
  rcases hx with ⟨xe, xA, ye, yB, ne⟩ | ⟨n', xy, x0, x1, nn, vx, wf, e22, e132, e43, ty⟩
  · subst xA
    have e9 : wr A1 22 9 (5 + 16 * p) 22 9 = 5 + 16 * p := by rw [wr_at, if_pos rfl]
    refine ⟨x, A1, wr A1 22 9 (5 + 16 * p), y, B', f, fun _ => c_many h9 p0 p1, fun z => absurd xe z, g, ⟨n, Int.le_refl _, ?_, by rw [yB]; exact WFr_flt, Or.inr ⟨5 + 16 * p, by omega, e9, by rw [yB, wr_at, if_pos rfl], ye, xe, by omega⟩⟩, fun z => by omega, fun _ => by omega, wr_ne (by omega)⟩
    exact VX_cg h (by rw [wr_ne (by omega)]) (wr_ne (by omega)) (wr_ne (by omega)) (wr_ne (by omega)) (wr_ne (by omega)) (fun f _ => by rw [yB, wr_ne (by omega)])
  · exact ⟨x, A1, A1, y, B', f, fun z => by omega, fun _ => rfl, g, ⟨n', nn, vx, wf, Or.inl ⟨by rw [e22]; exact h9, by rw [e132]; exact h8, xy, x0, x1⟩⟩, fun _ => ty, fun z => by omega, e43⟩
