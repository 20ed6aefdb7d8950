/-! times, when, else -/
theorem WD_psh {A A' B B' : Mem} {t : Nat} {G : Nat → Int → Int → Int} {n n' nI i c : Int} {giv : Int → Int} (hS : WS A B t G c nI giv) (i0 : 0 ≤ i) (i1 : i < c) (h : WD A B t G n nI giv i) (hs : pshG G i) (g1 : G 1 (i + 1) 0 = G 1 i 0) (g4 : ∀ s, 0 ≤ s → s < G 1 i 0 → s < G 1 (i + 1) 0 → G 4 (i + 1) s = G 4 i s) (nn : n ≤ n') (vx : VX A' B' n' nI giv) (nm : NmV A' B' n' (G 1 i 0) (G 4 i)) (f : ∀ d, d = t ∨ d = t + 1 → A' d = A d) (f22 : A' 22 7 = G 0 i 0 + 1) (f26 : ∀ v, v < n → A' 26 v = A 26 v) (f4 : ∀ l, 0 ≤ l → l < G 0 i 0 → A' 41 l = A 41 l ∧ A' 42 l = A 42 l ∧ A' (bgB l) = A (bgB l) ∧ A' (fsB l) = A (fsB l) ∧ B' 148 l = B 148 l ∧ B' 149 l = B 149 l ∧ ∀ s, 0 ≤ s → s < 20 → B' 146 (20 * l + s) = B 146 (20 * l + s) ∧ B' 147 (20 * l + s) = B 147 (20 * l + s)) (top : OpW A' B' t n' G (i + 1) (G 0 i 0)) (sh : ShW A' B' n') (pt : ∀ k, 0 ≤ k → k < A t 16 → A' 29 k = B' 138 (704 + k) ∧ (A' 29 k = 0 ∨ A' 29 k = 1)) : WD A' B' t G n' nI giv (i + 1) := by
  obtain ⟨h1, h2, h3, h4, h5, h6, h7, h8⟩ := h
  have o := hS.2.1.2.1 i i0 (by omega)
  refine ⟨vx, fun s s0 s1 => ?_, fun l l0 l1 => ?_, fun k k0 k1 => ?_, sh, by rw [f22, hs.1], by omega, fun v v0 v1 => by rw [f26 v (by omega)]; exact h8 v v0 v1⟩
  · rw [g4 s s0 (by omega) s1]
    exact nm s s0 (by omega)
  · rw [hs.1] at l1
    by_cases e : l = G 0 i 0
    · rw [e]; exact top
    · have l1' : l < G 0 i 0 := by omega
      have ol := o.2.2.2 l l0 l1'
      have o2 := hS.2.1.2.1 (G 2 i l) ol.1.1 (by omega)
      obtain ⟨q1, q2, q3, q4, q5, q6, q7⟩ := f4 l l0 l1'
      have hh := hs.2.2.2 l l0 l1'
      exact OpW_fr (h3 l l0 l1') hh.1 (fun z => by rw [← hh.2]; exact z) (f _ (Or.inr rfl)) q1 q2 q3 q4 f26 nn q5 q6 (fun s a b => (q7 s a b).1) (fun s a b => (q7 s a b).2) o2.2.1.2
  · rw [f t (Or.inl rfl)] at k1
    exact pt k k0 k1
theorem WP_psh {A A' : Mem} {t : Nat} {G : Nat → Int → Int → Int} {i w st : Int} (hs : pshG G i) (o : 0 ≤ G 0 i 0) (e1 : A' (t + 1) = A (t + 1)) (e42 : ∀ l, 0 ≤ l → l < G 0 i 0 → A' 42 l = A 42 l) (h : st + sm (rW A t G i) (G 0 i 0).toNat ≤ 10 * (w - (if A (t + 1) i = 4 ∨ A (t + 1) i = 5 ∨ A (t + 1) i = 7 ∨ A (t + 1) i = 9 then 1 else 0)) + b0W G i) (hk : A (t + 1) i = 5 ∨ A (t + 1) i = 7) (h9 : A (t + 1) i = 7 → A' 42 (G 0 i 0) ≤ 9) : st + 1 + sm (rW A' t G (i + 1)) (G 0 (i + 1) 0).toNat ≤ 10 * w + b0W G (i + 1) := by
  have e : sm (rW A' t G (i + 1)) (G 0 i 0).toNat = sm (rW A t G i) (G 0 i 0).toNat := by
    apply sm_congr
    intro l l0 l1
    unfold rW
    rw [(hs.2.2.2 l l0 (by omega)).1, (hs.2.2.2 l l0 (by omega)).2, e1, e42 l l0 (by omega)]
  have top : rW A' t G (i + 1) (G 0 i 0) ≤ 9 := by
    unfold rW
    rw [hs.2.1, hs.2.2.1, e1]
    by_cases z : A (t + 1) i = 7
    · rw [if_pos z]; exact h9 z
    · rw [if_neg z, if_neg (by decide)]; decide
  have b : b0W G (i + 1) = b0W G i := by
    unfold b0W
    rw [hs.1, if_neg (by omega)]
    by_cases z : G 0 i 0 = 0
    · rw [if_pos z]
      have := hs.2.1
      rw [z] at this
      exact this
    · rw [if_neg z]; exact (hs.2.2.2 0 (Int.le_refl _) (by omega)).1
  rw [if_pos (by omega)] at h
  rw [hs.1, sm_s o, e, b]
  omega
set_option maxHeartbeats 4000000 in
set_option maxRecDepth 20000 in
theorem wk_times {A B : Mem} {t : Nat} {G : Nat → Int → Int → Int} {c nI n i w st : Int} {giv : Int → Int} (h : WI A B t G c nI giv n i w st) (hk : A (t + 1) i = 7) : ∃ A' B', ((ldI A (t + 9) i).bind fun v8 => (fX10_beginTimes v8 A).bind fun q9 => some (w32 (i + 1), q9)) = some (i + 1, A') ∧ ((ldI B 139 (w32 (12 * (210 + i) + 1))).bind fun v23 => (stI B 149 (B 139 (12 * (210 + i) + 11)) v23).bind fun M24 => some (w32 (i + 1), M24)) = some (i + 1, B') ∧ WRes A B t G c nI giv i w st (i + 1) A' B' := by
  obtain ⟨hS, ⟨i0, i1⟩, hD, a9, b8, w01, st0, hp⟩ := h
  have HP : Unit → _ := fun _ => hp
  clear hp
  have ht := hS.1
  have hL := hS.2.1
  have c200 := hS.2.2.2.1
  obtain ⟨lR, lT, lP⟩ := hL.1 i i0 i1
  obtain ⟨r1, r2, r3⟩ := lR.2.2.2.2.2.2.1 hk
  have r11 := lR.2.2.2.2.2.2.2.2
  rw [if_neg (by omega)] at r11
  obtain ⟨t1, hs⟩ := lT.2.2.2.2.2.2.1 hk
  have o0 := hL.2.1 i i0 (by omega)
  have o1 := hL.2.1 (i + 1) (by omega) (by omega)
  have d4 : G 0 i 0 < 4 := by have := o1.1.2; have := hs.1; omega
  have d0 := o0.1.1
  have e7 := hD.2.2.2.2.2.1
  unfold fX10_beginTimes
  rw [tl9 ht _ _ i0 (by omega), ob, e7, if_neg (by omega), st42 _ _ _ d0 d4, ob, pI_ok, ob, ob, ob, w32_id (show -2147483648 ≤ i + 1 by omega) (by omega), w32_id (show -2147483648 ≤ 12 * (210 + i) + 1 by omega) (by omega), ld139 _ _ (by omega) (by omega), ob, r1, r11, st149 _ _ _ d0 d4, ob]
  have q7 : wr A 42 (G 0 i 0) (A (t + 9) i) 22 7 = G 0 i 0 := by rw [wr_ne (by omega)]; exact e7
  rw [q7, w32_id (by omega) (by omega)]
  obtain ⟨A', hA'⟩ : ∃ A', A' = wr (wr A 42 (G 0 i 0) (A (t + 9) i)) 22 7 (G 0 i 0 + 1) := ⟨_, rfl⟩
  have z1 : ∀ d, d ≠ 22 → d ≠ 42 → A' d = A d := fun d a b => by rw [hA', wr_ne a, wr_ne b]
  have z42 : ∀ l, A' 42 l = if l = G 0 i 0 then A (t + 9) i else A 42 l := fun l => by rw [hA', wr_ne (by omega), wr_at]
  have z22 : ∀ k, A' 22 k = if k = 7 then G 0 i 0 + 1 else A 22 k := fun k => by rw [hA', wr_at, wr_ne (by omega)]
  rw [← hA']
  have bB : ∀ l, 0 ≤ l → l < 4 → bgB l ≠ 22 ∧ bgB l ≠ 42 ∧ fsB l ≠ 22 ∧ fsB l ≠ 42 := fun l a b => by unfold bgB fsB; omega
  refine ⟨_, _, rfl, rfl, ⟨fun d hd => z1 d (by omega) (by omega), fun d _ _ hd _ => wr_ne (by omega), fun k _ => by rw [wr_ne (by omega)], fun g _ => by rw [wr_ne (by omega)], by rw [z22, if_neg (by omega)]⟩, Or.inl ⟨by rw [z22, if_neg (by omega)]; exact a9, by rw [wr_ne (by omega)]; exact b8, by omega, by omega, ⟨n, ?_⟩, WP_psh hs d0 (z1 _ (by omega) (by omega)) (fun l _ l1 => by rw [z42, if_neg (by omega)]) (HP ()) (Or.inr hk) (fun _ => by rw [z42, if_pos rfl]; exact r3), ?_⟩⟩
  rotate_left
  · unfold NX nxL nxK
    refine ⟨by rw [if_neg (by omega)], by rw [if_neg (by omega), z1 23 (by omega) (by omega), Int.add_zero], fun l _ _ => ?_⟩
    rw [z42]
    by_cases e : l = G 0 i 0
    · rw [if_pos e, if_pos ⟨hk, e⟩]
    · rw [if_neg e, if_neg (fun z => e z.2), if_neg (fun z => by omega)]
  refine WD_psh hS i0 i1 hD hs t1 lT.2.1 (Int.le_refl _) (VX_cg hD.1 (by rw [z1 23 (by omega) (by omega)]) (z1 _ (by omega) (by omega)) (z1 _ (by omega) (by omega)) (z1 _ (by omega) (by omega)) (z1 _ (by omega) (by omega)) (fun g _ => by rw [wr_ne (by omega)])) (fun s s0 s1 => ?_) (fun d hd => z1 d (by omega) (by omega)) (by rw [z22, if_pos rfl]) (fun v _ => by rw [z1 26 (by omega) (by omega)]) (fun l l0 l1 => ?_) ?_ (ShW_fr hD.2.2.2.2.1 (by rw [z1 23 (by omega) (by omega)]) (z1 28 (by omega) (by omega)) (fun g _ _ => by rw [wr_ne (by omega)]) (Int.le_refl _)) (fun k k0 k1 => by rw [z1 29 (by omega) (by omega), wr_ne (by omega)]; exact hD.2.2.2.1 k k0 k1)
  · rw [z1 30 (by omega) (by omega), z1 26 (by omega) (by omega), wr_ne (by omega)]
    exact hD.2.1 s s0 s1
  · have q := bB l l0 (by omega)
    refine ⟨by rw [z1 41 (by omega) (by omega)], by rw [z42, if_neg (by omega)], z1 _ q.1 q.2.1, z1 _ q.2.2.1 q.2.2.2, by rw [wr_ne (by omega)], by rw [wr_at, if_neg (by omega)], fun s _ _ => by rw [wr_ne (by omega), wr_ne (by omega)]; exact ⟨rfl, rfl⟩⟩
  · unfold OpW
    rw [hs.2.1, z1 (t + 1) (by omega) (by omega), hk]
    exact ⟨fun z => by omega, fun _ => by rw [z42, if_pos rfl, wr_at, if_pos rfl]; exact ⟨rfl, by omega, by omega⟩⟩
theorem ior01 {a b : Int} (ha : a = 0 ∨ a = 1) (hb : b = 0 ∨ b = 1) : ior a b = if b = 1 then 1 else a := by
  rcases ha with rfl | rfl <;> rcases hb with rfl | rfl <;> decide
/-- the reference's piece for a when -/
noncomputable def mWhen (i v9 : Int) (B : Mem) : Option (Int × Mem) :=
                  (fX12_argValue (w32 (12 * (210 + i) + 5)) B).bind fun q27 =>
                  (stI q27.2 148 v9 q27.1).bind fun M28 =>
                  (ldI M28 148 v9).bind fun v29 =>
                  (fX12_isUniformRead v29 M28).bind fun q30 =>
                  (ldI q30.2 139 (w32 (12 * (210 + i) + 2))).bind fun v31 =>
                  (ldI q30.2 138 (w32 (704 + v31))).bind fun v32 =>
                  ((if q30.1 = 0 then
                      some 1
                    else
                      some 0 : Option (Int))).bind fun q33 =>
                  (stI q30.2 138 (w32 (704 + v31)) (ior v32 q33)).bind fun M34 =>
                  (fX12_moves 145 146 0 (w32 (20 * v9)) M34).bind fun q35 =>
                  some (w32 (i + 1), q35)
set_option maxHeartbeats 4000000 in
set_option maxRecDepth 20000 in
theorem m_when {A1 B B1 : Mem} {n nI i d y k : Int} {giv : Int → Int} (hx : VX A1 B1 n nI giv) (hg : ∀ i, 0 ≤ i → i < nI → giv i = B1 138 (422 + 3 * i + 2)) (i0 : 0 ≤ i) (i1 : i < 200) (d0 : 0 ≤ d) (d1 : d < 4) (y0 : 0 ≤ y) (y1 : y < n) (hv : fX12_argValue (12 * (210 + i) + 5) B = some (y, B1)) (hk : B1 139 (12 * (210 + i) + 2) = k) (k0 : 0 ≤ k) (k1 : k < 100) : ∃ B', mWhen i d B = some (i + 1, B') ∧ (∀ b, b ≠ 138 → b ≠ 146 → b ≠ 148 → b ≠ 156 → B' b = B1 b) ∧ (∀ f, B' 138 f = if f = 704 + k then ior (B1 138 (704 + k)) (if A1 27 y = 0 then 1 else 0) else B1 138 f) ∧ (∀ l, B' 148 l = if l = d then y else B1 148 l) ∧ (∀ s, 0 ≤ s → s < 20 → B' 146 (20 * d + s) = B1 145 s) ∧ ∀ z, z < 20 * d ∨ 20 * d + 20 ≤ z → B' 146 z = B1 146 z := by
  unfold mWhen
  rw [w32_id (show -2147483648 ≤ 12 * (210 + i) + 5 by omega) (by omega), hv, ob]
  dsimp only
  rw [st148 _ _ _ d0 d1, ob, ld148 _ _ d0 d1, ob]
  have e8 : wr B1 148 d y 148 d = y := by rw [wr_at, if_pos rfl]
  rw [e8]
  have vx' : VX A1 (wr B1 148 d y) n nI giv := VX_cg hx rfl rfl rfl rfl rfl (fun f _ => by rw [wr_ne (by omega)])
  obtain ⟨B2, u1, u2⟩ := m_uni vx' (fun i a b => by rw [wr_ne (by omega)]; exact hg i a b) y0 y1
  rw [u1, ob]
  dsimp only
  have b2 : ∀ b, b ≠ 148 → b ≠ 156 → B2 b = B1 b := fun b h1 h2 => by rw [u2 b h2, wr_ne h1]
  have e33 : ((if A1 27 y = 0 then some 1 else some 0 : Option Int)) = some (if A1 27 y = 0 then 1 else 0) := by split <;> rfl
  rw [w32_id (show -2147483648 ≤ 12 * (210 + i) + 2 by omega) (by omega), ld139 _ _ (by omega) (by omega), ob, b2 139 (by omega) (by omega), hk, w32_id (show -2147483648 ≤ 704 + k by omega) (by omega), ld138 _ _ (by omega) (by omega), ob, e33, ob, b2 138 (by omega) (by omega), st138 _ _ _ (by omega) (by omega), ob, w32_id (show -2147483648 ≤ 20 * d by omega) (by omega)]
  obtain ⟨B3, m1, m2, m3, m4⟩ := m_moves (B := wr B2 138 (704 + k) (ior (B1 138 (704 + k)) (if A1 27 y = 0 then 1 else 0))) (a := 145) (b := 146) (p := 0) (q := 20 * d) (by omega) (by omega) (by omega) (by omega) (by rw [if_pos rfl]; omega) (by omega) (by rw [if_neg (by omega)]; omega)
  rw [m1, ob, w32_id (show -2147483648 ≤ i + 1 by omega) (by omega)]
  refine ⟨B3, rfl, fun b h1 h2 h3 h4 => ?_, fun g => ?_, fun l => ?_, fun s s0 s1 => ?_, fun z hz => ?_⟩
  · rw [m2 b h2, wr_ne h1, b2 b h3 h4]
  · rw [m2 138 (by omega), wr_at, b2 138 (by omega) (by omega)]
  · rw [m2 148 (by omega), wr_ne (by omega), u2 148 (by omega), wr_at]
  · rw [m3 s s0 s1, wr_ne (by omega), b2 145 (by omega) (by omega), Int.zero_add]
  · rw [m4 z hz, wr_ne (by omega), b2 146 (by omega) (by omega)]
