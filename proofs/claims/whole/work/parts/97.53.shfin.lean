/-! what holds behind a shader that is taken -/
set_option maxHeartbeats 4000000 in
set_option maxRecDepth 20000 in
theorem sh_fin {M A1 A2 A6 Bp B2 B5 R D : Mem} {t u : Nat} {T : Int → Int} {n N c n' n0 nI0 nS0 : Int} {G : Nat → Int → Int → Int} (hQ : InvQ M t n0 nI0 nS0) (hu : u = 5 ∨ u = 119) (hP : PC A1 Bp u T n N G c) (g0 : G 0 c 0 = 0) (c200 : c ≤ 200) (a17 : A1 u 17 = G 1 c 0) (b417 : Bp 138 417 = G 1 c 0) (w100 : A1 u 16 ≤ 100) (hF : WkF (wr A1 1 2 0) A2 Bp B2) (hD : WD A2 B2 u G n' (A1 u 10) (fun i => Bp 138 (422 + 3 * i + 2)) c) (tr : TrF A2 u G c (A2 23 5))
    (k1 : ∀ b, b ≠ 0 → b ≠ 4 → ¬ (44 ≤ b ∧ b ≤ 50) → b ≠ 52 → b ≠ 53 → b ≠ 54 → b < 63 ∨ 87 < b → A6 b = A2 b) (k2 : ∀ k, k ≠ 13 → k ≠ 15 → A6 0 k = M 0 k) (k3 : A6 0 13 = u) (k6 : A6 44 0 = n') (k7 : A6 44 5 = A2 23 5) (k8 : ∀ v, 0 ≤ v → v < n' → A6 45 v = A2 24 v ∧ A6 47 v = A2 26 v ∧ A6 48 v = A2 27 v) (k9 : ∀ y, 0 ≤ y → y < 3 * n' → A6 46 y = A2 25 y) (k10 : ∀ k, 0 ≤ k → k < 8 → A6 49 k = A2 28 k) (k11 : ∀ k, 0 ≤ k → k < A1 u 16 → A6 50 k = A2 29 k) (k12 : ∀ i, 0 ≤ i → i < A1 u 10 → A6 52 i = A1 (u + 11) i ∧ A6 53 i = A1 (u + 12) i ∧ ∀ l, 0 ≤ l → l < 4 → A6 54 (4 * i + l) = A1 (u + 11) i) (k13 : Cch A6 u n' (A2 23 5) D)
    (b1 : ∀ k, 0 ≤ k → k < 412 → B5 138 k = B2 138 (412 + k)) (b2 : ∀ k, 0 ≤ k → k < 12 * c → B5 139 k = B2 139 (2520 + k)) (b3 : ∀ i, 0 ≤ i → i < A1 u 10 → B5 150 (2 * i) = B5 138 (10 + 3 * i) ∧ B5 150 (2 * i + 1) = B5 138 (10 + 3 * i + 1) ∧ ∀ l, 0 ≤ l → l < 4 → B5 151 (4 * i + l) = B5 138 (10 + 3 * i)) (b28 : B5 132 28 = M 132 28) (b22 : B5 132 2 = 0) (b152 : B5 152 = M 152) (a55 : A6 55 = M 55) (a12 : A6 1 2 = 0) (R1 : ∀ b, b < 132 → R b = A6 b) (R2 : ∀ b, 132 ≤ b → R b = B5 b) : InvQ R u n' (A1 u 10) (A2 23 5) ∧ Cch R u n' (A2 23 5) D ∧ Wlk R u G c := by
  obtain ⟨p1, p2, p3, p4, p5, p6, p7, p8, p9, p10, p11, p12, p13, p14, p15, p16⟩ := hP
  obtain ⟨hvx, hnm, hop, hpt, hsh, h7, hni, h26⟩ := hD
  have n64 := hvx.2.2.1.2.1
  have a2 : ∀ d, ¬ (22 ≤ d ∧ d ≤ 43) → d ≠ 1 → A2 d = A1 d := fun d h1 h2 => by rw [hF.1 d h1, wr_ne h2]
  have tu : ∀ k, k ≤ 12 → R (u + k) = A1 (u + k) := fun k hk => by rw [R1 _ (by omega), k1 _ (by omega) (by omega) (by omega) (by omega) (by omega) (by omega) (by omega), a2 _ (by omega) (by omega)]
  have t0 : R u = A1 u := tu 0 (by omega)
  have w8 : ∀ k, 0 ≤ k → k < 412 → R 138 k = B2 138 (412 + k) := fun k x y => by rw [R2 138 (by omega)]; exact b1 k x y
  have w8' : ∀ k, 0 ≤ k → k < 28 → k ≠ 8 → k ≠ 9 → R 138 k = Bp 138 (412 + k) := fun k x y z1 z2 => by rw [w8 k x (by omega)]; exact hF.2.2.2 _ (by omega)
  have hV : Val n' (R 45) (R 46) (R 47) (A1 u 10) := Val_cg hvx.2.2.1 (fun v x y => by rw [R1 45 (by omega)]; exact (k8 v x y).1) (fun y x z => by rw [R1 46 (by omega)]; exact k9 y x z) (fun v x y => by rw [R1 47 (by omega)]; exact (k8 v x y).2.1)
  refine ⟨?_, ?_, ?_⟩
  · refine ⟨hu, by rw [R1 0 (by omega)]; exact k3, by rw [R1 44 (by omega)]; exact k6, hV, ⟨?_, fun v v0 v1 => ?_⟩, by rw [R1 44 (by omega)]; exact k7, ⟨?_, fun i i0 i1 => ?_⟩, ⟨hsh.2.1, hsh.2.2.1, fun i i0 i1 => ?_⟩, fun i i0 i1 => ?_, ⟨by rw [t0], ?_⟩, fun i i0 i1 => ?_, ?_, ?_, ?_, ?_, ?_, ?_, fun k k0 k1' => ?_, ?_, fun i i0 i1 => ?_⟩
    · rw [w8 8 (by omega) (by omega)]; exact hvx.2.1
    · have q := hvx.2.2.2.1 v v0 v1
      have q8 := k8 v v0 v1
      rw [w8 (36 + 4 * v) (by omega) (by omega), w8 (36 + 4 * v + 1) (by omega) (by omega), w8 (36 + 4 * v + 1 + 1) (by omega) (by omega), w8 (36 + 4 * v + 1 + 2) (by omega) (by omega), R1 45 (by omega), R1 46 (by omega), q8.1, k9 _ (by omega) (by omega), k9 _ (by omega) (by omega), k9 _ (by omega) (by omega), show 412 + (36 + 4 * v) = 448 + 4 * v by omega, show 412 + (36 + 4 * v + 1) = 448 + 4 * v + 1 by omega, show 412 + (36 + 4 * v + 1 + 1) = 448 + 4 * v + 2 by omega, show 412 + (36 + 4 * v + 1 + 2) = 448 + 4 * v + 3 by omega]
      exact q
    · rw [w8 9 (by omega) (by omega)]; exact hsh.1.symm
    · have := hsh.2.2.1
      rw [w8 _ (by omega) (by omega), R1 49 (by omega), k10 i i0 (by omega), show 412 + (28 + i) = 440 + i by omega]
      exact (hsh.2.2.2 i i0 i1).1.symm
    · have := hsh.2.2.1
      rw [R1 49 (by omega), k10 i i0 (by omega)]
      exact (hsh.2.2.2 i i0 i1).2
    · have q := p13 i i0 i1
      have y := k12 i i0 i1
      rw [R1 52 (by omega), R1 53 (by omega), y.1, y.2.1]
      exact ⟨q.2.2.2.2.1, q.2.2.2.2.2.1, q.2.2.2.2.2.2⟩
    · rw [w8' 1 (by omega) (by omega) (by omega) (by omega)]; exact p5.1.symm
    · have q := p13 i i0 i1
      have y := k12 i i0 i1
      have z := b3 i i0 i1
      have i6 := p5.2.2
      rw [← R2 138 (by omega), ← R2 150 (by omega), ← R2 151 (by omega)] at z
      have e0 : R 138 (10 + 3 * i) = A1 (u + 11) i := by rw [w8' _ (by omega) (by omega) (by omega) (by omega), q.2.2.1, show 412 + (10 + 3 * i) = 422 + 3 * i by omega]
      have e1 : R 138 (10 + 3 * i + 1) = A1 (u + 12) i := by rw [w8' _ (by omega) (by omega) (by omega) (by omega), q.2.2.2.1, show 412 + (10 + 3 * i + 1) = 422 + 3 * i + 1 by omega]
      have e2 : R 138 (10 + 3 * i + 2) = A1 (u + 10) i := by rw [w8' _ (by omega) (by omega) (by omega) (by omega), q.1, show 412 + (10 + 3 * i + 2) = 422 + 3 * i + 2 by omega]
      rw [z.1, z.2.1, e0, e1, e2, R1 52 (by omega), R1 53 (by omega), R1 54 (by omega), y.1, y.2.1, tu 10 (by omega)]
      refine ⟨rfl, rfl, rfl, q.2.1, fun l l0 l1 => ?_⟩
      rw [z.2.2 l l0 l1, y.2.2 l l0 l1, e0]
      exact ⟨rfl, q.2.2.2.2.1, by have := q.2.2.2.2.2.1; have := q.2.2.2.2.2.2; omega⟩
    · have i6 := p5.2.2
      exact UnOK_cg hvx.2.2.2.2 hvx.2.2.1 (fun v x y => by rw [R1 45 (by omega)]; exact (k8 v x y).1) (fun y x z => by rw [R1 46 (by omega)]; exact k9 y x z) (fun v x y => by rw [R1 48 (by omega)]; exact (k8 v x y).2.2) (fun i x y => by
        rw [w8' _ (by omega) (by omega) (by omega) (by omega), show 412 + (10 + 3 * i + 2) = 422 + 3 * i + 2 by omega])
    · have q := hQ.2.2.2.2.2.2.2.2.2.2.2.2.1
      rw [R1 0 (by omega), k2 14 (by omega) (by omega), R2 132 (by omega), b28]
      exact q
    · rw [t0, w8' 3 (by omega) (by omega) (by omega) (by omega)]; exact p7
    · rw [t0, w8' 4 (by omega) (by omega) (by omega) (by omega)]; exact p8
    · rw [t0, w8' 5 (by omega) (by omega) (by omega) (by omega), a17]; exact b417.symm
    · rw [t0, w8' 2 (by omega) (by omega) (by omega) (by omega)]; exact ⟨p6.1, p6.2.1, w100⟩
    · rw [t0] at k1'
      have q := hpt k k0 (by rw [a2 u (by omega) (by omega)]; exact k1')
      rw [R1 50 (by omega), k11 k k0 k1', w8 _ (by omega) (by omega), show 412 + (292 + k) = 704 + k by omega]
      exact q
    · rw [R1 1 (by omega), R2 132 (by omega), a12, b22]
    · rw [R1 55 (by omega), R2 152 (by omega), a55, b152]
      exact hQ.2.2.2.2.2.2.2.2.2.2.2.2.2.2.2.2.2.2.2 i i0 i1
  · exact Cch_cls hu k13 (fun b hb => R1 b (by omega))
  · refine ⟨LnS_off p16 (tu 1 (by omega)) (tu 2 (by omega)) (tu 3 (by omega)) (tu 4 (by omega)) (tu 5 (by omega)) (tu 6 (by omega)) (tu 7 (by omega)) (tu 8 (by omega)) (tu 9 (by omega)) (by rw [t0]) (by rw [t0]) (fun i k i0 i1 q0 q1 => ?_), p4.2.2, c200, g0, by rw [t0]; exact p4.1, ?_, ?_⟩
    · rw [R2 139 (by omega), b2 _ (by omega) (by omega), hF.2.1 139 (by omega) (by omega) (by omega) (by omega), show 2520 + (12 * (0 + i) + k) = 12 * (210 + i) + k by omega]
    · rw [w8' 0 (by omega) (by omega) (by omega) (by omega)]; exact p4.2.1
    · rw [R1 44 (by omega), k7]
      exact TrF_cg tr (by rw [tu 1 (by omega), a2 _ (by omega) (by omega)]) (by rw [tu 9 (by omega), a2 _ (by omega) (by omega)])
