/-! a shader that is taken -/
theorem nz01 {x : Int} : x = 0 ∨ x = 1 → nz x = 0 ∨ nz x = 1 := fun h => by rw [nz_ok h]; exact h
theorem UnOK_01 {n : Int} {mk ag giv U : Int → Int} (h : UnOK n mk ag giv U) {v : Int} (h0 : 0 ≤ v) (h1 : v < n) : U v = 0 ∨ U v = 1 := by
  rw [h v h0 h1]
  unfold uF
  split
  · split <;> omega
  · split
    · omega
    · exact u1_01 _ _ _
def Wlk (M : Mem) (t : Nat) (G : Nat → Int → Int → Int) (c : Int) : Prop := LnS M M t 0 G c ∧ 0 ≤ c ∧ c ≤ 200 ∧ G 0 c 0 = 0 ∧ M t 0 = c ∧ M 138 0 = c ∧ TrF M t G c (M 44 5)
noncomputable def cTail (M : Mem) : Option Mem :=
      (gm M 0 13).bind fun t6 =>
      (gm M 4 1).bind fun t7 =>
      (pI M 0 13 (t7 : Int)).bind fun M8 =>
      (pI M8 4 1 (t6 : Int)).bind fun M9 =>
      (fX9_copyFrom M9).bind fun q10 =>
      (gm q10 0 13).bind fun t11 =>
      (fX0_start t11 q10).bind fun q12 =>
      (fX11_refresh q12).bind fun q13 =>
      some q13
set_option maxHeartbeats 4000000 in
set_option maxRecDepth 20000 in
theorem sh_cls {M A1 A2 Bp B2 : Mem} {t u : Nat} {T G1 : Int → Int} {n N c n' : Int} {G : Nat → Int → Int → Int} (ht : t = 5 ∨ t = 119) (hu : u = 5 ∨ u = 119) (ut : u ≠ t) (h13 : M 0 13 = t) (h41 : M 4 1 = u) (cf : CFr u M A1) (hP : PC A1 Bp u T n N G c) (hF : WkF (wr A1 1 2 0) A2 Bp B2) (hD : WD A2 B2 u G n' (A1 u 10) G1 c) (w100 : A1 u 16 ≤ 100) : ∃ A6 D, cTail A2 = some A6 ∧ (∀ b, b ≠ 0 → b ≠ 4 → ¬ (44 ≤ b ∧ b ≤ 50) → b ≠ 52 → b ≠ 53 → b ≠ 54 → b < 63 ∨ 87 < b → A6 b = A2 b) ∧ (∀ k, k ≠ 13 → k ≠ 15 → A6 0 k = M 0 k) ∧ A6 0 13 = u ∧ A6 0 15 = -2 ∧ A6 4 1 = t ∧ A6 44 0 = n' ∧ A6 44 5 = A2 23 5 ∧ (∀ v, 0 ≤ v → v < n' → A6 45 v = A2 24 v ∧ A6 47 v = A2 26 v ∧ A6 48 v = A2 27 v) ∧ (∀ y, 0 ≤ y → y < 3 * n' → A6 46 y = A2 25 y) ∧ (∀ k, 0 ≤ k → k < 8 → A6 49 k = A2 28 k) ∧ (∀ k, 0 ≤ k → k < A1 u 16 → A6 50 k = A2 29 k) ∧ (∀ i, 0 ≤ i → i < A1 u 10 → A6 52 i = A1 (u + 11) i ∧ A6 53 i = A1 (u + 12) i ∧ ∀ l, 0 ≤ l → l < 4 → A6 54 (4 * i + l) = A1 (u + 11) i) ∧ Cch A6 u n' (A2 23 5) D := by
  obtain ⟨p1, p2, p3, p4, p5, p6, p7, p8, p9, p10, p11, p12, p13, p14, p15, p16⟩ := hP
  have a2 : ∀ d, ¬ (22 ≤ d ∧ d ≤ 43) → d ≠ 1 → A2 d = A1 d := fun d h1 h2 => by rw [hF.1 d h1, wr_ne h2]
  have e013 : A2 0 13 = t := by rw [a2 0 (by omega) (by omega), cf.1 0 (by omega) (by omega) (by omega) (by omega)]; exact h13
  have e41 : A2 4 1 = u := by rw [a2 4 (by omega) (by omega), cf.2.2]; exact h41
  obtain ⟨A3, hA3⟩ : ∃ A3, A3 = wr (wr A2 0 13 (u : Int)) 4 1 (t : Int) := ⟨_, rfl⟩
  have z3 : ∀ d, d ≠ 0 → d ≠ 4 → A3 d = A2 d := fun d h1 h2 => by rw [hA3, wr_ne h2, wr_ne h1]
  have z30 : ∀ k, A3 0 k = if k = 13 then (u : Int) else A2 0 k := fun k => by rw [hA3, wr_ne (by omega), wr_at]
  have z34 : A3 4 1 = t := by rw [hA3, wr_at, if_pos rfl]
  obtain ⟨A4, c1, c2, c3, c4, c5, c6, c7, c8⟩ := c_cpF (A := A3)
  have g13 : A4 0 13 = u := by rw [c2 0 (by omega), z30, if_pos rfl]
  have t4 : ∀ k, k ≤ 12 → A4 (u + k) = A1 (u + k) := fun k hk => by rw [c2 _ (by omega), z3 _ (by omega) (by omega), a2 _ (by omega) (by omega)]
  have t40 : A4 u = A1 u := t4 0 (by omega)
  obtain ⟨A5, d1, d2, d3⟩ := c_bn (A := A4) (t := u) (nI := A1 u 10) hu (by rw [t40]) p5.2.1 p5.2.2
  obtain ⟨hvx, hnm, hop, hpt, hsh, h7, hni, h26⟩ := hD
  have n64 := hvx.2.2.1.2.1
  have m5 : ∀ v, 0 ≤ v → v < n' → A5 45 v = A2 24 v ∧ A5 47 v = A2 26 v ∧ A5 48 v = A2 27 v := fun v v0 v1 => by
    have q := c5 v v0 (by omega)
    rw [z3 24 (by omega) (by omega), z3 26 (by omega) (by omega), z3 27 (by omega) (by omega), nz_ok (F_01 hvx.2.2.1 v0 v1), nz_ok (UnOK_01 hvx.2.2.2.2 v0 v1)] at q
    rw [d2 45 (by omega) (by omega) (by omega), d2 47 (by omega) (by omega) (by omega), d2 48 (by omega) (by omega) (by omega)]
    exact q
  have m6 : ∀ y, 0 ≤ y → y < 3 * n' → A5 46 y = A2 25 y := fun y y0 y1 => by rw [d2 46 (by omega) (by omega) (by omega), c6 y y0 (by omega), z3 25 (by omega) (by omega)]
  have m9 : ∀ k, 0 ≤ k → k < 8 → A5 49 k = A2 28 k := fun k k0 k1 => by rw [d2 49 (by omega) (by omega) (by omega), c7 k k0 k1, z3 28 (by omega) (by omega)]
  have hV5 : Val n' (A5 45) (A5 46) (A5 47) (A1 u 10) := Val_cg hvx.2.2.1 (fun v a b => (m5 v a b).1) m6 (fun v a b => (m5 v a b).2.1)
  have m52 : ∀ i, 0 ≤ i → i < A1 u 10 → A5 52 i = A1 (u + 11) i ∧ A5 53 i = A1 (u + 12) i ∧ ∀ l, 0 ≤ l → l < 4 → A5 54 (4 * i + l) = A1 (u + 11) i := fun i i0 i1 => by
    have q := d3 i i0 i1
    rw [t4 11 (by omega), t4 12 (by omega)] at q
    exact q
  have hI5 : In9 (A1 u 10) (A5 52) (A5 53) := fun i i0 i1 => by
    have q := p13 i i0 i1
    rw [(m52 i i0 i1).1, (m52 i i0 i1).2.1]
    exact ⟨q.2.2.2.2.1, q.2.2.2.2.2.1, q.2.2.2.2.2.2⟩
  have e5u : A5 u = A1 u := by rw [d2 u (by omega) (by omega) (by omega), t40]
  have hs5 : ShOK n' (A2 23 5) (A5 49) := ⟨hsh.2.1, hsh.2.2.1, fun i i0 i1 => by rw [m9 i i0 (by have := hsh.2.2.1; omega)]; exact (hsh.2.2.2 i i0 i1).2⟩
  have e440 : A5 44 0 = n' := by rw [d2 44 (by omega) (by omega) (by omega), c3, z3 23 (by omega) (by omega)]; exact hvx.1
  have e445 : A5 44 5 = A2 23 5 := by rw [d2 44 (by omega) (by omega) (by omega), c4, z3 23 (by omega) (by omega)]
  obtain ⟨A6, D, f1, f2, f3, f4, f5⟩ := c_refresh (M := A5) (t := u) (n := n') (nI := A1 u 10) (nS := A2 23 5) hu (by rw [d2 0 (by omega) (by omega) (by omega)]; exact g13) e440 hV5 hI5 e445 hs5 (fun v v0 v1 => by rw [(m5 v v0 v1).2.2]; exact UnOK_01 hvx.2.2.2.2 v0 v1) (by rw [e5u]; exact p7.2) (by rw [e5u]; exact p8.2)
  have k6 : ∀ b, b ≠ 0 → b < 63 ∨ 87 < b → A6 b = A5 b := f2
  refine ⟨A6, D, ?_, fun b h0 h4 h44 h52 h53 h54 h63 => ?_, fun k k13 k15 => ?_, ?_, f4, ?_, ?_, ?_, fun v v0 v1 => ?_, fun y y0 y1 => ?_, fun k k0 k1 => ?_, fun k k0 k1 => ?_, fun i i0 i1 => ?_, f5⟩
  · unfold cTail
    rw [gm_ok ht e013, ob, gm41 hu e41, ob, pI_ok, ob, pI_ok, ob, ← hA3, c1, ob, gm_ok hu g13, ob, d1, ob, f1, ob]
  · rw [k6 b h0 h63, d2 b h52 h53 h54, c2 b h44, z3 b h0 h4]
  · rw [f3 k k15, d2 0 (by omega) (by omega) (by omega), c2 0 (by omega), z30, if_neg k13, a2 0 (by omega) (by omega), cf.1 0 (by omega) (by omega) (by omega) (by omega)]
  · rw [f3 13 (by omega), d2 0 (by omega) (by omega) (by omega)]; exact g13
  · rw [k6 4 (by omega) (by omega), d2 4 (by omega) (by omega) (by omega), c2 4 (by omega)]; exact z34
  · rw [k6 44 (by omega) (by omega)]; exact e440
  · rw [k6 44 (by omega) (by omega)]; exact e445
  · rw [k6 45 (by omega) (by omega), k6 47 (by omega) (by omega), k6 48 (by omega) (by omega)]; exact m5 v v0 v1
  · rw [k6 46 (by omega) (by omega)]; exact m6 y y0 y1
  · rw [k6 49 (by omega) (by omega)]; exact m9 k k0 k1
  · have e29 : A3 29 k = A2 29 k := by rw [z3 29 (by omega) (by omega)]
    rw [k6 50 (by omega) (by omega), d2 50 (by omega) (by omega) (by omega), c8 k k0 (by omega), e29]
    exact nz_ok (hpt k k0 (by rw [a2 u (by omega) (by omega)]; exact k1)).2
  · rw [k6 52 (by omega) (by omega), k6 53 (by omega) (by omega), k6 54 (by omega) (by omega)]; exact m52 i i0 i1
