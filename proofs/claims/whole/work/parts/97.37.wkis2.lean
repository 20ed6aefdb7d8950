/-! the three arguments of an `is` line -/
def tauA (A : Mem) (t : Nat) (ts : Int → Int) (i k : Int) : Int := if 0 ≤ A (t + 6) (3 * i + k) then ts (A (t + 6) (3 * i + k)) else 0
set_option maxHeartbeats 4000000 in
set_option maxRecDepth 20000 in
theorem is_three {A B : Mem} {t : Nat} {n nI i m v : Int} {giv ts : Int → Int} (ht : t = 5 ∨ t = 119) (hA : ∀ k, 0 ≤ k → k < argc v → ArR A B t 210 i k m) (i0 : 0 ≤ i) (i1 : i < 200) (m20 : m ≤ 20) (v2 : 2 ≤ v) (hV : Sta A B n nI giv 0) (hN : NmV A B n m ts) : ∃ x0 x1 x2 A3 y0 y1 y2 B1 B2 B3 n' f, lp (fX10_workIs_b1 i t v) (0, A) = some A3 ∧ mArg (12 * (210 + i)) v 0 B = some (y0, B1) ∧ mArg (12 * (210 + i)) v 1 B1 = some (y1, B2) ∧ mArg (12 * (210 + i)) v 2 B2 = some (y2, B3) ∧ n ≤ n' ∧ Sta A3 B3 n' nI giv f ∧ WFr A A3 B B3 n ∧ (A3 43 0 = x0 ∧ A3 43 1 = x1 ∧ A3 43 2 = x2) ∧ (f = 0 → (x0 = y0 ∧ x1 = y1 ∧ x2 = y2) ∧ (0 ≤ x0 ∧ x0 < n' ∧ A3 26 x0 = tauA A t ts i 0) ∧ (argc v ≤ 1 → x1 = -1) ∧ (argc v ≤ 2 → x2 = -1) ∧ (1 < argc v → 0 ≤ x1 ∧ x1 < n' ∧ A3 26 x1 = tauA A t ts i 1) ∧ (2 < argc v → 0 ≤ x2 ∧ x2 < n' ∧ A3 26 x2 = tauA A t ts i 2)) := by
  have a1 := argc1 v2
  have tf : ∀ {A' B' : Mem} {n' : Int}, WFr A A' B B' n' → A' (t + 6) = A (t + 6) := fun w => w.1 _ (by omega) (by omega) (by omega)
  obtain ⟨x0, A1, y0, B1, n1, f1, c1, m1, nn1, s1, w1, e1, o1, -⟩ := is_step (v := v) (k := 0) ht (hA 0 (by omega)) i0 i1 (by omega) (by omega) m20 hV hN
  have w1' : WFr A (wr A1 43 0 x0) B B1 n := WFr_trans w1 (WFr_43 (n := n1)) nn1
  obtain ⟨x1, A2, y1, B2, n2, f2, c2, m2, nn2, s2, w2, e2, o2, -⟩ := is_step (v := v) (k := 1) ht (fun z => ArR_W ht (hA 1 (by omega) z) w1') i0 i1 (by omega) (by omega) m20 (Sta_43 (i := 0) (x := x0) s1) (NmV_fr hN w1' nn1)
  have w2' : WFr A (wr A2 43 1 x1) B B2 n := WFr_trans w1' (WFr_trans w2 (WFr_43 (n := n2)) nn2) nn1
  obtain ⟨x2, A3, y2, B3, n3, f3, c3, m3, nn3, s3, w3, e3, o3, -⟩ := is_step (v := v) (k := 2) ht (fun z => ArR_W ht (hA 2 (by omega) z) w2') i0 i1 (by omega) (by omega) m20 (Sta_43 (i := 1) (x := x1) s2) (NmV_fr hN w2' (by omega))
  have w3' : WFr A (wr A3 43 2 x2) B B3 n := WFr_trans w2' (WFr_trans w3 (WFr_43 (n := n3)) nn3) (by omega)
  have g20 : wr A3 43 2 x2 43 2 = x2 := by rw [wr_at, if_pos rfl]
  have g21 : wr A3 43 2 x2 43 1 = x1 := by rw [wr_at, if_neg (by omega), e3, wr_at, if_pos rfl]
  have g22 : wr A3 43 2 x2 43 0 = x0 := by rw [wr_at, if_neg (by omega), e3, wr_at, if_neg (by omega), e2, wr_at, if_pos rfl]
  refine ⟨x0, x1, x2, wr A3 43 2 x2, y0, y1, y2, B1, B2, B3, n3, f3, c_isL c1 c2 c3, m1, m2, m3, by omega, Sta_43 s3, w3', ⟨g22, g21, g20⟩, fun z => ?_⟩
  obtain ⟨z2, q2, r2, u2⟩ := o3 z
  obtain ⟨z1, q1, r1, u1⟩ := o2 z2
  obtain ⟨z0, q0, r0, u0⟩ := o1 z1
  obtain ⟨p0, p1, p2⟩ := u0 (by omega)
  have k26 : ∀ y, y < n1 → wr A3 43 2 x2 26 y = A1 26 y := fun y hy => by
    rw [wr_ne (by omega), w3.2.2.2.1 y (by omega), wr_ne (by omega), w2.2.2.2.1 y (by omega), wr_ne (by omega)]
  have k26' : ∀ y, y < n2 → wr A3 43 2 x2 26 y = A2 26 y := fun y hy => by
    rw [wr_ne (by omega), w3.2.2.2.1 y (by omega), wr_ne (by omega)]
  refine ⟨⟨q0, q1, q2⟩, ⟨p0, by omega, by rw [k26 x0 p1]; exact p2⟩, r1, r2, fun h => ?_, fun h => ?_⟩
  · obtain ⟨p0, p1, p2⟩ := u1 h
    refine ⟨p0, by omega, ?_⟩
    rw [k26' x1 p1, p2, tf w1']; rfl
  · obtain ⟨p0, p1, p2⟩ := u2 h
    refine ⟨p0, by omega, ?_⟩
    rw [wr_ne (by omega), p2, tf w2']; rfl
theorem OpA_of {A A3 : Mem} {t : Nat} {n i x0 x1 x2 md : Int} {G : Nat → Int → Int → Int} (v2 : 2 ≤ A (t + 4) i) (v14 : A (t + 4) i ≤ 14) (h0 : 0 ≤ x0 ∧ x0 < n ∧ A3 26 x0 = tauA A t (G 4 i) i 0) (h1 : argc (A (t + 4) i) ≤ 1 → x1 = -1) (h2 : argc (A (t + 4) i) ≤ 2 → x2 = -1) (h3 : 1 < argc (A (t + 4) i) → 0 ≤ x1 ∧ x1 < n ∧ A3 26 x1 = tauA A t (G 4 i) i 1) (h4 : 2 < argc (A (t + 4) i) → 0 ≤ x2 ∧ x2 < n ∧ A3 26 x2 = tauA A t (G 4 i) i 2) (ot : OpT A t G i md) : OpA (A3 26) n (A (t + 4) i) x0 x1 x2 md := by
  obtain ⟨o1, o2, o3, o4, o5, o6⟩ := ot
  have ta : ∀ k, tauA A t (G 4 i) i k = aTy A t G i k := fun k => rfl
  rw [ta] at h0 h3 h4
  generalize A (t + 4) i = v at *
  have ac1 : v = 7 ∨ v = 12 ∨ v = 14 → argc v = 1 := fun z => by unfold argc; rw [if_neg (by omega), if_pos z]
  have ac3 : v = 13 → argc v = 3 := fun z => by rw [z]; decide
  have ac2 : v ≠ 7 → v ≠ 12 → v ≠ 14 → v ≠ 13 → argc v = 2 := fun a b c d => by unfold argc; rw [if_neg (by omega), if_neg (by omega), if_neg d]
  have tm := tmF_v (v := v)
  refine ⟨⟨v2, v14⟩, ⟨h0.1, h0.2.1⟩, fun a b c => ?_, fun z => ?_, fun z => h1 (by rw [ac1 (by omega)]; omega), fun z => ?_, fun a b => ?_, fun z => ?_, fun z => ?_, fun z => ?_, fun z => ?_⟩
  · have : 1 < argc v := by
      by_cases d : v = 13
      · rw [ac3 d]; omega
      · rw [ac2 a b c d]; omega
    exact ⟨(h3 this).1, (h3 this).2.1⟩
  · have := h4 (by rw [ac3 z]; omega)
    exact ⟨this.1, this.2.1⟩
  · refine h2 ?_
    by_cases a : v = 7 ∨ v = 12 ∨ v = 14
    · rw [ac1 a]; omega
    · rw [ac2 (by omega) (by omega) (by omega) z]; omega
  · rw [h0.2.2]
    by_cases d : v = 13
    · exact (o3 d).1
    · refine o2 a (by omega) 0 (by omega) ?_
      have := argc1 v2
      omega
  · have a2 : argc v = 2 := ac2 (by omega) (by omega) (by omega) (by omega)
    rw [(h3 (by omega)).2.2]
    exact o2 (by omega) (by omega) 1 (by omega) (by omega)
  · have a3 := ac3 z
    rw [(h3 (by omega)).2.2, (h4 (by omega)).2.2]
    exact ⟨(o3 z).2.1, (o3 z).2.2⟩
  · rw [h0.2.2]; exact o4 z
  · by_cases d : v ≤ 7
    · rw [tm.1 d, o5 d]
    · rw [tm.2 (by omega) z, o6 (by omega) z]
set_option maxHeartbeats 4000000 in
set_option maxRecDepth 20000 in
theorem wk_is {A B : Mem} {t : Nat} {G : Nat → Int → Int → Int} {c nI n i w st : Int} {giv : Int → Int} (h : WI A B t G c nI giv n i w st) (hk : A (t + 1) i = 4) : ∃ A' B', fX10_workIs t i A = some A' ∧ ((ldI B 139 (w32 (12 * (210 + i) + 1))).bind fun v41 => (fX12_opValue (12 * (210 + i)) B).bind fun q42 => (stI q42.2 145 v41 q42.1).bind fun M43 => some (w32 (i + 1), M43)) = some (i + 1, B') ∧ WRes A B t G c nI giv i w st (i + 1) A' B' := by
  obtain ⟨hS, ⟨i0, i1⟩, hD, a9, b8, w01, st0, hp⟩ := h
  have HP : Unit → _ := fun _ => hp
  clear hp
  have ht := hS.1
  have hL := hS.2.1
  have c200 := hS.2.2.2.1
  obtain ⟨lR, lT, lP⟩ := hL.1 i i0 i1
  obtain ⟨r1, r2, r3, ⟨v2, v14⟩, ⟨s0, s1⟩, ar⟩ := lR.2.2.2.2.1 hk
  obtain ⟨⟨t1, t2⟩, t3, ot, sg⟩ := lT.2.2.2.1 hk
  have o0 := hL.2.1 i i0 (by omega)
  have o1 := hL.2.1 (i + 1) (by omega) (by omega)
  have m20 := o0.2.1.2
  have m20' := o1.2.1.2
  have sl20 : A (t + 3) i < 20 := by
    by_cases z : A (t + 3) i = G 1 i 0
    · rw [if_pos z] at t3; omega
    · omega
  have T3 : Unit → _ := fun _ => t3
  have m1 : G 1 (i + 1) 0 ≤ G 1 i 0 + 1 := by rw [t3]; split <;> omega
  have m2 : ∀ s, s < G 1 (i + 1) 0 → s ≠ A (t + 3) i → s < G 1 i 0 := fun s a b => by
    rw [t3] at a
    by_cases z : A (t + 3) i = G 1 i 0
    · rw [if_pos z] at a; omega
    · rw [if_neg z] at a; exact a
  clear t3
  obtain ⟨x0, x1, x2, A3, y0, y1, y2, B1, B2, B3, n', f, c1, g0, g1, g2, nn, hst, wf, ⟨k0, k1, k2⟩, res⟩ := is_three (v := A (t + 4) i) ht ar i0 (by omega) m20 v2 ⟨hD.1, a9, b8, Int.le_refl _⟩ hD.2.1
  have mv := m_opV v2 (by omega) (by omega) b8 r2 g0 g1 g2
  have tu : ∀ d, ¬ (22 ≤ d ∧ d ≤ 43) → A3 d = A d := fun d hd => wf.1 d (by omega) (by omega) (by omega)
  unfold fX10_workIs
  rw [tl4 ht _ _ i0 (by omega), ob, c1, ob, mv, w32_id (show -2147483648 ≤ 12 * (210 + i) + 1 by omega) (by omega), ld139 _ _ (by omega) (by omega), ob, r1]
  by_cases f0 : f = 0
  · obtain ⟨⟨q0, q1, q2⟩, e0, e1, e2, e3, e4⟩ := res f0
    have oa := OpA_of (n := n') (A3 := A3) v2 v14 e0 e1 e2 e3 e4 ot
    have b34 : B3 139 (12 * (210 + i) + 4) = A (t + 5) i := by rw [wf.2.2.2.2.1 139 (by omega) (by omega)]; exact r3
    obtain ⟨x, A4, A5, y, B5, u1, u2, u3, u4, ⟨n2, u5, u6, u7, u8⟩, u9, u10, u11⟩ := r_opR (p := 12 * (210 + i)) (st := A (t + 5) i) hst.1 (by rw [hst.2.1]; exact f0) (by rw [hst.2.2.1]; exact f0) oa (by omega) (by omega) b34 s0 s1
    have U8 : Unit → _ := fun _ => u8
    clear u8
    rw [← q0, ← q1, ← q2, u4, ob, if_pos (by rw [hst.2.1]; exact f0), ld43 _ _ (by omega) (by omega), ob, ld43 _ _ (by omega) (by omega), ob, ld43 _ _ (by omega) (by omega), ob, k0, k1, k2, u1, ob]
    dsimp only
    have wf2 : WFr A A5 B B5 n := WFr_trans wf u7 nn
    have a45 : ∀ d, ¬ (22 ≤ d ∧ d ≤ 43) → A4 d = A d := by
      by_cases xe : x = -1
      · have q := u2 xe
        intro d hd
        have : A4 22 9 = 0 ∨ A4 22 9 ≠ 0 := by omega
        have e : A5 d = A4 d := by
          unfold fX10_tooMany at q
          by_cases z : A4 22 9 = 0
          · rw [if_pos z, pI_ok, ob, ob] at q
            injection q with q
            rw [← q, wr_ne (by omega)]
          · rw [if_neg z, ob] at q
            injection q with q
            rw [← q]
        rw [← e]
        exact wf2.1 d (by omega) (by omega) (by omega)
      · intro d hd
        rw [← u3 xe]
        exact wf2.1 d (by omega) (by omega) (by omega)
    rw [tl3 ht _ _ i0 (by omega), ob, tl5 ht _ _ i0 (by omega), ob, a45 (t + 3) (by omega), a45 (t + 5) (by omega), st145 _ _ _ t1 sl20, ob, w32_id (show -2147483648 ≤ i + 1 by omega) (by omega)]
    unfold fX10_keep
    by_cases xe : x = -1
    · rw [if_pos xe, u2 xe, ob, ob, ob, ob]
      refine ⟨_, _, rfl, rfl, ⟨(WFr_SL wf2).1, fun d d1 d2 d3 d4 => by rw [wr_ne (by omega)]; exact (WFr_SL wf2).2.1 d d1 d2 d3 d4, fun k hk => by rw [wr_ne (by omega)]; exact (WFr_SL wf2).2.2.1 k hk, fun g hg => by rw [wr_ne (by omega)]; exact (WFr_SL wf2).2.2.2.1 g hg, (WFr_SL wf2).2.2.2.2⟩, Or.inr ?_⟩
      rcases U8 () with ⟨z, -⟩ | ⟨g, z1, z2, z3, -⟩
      · exact absurd z (u10 xe)
      · exact ⟨by omega, by rw [wr_ne (by omega)]; omega⟩
    · have eA := u3 xe
      subst eA
      rcases U8 () with ⟨z1, z2, z3, z4, z5⟩ | ⟨g, -, -, -, -, z, -⟩
      · rw [if_neg xe, st30 _ _ _ t1 sl20, ob, ob, ob, ob]
        have slA : SL A (wr A5 30 (A (t + 3) i) x) B (wr B5 145 (A (t + 3) i) y) := SL_trans (WFr_SL wf2) ⟨fun d hd => wr_ne (by omega), fun d _ _ hd _ => wr_ne (by omega), fun k _ => by rw [wr_ne (by omega)], fun g _ => by rw [wr_ne (by omega)], by rw [wr_ne (by omega)]⟩
        have nm := NmV_fr hD.2.1 wf2 (show n ≤ n2 by omega)
        refine ⟨_, _, rfl, rfl, slA, Or.inl ⟨by rw [wr_ne (by omega)]; exact z1, by rw [wr_ne (by omega)]; exact z2, by omega, by omega, ⟨n2, WD_sam hS i0 i1 hD sg (by omega) (VX_cg u6 (by rw [wr_ne (by omega)]) (wr_ne (by omega)) (wr_ne (by omega)) (wr_ne (by omega)) (wr_ne (by omega)) (fun f _ => by rw [wr_ne (by omega)])) ?_ (fun d d1 d2 d3 d4 => by rw [wr_ne d3]; exact wf2.1 d d1 (by omega) d4) (by rw [wr_ne (by omega)]; exact wf2.2.1 7 (by omega)) (fun v hv => by rw [wr_ne (by omega)]; exact wf2.2.2.2.1 v hv) (fun d d1 d2 => by rw [wr_ne (by omega)]; exact wf2.2.2.2.2.1 d (by omega) (by omega)) (ShW_fr hD.2.2.2.2.1 (by rw [wr_ne (by omega)]; exact wf2.2.2.1 5 (by omega)) (by rw [wr_ne (by omega)]; exact wf2.1 28 (by omega) (by omega) (by omega)) (fun g g0 g1 => by rw [wr_ne (by omega)]; exact wf2.2.2.2.2.2.2 g (by omega)) (by omega)) (fun g hg => by rw [wr_ne (by omega)]; exact wf2.2.2.2.2.2.2 g (by omega))⟩, WP_sam sg o0.1.1 (slA.1 _ (by omega)) (by rw [wr_ne (by omega)]; exact wf2.1 42 (by omega) (by omega) (by omega)) (HP ()) (Or.inl (Or.inl hk)), NX_o (by omega) (by omega) (by rw [wr_ne (by omega)]; exact wf2.1 42 (by omega) (by omega) (by omega)) (by omega) (by rw [wr_ne (by omega)]; exact wf2.2.2.1 5 (by omega))⟩⟩
        intro s s0' s1'
        rw [wr_at, wr_at, wr_ne (show 26 ≠ 30 by omega)]
        by_cases e : s = A (t + 3) i
        · rw [if_pos e, if_pos e]
          exact ⟨z3, z4, z5, by rw [u9 z1, e]⟩
        · have sm := m2 s s1' e
          rw [if_neg e, if_neg e, lT.2.1 s s0' sm s1']
          exact nm s s0' sm
      · exact absurd z xe
  · have f3 : 0 < f := by have := hst.2.2.2; omega
    rw [if_neg (by rw [hst.2.1]; exact f0), ob]
    unfold mOpR
    rw [if_neg (by rw [hst.2.2.1]; omega), ob]
    dsimp only
    rw [st145 _ _ _ t1 sl20, ob, w32_id (show -2147483648 ≤ i + 1 by omega) (by omega)]
    exact ⟨_, _, rfl, rfl, ⟨(WFr_SL wf).1, fun d d1 d2 d3 d4 => by rw [wr_ne (by omega)]; exact (WFr_SL wf).2.1 d d1 d2 d3 d4, fun k hk => by rw [wr_ne (by omega)]; exact (WFr_SL wf).2.2.1 k hk, fun g hg => by rw [wr_ne (by omega)]; exact (WFr_SL wf).2.2.2.1 g hg, (WFr_SL wf).2.2.2.2⟩, Or.inr ⟨by rw [hst.2.1]; exact f3, by rw [wr_ne (by omega), hst.2.1, hst.2.2.1]⟩⟩
