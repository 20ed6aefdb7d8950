/-! the end of an `is` line -/
noncomputable def cIsK (s v5 c : Int) (q12 : Int × Mem) : Option (Int × Mem) :=
        ((if q12.1 = 0 then
            (fX6_readSemicolon q12.2).bind fun q13 =>
            some (q13.1, q13.2)
          else
            some (q12.1, q12.2) : Option (Int × Mem))).bind fun q14 =>
        ((if q14.1 = 0 then
            (gm q14.2 4 1).bind fun t15 =>
            ((if s = (-1) then
                (fX6_tell v5 (q14.2 4 11) 0 q14.2).bind fun q16 =>
                some (q16.1, q16.2)
              else
                some (s, q14.2) : Option (Int × Mem))).bind fun q17 =>
            (stI q17.2 (t15 + 3) c q17.1).bind fun M18 =>
            some M18
          else
            some q14.2 : Option (Mem))).bind fun q19 =>
        some (q14.1, q19)
theorem cIsK8 {s v5 c x : Int} {A : Mem} (h : x ≠ 0) : cIsK s v5 c (x, A) = some (x, A) := by
  unfold cIsK
  dsimp only
  rw [if_neg h, ob]
  dsimp only
  rw [if_neg h, ob]
theorem c_isY {A A1 A2 : Mem} {t : Nat} {s c : Int} (hs : fX6_slotOf (A 1 7) A = some (s, A)) (h1 : s = -1 ∨ (0 ≤ s ∧ s < 20 ∧ A 20 s = 0)) (h2 : s = -1 → A 4 5 < 20) (gA : gm A 4 1 = some t) (ho : fX3_open t 4 (A 1 5) A = some (c, A1)) (ha : fX8_advance A1 = some A2) (h19 : A2 19 = A 19) : fX6_readIs A = if A2 1 4 = 5 ∧ A2 1 6 = 4 then (fX6_readOp c (if s = -1 then 2 else A 19 s) A2).bind fun q => cIsK s (A 1 7) c q else fX6_faultHere 1 A2 := by
  unfold fX6_readIs
  rw [hs, ob]
  dsimp only
  have e3 : ((if s = (-1) then some true else (ldZ A 20 s).bind fun v2 => if v2 = 0 then some true else some false : Option Bool)) = some true := by
    by_cases z : s = -1
    · rw [if_pos z]
    · rw [if_neg z, ld20 _ _ (by omega) (by omega), ob, if_pos (by omega)]
  have e4 : ((if s = (-1) then if (A 4 5) < 20 then some true else some false else some true : Option Bool)) = some true := by
    by_cases z : s = -1
    · rw [if_pos z, if_pos (h2 z)]
    · rw [if_neg z]
  rw [e3, ob, if_pos rfl, e4, ob, if_pos rfl, ob, gA, ob, ho, ob]
  dsimp only
  rw [ha, ob, c_isWord, ob]
  dsimp only
  by_cases w : A2 1 4 = 5 ∧ A2 1 6 = 4
  · rw [if_pos w, if_pos w, if_neg (by decide)]
    have e11 : ((if s = (-1) then some 2 else (ldI A2 19 s).bind fun v10 => some v10 : Option Int)) = some (if s = -1 then 2 else A 19 s) := by
      by_cases z : s = -1
      · rw [if_pos z, if_pos z]
      · rw [if_neg z, if_neg z, ld19 _ _ (by omega) (by omega), ob, h19]
    rw [e11, ob]
    rfl
  · rw [if_neg w, if_neg w, if_pos rfl]
    cases fX6_faultHere 1 A2 <;> rfl
theorem IsF_fr {A B X Y X' Y' : Mem} {t : Nat} {c s' v P P2 : Int} (ht : t = 5 ∨ t = 119) (h : IsF A B X Y t c s' v P P2) (hx : ∀ b, b ≠ 1 → b ≠ 4 → b ≠ 18 → b ≠ 19 → b ≠ 20 → X' b = X b) (h4 : ∀ k, k ≠ 5 → k ≠ 11 → X' 4 k = X 4 k) (hy : ∀ b, b ≠ 132 → b ≠ 140 → b ≠ 141 → Y' b = Y b) (h18 : Y' 132 18 = Y 132 18) : IsF A B X' Y' t c s' v P P2 := by
  obtain ⟨f1, f2, f3, f4, f5, f6, f7, f8, f9, f10, f11, f12, f13, f14, f15, f16⟩ := h
  have xt : ∀ k, k ≤ 12 → X' (t + k) = X (t + k) := fun k hk => hx _ (by omega) (by omega) (by omega) (by omega) (by omega)
  have x0 : X' t = X t := xt 0 (by omega)
  unfold IsF
  rw [x0, xt 1 (by omega), xt 2 (by omega), xt 3 (by omega), xt 4 (by omega), xt 5 (by omega), xt 6 (by omega), xt 7 (by omega), xt 8 (by omega), xt 9 (by omega), xt 10 (by omega), xt 11 (by omega), xt 12 (by omega), hx 21 (by omega) (by omega) (by omega) (by omega) (by omega), hy 138 (by omega) (by omega) (by omega), hy 139 (by omega) (by omega) (by omega), hy 142 (by omega) (by omega) (by omega), hy 143 (by omega) (by omega) (by omega), hy 144 (by omega) (by omega) (by omega), h18]
  exact ⟨f1, f2, fun k a b => by rw [h4 k a b]; exact f3 k a b, f4, f5, f6, f7, f8, f9, f10, f11, f12, f13, f14, f15, f16⟩
/-- the reference's rest behind the arguments -/
noncomputable def mIsK (s v8 : Int) (q38 : Int × Mem) : Option Mem := ((if (q38.2 132 8) = 0 then if 0 ≤ s then some q38.2 else (fX12_tells v8 q38.1 q38.2).bind fun q39 => some q39 else some q38.2 : Option (Mem))).bind fun q40 => some q40
theorem OpTr_cg {A A' X X' : Mem} {t : Nat} {c v md : Int} (h : OpTr A X t c v md) (e6 : A' (t + 6) = A (t + 6)) (e19 : ∀ k, tyA A X t c k = tyA A X' t c k ∨ argc v ≤ k ∨ k < 0) (v2 : 2 ≤ v) : OpTr A' X' t c v md := by
  have e : ∀ k, 0 ≤ k → k < argc v → tyA A' X' t c k = tyA A X t c k := fun k k0 k1 => by
    have : tyA A' X' t c k = tyA A X' t c k := by unfold tyA; rw [e6]
    rw [this]
    rcases e19 k with z | z
    · exact z.symm
    · omega
  obtain ⟨o1, o2, o3, o4, o5, o6⟩ := h
  refine ⟨fun z k a b => by rw [e k a b]; exact o1 z k a b, fun z z' k a b => by rw [e k a b]; exact o2 z z' k a b, fun z => ?_, fun z => ?_, o5, o6⟩
  · have ac : argc v = 3 := by rw [z]; decide
    rw [e 0 (by omega) (by omega), e 1 (by omega) (by omega), e 2 (by omega) (by omega)]; exact o3 z
  · have ac : argc v = 1 := by rw [z]; decide
    rw [e 0 (by omega) (by omega)]; exact o4 z
set_option maxHeartbeats 4000000 in
set_option maxRecDepth 20000 in
theorem is_end {A B A4 B4 : Mem} {t : Nat} {T : Int → Int} {n N c j s v v8 md J : Int} {G : Nat → Int → Int → Int} (hP : PC A B t T n N G c) (c200 : c < 200) (j0 : 0 ≤ j) (wt : wrd (A 1 7) v8) (hs : (s = -1 ∧ ∀ k, 0 ≤ k → k < G 1 c 0 → A 18 k ≠ A 1 7) ∨ (0 ≤ s ∧ s < G 1 c 0 ∧ A 18 s = A 1 7)) (h20 : s = -1 → G 1 c 0 < 20) (hmd : 0 ≤ s → md = A 19 s) (md01 : md = 0 ∨ md = 1) (cf : CFr t A A4) (mf : MFr B B4) (nm : NmR A4 B4 (G 1 c 0)) (e18 : A4 18 = A 18) (e19 : A4 19 = A 19) (e11 : A4 4 11 = md) (f : IsF A B (wr A4 (t + 3) c (if s = -1 then G 1 c 0 else s)) B4 t c (if s = -1 then G 1 c 0 else s) v (pos T n j) (pos T n (j + 2))) (a13 : A4 1 3 = te T n (pos T n J)) (b7 : B4 132 7 = J + 1) (b8 : B4 132 8 = 0) (jJ : j ≤ J) (JN : J + 1 ≤ N) (hpos : 5 * (c + 1) + G 0 c 0 ≤ te T n (pos T n J) + 1) (hpj : pos T n j < te T n (pos T n J)) (v2 : 2 ≤ v) (v14 : v ≤ 14) (ar : ∀ k, 0 ≤ k → k < argc v → ArR A4 B4 t 210 c k (G 1 c 0)) (ot : OpTr A4 A t c v md) : ∃ x A' B', cIsK s (A 1 7) c (0, A4) = some (x, A') ∧ ((mIsK s v8 (md, B4)).bind fun q => fX12_takeEnd q) = some B' ∧ LnRes t T n N j A B x A' B' := by
  obtain ⟨p1, p2, p3, p4, p5, p6, p7, p8, p9, p10, p11, p12, p13, p14, p15, p16⟩ := id hP
  have ht := p1.1
  have n0 := p1.2.2.1.2.1
  have n1 := p2.2.1
  have c0 := p4.2.2
  obtain ⟨m, hm⟩ : ∃ m, m = G 1 c 0 := ⟨_, rfl⟩
  rw [← hm] at hs h20 nm f ar
  obtain ⟨s', hs'⟩ : ∃ s', s' = if s = -1 then m else s := ⟨_, rfl⟩
  rw [← hs'] at f
  have nm4 := nm.2.2
  -- the reference's names
  have hB : ∃ B5, mIsK s v8 (md, B4) = some B5 ∧ (∀ b, b ≠ 132 → b ≠ 140 → b ≠ 141 → B5 b = B4 b) ∧ (∀ k, k ≠ 14 → B5 132 k = B4 132 k) ∧ (s = -1 → B5 132 14 = m + 1 ∧ (∀ k, B5 140 k = if k = m then v8 else B4 140 k) ∧ ∀ k, B5 141 k = if k = m then md else B4 141 k) ∧ (0 ≤ s → B5 = B4) := by
    unfold mIsK
    dsimp only
    rw [if_pos b8]
    by_cases z : 0 ≤ s
    · rw [if_pos z, ob]
      exact ⟨B4, rfl, fun _ _ _ _ => rfl, fun _ _ => rfl, fun y => by omega, fun _ => rfl⟩
    · have sm : s = -1 := by omega
      obtain ⟨B5, g, g1, g2, g3, g4, g5⟩ := m_tells (x := v8) (kd' := md) nm.2.1 nm.2.2.1 (h20 sm)
      rw [if_neg z, g, ob, ob]
      exact ⟨B5, rfl, g5, g2, fun _ => ⟨g1, g3, g4⟩, fun y => absurd y z⟩
  obtain ⟨B5, hb, fb1, fb2, fb3, fb4⟩ := hB
  have mf5 : MFr B B5 := MFr_trans mf ⟨fun b x y => fb1 b x (by omega) (by omega), fun k _ => by rw [fb1 138 (by omega) (by omega) (by omega)], fun k _ => by rw [fb1 139 (by omega) (by omega) (by omega)], fun k _ _ x _ _ => fb2 k x⟩
  obtain ⟨x, A5, B6, f5, g6, fr5, mr6, res⟩ := r_semi (j := J) (CK_CFr p1 cf) (MK_MFr p2 mf5) a13 (by omega) JN (by rw [fb2 7 (by omega)]; exact b7) (by rw [fb2 8 (by omega)]; exact b8)
  have ml : ((mIsK s v8 (md, B4)).bind fun q => fX12_takeEnd q) = some B6 := by rw [hb, ob]; exact g6
  have mf6 : MFr B B6 := MFr_trans mf5 (F78_MFr mr6)
  have cf5 : CFr t A A5 := CFr_trans cf (F1_CFr ht fr5)
  rcases res with ⟨x0, at5, b67, b68, JN2, pn⟩ | hf
  · -- the class's name
    have g51 : gm A5 4 1 = some t := gm41 ht (by rw [cf5.2.2]; exact p1.2.1)
    have e5 : A5 4 = A4 4 := fr5.1 4 (by omega)
    have hA : ∃ A6, ((if s = (-1) then (fX6_tell (A 1 7) (A5 4 11) 0 A5).bind fun q16 => some (q16.1, q16.2) else some (s, A5) : Option (Int × Mem))) = some (s', A6) ∧ (∀ b, b ≠ 4 → b ≠ 18 → b ≠ 19 → b ≠ 20 → A6 b = A5 b) ∧ (∀ k, k ≠ 5 → A6 4 k = A5 4 k) ∧ (s = -1 → A6 4 5 = m + 1 ∧ (∀ k, A6 18 k = if k = m then A 1 7 else A5 18 k) ∧ (∀ k, A6 19 k = if k = m then md else A5 19 k) ∧ (∀ k, A6 20 k = if k = m then 0 else A5 20 k)) ∧ (0 ≤ s → A6 = A5) := by
      by_cases z : s = -1
      · obtain ⟨A6, h, h1, h2, h3, h4, h5, h6⟩ := c_tell (A := A5) (x := A 1 7) (ty' := A5 4 11) (inp := 0) (by rw [e5]; exact nm.1) nm.2.2.1 (h20 z) (Or.inl rfl)
        rw [if_pos z, h, ob, hs', if_pos z]
        refine ⟨A6, rfl, h6, h2, fun _ => ⟨h1, h3, fun k => by rw [h4 k, e5, e11], h5⟩, fun y => by omega⟩
      · rw [if_neg z, hs', if_neg z]
        exact ⟨A5, rfl, fun _ _ _ _ _ => rfl, fun _ _ => rfl, fun y => absurd y z, fun _ => rfl⟩
    obtain ⟨A6, ha, fa1, fa2, fa3, fa4⟩ := hA
    have cl : cIsK s (A 1 7) c (0, A4) = some (x, wr A6 (t + 3) c s') := by
      unfold cIsK
      dsimp only
      rw [if_pos rfl, f5, ob, ob]
      dsimp only
      rw [if_pos x0, g51, ob, ha, ob]
      dsimp only
      rw [ts3 ht _ _ _ c0 c200, ob, ob]
    refine ⟨x, _, B6, cl, ml, ?_⟩
    have w6 : ∀ b, b ≠ 4 → b ≠ 18 → b ≠ 19 → b ≠ 20 → b ≠ t + 3 → wr A6 (t + 3) c s' b = A5 b := fun b h1 h2 h3 h4 h5 => by rw [wr_ne h5, fa1 b h1 h2 h3 h4]
    have w4 : ∀ b, b ≠ t + 3 → wr A6 (t + 3) c s' b = A6 b := fun b h => wr_ne h
    have cf7 : CFr t A (wr A6 (t + 3) c s') := CFr_trans cf5 ⟨fun b b1 b4 b18 bt => w6 b b4 (by omega) (by omega) (by omega) (by omega), by rw [w6 1 (by omega) (by omega) (by omega) (by omega) (by omega)], by rw [w4 4 (by omega)]; exact fa2 1 (by omega)⟩
    have nm7 : NmR (wr A6 (t + 3) c s') B6 (if s' = m then m + 1 else m) := by
      have a18 : wr A6 (t + 3) c s' 18 = A6 18 := w4 18 (by omega)
      have a19 : wr A6 (t + 3) c s' 19 = A6 19 := w4 19 (by omega)
      have a20 : wr A6 (t + 3) c s' 20 = A6 20 := w4 20 (by omega)
      have a4 : wr A6 (t + 3) c s' 4 = A6 4 := w4 4 (by omega)
      rcases hs with ⟨sm, sn⟩ | ⟨s0, s1, s2⟩
      · have q1 := fa3 sm
        have q2 := fb3 sm
        rw [hs', if_pos sm, if_pos rfl]
        rw [hs', if_pos sm] at a18 a19 a20 a4
        refine NmR_tell (x := A 1 7) (y := v8) (ty' := md) (inp := 0) nm (h20 sm) (Or.inl rfl) md01 (fun z => by omega) wt (fun k k0 k1 => by rw [e18]; exact sn k k0 k1) (by rw [a4]; exact q1.1) (fun k => by rw [a18, q1.2.1 k, fr5.1 18 (by omega)]) (fun k => by rw [a19, q1.2.2.1 k, fr5.1 19 (by omega)]) (fun k => by rw [a20, q1.2.2.2 k, fr5.1 20 (by omega)]) (by rw [mr6.2 14 (by omega) (by omega)]; exact q2.1) (fun k => by rw [mr6.1 140 (by omega)]; exact q2.2.1 k) (fun k => by rw [mr6.1 141 (by omega), if_neg (show ¬ (0 : Int) = 1 by decide)]; exact q2.2.2 k)
      · have hss : s' = s := by rw [hs', if_neg (by omega)]
        rw [if_neg (by omega)]
        have q1 := fa4 s0
        have q2 := fb4 s0
        refine NmR_fr nm (by rw [a4, q1, e5]) (by rw [a18, q1, fr5.1 18 (by omega)]) (by rw [a19, q1, fr5.1 19 (by omega)]) (by rw [a20, q1, fr5.1 20 (by omega)]) (by rw [mr6.2 14 (by omega) (by omega), q2]) (by rw [mr6.1 140 (by omega), q2]) (by rw [mr6.1 141 (by omega), q2])
    have f7 : IsF A B (wr A6 (t + 3) c s') B6 t c s' v (pos T n j) (pos T n (j + 2)) := by
      refine IsF_fr ht f (fun b h1 h4 h18 h19 h20 => ?_) (fun k k5 k11 => ?_) (fun b h1 h2 h3 => ?_) ?_
      · by_cases z : b = t + 3
        · funext k
          rw [z, wr_at, wr_at, fa1 _ (by omega) (by omega) (by omega) (by omega), fr5.1 _ (by omega)]
        · rw [wr_ne z, wr_ne z, fa1 b h4 h18 h19 h20, fr5.1 b h1]
      · rw [wr_ne (by omega), wr_ne (by omega), fa2 k k5, e5]
      · rw [mr6.1 b h1, fb1 b h1 h2 h3]
      · rw [mr6.2 18 (by omega) (by omega), fb2 18 (by omega)]
    have s0' : 0 ≤ s' ∧ s' ≤ m := by
      rw [hs']
      have := nm.2.2.1
      rcases hs with ⟨sm, sn⟩ | ⟨s0, s1, s2⟩
      · rw [if_pos sm]; omega
      · rw [if_neg (by omega)]; omega
    have ho : ∀ k, 0 ≤ k → k < m → wr A6 (t + 3) c s' 19 k = A 19 k := fun k k0 k1 => by
      rw [w4 19 (by omega)]
      rcases hs with ⟨sm, sn⟩ | ⟨s0, s1, s2⟩
      · rw [(fa3 sm).2.2.1 k, if_neg (by omega), fr5.1 19 (by omega), e19]
      · rw [fa4 s0, fr5.1 19 (by omega), e19]
    have hd : wr A6 (t + 3) c s' 19 s' = md := by
      rcases hs with ⟨sm, sn⟩ | ⟨s0, s1, s2⟩
      · rw [w4 19 (by omega), (fa3 sm).2.2.1, if_pos (by rw [hs', if_pos sm])]
      · have hss : s' = s := by rw [hs', if_neg (by omega)]
        rw [ho s' (by omega) (by omega), hss]
        exact (hmd s0).symm
    have pb := pos_b T (n := n) (j := j) n0
    have pb2 := pos_b T (n := n) (j := j + 2) n0
    have e6 : wr A6 (t + 3) c s' (t + 6) = A4 (t + 6) := by rw [w6 _ (by omega) (by omega) (by omega) (by omega) (by omega), fr5.1 _ (by omega)]
    have e7 : wr A6 (t + 3) c s' (t + 7) = A4 (t + 7) := by rw [w6 _ (by omega) (by omega) (by omega) (by omega) (by omega), fr5.1 _ (by omega)]
    have e9 : B6 139 = B4 139 := by rw [mr6.1 139 (by omega), fb1 139 (by omega) (by omega) (by omega)]
    have pc := is_fin (md := md) (m' := if s' = m then m + 1 else m) hP c200 f7 cf7 mf6 nm7 s0'.1 (by rw [← hm]; exact s0'.2) (by rw [← hm]) (by rw [← hm]; exact ho) hd pb.1 (by omega) pb2.1 (by omega) v2 v14 (fun k k0 k1 => by rw [← hm]; unfold ArR; rw [e6, e7, e9]; exact ar k k0 k1) (OpTr_cg ot e6 (fun k => Or.inl rfl) v2)
    have q1 := pos_nx (T := T) (j := J) n0 (by omega)
    have q2 := pos_te (T := T) (j := J + 1) n0 pn
    refine ⟨cf7, mf6, Or.inl ⟨x0, _, c + 1, J + 1, pc, ?_, by omega, b68, by omega, by omega, ?_, by omega⟩⟩
    · unfold CAt
      rw [w6 1 (by omega) (by omega) (by omega) (by omega) (by omega), w6 3 (by omega) (by omega) (by omega) (by omega) (by omega)]
      exact at5
    · rw [upG_n.1]; omega
  · have cl : cIsK s (A 1 7) c (0, A4) = some (x, A5) := by
      unfold cIsK
      dsimp only
      rw [if_pos rfl, f5, ob, ob]
      dsimp only
      rw [if_neg (by omega), ob]
    exact ⟨x, A5, B6, cl, ml, cf5, mf6, Or.inr hf⟩
