/-! `is` -/
theorem argc1 {v : Int} (h : 2 ≤ v) : 1 ≤ argc v := by
  unfold argc
  rw [if_neg (by omega)]
  repeat' split
  all_goals omega
theorem outB_MFr {c : Int} {M M' : Mem} (c0 : 0 ≤ c) (h : outB c M M') : MFr M M' := ⟨fun b x y => h.1 b x (by omega), fun k _ => by rw [h.1 138 (by omega) (by omega)], fun y hy => h.2.2 y (by omega), fun k x _ _ _ _ => h.2.1 k x⟩
theorem is_flt {B M : Mem} {c s ty' v8 v x : Int} (c0 : 0 ≤ c) (c1 : c < 200) (mf : MFr B M) (h8 : M 132 8 = x) (x0 : 0 < x) : ∃ B', ((mIsT (12 * (210 + c)) s ty' v8 v M).bind fun q => fX12_takeEnd q) = some B' ∧ MFr B B' ∧ B' 132 8 = x := by
  obtain ⟨M', f, o⟩ := m_isT8 (s := s) (ty' := ty') (v8 := v8) (v := v) c0 c1 (show 0 < M 132 8 by omega)
  have e8 : M' 132 8 = x := by rw [o.2.1 8 (by omega)]; exact h8
  obtain ⟨B', g, fr, g8⟩ := m_takeEnd8 (B := M') (by omega)
  exact ⟨B', by rw [f, ob]; exact g, MFr_trans mf (MFr_trans (outB_MFr c0 o) (F78_MFr fr)), by rw [g8, e8]⟩
set_option maxHeartbeats 4000000 in
set_option maxRecDepth 20000 in
theorem is_args {A B A1 A2 A3 B1 B3 : Mem} {t : Nat} {T : Int → Int} {n N c j s v v8 : Int} {G : Nat → Int → Int → Int} (hP : PC A B t T n N G c) (c200 : c < 200) (j0 : 0 ≤ j) (wt : wrd (A 1 7) v8) (hs : (s = -1 ∧ ∀ k, 0 ≤ k → k < G 1 c 0 → A 18 k ≠ A 1 7) ∨ (0 ≤ s ∧ s < G 1 c 0 ∧ A 18 s = A 1 7)) (h20 : s = -1 → G 1 c 0 < 20) (cf1 : CFr t A A1) (mf1 : MFr B B1) (x1 : A1 t 0 = c + 1) (x2 : A1 (t + 1) c = 4) (x3 : A1 (t + 2) c = pos T n j) (x5 : ∀ k, k ≠ 0 → A1 t k = A t k) (x6 : ∀ i, i ≠ c → A1 (t + 1) i = A (t + 1) i ∧ A1 (t + 2) i = A (t + 2) i ∧ A1 (t + 8) i = A (t + 8) i) (x7 : ∀ b, b ≠ t → b ≠ t + 1 → b ≠ t + 2 → b ≠ t + 8 → A1 b = A b) (y1 : B1 138 412 = c + 1) (y2 : ∀ k, k ≠ 412 → B1 138 k = B 138 k) (y3 : ∀ y, y < 12 * (210 + c) ∨ 12 * (210 + c) + 12 ≤ y → B1 139 y = B 139 y) (y4 : ∀ k, 0 ≤ k → k < 12 → B1 139 (12 * (210 + c) + k) = if k = 11 then B 132 18 else if k = 3 then pos T n j else if k = 0 then 0 else 0) (y5 : ∀ b, b ≠ 138 → b ≠ 139 → B1 b = B b) (fr3 : F1 A1 A3) (ha : fX8_advance A2 = some A3) (at3 : CAt A3 T n (pos T n (j + 2))) (mr3 : F78 B1 B3) (b7 : B3 132 7 = j + 2) (b8 : B3 132 8 = 0) (jN : j + 3 ≤ N) (h5 : A3 1 4 = 5) (hv : A3 1 6 = v + 8) (v2 : 2 ≤ v) (v14 : v ≤ 14) (ok : okT v (if s = -1 then 2 else A 19 s)) (hpos : 5 * c + G 0 c 0 + 3 ≤ te T n (pos T n (j + 2))) (hpj : pos T n j < te T n (pos T n (j + 2))) : ∃ x A' B', ((fX6_readOp c (if s = -1 then 2 else A 19 s) A2).bind fun q => cIsK s (A 1 7) c q) = some (x, A') ∧ ((mIsT (12 * (210 + c)) s (if (if s = -1 then 2 else A 19 s) = 2 then 3 else if s = -1 then 2 else A 19 s) v8 v B3).bind fun q => fX12_takeEnd q) = some B' ∧ LnRes t T n N j A B x A' B' := by
  have p1 := hP.1
  have p2 := hP.2.1
  have p3 := hP.2.2.1
  have p4 := hP.2.2.2.1
  have HS : Unit → ((s = -1 ∧ ∀ k, 0 ≤ k → k < G 1 c 0 → A 18 k ≠ A 1 7) ∨ (0 ≤ s ∧ s < G 1 c 0 ∧ A 18 s = A 1 7)) := fun _ => hs
  have H20 : Unit → (s = -1 → G 1 c 0 < 20) := fun _ => h20
  clear hs h20
  have ht := p1.1
  have n0 := p1.2.2.1.2.1
  have n1 := p2.2.1
  have c0 := p4.2.2
  have a1 := argc1 v2
  have a3 := argc3 v
  obtain ⟨w, hw⟩ : ∃ w, w = if s = -1 then 2 else A 19 s := ⟨_, rfl⟩
  rw [← hw] at ok ⊢
  have OK : Unit → okT v w := fun _ => ok
  have HW : Unit → w = if s = -1 then 2 else A 19 s := fun _ => hw
  clear ok hw
  have W3 : Unit → (w = 0 ∨ w = 1 ∨ w = 2) := fun _ => by
    rw [HW ()]
    rcases HS () with ⟨sm, -⟩ | ⟨s0, s1, -⟩
    · rw [if_pos sm]; omega
    · have := (p3.2.2.2.2.1 s s0 s1).2.2.1
      rw [if_neg (by omega)]; omega
  have mf3 : MFr B B3 := MFr_trans mf1 (F78_MFr mr3)
  obtain ⟨M', em, o, m7, q1, q2, q4, qk⟩ := m_isT0 (c := c) (s := s) (ty' := if w = 2 then 3 else w) (v8 := v8) (v := v) (MK_MFr p2 mf3) c0 c200 b8 b7 (by omega) (by omega)
  have mf' : MFr B M' := MFr_trans mf3 (outB_MFr c0 o)
  obtain ⟨A0, hA0⟩ : ∃ A0, A0 = wr (wr A3 (t + 4) c v) (t + 5) c (A3 1 5) := ⟨_, rfl⟩
  have z0 : ∀ b, b ≠ t + 4 → b ≠ t + 5 → A0 b = A3 b := fun b h h' => by rw [hA0, wr_ne h', wr_ne h]
  have cf0 : CFr t A A0 := CFr_trans cf1 (CFr_trans (F1_CFr ht fr3) ⟨fun b _ _ _ bt => z0 b (by omega) (by omega), by rw [z0 1 (by omega) (by omega)], by rw [z0 4 (by omega) (by omega)]⟩)
  have e0 : ∀ b, b ≠ 1 → b ≠ t → b ≠ t + 1 → b ≠ t + 2 → b ≠ t + 8 → b ≠ t + 4 → b ≠ t + 5 → A0 b = A b := fun b h1 h2 h3 h4 h5 h6 h7 => by rw [z0 b h6 h7, fr3.1 b h1, x7 b h2 h3 h4 h5]
  have nm0 : NmR A0 M' (G 1 c 0) := NmR_fr p3 (by rw [e0 4 (by omega) (by omega) (by omega) (by omega) (by omega) (by omega) (by omega)]) (e0 18 (by omega) (by omega) (by omega) (by omega) (by omega) (by omega) (by omega)) (e0 19 (by omega) (by omega) (by omega) (by omega) (by omega) (by omega) (by omega)) (e0 20 (by omega) (by omega) (by omega) (by omega) (by omega) (by omega) (by omega)) (by rw [o.2.1 14 (by omega), mr3.2 14 (by omega) (by omega), y5 132 (by omega) (by omega)]) (by rw [o.1 140 (by omega) (by omega), mr3.1 140 (by omega), y5 140 (by omega) (by omega)]) (by rw [o.1 141 (by omega) (by omega), mr3.1 141 (by omega), y5 141 (by omega) (by omega)])
  obtain ⟨x, A', B', md, hl, hma, ars, are⟩ := r_args (v := v) (p2 := w) (CK_CFr p1 cf0) (MK_MFr p2 mf') nm0 (show 0 ≤ j + 2 by omega) c0 c200 (by rw [z0 1 (by omega) (by omega)]; exact at3.2.1) (by rw [m7]) (by rw [o.2.1 8 (by omega)]; exact b8) (by omega) (W3 ()) v2 v14
  have HA0 : Unit → A0 = wr (wr A3 (t + 4) c v) (t + 5) c (A3 1 5) := fun _ => hA0
  rw [hA0] at hl
  clear hA0
  have h41 : A3 4 1 = t := by rw [fr3.1 4 (by omega), x7 4 (by omega) (by omega) (by omega) (by omega)]; exact p1.2.1
  have cr := c_readOp ht h41 ha h5 hv v2 v14 (OK ()) c0 c200 hl
  obtain ⟨A4, hA4⟩ : ∃ A4, A4 = if 13 ≤ v then A' else wr A' 4 11 (tmF v) := ⟨_, rfl⟩
  rw [← hA4] at cr
  have z4 : ∀ b, b ≠ 4 → A4 b = A' b := fun b hb => by
    rw [hA4]
    split
    · rfl
    · rw [wr_ne hb]
  have z44 : ∀ k, k ≠ 11 → A4 4 k = A' 4 k := fun k hk => by
    rw [hA4]
    split
    · rfl
    · rw [wr_at, if_neg hk]
  obtain ⟨r1, r2, r3, r4, r5, r6, r7, r8'⟩ := id ars
  have R8 : Unit → _ := fun _ => r8'
  clear r8'
  have cf4 : CFr t A A4 := CFr_trans cf0 ⟨fun b b1 b4 b18 bt => by rw [z4 b b4, r1 b b1 b4 (by omega) (by omega)], by rw [z4 1 (by omega)]; exact r2, by rw [z44 1 (by omega)]; exact r3 1 (by omega)⟩
  have mf4 : MFr B B' := MFr_trans mf' ⟨fun b x y => r5 b x (by omega), fun k _ => by rw [r5 138 (by omega) (by omega)], fun y hy => r7 y (by omega), fun k x y _ _ z => r6 k x y z⟩
  rw [cr, ob, em]
  rw [hma, ob]
  by_cases hx : x = 0
  · obtain ⟨r8a, r8b, r8c, r8d, r8e, r8f, r8g⟩ : A' 1 3 = te T n (pos T n (j + 2 + argc v)) ∧ B' 132 7 = j + 2 + argc v + 1 ∧ B' 132 8 = 0 ∧ j + 2 + argc v + 1 ≤ N ∧ te T n (pos T n (j + 2)) + argc v ≤ te T n (pos T n (j + 2 + argc v)) ∧ (∀ k', 0 ≤ k' → k' < argc v → ArR A' B' t 210 c k' (G 1 c 0)) ∧ True := by
      rcases R8 () with ⟨-, h1, h2, h3, h4, h5, h6, -⟩ | ⟨h, -⟩
      · exact ⟨h1, h2, h3, h4, h5, h6, trivial⟩
      · omega
    obtain ⟨ot, md01', mdp, md13, md12⟩ := are hx
    have MD : Unit → (md = 0 ∨ md = 1) := fun _ => md01'
    clear md01'
    rw [hx]
    have eA : ∀ b, b ≠ 1 → b ≠ 4 → b ≠ t → b ≠ t + 1 → b ≠ t + 2 → b ≠ t + 8 → b ≠ t + 4 → b ≠ t + 5 → b ≠ t + 6 → b ≠ t + 7 → A4 b = A b := fun b h1 h4 h0 ha hb hc hd he hf hg => by rw [z4 b h4, r1 b h1 h4 hf hg, e0 b h1 h0 ha hb hc hd he]
    have eT : ∀ b, b ≠ 1 → b ≠ 4 → b ≠ t + 4 → b ≠ t + 5 → b ≠ t + 6 → b ≠ t + 7 → A4 b = A1 b := fun b h1 h4 hd he hf hg => by rw [z4 b h4, r1 b h1 h4 hf hg, z0 b hd he, fr3.1 b h1]
    have e44 : ∀ k, k ≠ 11 → A4 4 k = A 4 k := fun k hk => by rw [z44 k hk, r3 k hk, e0 4 (by omega) (by omega) (by omega) (by omega) (by omega) (by omega) (by omega)]
    have e19 : A4 19 = A 19 := eA 19 (by omega) (by omega) (by omega) (by omega) (by omega) (by omega) (by omega) (by omega) (by omega) (by omega)
    have eB : ∀ b, b ≠ 132 → b ≠ 138 → b ≠ 139 → B' b = B b := fun b h1 h2 h3 => by rw [r5 b h1 h3, o.1 b h1 h3, mr3.1 b h1, y5 b h2 h3]
    have eB2 : ∀ k, k ≠ 7 → k ≠ 8 → k ≠ 19 → B' 132 k = B 132 k := fun k h1 h2 h3 => by rw [r6 k h1 h2 h3, o.2.1 k h1, mr3.2 k h1 h2, y5 132 (by omega) (by omega)]
    have eB8 : B' 138 = B1 138 := by rw [r5 138 (by omega) (by omega), o.1 138 (by omega) (by omega), mr3.1 138 (by omega)]
    have nm4 : NmR A4 B' (G 1 c 0) := NmR_fr p3 (e44 5 (by omega)) (eA 18 (by omega) (by omega) (by omega) (by omega) (by omega) (by omega) (by omega) (by omega) (by omega) (by omega)) e19 (eA 20 (by omega) (by omega) (by omega) (by omega) (by omega) (by omega) (by omega) (by omega) (by omega) (by omega)) (eB2 14 (by omega) (by omega) (by omega)) (eB 140 (by omega) (by omega) (by omega)) (eB 141 (by omega) (by omega) (by omega))
    have e11 : A4 4 11 = md := by
      rw [hA4]
      by_cases z : 13 ≤ v
      · rw [if_pos z]; exact md13 z
      · rw [if_neg z, wr_at, if_pos rfl]; exact (md12 (by omega)).symm
    have hmd : 0 ≤ s → md = A 19 s := fun s0 => by
      have ws : w = A 19 s := by rw [HW (), if_neg (by omega)]
      have w2 : w ≠ 2 := by
        rcases HS () with ⟨sm, -⟩ | ⟨_, s1, -⟩
        · omega
        · have := (p3.2.2.2.2.1 s s0 s1).2.2.1; omega
      rw [← ws]
      by_cases z : 13 ≤ v
      · exact mdp z w2
      · rw [md12 (by omega)]
        have ok := OK ()
        unfold okT at ok
        omega
    have sl : (if s < 0 then B3 132 14 else s) = if s = -1 then G 1 c 0 else s := by
      have b14 : B3 132 14 = G 1 c 0 := by rw [mr3.2 14 (by omega) (by omega), y5 132 (by omega) (by omega)]; exact p3.2.1
      rcases HS () with ⟨sm, -⟩ | ⟨s0, -, -⟩
      · rw [if_pos (by omega), if_pos sm, b14]
      · rw [if_neg (by omega), if_neg (by omega)]
    rw [sl] at q1
    generalize hs'' : (if s = -1 then G 1 c 0 else s) = s' at q1
    have f : IsF A B (wr A4 (t + 3) c s') B' t c s' v (pos T n j) (pos T n (j + 2)) := by
      have v0 : ∀ k, k = 0 ∨ k = 3 ∨ k = 11 → B' 139 (12 * (210 + c) + k) = B1 139 (12 * (210 + c) + k) := fun k hk => by rw [r7 _ (by omega), qk k hk, mr3.1 139 (by omega)]
      have v00 := v0 0 (by omega)
      rw [Int.add_zero] at v00
      have y40 := y4 0 (by omega) (by omega)
      rw [if_neg (by omega), if_neg (by omega), if_pos rfl, Int.add_zero] at y40
      have a34 : ∀ k, A4 (t + 4) k = if k = c then v else A (t + 4) k := fun k => by
        rw [z4 _ (by omega), r1 _ (by omega) (by omega) (by omega) (by omega), HA0 (), wr_ne (by omega), wr_at, fr3.1 _ (by omega), x7 _ (by omega) (by omega) (by omega) (by omega)]
      have a35 : ∀ k, A4 (t + 5) k = if k = c then pos T n (j + 2) else A (t + 5) k := fun k => by
        rw [z4 _ (by omega), r1 _ (by omega) (by omega) (by omega) (by omega), HA0 (), wr_at, at3.1, wr_ne (by omega), fr3.1 (t + 5) (by omega), x7 (t + 5) (by omega) (by omega) (by omega) (by omega)]
      have t0 : wr A4 (t + 3) c s' t = A1 t := by rw [wr_ne (by omega), eT t (by omega) (by omega) (by omega) (by omega) (by omega) (by omega)]
      have t1 : wr A4 (t + 3) c s' (t + 1) = A1 (t + 1) := by rw [wr_ne (by omega), eT _ (by omega) (by omega) (by omega) (by omega) (by omega) (by omega)]
      have t2 : wr A4 (t + 3) c s' (t + 2) = A1 (t + 2) := by rw [wr_ne (by omega), eT _ (by omega) (by omega) (by omega) (by omega) (by omega) (by omega)]
      have t8 : wr A4 (t + 3) c s' (t + 8) = A1 (t + 8) := by rw [wr_ne (by omega), eT _ (by omega) (by omega) (by omega) (by omega) (by omega) (by omega)]
      have t3 : ∀ k, wr A4 (t + 3) c s' (t + 3) k = if k = c then s' else A (t + 3) k := fun k => by rw [wr_at, eA _ (by omega) (by omega) (by omega) (by omega) (by omega) (by omega) (by omega) (by omega) (by omega) (by omega)]
      have t4 : ∀ k, wr A4 (t + 3) c s' (t + 4) k = if k = c then v else A (t + 4) k := fun k => by rw [wr_ne (by omega)]; exact a34 k
      have t5 : ∀ k, wr A4 (t + 3) c s' (t + 5) k = if k = c then pos T n (j + 2) else A (t + 5) k := fun k => by rw [wr_ne (by omega)]; exact a35 k
      have tu : ∀ b, b = t + 9 ∨ b = t + 10 ∨ b = t + 11 ∨ b = t + 12 ∨ b = 21 → wr A4 (t + 3) c s' b = A b := fun b hb => by rw [wr_ne (by omega), eA b (by omega) (by omega) (by omega) (by omega) (by omega) (by omega) (by omega) (by omega) (by omega) (by omega)]
      refine ⟨by rw [t0]; exact x1, fun k hk => by rw [t0]; exact x5 k hk, fun k _ hk => by rw [wr_ne (by omega)]; exact e44 k hk, tu 21 (by omega), fun i hi => ?_, ⟨tu _ (by omega), tu _ (by omega), tu _ (by omega), tu _ (by omega)⟩, fun y hy => ?_, ⟨by rw [t1]; exact x2, by rw [t2]; exact x3, by rw [t3, if_pos rfl], by rw [t4, if_pos rfl], by rw [t5, if_pos rfl]⟩, by rw [eB8]; exact y1, fun k hk => by rw [eB8]; exact y2 k hk, fun y hy => ?_, ⟨by rw [v00]; exact y40, by rw [r7 _ (by omega)]; exact q1, by rw [r7 _ (by omega)]; exact q2, ?_, by rw [r7 _ (by omega)]; exact q4, ?_⟩, eB2 18 (by omega) (by omega) (by omega), eB 142 (by omega) (by omega) (by omega), eB 143 (by omega) (by omega) (by omega), eB 144 (by omega) (by omega) (by omega)⟩
      · rw [t1, t2, t8, t3, t4, t5, if_neg hi, if_neg hi, if_neg hi]
        exact ⟨(x6 i hi).1, (x6 i hi).2.1, rfl, rfl, rfl, (x6 i hi).2.2⟩
      · rw [wr_ne (by omega), wr_ne (by omega), z4 _ (by omega), z4 _ (by omega), (r4 y hy).1, (r4 y hy).2, e0 _ (by omega) (by omega) (by omega) (by omega) (by omega) (by omega) (by omega), e0 _ (by omega) (by omega) (by omega) (by omega) (by omega) (by omega) (by omega)]
        exact ⟨rfl, rfl⟩
      · rw [r7 y (by omega), o.2.2 y hy, mr3.1 139 (by omega), y3 y hy]
      · rw [v0 3 (by omega), y4 3 (by omega) (by omega), if_neg (by omega), if_pos rfl]
      · rw [v0 11 (by omega), y4 11 (by omega) (by omega), if_pos rfl]
    subst hs''
    refine is_end (J := j + 2 + argc v) hP c200 j0 wt (HS ()) (H20 ()) hmd (MD ()) cf4 mf4 nm4 (eA 18 (by omega) (by omega) (by omega) (by omega) (by omega) (by omega) (by omega) (by omega) (by omega) (by omega)) e19 e11 f (by rw [z4 1 (by omega)]; exact r8a) r8b r8c (by omega) r8d (by omega) (by omega) v2 v14 (fun k k0 k1 => ?_) ?_
    · unfold ArR
      rw [z4 _ (by omega), z4 _ (by omega)]
      exact r8f k k0 k1
    · refine OpTr_cg ot (z4 _ (by omega)) (fun k => Or.inl ?_) v2
      unfold tyA
      rw [e0 19 (by omega) (by omega) (by omega) (by omega) (by omega) (by omega) (by omega)]
  · have r9 : 0 < x ∧ B' 132 8 = x := by
      rcases R8 () with h | h
      · exact absurd h.1 hx
      · exact h
    obtain ⟨B5, g5, mr5, b5⟩ := m_takeEnd8 (B := B') (by omega)
    refine ⟨x, A4, B5, cIsK8 hx, ?_, cf4, MFr_trans mf4 (F78_MFr mr5), Or.inr ⟨r9.1, by rw [b5]; exact r9.2⟩⟩
    dsimp only
    rw [if_neg (by omega), ob, ob]
    exact g5
