/-- end -/
def enG (G : Nat → Int → Int → Int) (c m' : Int) : Nat → Int → Int → Int := fun a i l => if a = 5 ∧ i = G 2 c (G 0 c 0 - 1) then c else upG G c (G 0 c 0 - 1) m' (G 2 c) (G 3 c) (G 4 c) a i l
set_option maxHeartbeats 4000000 in
set_option maxRecDepth 20000 in
theorem PC_end {A A' B B' : Mem} {t : Nat} {T : Int → Int} {n N c m' : Int} {G : Nat → Int → Int → Int} (h : PC A B t T n N G c) (cf : CFr t A A') (mf : MFr B B') (d1 : 1 ≤ G 0 c 0) (hm' : m' = if A (t + 1) (G 2 c (G 0 c 0 - 1)) = 5 then G 1 (G 2 c (G 0 c 0 - 1)) 0 else G 1 c 0) (hNm : NmR A' B' m') (a19 : A' 19 = A 19) (a0 : A' t 0 = c + 1) (b0 : B' 138 412 = c + 1) (atk : ∀ k, k ≠ 0 → A' t k = A t k) (bk : ∀ k, 412 < k → B' 138 k = B 138 k) (eb : A' (t + 10) = A (t + 10) ∧ A' (t + 11) = A (t + 11) ∧ A' (t + 12) = A (t + 12)) (a4 : ∀ k, k ≠ 5 → k ≠ 7 → k ≠ 8 → k ≠ 11 → A' 4 k = A 4 k) (a47 : A' 4 7 = G 0 c 0 - 1) (a48 : A' 4 8 = A 4 8 - if A (t + 1) (G 2 c (G 0 c 0 - 1)) = 5 then 1 else 0) (b18 : B' 132 18 = G 0 c 0 - 1) (a21 : A' 21 = A 21) (b142 : B' 142 = B 142) (b143 : B' 143 = B 143) (b144 : B' 144 = B 144) (lf : LnF A A' B B' t 210 c) (a8 : ∀ x, 0 ≤ x → x < c → A' (t + 8) x = if A (t + 1) (G 2 c (G 0 c 0 - 1)) = 5 ∧ x = (if G 6 (G 2 c (G 0 c 0 - 1)) 0 = -1 then G 2 c (G 0 c 0 - 1) else G 6 (G 2 c (G 0 c 0 - 1)) 0) then c else A (t + 8) x) (a8c : A' (t + 8) c = G 2 c (G 0 c 0 - 1)) (b7 : ∀ x, 0 ≤ x → x < c → B' 139 (12 * (210 + x) + 7) = B 139 (12 * (210 + x) + 7) ∧ B' 139 (12 * (210 + x) + 9) = if x = G 2 c (G 0 c 0 - 1) then c else B 139 (12 * (210 + x) + 9)) (b7c : B' 139 (12 * (210 + c) + 7) = G 2 c (G 0 c 0 - 1)) (b1c : B' 139 (12 * (210 + c) + 1) = if A (t + 1) (G 2 c (G 0 c 0 - 1)) = 7 then 1 else if G 3 c (G 0 c 0 - 1) = 1 then 2 else 0) (hk : A' (t + 1) c = 8) (hR : LnR A' B' t 210 (enG G c m') c) : PC A' B' t T n N (enG G c m') (c + 1) := by
  obtain ⟨p1, p2, p3, p4, p5, p6, p7, p8, p9, p10, p11, p12, p13, p14, p15, p16⟩ := h
  have c0 := p4.2.2
  have o := p16.2.1 c c0 (Int.le_refl _)
  have oo := o.2.2.2 (G 0 c 0 - 1) (by omega) (by omega)
  have op := p16.2.2.1 (G 0 c 0 - 1) (by omega) (by omega)
  generalize hw : G 2 c (G 0 c 0 - 1) = w at *
  have g5w : G 5 w 0 = -1 := op.1
  have yw := p16.1 w oo.1.1 oo.1.2
  obtain ⟨u0, u1, u2, u3, u4⟩ := upG_n (G := G) (c := c) (d := G 0 c 0 - 1) (m := m') (op := G 2 c) (el := G 3 c) (ts := G 4 c)
  have ev : ∀ a i l, ¬ (a = 5 ∧ i = w) → enG G c m' a i l = upG G c (G 0 c 0 - 1) m' (G 2 c) (G 3 c) (G 4 c) a i l := fun a i l z => by unfold enG; rw [hw, if_neg z]
  have ue : GEq G (enG G c m') c := fun a i l ha hi => by rw [ev a i l (by omega)]; exact upG_eq a i l ha hi
  have u5w : enG G c m' 5 w 0 = c := by unfold enG; rw [hw, if_pos ⟨rfl, rfl⟩]
  have u6 : ∀ x, x < c → enG G c m' 6 x 0 = G 6 x 0 := fun x hx => by rw [ev 6 x 0 (by omega)]; exact (upG_5 hx).2
  have u5 : ∀ x, x < c → x ≠ w → enG G c m' 5 x 0 = G 5 x 0 := fun x hx hw => by rw [ev 5 x 0 (by omega)]; exact (upG_5 hx).1
  have v0 : enG G c m' 0 (c + 1) 0 = G 0 c 0 - 1 := by rw [ev 0 _ _ (by omega)]; exact u0
  have v1 : enG G c m' 1 (c + 1) 0 = m' := by rw [ev 1 _ _ (by omega)]; exact u1
  have v2 : ∀ l, enG G c m' 2 (c + 1) l = G 2 c l := fun l => by rw [ev 2 _ _ (by omega)]; exact u2 l
  have v3 : ∀ l, enG G c m' 3 (c + 1) l = G 3 c l := fun l => by rw [ev 3 _ _ (by omega)]; exact u3 l
  have v4 : ∀ l, enG G c m' 4 (c + 1) l = G 4 c l := fun l => by rw [ev 4 _ _ (by omega)]; exact u4 l
  have w0 : enG G c m' 0 c 0 = G 0 c 0 := ue 0 c 0 (by omega) (Int.le_refl _)
  have w1 : enG G c m' 1 c 0 = G 1 c 0 := ue 1 c 0 (by omega) (Int.le_refl _)
  have w2 : ∀ l, enG G c m' 2 c l = G 2 c l := fun l => ue 2 c l (by omega) (Int.le_refl _)
  have w3 : ∀ l, enG G c m' 3 c l = G 3 c l := fun l => ue 3 c l (by omega) (Int.le_refl _)
  have w4 : ∀ l, enG G c m' 4 c l = G 4 c l := fun l => ue 4 c l (by omega) (Int.le_refl _)
  have ww : ∀ a k, a ≤ 4 → enG G c m' a w k = G a w k := fun a k x => ue a w k x (by omega)
  generalize hG : enG G c m' = G' at *
  have kk : ∀ l, 0 ≤ l → l < G 0 c 0 → A' (t + 1) (G 2 c l) = A (t + 1) (G 2 c l) := fun l a b => by
    have := (o.2.2.2 l a b).1
    exact (lf.1 _ this.1 this.2).1
  have lt : ∀ l, 0 ≤ l → l < G 0 c 0 → 0 ≤ G 2 c l ∧ G 2 c l < c := fun l a b => (o.2.2.2 l a b).1
  have d0 := o.1
  have mm : m' ≤ G 1 c 0 := by
    rw [hm']
    by_cases z : A (t + 1) w = 5
    · rw [if_pos z]; exact oo.2.2.2.2.2.1
    · rw [if_neg z]; exact Int.le_refl _
  unfold PC
  rw [v0, v1]
  refine ⟨CK_CFr p1 cf, MK_MFr p2 mf, hNm, ⟨a0, b0, by omega⟩, ?_, ?_, ?_, ?_, ?_, ?_, ⟨a47, b18⟩, ?_, fun i i0 i1 => ?_, fun s s0 s1 => by rw [v4, a19]; exact p14 s s0 (by omega), fun l l0 l1 => ?_, ?_⟩
  · rw [atk 10 (by omega), bk 413 (by omega)]; exact p5
  · rw [atk 16 (by omega), bk 414 (by omega)]; exact ⟨p6.1, p6.2.1, by omega, by rw [a48]; split <;> omega⟩
  · rw [atk 14 (by omega), bk 415 (by omega)]; exact p7
  · rw [atk 15 (by omega), bk 416 (by omega)]; exact p8
  · rw [a4 9 (by omega) (by omega) (by omega) (by omega), bk 418 (by omega)]; exact p9
  · rw [a4 10 (by omega) (by omega) (by omega) (by omega), bk 419 (by omega)]; exact p10
  · have e1 : sm (whO A t G c) (G 0 c 0).toNat = sm (whO A t G c) (G 0 c 0 - 1).toNat + whO A t G c (G 0 c 0 - 1) := by
      have := sm_s (f := whO A t G c) (i := G 0 c 0 - 1) (by omega)
      rw [show G 0 c 0 - 1 + 1 = G 0 c 0 by omega] at this
      exact this
    have e2 : whO A t G c (G 0 c 0 - 1) = if A (t + 1) w = 5 then 1 else 0 := by unfold whO; rw [hw]
    have e3 : sm (whO A' t G' (c + 1)) (G 0 c 0 - 1).toNat = sm (whO A t G c) (G 0 c 0 - 1).toNat := by
      apply sm_congr
      intro i i0 i1
      unfold whO
      rw [v2, kk i i0 (by omega)]
    rw [a48, p12, e1, e2, e3]
    omega
  · rw [atk 10 (by omega)] at i1
    rw [eb.1, eb.2.1, eb.2.2, bk _ (by omega), bk _ (by omega), bk _ (by omega)]
    exact p13 i i0 i1
  · rw [a21, b142, b143, b144, v2, v3, kk l l0 (by omega), ue 1 _ _ (by omega) (by have := lt l l0 (by omega); omega)]
    exact p15 l l0 (by omega)
  · refine LnS_ext2 c0 p16 lf ue (fun x x0 x1 z => ?_) (fun i i0 i1 => ?_) hR ?_ ?_ ?_ (fun l l0 l1 => ?_)
    · rw [a8 x x0 x1, if_neg]
      rintro ⟨z1, z2⟩
      by_cases e : G 6 w 0 = -1
      · rw [if_pos e] at z2; rw [z2, z1] at z; omega
      · rw [if_neg e] at z2
        rcases (yw.2.2.1 z1).1 with y | y
        · exact e y
        · rw [z2, y.2.2.1] at z; omega
    · obtain ⟨y1, y2, y3⟩ := p16.1 i i0 i1
      have oi := p16.2.1 i i0 (by omega)
      by_cases e : i = w ∧ A (t + 1) w = 5
      · obtain ⟨e, h5⟩ := e
        subst e
        obtain ⟨z1, z2, z3, z4⟩ := y3.1 h5
        have r3 : G 3 c (G 0 c 0 - 1) = if G 6 i 0 = -1 then 0 else 1 := by
          have q := op.2 h5
          by_cases e6 : G 6 i 0 = -1
          · rw [if_pos e6]
            have : ¬ G 3 c (G 0 c 0 - 1) = 1 := fun y => (q.mp y) e6
            have := oo.2.2.2.1
            omega
          · rw [if_neg e6]; exact q.mpr e6
        unfold LnP
        rw [(lf.1 i i0 i1).1, h5, u5w, u6 i i1, a8 i i0 i1, (b7 i i0 i1).1, (b7 i i0 i1).2, if_pos rfl, ww 0 _ (by omega), oo.2.1]
        refine ⟨fun _ => ⟨?_, Or.inr ⟨by omega, by omega, hk, ?_, ?_, ?_, rfl⟩, ?_, z4⟩, fun z => by omega, fun z => by omega⟩
        · rcases z1 with y | ⟨q1, q2, q3, q4, q5⟩
          · exact Or.inl y
          · refine Or.inr ⟨q1, by omega, ?_, ?_, ?_⟩
            · rw [(lf.1 _ (by omega) q2).1]; exact q3
            · rw [ue 0 _ _ (by omega) (by omega), q4, oo.2.1]
            · rw [ue 2 _ _ (by omega) (by omega)]; rw [oo.2.1] at q5; exact q5
        · rw [w0]; omega
        · rw [w2]; exact hw
        · rw [w3]; exact r3
        · by_cases e6 : G 6 i 0 = -1
          · rw [if_pos ⟨h5, by rw [if_pos e6]⟩, if_pos e6]
          · rw [if_neg e6, if_neg e6, if_neg]
            · rw [z3, if_neg e6]
            · rintro ⟨_, q⟩
              rcases z1 with y | y
              · exact e6 y
              · omega
      · by_cases ee : A (t + 1) w = 5 ∧ G 6 w 0 ≠ -1 ∧ i = G 6 w 0
        · obtain ⟨h5, h6, e6⟩ := ee
          rcases (yw.2.2.1 h5).1 with y | ⟨q1, q2, q3, q4, q5⟩
          · exact absurd y h6
          · rw [← e6] at q1 q2 q3 q4 q5
            have dd : G 0 i 0 - 1 = G 0 w 0 := by omega
            obtain ⟨r1, r2, r3⟩ := y3.2.1 q3
            rw [dd, q5] at r3
            have na : A' (t + 8) i = c := by
              rw [a8 i i0 i1]
              exact if_pos ⟨h5, by rw [if_neg h6]; exact e6⟩
            unfold LnP
            rw [(lf.1 i i0 i1).1, q3, na, (b7 i i0 i1).1, ue 0 i 0 (by omega) (by omega), dd, ue 2 i _ (by omega) (by omega), q5, u5w, u6 w oo.1.2]
            exact ⟨fun z => by omega, fun _ => ⟨rfl, e6.symm, r3⟩, fun z => by omega⟩
        · have na8 : A' (t + 8) i = A (t + 8) i := by
            rw [a8 i i0 i1, if_neg]
            rintro ⟨z1, z2⟩
            by_cases e6 : G 6 w 0 = -1
            · rw [if_pos e6] at z2; exact e ⟨z2, z1⟩
            · rw [if_neg e6] at z2; exact ee ⟨z1, e6, z2⟩
          refine LnP_pt y3 oi y2 lf ue i0 i1 (fun z => ?_) (fun z => ?_) (fun z => ?_)
          · have hne : i ≠ w := fun y => e ⟨y, by rw [← y]; exact z⟩
            exact ⟨u5 i i1 hne, u6 i i1, na8, (b7 i i0 i1).1, by rw [(b7 i i0 i1).2, if_neg hne]⟩
          · have d := (y2.2.2.2.2.2.2.2.1 z).1
            have k5 := (y2.2.2.2.2.2.2.2.1 z).2.1
            have ol := (oi.2.2.2 (G 0 i 0 - 1) (by omega) (by omega)).1
            have hne : G 2 i (G 0 i 0 - 1) ≠ w := fun y => by
              rw [y] at k5
              have := (y3.2.1 z).2.1
              rw [y] at this
              exact ee ⟨k5, by omega, this.symm⟩
            exact ⟨u5 _ (by omega) hne, u6 _ (by omega), na8⟩
          · have d := (y2.2.2.2.2.2.2.2.2 z).1
            have ol := (oi.2.2.2 (G 0 i 0 - 1) (by omega) (by omega)).1
            have hne : G 2 i (G 0 i 0 - 1) ≠ w := fun y => by
              have := (y3.2.2 z).1
              rw [y, g5w] at this; omega
            exact u5 _ (by omega) hne
    · unfold LnT
      rw [hk, v0, v1, w0, w1, w2, hw, (lf.1 w oo.1.1 oo.1.2).1, a8c, ww 1 _ (by omega)]
      exact ⟨by omega, fun s s0 s1 s2 => by rw [v4, w4], fun z => by omega, fun z => by omega, fun z => by omega, fun z => by omega, fun z => by omega, fun z => by omega, fun _ => ⟨d1, rfl, rfl, fun l l0 l1 => by rw [v2, v3, w2, w3]; exact ⟨rfl, rfl⟩, hm'⟩⟩
    · unfold LnP
      rw [hk, w0, w2, hw, u5w, b7c, b1c, (lf.1 w oo.1.1 oo.1.2).1, w3]
      exact ⟨fun z => by omega, fun z => by omega, fun _ => ⟨rfl, rfl, rfl⟩⟩
    · unfold LnO
      rw [v0, v1]
      refine ⟨by omega, ⟨hNm.2.2.1, hNm.2.2.2.1⟩, fun s s0 s1 => by rw [v4]; exact o.2.2.1 s s0 (by omega), fun l l0 l1 => ?_⟩
      obtain ⟨x1, x2, x3, x4, x5, x6, x7, x8⟩ := o.2.2.2 l l0 (by omega)
      have eo : ∀ a k, a ≤ 4 → G' a (G 2 c l) k = G a (G 2 c l) k := fun a k x => ue a _ k x (by omega)
      rw [v2, v3, kk l l0 (by omega), eo 0 _ (by omega), eo 1 _ (by omega)]
      have tcl : G 1 (G 2 c l) 0 ≤ m' := by
        rw [hm']
        by_cases z : A (t + 1) w = 5
        · rw [if_pos z]
          have y := (oo.2.2.2.2.2.2.2 l l0 (by omega)).1
          have q := (p16.2.1 w oo.1.1 (by omega)).2.2.2 l l0 (by rw [oo.2.1]; omega)
          rw [y]; exact q.2.2.2.2.2.1
        · rw [if_neg z]; exact x6
      refine ⟨by omega, x2, x3, x4, x5, tcl, fun s s0 s1 => ?_, fun k k0 k1 => ?_⟩
      · rw [eo 4 _ (by omega), v4]; exact x7 s s0 s1
      · rw [eo 2 _ (by omega), eo 3 _ (by omega), v2, v3]; exact x8 k k0 k1
    · rw [v0] at l1
      have hne : G 2 c l ≠ w := fun y => by
        have := opn_inj o l0 (by omega) (show 0 ≤ G 0 c 0 - 1 by omega) (by omega) (by rw [y, hw])
        omega
      rw [v2, v3, kk l l0 (by omega), u5 _ (lt l l0 (by omega)).2 hne, u6 _ (lt l l0 (by omega)).2]
      exact p16.2.2.1 l l0 (by omega)
