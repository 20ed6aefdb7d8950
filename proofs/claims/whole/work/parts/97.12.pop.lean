/-! else, end -/
theorem LnP_pt {A A' B B' : Mem} {t : Nat} {off c i : Int} {G G' : Nat → Int → Int → Int} (h : LnP A B t off G c i) (o : LnO A t G i) (T : LnT A t G i) (f : LnF A A' B B' t off c) (g : GEq G G' c) (i0 : 0 ≤ i) (i1 : i < c) (q5 : A (t + 1) i = 5 → G' 5 i 0 = G 5 i 0 ∧ G' 6 i 0 = G 6 i 0 ∧ A' (t + 8) i = A (t + 8) i ∧ B' 139 (12 * (off + i) + 7) = B 139 (12 * (off + i) + 7) ∧ B' 139 (12 * (off + i) + 9) = B 139 (12 * (off + i) + 9)) (q6 : A (t + 1) i = 6 → G' 5 (G 2 i (G 0 i 0 - 1)) 0 = G 5 (G 2 i (G 0 i 0 - 1)) 0 ∧ G' 6 (G 2 i (G 0 i 0 - 1)) 0 = G 6 (G 2 i (G 0 i 0 - 1)) 0 ∧ A' (t + 8) i = A (t + 8) i) (q8 : A (t + 1) i = 8 → G' 5 (G 2 i (G 0 i 0 - 1)) 0 = G 5 (G 2 i (G 0 i 0 - 1)) 0) : LnP A' B' t off G' (c + 1) i := by
  obtain ⟨a1, a2, a3, a4, a5, a9⟩ := f.1 i i0 i1
  have e0 : ∀ a l, a ≤ 4 → G' a i l = G a i l := fun a l x => g a i l x (by omega)
  obtain ⟨h5, h6, h8⟩ := h
  unfold LnP
  rw [a1]
  simp only [e0 0 _ (by omega), e0 2 _ (by omega), e0 3 _ (by omega)]
  refine ⟨fun z => ?_, fun z => ?_, fun z => ?_⟩
  · obtain ⟨r1, r2, r3, r4, r5⟩ := q5 z
    rw [r1, r2, r3, r4, r5]
    obtain ⟨x1, x2, x3, x4⟩ := h5 z
    refine ⟨?_, ?_, x3, x4⟩
    · rcases x1 with y | ⟨y1, y2, y3, y4, y5⟩
      · exact Or.inl y
      · refine Or.inr ⟨y1, by omega, ?_, ?_, ?_⟩
        · rw [(f.1 _ (by omega) y2).1]; exact y3
        · rw [g 0 _ _ (by omega) (by omega)]; exact y4
        · rw [g 2 _ _ (by omega) (by omega)]; exact y5
    · rcases x2 with y | ⟨y1, y2, y3, y4, y5, y6, y7⟩
      · exact Or.inl y
      · refine Or.inr ⟨y1, by omega, ?_, ?_, ?_, ?_, y7⟩
        · rw [(f.1 _ (by omega) y2).1]; exact y3
        · rw [g 0 _ _ (by omega) (by omega)]; exact y4
        · rw [g 2 _ _ (by omega) (by omega)]; exact y5
        · rw [g 3 _ _ (by omega) (by omega)]; exact y6
  · obtain ⟨r1, r2, r3⟩ := q6 z
    rw [r1, r2, r3, f.2.2.2.2 i 7 i0 i1 (by omega) (by omega) (by omega)]
    exact h6 z
  · have d1 := (T.2.2.2.2.2.2.2.2 z).1
    have oo := (o.2.2.2 (G 0 i 0 - 1) (by omega) (by omega)).1
    rw [q8 z, (f.1 _ oo.1 (by omega)).1, f.2.2.2.2 i 1 i0 i1 (by omega) (by omega) (by omega), f.2.2.2.2 i 7 i0 i1 (by omega) (by omega) (by omega)]
    exact h8 z
theorem LnS_ext2 {A A' B B' : Mem} {t : Nat} {off c : Int} {G G' : Nat → Int → Int → Int} (c0 : 0 ≤ c) (h : LnS A B t off G c) (f : LnF A A' B B' t off c) (g : GEq G G' c) (a8 : ∀ x, 0 ≤ x → x < c → A (t + 1) x = 8 → A' (t + 8) x = A (t + 8) x) (hPs : ∀ i, 0 ≤ i → i < c → LnP A' B' t off G' (c + 1) i) (hR : LnR A' B' t off G' c) (hT : LnT A' t G' c) (hP : LnP A' B' t off G' (c + 1) c) (hO : LnO A' t G' (c + 1)) (hop : ∀ l, 0 ≤ l → l < G' 0 (c + 1) 0 → G' 5 (G' 2 (c + 1) l) 0 = -1 ∧ (A' (t + 1) (G' 2 (c + 1) l) = 5 → (G' 3 (c + 1) l = 1 ↔ G' 6 (G' 2 (c + 1) l) 0 ≠ -1))) : LnS A' B' t off G' (c + 1) := by
  obtain ⟨h1, h2, h3⟩ := h
  refine ⟨fun i i0 i1 => ?_, fun i i0 i1 => ?_, hop, by rw [g 1 0 0 (by omega) c0]; exact h3.2⟩
  · by_cases e : i = c
    · rw [e]; exact ⟨hR, hT, hP⟩
    · obtain ⟨x1, x2, x3⟩ := h1 i i0 (by omega)
      have o := h2 i i0 (by omega)
      exact ⟨LnR_fr x1 f g i0 (by omega), LnT_fr x2 o f g i0 (by omega) (fun z => a8 i i0 (by omega) z), hPs i i0 (by omega)⟩
  · by_cases e : i = c + 1
    · rw [e]; exact hO
    · exact LnO_fr (h2 i i0 (by omega)) f g (by omega)
/-- open lines are unlike -/
theorem opn_inj {A : Mem} {t : Nat} {G : Nat → Int → Int → Int} {c k l : Int} (o : LnO A t G c) (k0 : 0 ≤ k) (k1 : k < G 0 c 0) (l0 : 0 ≤ l) (l1 : l < G 0 c 0) (h : G 2 c k = G 2 c l) : k = l := by
  have x := (o.2.2.2 k k0 k1).2.1
  have y := (o.2.2.2 l l0 l1).2.1
  rw [h] at x
  omega
/-- else -/
def elE (G : Nat → Int → Int → Int) (c : Int) : Int → Int := fun l => if l = G 0 c 0 - 1 then 1 else G 3 c l
def elG (G : Nat → Int → Int → Int) (c : Int) : Nat → Int → Int → Int := fun a i l => if a = 6 ∧ i = G 2 c (G 0 c 0 - 1) then c else upG G c (G 0 c 0) (G 1 (G 2 c (G 0 c 0 - 1)) 0) (G 2 c) (elE G c) (G 4 c) a i l
set_option maxHeartbeats 4000000 in
set_option maxRecDepth 20000 in
theorem PC_else {A A' B B' : Mem} {t : Nat} {T : Int → Int} {n N c : Int} {G : Nat → Int → Int → Int} (h : PC A B t T n N G c) (cf : CFr t A A') (mf : MFr B B') (d1 : 1 ≤ G 0 c 0) (ho : A (t + 1) (G 2 c (G 0 c 0 - 1)) = 5) (he : G 3 c (G 0 c 0 - 1) = 0) (hNm : NmR A' B' (G 1 (G 2 c (G 0 c 0 - 1)) 0)) (a19 : A' 19 = A 19) (a0 : A' t 0 = c + 1) (b0 : B' 138 412 = c + 1) (atk : ∀ k, k ≠ 0 → A' t k = A t k) (bk : ∀ k, 412 < k → B' 138 k = B 138 k) (eb : A' (t + 10) = A (t + 10) ∧ A' (t + 11) = A (t + 11) ∧ A' (t + 12) = A (t + 12)) (a4 : ∀ k, k ≠ 5 → k ≠ 11 → A' 4 k = A 4 k) (b18 : B' 132 18 = B 132 18) (a21 : A' 21 = A 21) (b142 : ∀ l, B' 142 l = if l = G 0 c 0 - 1 then 2 else B 142 l) (b143 : B' 143 = B 143) (b144 : B' 144 = B 144) (lf : LnF A A' B B' t 210 c) (a8 : ∀ x, 0 ≤ x → x < c → A' (t + 8) x = if x = G 2 c (G 0 c 0 - 1) then c else A (t + 8) x) (a8c : A' (t + 8) c = -1) (b7 : ∀ x, 0 ≤ x → x < c → B' 139 (12 * (210 + x) + 7) = (if x = G 2 c (G 0 c 0 - 1) then c else B 139 (12 * (210 + x) + 7)) ∧ B' 139 (12 * (210 + x) + 9) = B 139 (12 * (210 + x) + 9)) (b7c : B' 139 (12 * (210 + c) + 7) = G 2 c (G 0 c 0 - 1)) (hk : A' (t + 1) c = 6) (hR : LnR A' B' t 210 (elG G c) c) : PC A' B' t T n N (elG G c) (c + 1) := by
  obtain ⟨p1, p2, p3, p4, p5, p6, p7, p8, p9, p10, p11, p12, p13, p14, p15, p16⟩ := h
  have c0 := p4.2.2
  have o := p16.2.1 c c0 (Int.le_refl _)
  have oo := o.2.2.2 (G 0 c 0 - 1) (by omega) (by omega)
  have op := p16.2.2.1 (G 0 c 0 - 1) (by omega) (by omega)
  generalize hw : G 2 c (G 0 c 0 - 1) = w at *
  have g6w : G 6 w 0 = -1 := by
    by_cases z : G 6 w 0 = -1
    · exact z
    · have := (op.2 ho).mpr z; omega
  have g5w : G 5 w 0 = -1 := op.1
  obtain ⟨u0, u1, u2, u3, u4⟩ := upG_n (G := G) (c := c) (d := G 0 c 0) (m := G 1 w 0) (op := G 2 c) (el := elE G c) (ts := G 4 c)
  have ev : ∀ a i l, ¬ (a = 6 ∧ i = w) → elG G c a i l = upG G c (G 0 c 0) (G 1 w 0) (G 2 c) (elE G c) (G 4 c) a i l := fun a i l z => by unfold elG; rw [hw, if_neg z]
  have ue : GEq G (elG G c) c := fun a i l ha hi => by rw [ev a i l (by omega)]; exact upG_eq a i l ha hi
  have u6w : elG G c 6 w 0 = c := by unfold elG; rw [hw, if_pos ⟨rfl, rfl⟩]
  have u5 : ∀ x, x < c → elG G c 5 x 0 = G 5 x 0 := fun x hx => by rw [ev 5 x 0 (by omega)]; exact (upG_5 hx).1
  have u6 : ∀ x, x < c → x ≠ w → elG G c 6 x 0 = G 6 x 0 := fun x hx hw => by rw [ev 6 x 0 (by omega)]; exact (upG_5 hx).2
  have v0 : elG G c 0 (c + 1) 0 = G 0 c 0 := by rw [ev 0 _ _ (by omega)]; exact u0
  have v1 : elG G c 1 (c + 1) 0 = G 1 w 0 := by rw [ev 1 _ _ (by omega)]; exact u1
  have v2 : ∀ l, elG G c 2 (c + 1) l = G 2 c l := fun l => by rw [ev 2 _ _ (by omega)]; exact u2 l
  have v3 : ∀ l, elG G c 3 (c + 1) l = if l = G 0 c 0 - 1 then 1 else G 3 c l := fun l => by rw [ev 3 _ _ (by omega)]; exact u3 l
  have v4 : ∀ l, elG G c 4 (c + 1) l = G 4 c l := fun l => by rw [ev 4 _ _ (by omega)]; exact u4 l
  have w0 : elG G c 0 c 0 = G 0 c 0 := ue 0 c 0 (by omega) (Int.le_refl _)
  have w1 : elG G c 1 c 0 = G 1 c 0 := ue 1 c 0 (by omega) (Int.le_refl _)
  have w2 : ∀ l, elG G c 2 c l = G 2 c l := fun l => ue 2 c l (by omega) (Int.le_refl _)
  have w3 : ∀ l, elG G c 3 c l = G 3 c l := fun l => ue 3 c l (by omega) (Int.le_refl _)
  have w4 : ∀ l, elG G c 4 c l = G 4 c l := fun l => ue 4 c l (by omega) (Int.le_refl _)
  have ww : ∀ a k, a ≤ 4 → elG G c a w k = G a w k := fun a k x => ue a w k x (by omega)
  generalize hG : elG G c = G' at *
  have kk : ∀ l, 0 ≤ l → l < G 0 c 0 → A' (t + 1) (G 2 c l) = A (t + 1) (G 2 c l) := fun l a b => by
    have := (o.2.2.2 l a b).1
    exact (lf.1 _ this.1 this.2).1
  have lt : ∀ l, 0 ≤ l → l < G 0 c 0 → 0 ≤ G 2 c l ∧ G 2 c l < c := fun l a b => (o.2.2.2 l a b).1
  have d0 := o.1
  unfold PC
  rw [v0, v1]
  refine ⟨CK_CFr p1 cf, MK_MFr p2 mf, hNm, ⟨a0, b0, by omega⟩, ?_, ?_, ?_, ?_, ?_, ?_, ?_, ?_, fun i i0 i1 => ?_, fun s s0 s1 => by rw [v4, a19]; exact p14 s s0 (by omega), fun l l0 l1 => ?_, ?_⟩
  · rw [atk 10 (by omega), bk 413 (by omega)]; exact p5
  · rw [atk 16 (by omega), bk 414 (by omega)]; exact ⟨p6.1, p6.2.1, by omega, by rw [a4 8 (by omega) (by omega)]; omega⟩
  · rw [atk 14 (by omega), bk 415 (by omega)]; exact p7
  · rw [atk 15 (by omega), bk 416 (by omega)]; exact p8
  · rw [a4 9 (by omega) (by omega), bk 418 (by omega)]; exact p9
  · rw [a4 10 (by omega) (by omega), bk 419 (by omega)]; exact p10
  · rw [a4 7 (by omega) (by omega), b18]; exact p11
  · rw [a4 8 (by omega) (by omega), p12]
    apply sm_congr
    intro i i0 i1
    unfold whO
    rw [v2, kk i i0 (by omega)]
  · rw [atk 10 (by omega)] at i1
    rw [eb.1, eb.2.1, eb.2.2, bk _ (by omega), bk _ (by omega), bk _ (by omega)]
    exact p13 i i0 i1
  · rw [a21, b142, b143, b144, v2, v3, kk l l0 l1, ue 1 _ _ (by omega) (by have := lt l l0 l1; omega)]
    have x := p15 l l0 l1
    by_cases e : l = G 0 c 0 - 1
    · simp only [e, if_true]
      rw [e, hw] at x
      rw [hw]
      exact ⟨x.1, x.2.1, by rw [if_neg (by omega)], x.2.2.2⟩
    · simp only [e, if_false]
      exact x
  · refine LnS_ext2 c0 p16 lf ue (fun x x0 x1 z => by rw [a8 x x0 x1, if_neg (fun y => by rw [y, ho] at z; omega)]) (fun i i0 i1 => ?_) hR ?_ ?_ ?_ (fun l l0 l1 => ?_)
    · obtain ⟨y1, y2, y3⟩ := p16.1 i i0 i1
      have oi := p16.2.1 i i0 (by omega)
      by_cases e : i = w
      · subst e
        obtain ⟨z1, z2, z3, z4⟩ := y3.1 ho
        unfold LnP
        rw [(lf.1 i i0 i1).1, ho, u6w, u5 i i1, g5w, a8 i i0 i1, if_pos rfl, (b7 i i0 i1).1, if_pos rfl, ww 0 _ (by omega), w0, w2, oo.2.1]
        refine ⟨fun _ => ⟨Or.inr ⟨by omega, by omega, hk, by omega, hw⟩, Or.inl rfl, by rw [if_neg (by omega)], by rw [if_neg (by omega)]⟩, fun z => by omega, fun z => by omega⟩
      · refine LnP_pt y3 oi y2 lf ue i0 i1 (fun z => ⟨u5 i i1, u6 i i1 e, by rw [a8 i i0 i1, if_neg e], by rw [(b7 i i0 i1).1, if_neg e], (b7 i i0 i1).2⟩) (fun z => ?_) (fun z => ?_)
        · have d := (y2.2.2.2.2.2.2.2.1 z).1
          have ol := (oi.2.2.2 (G 0 i 0 - 1) (by omega) (by omega)).1
          have hne : G 2 i (G 0 i 0 - 1) ≠ w := fun y => by
            have := (y3.2.1 z).2.1
            rw [y, g6w] at this; omega
          exact ⟨u5 _ (by omega), u6 _ (by omega) hne, by rw [a8 i i0 i1, if_neg e]⟩
        · have d := (y2.2.2.2.2.2.2.2.2 z).1
          have ol := (oi.2.2.2 (G 0 i 0 - 1) (by omega) (by omega)).1
          exact u5 _ (by omega)
    · unfold LnT
      rw [hk, v0, v1, w0, w1, w2, hw, (lf.1 w oo.1.1 oo.1.2).1, w3]
      refine ⟨by omega, fun s s0 s1 s2 => by rw [v4, w4], fun z => by omega, fun z => by omega, fun z => by omega, fun z => by omega, fun z => by omega, fun _ => ⟨d1, ho, he, rfl, fun l l0 l1 => by rw [v2, w2], fun l l0 l1 => by rw [v3, if_neg (by omega), w3], by rw [v3, if_pos rfl], by rw [ww 1 _ (by omega)]⟩, fun z => by omega⟩
    · unfold LnP
      rw [hk, w0, w2, hw, u5 w oo.1.2, g5w, u6w, a8c, b7c]
      exact ⟨fun z => by omega, fun _ => ⟨rfl, rfl, rfl⟩, fun z => by omega⟩
    · unfold LnO
      rw [v0, v1]
      have wt := (p16.2.1 w oo.1.1 (by omega)).2.1
      refine ⟨d0, wt, fun s s0 s1 => by rw [v4]; exact o.2.2.1 s s0 (by omega), fun l l0 l1 => ?_⟩
      obtain ⟨x1, x2, x3, x4, x5, x6, x7, x8⟩ := o.2.2.2 l l0 l1
      have eo : ∀ a k, a ≤ 4 → G' a (G 2 c l) k = G a (G 2 c l) k := fun a k x => ue a _ k x (by omega)
      rw [v2, v3, kk l l0 l1, eo 0 _ (by omega), eo 1 _ (by omega)]
      have tcl : G 1 (G 2 c l) 0 ≤ G 1 w 0 := by
        by_cases e : l = G 0 c 0 - 1
        · rw [e, hw]; exact Int.le_refl _
        · have y := (oo.2.2.2.2.2.2.2 l l0 (by omega)).1
          have q := (p16.2.1 w oo.1.1 (by omega)).2.2.2 l l0 (by rw [oo.2.1]; omega)
          rw [y]; exact q.2.2.2.2.2.1
      refine ⟨by omega, x2, x3, ?_, fun z => ?_, tcl, fun s s0 s1 => ?_, fun k k0 k1 => ?_⟩
      · by_cases e : l = G 0 c 0 - 1
        · rw [if_pos e]; exact Or.inr rfl
        · rw [if_neg e]; exact x4
      · by_cases e : l = G 0 c 0 - 1
        · rw [e, hw] at z; omega
        · rw [if_neg e]; exact x5 z
      · rw [eo 4 _ (by omega), v4]; exact x7 s s0 s1
      · rw [eo 2 _ (by omega), eo 3 _ (by omega), v2, v3, if_neg (by omega)]; exact x8 k k0 k1
    · rw [v0] at l1
      rw [v2, v3, kk l l0 l1, u5 _ (lt l l0 l1).2]
      have x := p16.2.2.1 l l0 l1
      by_cases e : l = G 0 c 0 - 1
      · rw [if_pos e, e, hw, u6w]
        exact ⟨g5w, fun _ => ⟨fun _ => by omega, fun _ => rfl⟩⟩
      · have hne : G 2 c l ≠ w := fun y => e (opn_inj o l0 l1 (by omega) (by omega) (by rw [y, hw]))
        rw [if_neg e, u6 _ (lt l l0 l1).2 hne]
        exact x
