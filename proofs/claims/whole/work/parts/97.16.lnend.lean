set_option maxHeartbeats 4000000 in
set_option maxRecDepth 20000 in
theorem ln_end {A B : Mem} {t : Nat} {T : Int → Int} {n N c j : Int} {G : Nat → Int → Int → Int} (h : PR A B t T n N G c j) (h5 : A 1 4 = 5) (h6 : A 1 6 = 8) : ∃ x A' B', fX6_readEnd A = some (x, A') ∧ ((fX12_readEnd B).bind fun q => fX12_takeEnd q) = some B' ∧ LnRes t T n N j A B x A' B' := by
  obtain ⟨hP, hAt, hpos⟩ := h
  obtain ⟨p1, p2, p3, p4, p5, p6, p7, p8, p9, p10, p11, p12, p13, p14, p15, p16⟩ := id hP
  have ht := p1.1
  have n0 := p1.2.2.1.2.1
  have n1 := p2.2.1
  obtain ⟨hA, h7, j0, j1, h8⟩ := id hAt
  obtain ⟨-, tl, pn, t1⟩ := tk_len p1 hA h5 h6
  rw [rl_v.2.2.2.2.2.2.2.2.1] at tl
  have o := p16.2.1 c p4.2.2 (Int.le_refl _)
  have d0 := o.1
  have c0 := p4.2.2
  by_cases hd : G 0 c 0 = 0
  · obtain ⟨fa, fb, Bf, fe, resf⟩ := ln_fault (k := 1) p1 p2 hAt (by omega) (by omega)
    refine ⟨_, A, Bf, ?_, ?_, resf⟩
    · unfold fX6_readEnd
      rw [if_pos (by rw [p11.1]; exact hd), fa, ob]
    · unfold fX12_readEnd
      rw [if_pos (by rw [p11.2]; exact hd), fb, ob, ob, fe]
  · obtain ⟨oo1, oo2, oo3, oo4, oo5, oo6, oo7, oo8⟩ := o.2.2.2 (G 0 c 0 - 1) (by omega) (by omega)
    obtain ⟨q1, q2, q3, q4⟩ := p15 (G 0 c 0 - 1) (by omega) (by omega)
    obtain ⟨op1, op2⟩ := p16.2.2.1 (G 0 c 0 - 1) (by omega) (by omega)
    have lw := p16.1 (G 2 c (G 0 c 0 - 1)) oo1.1 oo1.2
    have tcw := (p16.2.1 (G 2 c (G 0 c 0 - 1)) oo1.1 (by omega)).2.1
    have w48 : 0 ≤ A 4 8 ∧ A 4 8 ≤ 4 := by
      have := sm_bd (f := whO A t G c) (c := 1) (k := (G 0 c 0).toNat) (fun i _ _ => by unfold whO; split <;> omega)
      omega
    have jN := (not_end p2 j1 (by omega)).1
    generalize hw : G 2 c (G 0 c 0 - 1) = w at *
    have e8 : A (t + 1) w = 5 → A (t + 8) w = G 6 w 0 ∧ (G 6 w 0 = -1 ∨ (0 ≤ G 6 w 0 ∧ G 6 w 0 < c)) := fun hk => by
      obtain ⟨z1, z2, z3, z4⟩ := lw.2.2.1 hk
      rw [op1] at z3
      refine ⟨?_, ?_⟩
      · rw [z3]
        by_cases z : G 6 w 0 = -1
        · rw [if_pos z, z]
        · rw [if_neg z]
      · rcases z1 with y | y
        · exact Or.inl y
        · exact Or.inr ⟨by omega, y.2.1⟩
    obtain ⟨A3, cl, x1, x2, x3, x4, x5, x6, x7, x8⟩ := c_endB (A := A) (t := t) (d := G 0 c 0) (c := c) (w := w) (p := pos T n j) (e := G 6 w 0) (m1 := G 1 w 0) ht p1.2.1 p11.1 (by omega) d0.2 q1 oo1.1 oo1.2 (by omega) p4.1 hA.1 w48 e8 (fun hk => (lw.2.1.2.2.2.2.2.1 hk).1)
    obtain ⟨m', v1, hm', hv1, B4, ml, y1, y2, y3, y4, y5, y6, y7, y8, y9⟩ : ∃ m' v1 : Int, m' = (if A (t + 1) w = 5 then G 1 w 0 else G 1 c 0) ∧ v1 = (if A (t + 1) w = 7 then 1 else if G 3 c (G 0 c 0 - 1) = 1 then 2 else 0) ∧ ∃ B4, fX12_readEnd B = some B4 ∧ B4 132 7 = j + 1 ∧ B4 132 14 = m' ∧ B4 132 18 = G 0 c 0 - 1 ∧ (∀ k, k ≠ 7 → k ≠ 14 → k ≠ 18 → B4 132 k = B 132 k) ∧ B4 138 412 = c + 1 ∧ (∀ k, k ≠ 412 → B4 138 k = B 138 k) ∧ (∀ y, y < 12 * (210 + c) ∨ 12 * (210 + c) + 12 ≤ y → B4 139 y = if y = 12 * (210 + w) + 9 then c else B 139 y) ∧ (∀ k, 0 ≤ k → k < 12 → B4 139 (12 * (210 + c) + k) = if k = 7 then w else if k = 1 then v1 else if k = 11 then G 0 c 0 - 1 else if k = 3 then pos T n j else if k = 0 then 4 else 0) ∧ ∀ b, b ≠ 132 → b ≠ 138 → b ≠ 139 → B4 b = B b := by
      refine ⟨_, _, rfl, rfl, ?_⟩
      rcases oo3 with hk | hk
      · have hn7 : ¬ A (t + 1) w = 7 := by omega
        rw [if_neg hn7] at q3
        rw [if_pos hk, if_neg hn7]
        by_cases he : G 3 c (G 0 c 0 - 1) = 1
        · rw [if_pos he] at q3 ⊢
          exact m_endB p2 h7 j0 j1 p4.2.1 c0 (by omega) p11.2 (by omega) d0.2 q3 q2 oo1.1 oo1.2 (fun z => by omega) (fun _ => ⟨q4 hk, rfl⟩) (fun z => by omega) (by omega)
        · rw [if_neg he] at q3 ⊢
          exact m_endB p2 h7 j0 j1 p4.2.1 c0 (by omega) p11.2 (by omega) d0.2 q3 q2 oo1.1 oo1.2 (fun z => by omega) (fun z => by omega) (fun _ => ⟨q4 hk, rfl⟩) (by omega)
      · rw [if_pos hk] at q3
        rw [if_neg (show ¬ A (t + 1) w = 5 by omega), if_pos hk]
        exact m_endB p2 h7 j0 j1 p4.2.1 c0 (by omega) p11.2 (by omega) d0.2 q3 q2 oo1.1 oo1.2 (fun _ => ⟨p3.2.1, rfl⟩) (fun z => by omega) (fun z => by omega) (by omega)
    have m'b : 0 ≤ m' ∧ m' ≤ G 1 c 0 := by
      rw [hm']
      by_cases hk : A (t + 1) w = 5
      · rw [if_pos hk]; exact ⟨tcw.1, oo6⟩
      · rw [if_neg hk]; exact ⟨o.2.1.1, Int.le_refl _⟩
    have a45 : A3 4 5 = m' := by
      rw [x7, hm', if_neg (fun z => by have := z.2; omega)]
      by_cases hk : A (t + 1) w = 5
      · rw [if_pos ⟨hk, rfl⟩, if_pos hk]
      · rw [if_neg (fun z => hk z.1), if_neg (by decide), if_neg hk]; exact p3.1
    have a48 : A3 4 8 = A 4 8 - if A (t + 1) w = 5 then 1 else 0 := by
      rw [x7]
      by_cases hk : A (t + 1) w = 5
      · rw [if_pos ⟨hk, rfl⟩, if_pos hk]
      · rw [if_neg (fun z => hk z.1), if_neg (fun z => hk z.1), if_neg (by decide), if_neg hk, Int.sub_zero]
    have a8c : A3 (t + 8) c = w := by
      rw [x6, if_neg, if_pos rfl]
      rintro ⟨z1, z2⟩
      have := (e8 z1).2
      by_cases z : G 6 w 0 = -1
      · rw [if_pos z] at z2; omega
      · rw [if_neg z] at z2; omega
    have a4 : ∀ k, k ≠ 5 → k ≠ 7 → k ≠ 8 → k ≠ 11 → A3 4 k = A 4 k := fun k k5 k7 k8 _ => by rw [x7, if_neg (fun z => k8 z.2), if_neg (fun z => k5 z.2), if_neg k7]
    have a47 : A3 4 7 = G 0 c 0 - 1 := by rw [x7, if_neg (fun z => absurd z.2 (by decide)), if_neg (fun z => absurd z.2 (by decide)), if_pos rfl]
    have a8 : ∀ y, 0 ≤ y → y < c → A3 (t + 8) y = if A (t + 1) w = 5 ∧ y = (if G 6 w 0 = -1 then w else G 6 w 0) then c else A (t + 8) y := fun y y0 y1 => by
      rw [x6, if_neg (show ¬ y = c by omega)]
    clear x6 x7 q3 w48 oo7 oo8
    have hmE := hm'
    have hvE := hv1
    clear hm' hv1
    have cf3 : CFr t A A3 := ⟨fun b b1 b4 b18 bt => x8 b b4 (by omega) (by omega) (by omega) (by omega), by rw [x8 1 (by omega) (by omega) (by omega) (by omega) (by omega)], a4 1 (by decide) (by decide) (by decide) (by decide)⟩
    have mf4 : MFr B B4 := ⟨fun b b1 b2 => y9 b b1 (by omega) (by omega), fun k hk => y6 k (by omega), fun y hy => by rw [y7 y (by omega), if_neg (by omega)], fun k k7 _ k14 k18 _ => y4 k k7 k14 k18⟩
    obtain ⟨x', A4, B5, f4, g5, fr4, mr4, res4⟩ := r_semi (A := A3) (B := B4) (j := j) (CK_CFr p1 cf3) (MK_MFr p2 mf4) (by rw [x8 1 (by omega) (by omega) (by omega) (by omega) (by omega)]; exact hA.2.1) j0 (by omega) y1 (by rw [y4 8 (by omega) (by omega) (by omega)]; exact h8)
    refine ⟨x', A4, B5, by rw [cl, f4, ob], by rw [ml, ob, g5], CFr_trans cf3 (F1_CFr ht fr4), MFr_trans mf4 (F78_MFr mr4), ?_⟩
    rcases res4 with ⟨rfl, at4, b47, b48, jN3, pn2⟩ | hf
    · left
      refine ⟨rfl, enG G c m', c + 1, j + 1, ?_, at4, by omega, b48, by omega, by omega, ?_, ?_⟩
      · clear hpos tl
        have ue : GEq G (enG G c m') c := fun a i l ha hi => by
          unfold enG
          rw [if_neg (by omega)]
          exact upG_eq a i l ha hi
        have eA : ∀ b, b ≠ 1 → A4 b = A3 b := fun b e1 => fr4.1 b e1
        have eB : ∀ b, b ≠ 132 → B5 b = B4 b := fun b e1 => mr4.1 b e1
        have k8 : A4 (t + 1) c = 8 := by rw [eA (t + 1) (by omega)]; exact x2
        have lf : LnF A A4 B B5 t 210 c := ⟨fun i i0 i1 => by
          rw [eA (t + 1) (by omega), eA (t + 2) (by omega), eA (t + 3) (by omega), eA (t + 4) (by omega), eA (t + 5) (by omega), eA (t + 9) (by omega), x8 (t + 3) (by omega) (by omega) (by omega) (by omega) (by omega), x8 (t + 4) (by omega) (by omega) (by omega) (by omega) (by omega), x8 (t + 5) (by omega) (by omega) (by omega) (by omega) (by omega), x8 (t + 9) (by omega) (by omega) (by omega) (by omega) (by omega)]
          exact ⟨(x5 i (by omega)).1, (x5 i (by omega)).2, rfl, rfl, rfl, rfl⟩, fun y y0 y1 => by rw [eA (t + 6) (by omega), eA (t + 7) (by omega), x8 (t + 6) (by omega) (by omega) (by omega) (by omega) (by omega), x8 (t + 7) (by omega) (by omega) (by omega) (by omega) (by omega)]; exact ⟨rfl, rfl⟩, by rw [eA t (by omega), x4 10 (by omega)]; exact Int.le_refl _, by rw [eA t (by omega), x4 16 (by omega)]; exact Int.le_refl _, fun i k i0 i1 k0 k1 hh => by
            rw [eB 139 (by omega), y7 _ (by omega), if_neg (fun z => by
              have hi : i = w := by omega
              have hk9 : k = 9 := by omega
              rcases hh with y | y
              · exact y.2 hk9
              · rw [hi] at y
                rcases oo3 with v | v
                · exact y.1 v
                · exact y.2 v)]⟩
        have nb : ∀ k, 0 ≤ k → k < 12 → B5 139 (12 * (210 + c) + k) = if k = 7 then w else if k = 1 then v1 else if k = 11 then G 0 c 0 - 1 else if k = 3 then pos T n j else if k = 0 then 4 else 0 := fun k k0 k1 => by rw [eB 139 (by omega)]; exact y8 k k0 k1
        have pb := pos_b T (n := n) (j := j) n0
        have E := fun b (hb : b = 18 ∨ b = 19 ∨ b = 20 ∨ b = 21 ∨ b = t + 10 ∨ b = t + 11 ∨ b = t + 12) => show A4 b = A b by rw [eA b (by omega), x8 b (by omega) (by omega) (by omega) (by omega) (by omega)]
        have E' := fun b (hb : 140 ≤ b ∧ b ≤ 144) => show B5 b = B b by rw [eB b (by omega), y9 b (by omega) (by omega) (by omega)]
        have nmE : NmR A4 B5 m' := NmR_less p3 m'b.1 m'b.2 (by rw [eA 4 (by omega)]; exact a45) (E 18 (by omega)) (E 19 (by omega)) (E 20 (by omega)) (by rw [mr4.2 14 (by omega) (by omega)]; exact y2) (E' 140 (by omega)) (E' 141 (by omega))
        refine PC_end hP (CFr_trans cf3 (F1_CFr ht fr4)) (MFr_trans mf4 (F78_MFr mr4)) (by omega) (by rw [hw]; exact hmE) nmE (E 19 (by omega)) (by rw [eA t (by omega)]; exact x1) (by rw [eB 138 (by omega)]; exact y5) (fun k k0 => by rw [eA t (by omega)]; exact x4 k k0) (fun k k0 => by rw [eB 138 (by omega)]; exact y6 k (by omega)) ⟨E (t + 10) (by omega), E (t + 11) (by omega), E (t + 12) (by omega)⟩ (fun k k5 k7 k8 k11 => by rw [eA 4 (by omega)]; exact a4 k k5 k7 k8 k11) (by rw [eA 4 (by omega)]; exact a47) (by rw [hw, eA 4 (by omega)]; exact a48) (by rw [mr4.2 18 (by omega) (by omega)]; exact y3) (E 21 (by omega)) (E' 142 (by omega)) (E' 143 (by omega)) (E' 144 (by omega)) lf (fun y y0 y1 => by rw [hw, eA (t + 8) (by omega)]; exact a8 y y0 y1) (by rw [hw, eA (t + 8) (by omega)]; exact a8c) (fun y y0 y1 => ?_) (by rw [hw, nb 7 (by omega) (by omega), if_pos rfl]) (by rw [hw, nb 1 (by omega) (by omega), if_neg (by decide), if_pos rfl]; exact hvE) k8 ?_
        · rw [hw, eB 139 (by omega), y7 _ (by omega), y7 _ (by omega), if_neg (show ¬ 12 * (210 + y) + 7 = 12 * (210 + w) + 9 by omega)]
          refine ⟨rfl, ?_⟩
          by_cases z : y = w
          · rw [if_pos (by omega), if_pos z]
          · rw [if_neg (by omega), if_neg z]
        · have g0 := ue 0 c 0 (by omega) (Int.le_refl _)
          have e0 := nb 0 (by omega) (by omega)
          rw [Int.add_zero] at e0
          unfold LnR
          rw [k8, g0, e0, nb 3 (by omega) (by omega), nb 11 (by omega) (by omega), eA (t + 2) (by omega), x3]
          exact ⟨by rw [if_neg (by decide), if_neg (by decide), if_neg (by decide), if_neg (by decide), if_pos rfl]; rfl, by rw [if_neg (by decide), if_neg (by decide), if_neg (by decide), if_pos rfl], by omega, fun z => by omega, fun z => by omega, fun z => by omega, fun z => by omega, fun z => by omega, by rw [if_neg (by decide), if_neg (by decide), if_pos rfl, if_pos (Or.inr rfl)]⟩
      · have : enG G c m' 0 (c + 1) 0 = G 0 c 0 - 1 := by
          unfold enG
          rw [if_neg (by omega)]
          exact upG_n.1
        rw [this]
        have q1 := pos_nx (T := T) (j := j) n0 j0
        have q4 := pos_te (T := T) (j := j + 1) n0 pn2
        omega
      · have q1 := pos_nx (T := T) (j := j) n0 j0
        have q4 := pos_te (T := T) (j := j + 1) n0 pn2
        omega
    · exact Or.inr hf
