set_option maxHeartbeats 4000000 in
set_option maxRecDepth 20000 in
theorem ln_is {A B : Mem} {t : Nat} {T : Int → Int} {n N c j : Int} {G : Nat → Int → Int → Int} (h : PR A B t T n N G c j) (h4 : A 1 4 = 4) : ∃ x A' B', fX6_readIs A = some (x, A') ∧ ((fX12_readIs B).bind fun q => fX12_takeEnd q) = some B' ∧ LnRes t T n N j A B x A' B' := by
  obtain ⟨hP, hAt, hpos⟩ := h
  have p1 := hP.1
  have p2 := hP.2.1
  have p3 := hP.2.2.1
  have p4 := hP.2.2.2.1
  have ht := p1.1
  have n0 := p1.2.2.1.2.1
  have n1 := p2.2.1
  have nN := p2.1.2.1
  obtain ⟨hA, h7, j0, j1, h8⟩ := id hAt
  have c0 := p4.2.2
  have t1 : ty T n (pos T n j) = 1 := (kd_rel hA).2.2.2.2.1.mp (Or.inl h4)
  have wt := tk_wrd p2 hAt t1
  obtain ⟨s, fs, hs⟩ := c_slotOf p3 (wrd_i wt).1
  have ms := m_nameAt p3 p2 h7 j0 j1 wt hs
  have m20 := p3.2.2.2.1
  have s20 : s < 20 := by omega
  have HS : Unit → ((s = -1 ∧ ∀ k, 0 ≤ k → k < G 1 c 0 → A 18 k ≠ A 1 7) ∨ (0 ≤ s ∧ s < G 1 c 0 ∧ A 18 s = A 1 7)) := fun _ => hs
  clear hs
  by_cases hin : 0 ≤ s ∧ A 20 s = 1
  · -- an input
    obtain ⟨fa, fb, B', fe, res⟩ := ln_fault (k := 3) p1 p2 hAt (by omega) (by omega)
    have fp := flt_pos (T := T) (j := j) (k := 3) n0 (by omega)
    have s1 : s < G 1 c 0 := by have := HS (); omega
    have nk := (p3.2.2.2.2.1 s hin.1 s1).2.2.2.2
    rw [if_pos hin.2] at nk
    refine ⟨_, A, B', ?_, ?_, res⟩
    · unfold fX6_readIs
      rw [fs, ob]
      dsimp only
      rw [if_neg (by omega), ld20 _ _ hin.1 s20, ob, if_neg (by omega), ob, if_neg (by decide), fa, ob]
    · rw [m_isE (k := 3) ms s20 (Or.inl ⟨hin.1, nk, fb⟩) (by rw [wr_at, if_pos rfl]; exact fp), ob, fe]
  · by_cases hfull : s = -1 ∧ ¬ G 1 c 0 < 20
    · obtain ⟨fa, fb, B', fe, res⟩ := ln_fault (k := 5) p1 p2 hAt (by omega) (by omega)
      have fp := flt_pos (T := T) (j := j) (k := 5) n0 (by omega)
      refine ⟨_, A, B', ?_, ?_, res⟩
      · unfold fX6_readIs
        rw [fs, ob]
        dsimp only
        rw [if_pos hfull.1, ob, if_pos rfl, if_pos hfull.1, if_neg (by have := p3.1; omega), ob, if_neg (by decide), fa, ob]
      · rw [m_isE (k := 5) ms s20 (Or.inr ⟨by omega, by have := p3.2.1; omega, fb⟩) (by rw [wr_at, if_pos rfl]; exact fp), ob, fe]
    · have h20 : s = -1 → G 1 c 0 < 20 := fun z => by omega
      obtain ⟨c200, jN, A1, A2, B1, f1, f2, g1, cf1, fr2, at2, mf1, x1, x2, x3, x4, x5, x6, x7, y1, y2, y3, y4, y5⟩ := ln_open (kind := 4) (what := 0) hP hAt hpos (by omega)
      have gA : gm A 4 1 = some t := gm41 ht p1.2.1
      have h19 : A2 19 = A 19 := by rw [fr2.1 19 (by omega), x7 19 (by omega) (by omega) (by omega) (by omega)]
      have B20 : Unit → (s = -1 ∨ (0 ≤ s ∧ s < 20 ∧ A 20 s = 0)) := fun _ => by
        rcases HS () with ⟨sm, -⟩ | ⟨s0, s1, -⟩
        · exact Or.inl sm
        · have := (p3.2.2.2.2.1 s s0 s1).2.1
          exact Or.inr ⟨s0, s20, by omega⟩
      have cy := c_isY (s := s) fs (B20 ()) (fun z => by rw [p3.1]; exact h20 z) gA f1 f2 h19
      obtain ⟨w, HW⟩ : ∃ w, Unit → w = if s = -1 then 2 else A 19 s := ⟨_, fun _ => rfl⟩
      have B141 : Unit → (s < 0 ∨ ¬ B 141 s = 2) := fun _ => by
        rcases HS () with ⟨sm, -⟩ | ⟨s0, s1, -⟩
        · exact Or.inl (by omega)
        · have := p3.2.2.2.2.1 s s0 s1
          rw [if_neg (show ¬ A 20 s = 1 by omega)] at this
          exact Or.inr (by omega)
      have my := m_isA ms s20 (B141 ()) (by have := p3.2.1; have := HS (); omega) h8 g1 (by rw [y5 132 (by omega) (by omega)]; exact h7) j0 (by omega)
      have W3 : Unit → (w = 0 ∨ w = 1 ∨ w = 2) := fun _ => by
        rw [HW ()]
        rcases HS () with ⟨sm, -⟩ | ⟨s0, s1, -⟩
        · rw [if_pos sm]; omega
        · have := (p3.2.2.2.2.1 s s0 s1).2.2.1
          rw [if_neg (by omega)]; omega
      have ety : (if s < 0 then 3 else B1 141 s) = if w = 2 then 3 else w := by
        rw [HW (), y5 141 (by omega) (by omega)]
        rcases HS () with ⟨sm, -⟩ | ⟨s0, s1, -⟩
        · rw [if_pos (by omega), if_pos sm, if_pos rfl]
        · have := p3.2.2.2.2.1 s s0 s1
          rw [if_neg (show ¬ A 20 s = 1 by omega)] at this
          rw [if_neg (by omega), if_neg (by omega), if_neg (by omega)]
          exact this.2.2.2.2
      rw [ety, y5 136 (by omega) (by omega)] at my
      clear ety
      have e12 : ∀ k, B1 132 k = B 132 k := fun k => by rw [y5 132 (by omega) (by omega)]
      have mf2 : MFr B (wr B1 132 7 (j + 1)) := MFr_trans mf1 (F78_MFr (F78_7 B1 _))
      have cf2 : CFr t A A2 := CFr_trans cf1 (F1_CFr ht fr2)
      have at' : AtB A2 (wr B1 132 7 (j + 1)) T n N (j + 1) := ⟨at2, by rw [wr_at, if_pos rfl], by omega, jN, by rw [wr_at, if_neg (by omega), e12]; exact h8⟩
      have mw := m_isWord (w := 4) (CK_CFr p1 cf2) (MK_MFr p2 mf2) at' (by omega) (by omega)
      by_cases isw : A2 1 4 = 5 ∧ A2 1 6 = 4
      · rw [if_pos isw] at cy mw
        have ty1 : ty T n (pos T n (j + 1)) = 1 := (kd_rel at2).2.2.2.2.1.mp (Or.inr isw.1)
        have ne1 := not_end (MK_MFr p2 mf2) jN (by omega)
        obtain ⟨A3, f3, fr3, at3⟩ := c_advance (j := j + 1) (CK_CFr p1 cf2) (by omega) at2.2.1
        rw [show j + 1 + 1 = j + 2 by omega] at at3
        obtain ⟨B3, hB3⟩ : ∃ B3, B3 = wr (wr B1 132 7 (j + 1)) 132 7 (j + 2) := ⟨_, rfl⟩
        have mr3 : F78 B1 B3 := by rw [hB3]; exact F78_trans (F78_7 B1 _) (F78_7 _ _)
        have b37 : B3 132 7 = j + 2 := by rw [hB3, wr_at, if_pos rfl]
        have b38 : B3 132 8 = 0 := by rw [hB3, wr_at, if_neg (by omega), wr_at, if_neg (by omega), e12]; exact h8
        have e27 : wr B1 132 7 (j + 1) 132 7 = j + 1 := by rw [wr_at, if_pos rfl]
        have tw : fX12_takeWord 4 (wr B1 132 7 (j + 1)) = some B3 := by
          unfold fX12_takeWord
          rw [mw, ob]
          dsimp only
          rw [if_neg (by decide), ob, if_neg (by decide), ob, pI_ok, ob, e27, w32_id (by omega) (by omega), hB3, show j + 1 + 1 = j + 2 by omega]
        rw [tw, ob] at my
        have mf3 : MFr B B3 := MFr_trans mf1 (F78_MFr mr3)
        have cf3 : CFr t A A3 := CFr_trans cf2 (F1_CFr ht fr3)
        have at3' : AtB A3 B3 T n N (j + 2) := ⟨at3, b37, by omega, by omega, b38⟩
        have wh := m_wordHere (f := 10) (m := 13) (CK_CFr p1 cf3) (MK_MFr p2 mf3) at3' (by omega) (by omega) (by omega)
        rw [wh, ob] at my
        dsimp only at my
        have q0 := pos_te (T := T) (j := j) n0 (ty_1 t1).1
        have q1 := pos_nx (T := T) (j := j) n0 j0
        have q2 := pos_te (T := T) (j := j + 1) n0 ne1.2
        have q3 := pos_nx (T := T) (j := j + 1) n0 (by omega)
        rw [show j + 1 + 1 = j + 2 by omega] at q3
        by_cases isop : A3 1 4 = 5 ∧ 10 ≤ A3 1 6
        · have tyo : ty T n (pos T n (j + 2)) = 1 := (kd_rel at3).2.2.2.2.1.mp (Or.inr isop.1)
          have ne2 := not_end (MK_MFr p2 mf3) (show j + 2 ≤ N by omega) (by omega)
          have b23 : A3 1 6 < 23 := by
            rcases (at3.2.2.2.2.2.2 tyo).2 with z | z
            · exact z.2.2.1
            · have := z.1; omega
          obtain ⟨v, hv⟩ : ∃ v, v = A3 1 6 - 8 := ⟨_, rfl⟩
          have q4 := pos_te (T := T) (j := j + 2) n0 ne2.2
          rw [if_pos ⟨isop.1, isop.2, by omega⟩, ob, w32_id (by omega) (by omega), show A3 1 6 - 10 + 2 = v by omega] at my
          by_cases ok : okT v w
          · rw [m_chk (M' := B3) (by omega) (W3 ()) (fun z => absurd ok z), if_pos ok, ob] at my
            rw [HW ()] at ok
            have r := is_args (v8 := B 136 j) (B3 := B3) (A3 := A3) (v := v) hP c200 j0 wt (HS ()) h20 cf1 mf1 x1 x2 x3 x5 x6 x7 y1 y2 y3 y4 y5 (F1_trans fr2 fr3) f3 at3 mr3 b37 b38 (by omega) isop.1 (by omega) (by omega) (by omega) ok (by omega) (by omega)
            obtain ⟨x, A', B', r1, r2, r3⟩ := r
            rw [← HW ()] at r2
            exact ⟨x, A', B', by rw [cy]; exact r1, by rw [my]; exact r2, r3⟩
          · have fa := c_fault at3 n0 n1 (show (1 : Int) ≤ 6 by omega) (by omega)
            have fp := flt_pos (T := T) (j := j + 2) (k := 6) n0 (by omega)
            have fb := m_wrong (k := 6) (MK_MFr p2 mf3) b37 (by omega) (by omega) b38 (by omega) (by omega)
            rw [m_chk (M' := wr B3 132 8 (6 + 16 * pos T n (j + 2))) (by omega) (W3 ()) (fun _ => fb), if_neg ok, ob] at my
            obtain ⟨B', e, mf, b8⟩ := is_flt (B := B) (M := wr B3 132 8 (6 + 16 * pos T n (j + 2))) (s := s) (ty' := if w = 2 then 3 else w) (v8 := B 136 j) (v := v) c0 c200 (MFr_trans mf3 (F78_MFr (F78_8 B3 _))) (by rw [wr_at, if_pos rfl]) fp
            rw [← HW (), c_readOpE f3 (Or.inr ⟨v, isop.1, by omega, by omega, by omega, ok, fa⟩), ob, cIsK8 (by omega)] at cy
            exact ⟨_, A3, B', cy, by rw [my]; exact e, cf3, mf, Or.inr ⟨fp, b8⟩⟩
        · have fa := c_fault at3 n0 n1 (show (1 : Int) ≤ 1 by omega) (by omega)
          have fp := flt_pos (T := T) (j := j + 2) (k := 1) n0 (by omega)
          have fb := m_wrong (k := 1) (MK_MFr p2 mf3) b37 (by omega) (by omega) b38 (by omega) (by omega)
          rw [if_neg (fun z => isop ⟨z.1, z.2.1⟩), ob, show w32 (-1 + 2) = 1 by decide, m_chk1 (by omega) fb, ob] at my
          obtain ⟨B', e, mf, b8⟩ := is_flt (B := B) (M := wr B3 132 8 (1 + 16 * pos T n (j + 2))) (s := s) (ty' := if w = 2 then 3 else w) (v8 := B 136 j) (v := 1) c0 c200 (MFr_trans mf3 (F78_MFr (F78_8 B3 _))) (by rw [wr_at, if_pos rfl]) fp
          rw [← HW (), c_readOpE f3 (Or.inl ⟨isop, fa⟩), ob, cIsK8 (by omega)] at cy
          exact ⟨_, A3, B', cy, by rw [my]; exact e, cf3, mf, Or.inr ⟨fp, b8⟩⟩
      · rw [if_neg isw] at cy mw
        have fa := c_fault at2 n0 n1 (show (1 : Int) ≤ 1 by omega) (by omega)
        have fp := flt_pos (T := T) (j := j + 1) (k := 1) n0 (by omega)
        have fb := m_wrong (k := 1) (MK_MFr p2 mf2) at'.2.1 (by omega) (by omega) at'.2.2.2.2 (by omega) (by omega)
        obtain ⟨M3, hM3⟩ : ∃ M3, M3 = wr (wr (wr B1 132 7 (j + 1)) 132 8 (1 + 16 * pos T n (j + 1))) 132 7 (j + 1) := ⟨_, rfl⟩
        have m38 : M3 132 8 = 1 + 16 * pos T n (j + 1) := by rw [hM3, wr_at, if_neg (by omega), wr_at, if_pos rfl]
        have e27 : wr (wr B1 132 7 (j + 1)) 132 8 (1 + 16 * pos T n (j + 1)) 132 7 = j + 1 := by rw [wr_at, if_neg (by omega), wr_at, if_pos rfl]
        have tw : fX12_takeWord 4 (wr B1 132 7 (j + 1)) = some M3 := by
          unfold fX12_takeWord
          rw [mw, ob]
          dsimp only
          rw [if_pos rfl, fb, ob, ob, if_pos rfl, ob, pI_ok, ob, e27, Int.add_zero, w32_id (by omega) (by omega), hM3]
        have mf3 : MFr B M3 := by rw [hM3]; exact MFr_trans mf2 (F78_MFr (F78_trans (F78_8 _ _) (F78_7 _ _)))
        rw [tw, ob, m_wordHere8 (by omega) (by omega) (by omega), ob] at my
        dsimp only at my
        rw [ob, show w32 (-1 + 2) = 1 by decide, m_chk1 (by omega) (m_wrong8 (by omega)), ob] at my
        obtain ⟨B', e, mf, b8⟩ := is_flt (B := B) (M := M3) (s := s) (ty' := if w = 2 then 3 else w) (v8 := B 136 j) (v := 1) c0 c200 mf3 m38 fp
        exact ⟨_, A2, B', by rw [cy]; exact fa, by rw [my]; exact e, cf2, mf, Or.inr ⟨fp, b8⟩⟩
