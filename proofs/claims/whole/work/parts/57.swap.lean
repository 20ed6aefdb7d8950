set_option maxHeartbeats 4000000 in
set_option maxRecDepth 20000 in
theorem q_swapped {M : Mem} {t : Nat} {n nI nS : Int} {D : Mem} (h : InvQ M t n nI nS) (c : Cch M t n nS D) (p w : Int) : Ans (fX11_swapped p w) (fX12_swapped p w) M := by
  obtain ⟨a1, a2, a3, a4, a5, a6, a7, a8, a9, a10, a11, a12, a13, a14, a15, -⟩ := id h
  have hD := Cch_DW h c
  have n1 := hD.2.1
  have pb := pc_bd (D 0 1)
  have s1 := c.2.2.2.1.1
  simp only [CL, Nat.reduceAdd] at s1
  have hO := odr_ok hD (M 0 14)
  have cvN := c.2.1.2.2.2
  simp only [Nat.reduceAdd] at cvN
  by_cases hg : (0 ≤ p ∧ p < pc (D 0 1)) ∧ p < pc (D 0 1) - 1 ∧ 0 ≤ w ∧ w ≤ 2
  · obtain ⟨hp, hp1, hw⟩ := hg
    have qp := hO.2.1 p hp.1 hp.2
    have qq := hO.2.1 (p + 1) (by omega) (by omega)
    have hne := hO.2.2.1 p (p + 1) hp.1 (by omega) (by omega)
    have l76 := s1.2 p hp.1 hp.2
    have l76' := s1.2 (p + 1) (by omega) (by omega)
    have l70 := (cvN _ qq.1 qq.2.1).2.2.2.1
    have cl : ∀ X : Option (Int × Mem), (fX11_swapped p w M = X) ↔ ((if (lc (land (lushr (D 4 (odr D (M 0 14) (p + 1))) (odr D (M 0 14) p)) 1) 0) = 0 then
            (fX11_imagine (-1) (M 0 14) M).bind fun q5 =>
            (fX7_putAt 88 p (odr D (M 0 14) (p + 1)) q5).bind fun q6 =>
            (fX7_putAt 88 (w32 (p + 1)) (odr D (M 0 14) p) q6).bind fun q7 =>
            (gm q7 0 13).bind fun t8 =>
            (gm q7 0 13).bind fun t9 =>
            (fX7_settle 88 (q7 t8 14) (q7 t9 15) q7).bind fun q10 =>
            (fX11_cost w q10).bind fun q11 =>
            some (q11.1, q11.2)
          else
            some ((-1), M)) = X) := fun X => by
      unfold fX11_swapped
      rw [s_X11_isPlace, ob, s1.1, if_pos hp, if_neg (show ¬ (1 : Int) = 0 by decide)]
      dsimp only
      rw [if_neg (show ¬ w32 (M 75 4 - 1) ≤ p by rw [s1.1, w32_id (by omega) (by omega)]; omega), if_neg (show ¬ w < 0 by omega), if_pos hw.2, w32_id (show -2147483648 ≤ p + 1 by omega) (by omega), ld76 _ _ (by omega) (by omega), ob, ld76 _ _ (by omega) (by omega), ob, l76, l76', ld70 _ _ qq.1 (by omega), ob, l70]
    have ml : ∀ M0 : Mem, Kp M M0 → ∃ r, Kp M r ∧ MD r D ∧ MX r D (M 47) ∧ MSch r D (odr D (M 0 14)) (pc (D 0 1)) ∧ ∀ X : Option (Int × Mem), (fX12_plans M0).bind (fun q2 => (fX12_within w 0 2 q2).bind fun q3 =>
  if q3.1 = 0 then
    some ((-1), q3.2)
  else
    (fX12_within p 0 (w32 ((q3.2 132 41) - 2)) q3.2).bind fun q4 =>
    if q4.1 = 0 then
      some ((-1), q4.2)
    else
      (ldI q4.2 162 (w32 (p + 1))).bind fun v5 =>
      (ldJ q4.2 159 v5).bind fun v6 =>
      (ldI q4.2 162 p).bind fun v7 =>
      (fX12_has v6 v7 q4.2).bind fun q8 =>
      if q8.1 = 0 then
        (ldI q8.2 162 p).bind fun v9 =>
        (ldI q8.2 162 (w32 (p + 1))).bind fun v10 =>
        (stI q8.2 162 p v10).bind fun M11 =>
        (stI M11 162 (w32 (p + 1)) v9).bind fun M12 =>
        (fX12_lives M12).bind fun q13 =>
        (fX12_tell w q13).bind fun q14 =>
        some (q14.1, q14.2)
      else
        some ((-1), q8.2)) = (if tb (D 4 (odr D (M 0 14) (p + 1))) (odr D (M 0 14) p) = true then some (-1, r) else (fX12_lives (wr (wr r 162 p (odr D (M 0 14) (p + 1))) 162 (p + 1) (odr D (M 0 14) p))).bind fun q13 => (fX12_tell w q13).bind fun q14 => some (q14.1, q14.2)) := fun M0 k0 => by
      obtain ⟨r, e, kr, md, mx, ms, mr⟩ := m_plans h c k0
      refine ⟨r, kr, md, mx, ms, fun _ => ?_⟩
      have z4 := (md.2.2.2.2.2 _ qq.1 qq.2.1).2.2.2.1
      rw [e, ob, s_X12_within, ob, if_pos hw, if_neg (show ¬ (1 : Int) = 0 by decide), s_X12_within, ob]
      dsimp only
      rw [if_pos (show 0 ≤ p ∧ p ≤ w32 (r 132 41 - 2) by rw [ms.1.1, w32_id (by omega) (by omega)]; omega), if_neg (show ¬ (1 : Int) = 0 by decide), w32_id (show -2147483648 ≤ p + 1 by omega) (by omega), ld162 _ _ (by omega) (by omega), ob, ms.1.2 (p + 1) (by omega) (by omega), ld159 _ _ qq.1 (by omega), ob, ld162 _ _ (by omega) (by omega), ob, ms.1.2 p hp.1 hp.2, z4, s_X12_has qp.1 (by omega), ob]
      by_cases e1 : tb (D 4 (odr D (M 0 14) (p + 1))) (odr D (M 0 14) p) = true
      · rw [if_pos e1, if_pos e1, if_neg (show ¬ (1 : Int) = 0 by decide)]
      · rw [if_neg e1, if_neg e1, if_pos rfl]
        dsimp only
        rw [ld162 _ _ (by omega) (by omega), ob, ld162 _ _ (by omega) (by omega), ob, ms.1.2 (p + 1) (by omega) (by omega), ms.1.2 p hp.1 hp.2, st162 _ _ _ (by omega) (by omega), ob, st162 _ _ _ (by omega) (by omega), ob]
    by_cases e1 : tb (D 4 (odr D (M 0 14) (p + 1))) (odr D (M 0 14) p) = true
    · obtain ⟨r, kr, md, mx, ms, hr⟩ := ml (wr M 132 0 0) (Kp_th M 0)
      refine ⟨-1, M, r, ?_, ?_, kr⟩
      · rw [cl, if_neg (by rw [hasU0 qp.1 (by omega), e1]; decide)]
      · unfold fX12_swapped
        rw [pI_ok, ob, hr none, if_pos e1]
    · have e1' : tb (D 4 (odr D (M 0 14) (p + 1))) (odr D (M 0 14) p) = false := by
        cases z : tb (D 4 (odr D (M 0 14) (p + 1))) (odr D (M 0 14) p)
        · rfl
        · exact absurd z e1
      have sO := swp_ok hD hO hp.1 (by omega) e1
      obtain ⟨r, f, fr, cv, cx, sc, -⟩ := c_imagine (rule := M 0 14) a1 a2 a3 a4 a9 a6 a8 (fun v a b => U_01 h a b) c.1 c.2.2.2.2.2.1 c.2.2.2.2.2.2
      generalize hL : odr D (M 0 14) = L at *
      generalize hq7 : wr (wr (wr (wr r 102 p (L (p + 1))) 103 (L (p + 1)) p) 102 (p + 1) (L p)) 103 (L p) (p + 1) = q7
      have q7ne : ∀ b, b ≠ 102 → b ≠ 103 → q7 b = r b := fun b b1 b2 => by rw [← hq7]; simp (disch := omega) only [wr_ne]
      have q7102 : ∀ k, q7 102 k = if k = p + 1 then L p else if k = p then L (p + 1) else r 102 k := fun k => by rw [← hq7]; simp (disch := omega) only [wr_ne, wr_at]
      have scl := sc.1
      simp only [CL, Nat.reduceAdd] at scl
      have cl7 : CL 88 q7 (swp L p) (pc (D 0 1)) := by
        refine ⟨by simp only [Nat.reduceAdd]; rw [q7ne 101 (by omega) (by omega)]; exact scl.1, fun k a b => ?_⟩
        simp only [Nat.reduceAdd]
        rw [q7102]
        unfold swp
        by_cases k1 : k = p
        · rw [if_pos k1, if_neg (by omega), if_pos k1]
        · by_cases k2 : k = p + 1
          · rw [if_pos k2, if_neg k1, if_pos k2]
          · rw [if_neg k2, if_neg k1, if_neg k1, if_neg k2]
            exact scl.2 k a b
      have cv7 : CV 88 q7 D := CV_fr (Or.inr rfl) cv (fun b hb => q7ne b (by omega) (by omega))
      obtain ⟨r2, f2, fr2, sc2⟩ := s_X7_settle (g := 88) (Or.inr rfl) hD cv7 cl7 sO
      simp only [Nat.reduceAdd] at fr2
      have h70 : q7 0 = M 0 := by rw [q7ne 0 (by omega) (by omega), fr 0 (by omega)]
      have h7t : q7 t = M t := by rw [q7ne t (by omega) (by omega), fr t (by omega)]
      have k2 : Kp M r2 := ⟨fun b hb => by rw [fr2 b (by unfold scr at hb; omega), q7ne b (by unfold scr at hb; omega) (by unfold scr at hb; omega), fr b (by unfold scr at hb; omega)], by rw [fr2 132 (by omega), q7ne 132 (by omega) (by omega), fr 132 (by omega)], by rw [fr2 132 (by omega), q7ne 132 (by omega) (by omega), fr 132 (by omega)]⟩
      obtain ⟨s, ks, md, mx, ms, hs⟩ := ml (wr r2 132 0 0) (Kp_trans k2 (Kp_th r2 0))
      have sfw : SF s (wr (wr s 162 p (L (p + 1))) 162 (p + 1) (L p)) := ⟨fun b b1 b2 => by simp (disch := omega) only [wr_ne], fun k _ _ _ => by simp (disch := omega) only [wr_ne]⟩
      obtain ⟨u, f3, sf3, md3, ms3⟩ := s_X12_lives (M := wr (wr s 162 p (L (p + 1))) 162 (p + 1) (L p)) (L := swp L p) (c := pc (D 0 1)) hD (MD_fr md sfw) ⟨by simp (disch := omega) only [wr_ne]; exact ms.1.1, fun k a b => by
        simp (disch := omega) only [wr_at]
        unfold swp
        by_cases k1 : k = p
        · rw [if_neg (by omega), if_pos k1, if_pos k1]
        · rw [if_neg k1, if_neg k1]
          by_cases k2 : k = p + 1
          · rw [if_pos k2, if_pos k2]
          · rw [if_neg k2, if_neg k2]
            exact ms.1.2 k a b⟩ sO
      refine ⟨costV D (swp L p) (r2 104) (r2 107) (pc (D 0 1)) w, r2, u, ?_, ?_, Kp_trans ks (Kp_trans (SF_Kp sfw) (SF_Kp sf3))⟩
      · rw [cl, if_pos (by rw [hasU0 qp.1 (by omega)]; exact e1'), f, ob]
        have pa1 : fX7_putAt 88 p (L (p + 1)) r = some (wr (wr r 102 p (L (p + 1))) 103 (L (p + 1)) p) := by
          unfold fX7_putAt
          simp only [Nat.reduceAdd]
          rw [st102 _ _ _ (by omega) (by omega), ob, st103 _ _ _ qq.1 (by omega), ob]
        have pa2 : fX7_putAt 88 (w32 (p + 1)) (L p) (wr (wr r 102 p (L (p + 1))) 103 (L (p + 1)) p) = some q7 := by
          unfold fX7_putAt
          simp only [Nat.reduceAdd]
          rw [w32_id (by omega) (by omega), st102 _ _ _ (by omega) (by omega), ob, st103 _ _ _ qp.1 (by omega), ob, hq7]
        rw [pa1, ob, pa2, ob, gm_ok a1 (by rw [h70]; exact a2), ob, ob, h7t, ← c.2.2.2.2.2.1, ← c.2.2.2.2.2.2, f2, ob, c_cost sc2, ob]
      · unfold fX12_swapped
        rw [pI_ok, ob, hs none, if_neg e1, f3, ob, m_tell hD md3 ms3 (fun z => by omega) hw.1 (by omega), ob, cost_eq hD sc2 ms3 (fun z => by omega)]
  · obtain ⟨r, e, kr, md, mx, ms, mr⟩ := m_plans h c (Kp_th M 0)
    refine ⟨-1, M, r, ?_, ?_, kr⟩
    · unfold fX11_swapped
      rw [s_X11_isPlace, ob, s1.1]
      by_cases hp : 0 ≤ p ∧ p < pc (D 0 1)
      · rw [if_pos hp, if_neg (show ¬ (1 : Int) = 0 by decide)]
        dsimp only
        by_cases e1 : w32 (M 75 4 - 1) ≤ p
        · rw [if_pos e1]
        · rw [if_neg e1]
          rw [s1.1, w32_id (by omega) (by omega)] at e1
          by_cases e2 : w < 0
          · rw [if_pos e2]
          · rw [if_neg e2, if_neg (by omega)]
      · rw [if_neg hp, if_pos rfl]
    · unfold fX12_swapped
      rw [pI_ok, ob, e, ob, s_X12_within, ob]
      by_cases hw : 0 ≤ w ∧ w ≤ 2
      · rw [if_pos hw, if_neg (show ¬ (1 : Int) = 0 by decide), s_X12_within, ob]
        dsimp only
        rw [if_neg (show ¬ (0 ≤ p ∧ p ≤ w32 (r 132 41 - 2)) by rw [ms.1.1, w32_id (by omega) (by omega)]; omega), if_pos rfl]
      · rw [if_neg hw, if_pos rfl]
