/-! the same, and what becomes of the answer kept between -/
set_option maxHeartbeats 4000000 in
set_option maxRecDepth 20000 in
theorem m_plans9 {M M0 : Mem} {t : Nat} {n nI nS : Int} {D : Mem} (h : InvQ M t n nI nS) (c : Cch M t n nS D) (k : Kp M M0) : ∃ r, fX12_plans M0 = some r ∧ Kp M r ∧ MD r D ∧ MX r D (M 47) ∧ MSch r D (odr D (M 0 14)) (pc (D 0 1)) ∧ MReg r D (odr D (M 0 14)) (pc (D 0 1)) ∧ r 132 0 = M0 132 0 ∧ r 173 = M0 173 := by
  have h0 := InvQ_fr h k
  obtain ⟨a1, a2, a3, a4, a5, a6, a7, a8, a9, a10, a11, a12, a13, a14, a15, -⟩ := h0
  obtain ⟨e, e2, e28⟩ := id k
  have hs : ∀ b : Nat, b < 22 ∨ (44 ≤ b ∧ b ≤ 55) ∨ (119 ≤ b ∧ b ≤ 131) ∨ b = 138 ∨ (150 ≤ b ∧ b ≤ 152) → M0 b = M b := fun b hb => e b (by unfold scr; omega)
  obtain ⟨q, r, f1, f2, fr, fk, md, mx⟩ := s_X12_rn (M := M0) (D := D) (p1 := -1) (p2 := 0) (p3 := 0) (only := -1) (lo := M 52) (hi := M 53) a5 a7 a4 h.2.2.2.2.2.2.2.2.1 a8 (fun i x y => by rw [if_neg (by omega), (a11 i x y).1, hs 52 (by omega)]) (fun i x y => by rw [if_neg (by omega), (a11 i x y).2.1, hs 53 (by omega)]) (fun i x y => rfl) a12 (by omega) (by rw [hs 45 (by omega), hs 46 (by omega), hs 47 (by omega), hs 48 (by omega), hs 49 (by omega)]; exact c.1) (by rw [c.2.2.2.2.2.1, ← a14.1, hs t (by omega)]) (by rw [c.2.2.2.2.2.2, ← a15.1, hs t (by omega)])
  have kr : Kp M r := Kp_trans k ⟨fun b hb => fr b (by unfold scr at hb; omega) (by unfold scr at hb; omega), fk 2 (by omega) (by omega), fk 28 (by omega) (by omega)⟩
  have mx' : MX r D (M 47) := by rw [← hs 47 (by omega)]; exact mx
  have hD := Cch_DW h c
  obtain ⟨q1, g1, sf1, md1, s1⟩ := s_X12_orders (rule := M 0 14) hD md
  obtain ⟨r1, g2, sf2, md2, s2, r2⟩ := s_X12_regs hD md1 s1
  refine ⟨r1, ?_, Kp_trans kr (SF_Kp (SF_trans sf1 sf2)), md2, MX_fr mx' (SF_trans sf1 sf2), s2, r2, ?_, ?_⟩
  · unfold fX12_plans fX12_all0
    have : r 132 28 = M 0 14 := by rw [kr.2.2]; exact (h.2.2.2.2.2.2.2.2.2.2.2.2.1.1).symm
    simp only [f1, f2, ob, this, g1, g2]
  · rw [sf2.2 0 (by omega) (by omega) (by omega), sf1.2 0 (by omega) (by omega) (by omega), fk 0 (by omega) (by omega)]
  · rw [sf2.1 173 (by omega) (by omega), sf1.1 173 (by omega) (by omega), fr 173 (by omega) (by omega)]
set_option maxHeartbeats 4000000 in
set_option maxRecDepth 20000 in
theorem m_ran9 {M M0 : Mem} {t : Nat} {n nI nS lane i : Int} {D : Mem} {Rn : Int → Int} (h : InvQ M t n nI nS) (c : Cch M t n nS D) (k : Kp M M0) (hl : 0 ≤ lane ∧ lane < 4) (i0 : 0 ≤ i) (i1 : i < nS) (hRn : RnOK n (M 45) (M 46) (fun i => M 54 (4 * i + lane)) (M 55) D Rn) :
    ∃ r, fX12_ran lane i M0 = some (hdF D Rn (M 49 i), r) ∧ Kp M r ∧ r 132 0 = 0 ∧ r 173 = M0 173 := by
  obtain ⟨a1, a2, a3, a4, a5, a6, a7, a8, a9, a10, a11, a12, a13, a14, a15, a16, a17, a18, a19, a20⟩ := id h
  have hD := Cch_DW h c
  have n1 := hD.2.1
  have d0 := c.1.1
  have pb := pc_bd (D 0 1)
  have i6 := a4.2.2.2.1
  have bd := rn_bd a4 a9 c.1 (fun i x y => by have := (a11 i x y).2.2.2.2 lane hl.1 hl.2; omega) (fun i x y => by have := a20 i x y; omega) hRn
  have e0 : M0 138 = M 138 := k.1 138 (by unfold scr; omega)
  have s8 := a8.2.1
  obtain ⟨u, fu, ku, md, mx, ms, mr, u0, u173⟩ := m_plans9 (M0 := wr M0 132 0 0) h c (Kp_trans k (Kp_th M0 0))
  rw [wr_at, if_pos rfl] at u0
  have hL := ms.1
  have hO := ms.2.1
  have hE := ms.2.2.2.1
  have hRg := mr.1
  have hSh := fun z => sh_held h c i0 i1 z
  have hE' := E_eq h c ms
  generalize odr D (M 0 14) = L at *
  generalize hc : pc (D 0 1) = m at *
  have u138 : u 138 = M 138 := ku.1 138 (by unfold scr; omega)
  have u151 : u 151 = M 151 := ku.1 151 (by unfold scr; omega)
  have u152 : u 152 = M 152 := ku.1 152 (by unfold scr; omega)
  have hw : ∀ v, 0 ≤ v → v < n → D 2 v = 1 ∨ D 2 v = 2 := fun v x y => (hD.2.2.2.2.2.2.2.2 v x (by omega)).2.1
  have hU : ∀ v, 0 ≤ v → v < n → D 3 v = 0 ∨ D 3 v = 1 := fun v x y => (hD.2.2.2.2.2.2.2.2 v x (by omega)).2.2.1
  have hLn : ∀ p, 0 ≤ p → p < m → 0 ≤ L p ∧ L p < n ∧ tb (D 0 1) (L p) = true := fun p x y => by have := hO.2.1 p x y; rw [d0] at this; exact this
  have hRb : ∀ p, 0 ≤ p → p < m → 0 ≤ u 165 (L p) ∧ u 165 (L p) + D 2 (L p) ≤ 128 ∧ u 165 (L p) ≤ 127 := fun p x y => by
    have := hRg p x y
    have w := hw _ (hLn p x y).1 (hLn p x y).2.1
    have z1 := this.1
    have z2 := this.2.1
    omega
  have st : ∀ a, 0 ≤ a → a < n → 0 ≤ D 9 a ∧ D 9 a ≤ a := fun a x y => (c.1.2.2.2.2.1.1 a x y).2
  have loop : ∃ r, lp (fX12_ran_b1 lane) (0, u) = some r ∧ (∀ b, b ≠ 170 → r b = u b) ∧ ∀ q, 0 ≤ q → q < m → m ≤ u 164 (L q) → r 170 (128 * (1 - D 3 (L q)) + u 165 (L q)) = Rn (L q) := by
    refine lp_ind (fun s : Int × Mem => 0 ≤ s.1 ∧ s.1 ≤ m ∧ (∀ b, b ≠ 170 → s.2 b = u b) ∧ ∀ q, 0 ≤ q → q < s.1 → s.1 ≤ u 164 (L q) → s.2 170 (128 * (1 - D 3 (L q)) + u 165 (L q)) = Rn (L q)) (fun r : Mem => (∀ b, b ≠ 170 → r b = u b) ∧ ∀ q, 0 ≤ q → q < m → m ≤ u 164 (L q) → r 170 (128 * (1 - D 3 (L q)) + u 165 (L q)) = Rn (L q)) (fun s => (m - s.1).toNat) ?_ _ ?_
    · rintro ⟨p, q⟩ ⟨p0, p1, hfr, hq⟩
      dsimp only at p0 p1 hfr hq
      unfold fX12_ran_b1
      dsimp only
      have e41 : q 132 41 = m := by rw [hfr 132 (by omega)]; exact hL.1
      simp only [e41]
      by_cases hpm : m ≤ p
      · rw [if_pos hpm]
        have : p = m := by omega
        subst this
        exact Or.inr ⟨q, rfl, hfr, hq⟩
      · rw [if_neg hpm]
        have pm : p < m := by omega
        obtain ⟨l0, l1, lN⟩ := hLn p p0 pm
        obtain ⟨k0, k1, k2, k3, k4, k5, k6, k7, k8, -⟩ := a4.2.2.2.2 (L p) l0 l1
        have nk := nd_nk c.1 l0 l1 lN
        have md' := MD_170 md hfr
        have mx' := MX_170 mx hfr
        have mv' : MV q n (M 45) (M 46) := MV_fr a5 (by rw [hfr 138 (by omega), u138])
        have q165 : q 165 = u 165 := hfr 165 (by omega)
        rw [ld162 _ _ p0 (by omega), ob, hfr 162 (by omega), hL.2 p p0 pm, s_X12_howOf mv' l0 l1 (by omega), ob]
        dsimp only
        have hs : ∀ j, 0 ≤ j → j < argc (M 45 (L p)) → ¬ D 7 (D 9 (M 46 (3 * L p + j))) = D 8 (D 9 (M 46 (3 * L p + j))) → ∃ i, 0 ≤ i ∧ i < p ∧ L i = D 9 (M 46 (3 * L p + j)) ∧ p ≤ u 164 (L i) := by
          intro j j0 j1 z
          have ai := arg_in a4 l0 l1 j0 j1
          have s := st _ ai.1 (by omega)
          have tt := arg_src a4 c.1 l0 l1 j0 j1 z
          obtain ⟨i, i0, i1, ie⟩ := hO.2.2.2.2 p _ p0 pm s.1 (by omega) tt
          exact ⟨i, i0, i1, ie, end_src hO hE p0 pm i0 i1 (by rw [ie]; exact tt)⟩
        have ag1 : ∀ j, (j = 0 ∨ j = 1 ∨ j = 2) → 2 ≤ M 45 (L p) → (M 46 (3 * L p + j) = -1 ∨ j < argc (M 45 (L p))) := by
          intro j hj h2
          unfold argc
          rcases hj with rfl | rfl | rfl
          · right; repeat' split
            all_goals omega
          · by_cases z : M 45 (L p) = 7 ∨ M 45 (L p) = 12
            · left; exact k7 (Or.inr z)
            · right; repeat' split
              all_goals omega
          · by_cases z : M 45 (L p) = 13
            · right; repeat' split
              all_goals omega
            · left; exact k8 z
        have run : ∀ j, (j = 0 ∨ j = 1 ∨ j = 2) → 2 ≤ M 45 (L p) → fX12_argRun (L p) j q = some (atA (hdF D Rn) (M 46 (3 * L p + j)), q) := by
          intro j hj h2
          have hlt : M 46 (3 * L p + j) < n := by
            rcases ag1 j hj h2 with z | z
            · omega
            · have := arg_in a4 l0 l1 (show 0 ≤ j by omega) z; omega
          rw [s_X12_argRun hD d0 md' mx' mv' l0 l1 hj st hlt (fun z1 z2 => by
            rcases ag1 j hj h2 with z | z
            · omega
            · obtain ⟨i, i0, i1, ie, -⟩ := hs j (by omega) z z2
              rw [q165, ← ie]
              have := hRb i i0 (by omega)
              omega)]
          congr 2
          unfold atA
          by_cases z1 : 0 ≤ M 46 (3 * L p + j)
          · rw [if_pos z1, if_pos z1]
            unfold hdF
            by_cases z2 : D 7 (D 9 (M 46 (3 * L p + j))) = D 8 (D 9 (M 46 (3 * L p + j)))
            · rw [if_pos z2, if_pos z2]
            · rw [if_neg z2, if_neg z2]
              rcases ag1 j hj h2 with z | z
              · omega
              · obtain ⟨i, i0, i1, ie, iE⟩ := hs j (by omega) z z2
                rw [← ie, q165]
                exact hq i i0 i1 iE
          · rw [if_neg z1, if_neg z1]
        have hx : ((if M 45 (L p) = 0 then (fX12_argOf (L p) 0 q).bind fun q13 => (ldI q13.2 151 (w32 ((w32 (4 * q13.1)) + lane))).bind fun v14 => some (v14, q13.2) else (fX12_howOf (L p) q).bind fun q8 => (fX12_argRun (L p) 0 q8.2).bind fun q9 => (fX12_argRun (L p) 1 q9.2).bind fun q10 => (fX12_argRun (L p) 2 q10.2).bind fun q11 => (fX12_worked q8.1 q9.1 q10.1 q11.1 q11.2).bind fun q12 => some (q12.1, q12.2) : Option (Int × Mem))) = some (Rn (L p), q) := by
          rw [hRn (L p) l0 l1]
          unfold nmF
          by_cases h0 : M 45 (L p) = 0
          · rw [if_pos h0, if_pos h0, s_X12_argOf0 mv' l0 l1 (by omega), ob]
            dsimp only
            have a2' := k2 h0
            rw [w32_id (show -2147483648 ≤ 4 * M 46 (3 * L p) by omega) (by omega), w32_id (show -2147483648 ≤ 4 * M 46 (3 * L p) + lane by omega) (by omega), ld151 _ _ (by omega) (by omega), ob, hfr 151 (by omega), u151, ((a11 _ a2'.1 a2'.2).2.2.2.2 lane hl.1 hl.2).1]
          · have h2 : 2 ≤ M 45 (L p) := by omega
            rw [if_neg h0, if_neg h0, if_neg nk.2, s_X12_howOf mv' l0 l1 (by omega), ob]
            dsimp only
            rw [run 0 (by omega) h2, ob]
            dsimp only
            rw [run 1 (by omega) h2, ob]
            dsimp only
            rw [run 2 (by omega) h2, ob]
            dsimp only
            have q4 := k4 h2
            have eA : atA (hdF D Rn) (M 46 (3 * L p + 0)) = hdF D Rn (M 46 (3 * L p)) := by unfold atA; rw [Int.add_zero, if_pos q4.1]
            have A := (bd ((L p).toNat + 1) (M 46 (3 * L p)) (by omega) q4.1 (by omega)).2.1
            have B : -99999 ≤ atA (hdF D Rn) (M 46 (3 * L p + 1)) ∧ atA (hdF D Rn) (M 46 (3 * L p + 1)) ≤ 99999 := by
              unfold atA
              by_cases z : 0 ≤ M 46 (3 * L p + 1)
              · rw [if_pos z]
                rcases ag1 1 (by omega) h2 with y | y
                · omega
                · have := arg_in a4 l0 l1 (show (0 : Int) ≤ 1 by omega) y
                  exact (bd ((L p).toNat + 1) _ (by omega) z (by omega)).2.1
              · rw [if_neg z]; omega
            rw [eA, s_X12_worked h2 k1 A B, ob]
            dsimp only
            rw [hfr 152 (by omega), u152]
            congr 2
            unfold mdF
            rw [(a20 (hdF D Rn (M 46 (3 * L p)) % 16) (by omega) (by omega)).1]
        rw [hx, ob]
        dsimp only
        have hb := hRb p p0 pm
        obtain ⟨w, fw, wf, w170⟩ := m_ran_b2 (x := Rn (L p)) hD md' l0 (by omega) (by rw [q165]; exact hb.1) (by rw [q165]; exact hb.2.1)
        rw [fw, ob, w32_id (by omega) (by omega)]
        refine Or.inl ⟨_, rfl, ⟨by dsimp only; omega, by dsimp only; omega, fun b hb => by dsimp only; rw [wf b hb, hfr b hb], fun j j0 j1 jE => ?_⟩, by dsimp only; omega⟩
        dsimp only at j1 jE ⊢
        rw [w170, q165]
        have wp := hw _ l0 l1
        by_cases e : j = p
        · rw [e, if_pos (by omega)]
        · have j2 : j < p := by omega
          have hlj := hLn j j0 (by omega)
          have huj := hU _ hlj.1 hlj.2.1
          have hup := hU _ l0 l1
          have hbj := hRb j j0 (by omega)
          have wj := hw _ hlj.1 hlj.2.1
          rw [if_neg (fun z => by
            have ef : D 3 (L j) = D 3 (L p) := by omega
            exact reg_ne hRg j0 j2 pm (by omega) ef (Int.le_refl _) (by omega) ⟨by rw [ef] at z; omega, by rw [ef] at z; omega⟩)]
          exact hq j j0 j2 (by omega)
    · exact ⟨Int.le_refl _, by dsimp only; omega, fun b _ => rfl, fun q x y => by dsimp only at y; omega⟩
  obtain ⟨r, fr, rf, hr⟩ := loop
  have kr : Kp M r := Kp_trans ku (Kp_sc (P := fun b => b = 170) (fun b hb => by unfold scr; omega) (fun b hb => rf b hb))
  refine ⟨r, ?_, kr, by rw [rf 132 (by omega), u0], by rw [rf 173 (by omega), u173, wr_ne (by omega)]⟩
  have sh := a8.2.2 i i0 i1
  have s9 := st _ sh.1 sh.2
  have md' := MD_170 md rf
  have mx' := MX_170 mx rf
  unfold fX12_ran
  rw [s_X12_isShown, ob, e0, a7.1]
  simp only [show (0 ≤ lane ∧ lane ≤ 3) ∧ 0 ≤ i ∧ i < nS from ⟨by omega, i0, i1⟩, and_self, if_true]
  rw [if_neg (show ¬ (1 : Int) = 0 by decide), ob, pI_ok, ob]
  have z0 : wr M0 132 0 0 132 0 ≤ 0 := by rw [wr_at, if_pos rfl]; exact Int.le_refl _
  simp only [z0, if_true]
  rw [fu, ob, fr, ob, w32_id (by omega) (by omega), ld138 _ _ (by omega) (by omega), ob, rf 138 (by omega), u138, a7.2 i i0 i1, ld158 _ _ sh.1 (by omega), ob, (mx' _ sh.1 (by omega)).2.2.2, s_X12_isKnown s9.1 (by omega), ob]
  have x2 := mx' (D 9 (M 49 i)) s9.1 (by omega)
  rw [x2.1, x2.2.1]
  dsimp only
  unfold hdF
  by_cases e : D 7 (D 9 (M 49 i)) = D 8 (D 9 (M 49 i))
  · rw [if_pos e, if_neg (show ¬ (1 : Int) = 0 by decide), if_pos e, ld153 _ _ s9.1 (by omega), ob, ob, x2.1]
  · obtain ⟨p, p0, p1, pe, pE⟩ := hSh e
    have hb := hRb p p0 p1
    have hup := hU _ s9.1 (by omega)
    have r165 : r 165 = u 165 := rf 165 (by omega)
    rw [if_neg e, if_pos rfl, if_neg e, s_X12_file hD md' s9.1 (by omega), ob]
    dsimp only
    rw [ld165 _ _ s9.1 (by omega), ob, r165, w32_id (show -2147483648 ≤ 128 * (1 - D 3 (D 9 (M 49 i))) by omega) (by omega), w32_id (by rw [← pe]; rw [← pe] at hup; omega) (by rw [← pe]; rw [← pe] at hup; omega), ld170 _ _ (by rw [← pe]; rw [← pe] at hup; omega) (by rw [← pe]; rw [← pe] at hup; omega), ob, ob, ← pe]
    rw [hr p p0 p1 (by rw [hE' p p0 p1, pE]; exact Int.le_refl _)]
set_option maxHeartbeats 4000000 in
set_option maxRecDepth 20000 in
theorem q_walk9 {M : Mem} {t : Nat} {n nI nS lane wt c : Int} {G : Nat → Int → Int → Int} (h : InvQ M t n nI nS) (hw : Wlk M t G c) (hl : 0 ≤ lane ∧ lane < 4) (w0 : 0 ≤ wt) (w1 : wt < nS) : ∃ x M1, fX4_walk t lane wt M = some (x, M1) ∧ Kp M M1 ∧ ∀ z : Int, ∃ M2, fX12_walked lane wt (wr M1 173 0 z) = some (x, M2) ∧ M2 132 0 = 0 ∧ M2 173 0 = z ∧ Kp M M2 := by
  obtain ⟨a1, a2, a3, a4, a5, a6, a7, a8, a9, a10, a11, a12, a13, a14, a15, a16, a17, a18, a19, a20⟩ := id h
  obtain ⟨hL, c0, c200, g0, hc, hc', L, L5, tE, tI, tS⟩ := hw
  have ht := a1
  have key : ∀ N : Mem, (∀ b, 132 < b → b < 173 → N b = M b) → ∃ x A' B', fX4_walk t lane wt M = some (x, A') ∧ fX12_walk lane wt N = some (x, B') ∧ (∀ d, d ≠ 56 → d ≠ 58 → d ≠ 59 → d ≠ 61 → A' d = M d) ∧ ∀ d, d ≠ 145 → d ≠ 149 → B' d = N d := by
    intro N hN
    have hC : WkC M N t G c L lane := ⟨ht, hL, ⟨c0, c200⟩, g0, L5, tE, tI, hN 139 (by omega) (by omega), hN 151 (by omega) (by omega), hN 152 (by omega) (by omega), hl, by rw [a10.1]; exact a4.2.2.2.1, fun i i0 i1 => (a11 i i0 (by rw [← a10.1]; exact i1)).2.2.2.2 lane hl.1 hl.2, fun i i0 i1 => a20 i i0 i1⟩
    have g00 : G 0 0 0 = 0 := by
      have o0 := hL.2.1 0 (Int.le_refl _) c0
      by_cases z : G 0 0 0 = 0
      · exact z
      · have o1 := o0.1.1
        have := (o0.2.2.2 0 (Int.le_refl _) (by omega)).1
        omega
    have hW : WkW M N t G c L 0 0 0 (wr M 56 6 0) N := by
      refine ⟨fun d h1 _ _ _ => wr_ne h1, fun _ _ _ => rfl, ⟨Int.le_refl _, c0⟩, fun s s0 s1 => by rw [hL.2.2.2] at s1; omega, by omega, Int.le_refl _, 0, by omega, rfl, rfl, Int.le_refl _, ?_, fun l l0 l1 => by omega⟩
      rw [wr_at, if_pos rfl, g00]
      rfl
    obtain ⟨r, r', f, g, x, A', B', e1, e2, fA, fB⟩ := wl_loop hC hc (by rw [hN 138 (by omega) (by omega)]; exact hc') w0 (by omega) hW
    refine ⟨x, A', B', ?_, ?_, fA, fB⟩
    · unfold fX4_walk
      rw [pI_ok, ob, f, ob, e1]
      rfl
    · unfold fX12_walk
      rw [g, ob, e2]
      rfl
  obtain ⟨x, M1, -, f1, -, fA, -⟩ := key M (fun _ _ _ => rfl)
  refine ⟨x, M1, f1, ⟨fun b hb => ?_, by rw [fA 132 (by omega) (by omega) (by omega) (by omega)], by rw [fA 132 (by omega) (by omega) (by omega) (by omega)]⟩, fun z => ?_⟩
  · unfold scr at hb
    exact fA b (by omega) (by omega) (by omega) (by omega)
  obtain ⟨y, M1', B', f2, g2, -, fB⟩ := key (wr (wr M1 173 0 z) 132 0 0) (fun b hb hb2 => by rw [wr_ne (by omega), wr_ne (by omega)]; exact fA b (by omega) (by omega) (by omega) (by omega))
  rw [f1] at f2
  injection f2 with f2
  injection f2 with f3 f4
  subst f3
  refine ⟨B', ?_, ?_, by rw [fB 173 (by omega) (by omega), wr_ne (by omega), wr_at, if_pos rfl], fun b hb => ?_, ?_, ?_⟩
  · have e9 : wr M1 173 0 z 138 9 = nS := by rw [wr_ne (by omega), fA 138 (by omega) (by omega) (by omega) (by omega)]; exact a7.1
    have e00 : wr (wr M1 173 0 z) 132 0 0 132 0 ≤ 0 := by rw [wr_at, if_pos rfl]; decide
    have es : fX12_isShown lane wt (wr M1 173 0 z) = some (1, wr M1 173 0 z) := by rw [s_X12_isShown, if_pos (by omega)]
    unfold fX12_walked
    rw [es, ob]
    dsimp only
    rw [if_neg (show ¬ ((1 : Int) = 0) by decide), ob, pI_ok, ob, if_pos e00, g2, ob, ob]
  · rw [fB 132 (by omega) (by omega), wr_at, if_pos rfl]
  · unfold scr at hb
    rw [fB b (by omega) (by omega), wr_ne (by omega), wr_ne (by omega)]
    exact fA b (by omega) (by omega) (by omega) (by omega)
  · rw [fB 132 (by omega) (by omega), wr_at, if_neg (by omega), wr_ne (by omega), fA 132 (by omega) (by omega) (by omega) (by omega)]
  · rw [fB 132 (by omega) (by omega), wr_at, if_neg (by omega), wr_ne (by omega), fA 132 (by omega) (by omega) (by omega) (by omega)]
theorem i_walk9 {M : Mem} {t : Nat} {lane wt : Int} (hI : Inv M) (ht : M 0 13 = t) (hl : 0 ≤ lane ∧ lane < 4) (w0 : 0 ≤ wt) (w1 : wt < M 44 5) : ∃ x M1, fX4_walk t lane wt M = some (x, M1) ∧ Inv M1 ∧ ∀ z : Int, ∃ M2, fX12_walked lane wt (wr M1 173 0 z) = some (x, M2) ∧ M2 132 0 = 0 ∧ M2 173 0 = z ∧ Inv M2 := by
  obtain ⟨t', n, nI, nS, D, h1, h2, h3, h4, h5⟩ := id hI
  obtain ⟨-, -, -, G, c, hw⟩ := h5
  have et : t' = t := by have := h1.2.1; rw [ht] at this; omega
  subst et
  obtain ⟨x, M1, e1, k1, r⟩ := q_walk9 h1 hw hl w0 (by rw [← h1.2.2.2.2.2.1]; exact w1)
  refine ⟨x, M1, e1, Inv_kp hI k1, fun z => ?_⟩
  obtain ⟨M2, e2, e3, e9, k2⟩ := r z
  exact ⟨M2, e2, e3, e9, Inv_kp hI k2⟩
theorem i_ran9 {M : Mem} {lane i : Int} (hI : Inv M) (hl : 0 ≤ lane ∧ lane < 4) (i0 : 0 ≤ i) (i1 : i < M 44 5) : ∃ x r, fX4_run lane M = some r ∧ fX4_heldFor (M 49 i) r = some (x, r) ∧ Kp M r ∧ Inv r ∧ ∀ z : Int, ∃ M2, fX12_ran lane i (wr r 173 0 z) = some (x, M2) ∧ M2 132 0 = 0 ∧ M2 173 0 = z ∧ Inv M2 := by
  obtain ⟨t, n, nI, nS, D, h1, h2, h3, h4, h5⟩ := id hI
  have hV := h1.2.2.2.1
  have hS := h2.1.2.2.2.2.1.1
  have hR := rn_ex (num := fun i => M 54 (4 * i + lane)) (cell := M 55) (D := D) hV (fun v a b => (hS v a b).2)
  rw [h1.2.2.2.2.2.1] at i1
  obtain ⟨r, e1, k1, e2⟩ := c_ran h1 h2 hl i0 i1 hR
  refine ⟨_, r, e1, e2, k1, Inv_kp hI k1, fun z => ?_⟩
  obtain ⟨M2, e3, k2, e4, e9⟩ := m_ran9 h1 h2 (Kp_tr k1 (Inv_out (z := z))) hl i0 i1 hR
  exact ⟨M2, e3, e4, by rw [e9, wr_at, if_pos rfl], Inv_kp hI k2⟩
