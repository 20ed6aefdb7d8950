theorem Kp_sc {M M' : Mem} {P : Nat → Prop} (hP : ∀ b, P b → scr b ∧ b ≠ 132) (h : ∀ b, ¬ P b → M' b = M b) : Kp M M' := ⟨fun b hb => h b (fun z => hb (hP b z).1), by rw [h 132 (fun z => (hP 132 z).2 rfl)], by rw [h 132 (fun z => (hP 132 z).2 rfl)]⟩
theorem Kp_67 {M M' : Mem} (h : ∀ b, b ≠ 60 → b ≠ 61 → M' b = M b) : Kp M M' := Kp_sc (P := fun b => b = 60 ∨ b = 61) (fun b hb => by unfold scr; omega) (fun b hb => h b (by omega) (by omega))
/-- an argument is held -/
theorem arg_src {n nI nS only : Int} {mk ag F U lo hi sh : Int → Int} {D : Mem} (hV : Val n mk ag F nI) (hS : SpD n nS only mk ag F U lo hi sh D) {v j : Int} (v0 : 0 ≤ v) (v1 : v < n) (j0 : 0 ≤ j) (j1 : j < argc (mk v)) (nk : ¬ D 7 (D 9 (ag (3 * v + j))) = D 8 (D 9 (ag (3 * v + j)))) : tb (D 4 v) (D 9 (ag (3 * v + j))) = true := by
  have a := arg_in hV v0 v1 j0 j1
  have st := (hS.2.2.2.2.1.1 _ a.1 (by omega)).2
  have n1 := hV.2.1
  have := (Src_k (L := D 7) (G := D 8) (S := D 9) hV v0 v1 (s := D 9 (ag (3 * v + j)))).mp ⟨j, j0, j1, rfl, nk⟩
  exact ((hS.2.2.2.2.1.2.1 v v0 v1).2 _ st.1 (by omega)).mpr this
set_option maxHeartbeats 4000000 in
set_option maxRecDepth 20000 in
theorem c_run {M : Mem} {t : Nat} {n nI nS lane : Int} {D : Mem} {Rn : Int → Int} (h : InvQ M t n nI nS) (c : Cch M t n nS D) (hl : 0 ≤ lane ∧ lane < 4) (hRn : RnOK n (M 45) (M 46) (fun i => M 54 (4 * i + lane)) (M 55) D Rn) :
    ∃ r, fX4_run lane M = some r ∧ (∀ b, b ≠ 60 → b ≠ 61 → r b = M b) ∧ ∀ q, 0 ≤ q → q < pc (D 0 1) → pc (D 0 1) ≤ M 78 (odr D (M 0 14) q) → r 60 (130 * (1 - D 3 (odr D (M 0 14) q)) + M 81 (odr D (M 0 14) q)) = Rn (odr D (M 0 14) q) := by
  obtain ⟨a1, a2, a3, a4, a5, a6, a7, a8, a9, a10, a11, a12, a13, a14, a15, a16, a17, a18, a19, a20⟩ := id h
  have hD := Cch_DW h c
  have n1 := hD.2.1
  have d0 := c.1.1
  have pb := pc_bd (D 0 1)
  have i6 := a4.2.2.2.1
  have bd := rn_bd a4 a9 c.1 (fun i x y => by have := (a11 i x y).2.2.2.2 lane hl.1 hl.2; omega) (fun i x y => by have := a20 i x y; omega) hRn
  have s1 := c.2.2.2.1.1
  have hO := c.2.2.2.1.2.1
  have hE := c.2.2.2.1.2.2.1
  have hRg := c.2.2.2.1.2.2.2.2.1
  simp only [CL, Nat.reduceAdd] at s1 hE hRg
  generalize odr D (M 0 14) = L at *
  generalize hc : pc (D 0 1) = m at *
  have hw : ∀ v, 0 ≤ v → v < n → D 2 v = 1 ∨ D 2 v = 2 := fun v x y => (hD.2.2.2.2.2.2.2.2 v x (by omega)).2.1
  have hU : ∀ v, 0 ≤ v → v < n → D 3 v = 0 ∨ D 3 v = 1 := fun v x y => (hD.2.2.2.2.2.2.2.2 v x (by omega)).2.2.1
  have hLn : ∀ p, 0 ≤ p → p < m → 0 ≤ L p ∧ L p < n ∧ tb (D 0 1) (L p) = true := fun p x y => by have := hO.2.1 p x y; rw [d0] at this; exact this
  have hRb : ∀ p, 0 ≤ p → p < m → 0 ≤ M 81 (L p) ∧ M 81 (L p) ≤ 127 := fun p x y => by
    have := hRg p x y
    have w := hw _ (hLn p x y).1 (hLn p x y).2.1
    have z1 := this.1
    have z2 := this.2.1
    omega
  unfold fX4_run
  refine lp_bind (fun s : Int × Mem => 0 ≤ s.1 ∧ s.1 ≤ m ∧ (∀ b, b ≠ 60 → b ≠ 61 → s.2 b = M b) ∧ ∀ q, 0 ≤ q → q < s.1 → s.1 ≤ M 78 (L q) → s.2 60 (130 * (1 - D 3 (L q)) + M 81 (L q)) = Rn (L q)) (fun r : Mem => (∀ b, b ≠ 60 → b ≠ 61 → r b = M b) ∧ ∀ q, 0 ≤ q → q < m → m ≤ M 78 (L q) → r 60 (130 * (1 - D 3 (L q)) + M 81 (L q)) = Rn (L q)) (fun s => (m - s.1).toNat) ?_ ?_ ?_
  · rintro ⟨p, q⟩ ⟨p0, p1, hfr, hq⟩
    dsimp only at p0 p1 hfr hq
    unfold fX4_run_b1
    dsimp only
    have e75 : q 75 4 = m := by rw [hfr 75 (by omega) (by omega)]; exact s1.1
    simp only [e75]
    by_cases hpm : m ≤ p
    · rw [if_pos hpm]
      have : p = m := by omega
      subst this
      exact Or.inr ⟨q, rfl, hfr, hq⟩
    · rw [if_neg hpm]
      have pm : p < m := by omega
      obtain ⟨l0, l1, lN⟩ := hLn p p0 pm
      obtain ⟨k0, k1, k2, k3, k4, k5, k6, k7, k8, -⟩ := a4.2.2.2.2 (L p) l0 l1
      have nk := nd_nk c.1 l0 l1 lN
      rw [ld76 _ _ p0 (by omega), ob, hfr 76 (by omega) (by omega), s1.2 p p0 pm]
      have e45 : q 45 = M 45 := hfr 45 (by omega) (by omega)
      have e46 : q 46 = M 46 := hfr 46 (by omega) (by omega)
      obtain ⟨r, fr, hr, hr61⟩ := s_X4_take2 (q := q) (v := L p) (c := argc (M 45 (L p))) (H := fun k => hdF D Rn (M 46 (3 * L p + k))) l0 (by omega) (by rw [e45]) (fun k mm x0 x1 hm => by
        have mf : ∀ b, b ≠ 60 → b ≠ 61 → mm b = M b := fun b b1 b2 => by rw [hm b b2, hfr b b1 b2]
        have ai := arg_in a4 l0 l1 x0 x1
        have kk := Kp_67 mf
        rw [e46]
        have hs : ¬ D 7 (D 9 (M 46 (3 * L p + k))) = D 8 (D 9 (M 46 (3 * L p + k))) → ∃ j, 0 ≤ j ∧ j < p ∧ L j = D 9 (M 46 (3 * L p + k)) ∧ p ≤ M 78 (L j) := by
          intro z
          have st := (c.1.2.2.2.2.1.1 _ ai.1 (by omega)).2
          have tt := arg_src a4 c.1 l0 l1 x0 x1 z
          obtain ⟨j, j0, j1, je⟩ := hO.2.2.2.2 p _ p0 pm st.1 (by omega) tt
          exact ⟨j, j0, j1, je, end_src hO hE p0 pm j0 j1 (by rw [je]; exact tt)⟩
        have m81 : mm 81 = M 81 := mf 81 (by omega) (by omega)
        rw [c_held (InvQ_fr h kk) (Cch_fr a1 c kk) ai.1 (by omega) (fun z => by
          obtain ⟨j, j0, j1, je, -⟩ := hs z
          rw [m81, ← je]; exact hRb j j0 (by omega))]
        congr 2
        unfold hdF
        by_cases z : D 7 (D 9 (M 46 (3 * L p + k))) = D 8 (D 9 (M 46 (3 * L p + k)))
        · rw [if_pos z, if_pos z]
        · rw [if_neg z, if_neg z]
          obtain ⟨j, j0, j1, je, jE⟩ := hs z
          rw [← je, m81, hm 60 (by omega)]
          exact hq j j0 j1 jE)
      rw [fr, ob]
      have rf : ∀ b, b ≠ 60 → b ≠ 61 → r b = M b := fun b b1 b2 => by rw [hr b b2, hfr b b1 b2]
      have kr := Kp_67 rf
      have cr := Cch_fr a1 c kr
      have r45 : r 45 = M 45 := rf 45 (by omega) (by omega)
      have r46 : r 46 = M 46 := rf 46 (by omega) (by omega)
      have r54 : r 54 = M 54 := rf 54 (by omega) (by omega)
      have r55 : r 55 = M 55 := rf 55 (by omega) (by omega)
      have r81 : r 81 = M 81 := rf 81 (by omega) (by omega)
      have hu := hU (L p) l0 l1
      have hb := hRb p p0 pm
      have half : fX7_halfOf 62 (L p) r = some (130 * (1 - D 3 (L p)) + M 81 (L p), r) := by
        unfold fX7_halfOf
        rw [s_X7_fileOf hD cr.2.1 l0 (by omega), ob]
        simp only [Nat.reduceAdd]
        rw [ld81 _ _ l0 (by omega), ob, r81]
        rw [w32_id (show -2147483648 ≤ 130 * (1 - D 3 (L p)) by omega) (by omega), w32_id (by omega) (by omega)]
      have one : fX4_reckonOne lane (L p) r = some (Rn (L p), r) := by
        rw [hRn (L p) l0 l1]
        unfold fX4_reckonOne nmF
        simp only [w32_id (show -2147483648 ≤ 3 * L p by omega) (by omega), ld46 _ _ (show 0 ≤ 3 * L p by omega) (by omega), ld45 _ _ l0 (show L p < 64 by omega), r45, r46, ob]
        by_cases h0 : M 45 (L p) = 0
        · rw [if_pos h0, if_pos h0]
          have a2 := k2 h0
          simp only [w32_id (show -2147483648 ≤ 4 * M 46 (3 * L p) by omega) (by omega), w32_id (show -2147483648 ≤ 4 * M 46 (3 * L p) + lane by omega) (by omega), ld54 _ _ (show 0 ≤ 4 * M 46 (3 * L p) + lane by omega) (by omega), ob, r54]
        · rw [if_neg h0, if_neg h0, if_neg nk.2, if_neg nk.2]
          have a4' := k4 (by omega)
          have g0 : r 61 0 = hdF D Rn (M 46 (3 * L p)) := by
            have := hr61 0 (by omega) (by unfold argc; repeat' split
                                          all_goals omega)
            rw [this, Int.add_zero]
          have g1 : M 45 (L p) ≠ 7 → M 45 (L p) ≠ 12 → r 61 1 = atA (hdF D Rn) (M 46 (3 * L p + 1)) := by
            intro z1 z2
            have a5' := k5 (by omega) z1 z2
            have := hr61 1 (by omega) (by unfold argc; repeat' split
                                          all_goals omega)
            rw [this]
            unfold atA
            rw [if_pos a5'.1]
          have g2 : M 45 (L p) = 13 → r 61 2 = atA (hdF D Rn) (M 46 (3 * L p + 2)) := by
            intro z1
            have a5' := k6 z1
            have := hr61 2 (by omega) (by unfold argc; repeat' split
                                          all_goals omega)
            rw [this]
            unfold atA
            rw [if_pos a5'.1]
          have A := (bd ((L p).toNat + 1) (M 46 (3 * L p)) (by omega) a4'.1 (by omega)).2.1
          have hm := s_X11_made' (k := M 45 (L p)) (a := r 61 0) (b := r 61 1) (c := r 61 2) (M := r) (by rw [g0]; exact A) (fun z1 z2 => by
            rw [g1 z1 z2]
            have a5' := k5 (by omega) z1 z2
            unfold atA
            rw [if_pos a5'.1]
            exact (bd ((L p).toNat + 1) _ (by omega) a5'.1 (by omega)).2.1)
          simp (disch := omega) only [LD, ob, hm, r55]
          rw [mdF_irr (by omega) g1 g2, g0]
      rw [half, ob]
      dsimp only
      rw [one, ob]
      dsimp only
      rw [st60 _ _ _ (by omega) (by omega), ob, w32_id (by omega) (by omega)]
      refine Or.inl ⟨_, rfl, ⟨by dsimp only; omega, by dsimp only; omega, fun b b1 b2 => ?_, fun j j0 j1 jE => ?_⟩, by dsimp only; omega⟩
      · dsimp only; rw [wr_ne b1, rf b b1 b2]
      · dsimp only at j1 jE ⊢
        rw [wr_at]
        by_cases e : j = p
        · rw [if_pos (by rw [e]), e]
        · have j2 : j < p := by omega
          have hlj := hLn j j0 (by omega)
          have huj := hU _ hlj.1 hlj.2.1
          have hbj := hRb j j0 (by omega)
          have wj := hw _ hlj.1 hlj.2.1
          have wp := hw _ l0 l1
          rw [if_neg (fun z => by
            have ef : D 3 (L j) = D 3 (L p) := by omega
            exact reg_ne hRg j0 j2 pm (by omega) ef (Int.le_refl _) (by omega) ⟨by rw [ef] at z; omega, by rw [ef] at z; omega⟩), hr 60 (by omega)]
          exact hq j j0 j2 (by omega)
  · exact ⟨Int.le_refl _, by dsimp only; omega, fun b _ _ => rfl, fun q x y => by dsimp only at y; omega⟩
  · exact fun r hr => ⟨r, rfl, hr⟩
/-- what is shown is held -/
theorem sh_held {M : Mem} {t : Nat} {n nI nS : Int} {D : Mem} (h : InvQ M t n nI nS) (c : Cch M t n nS D) {i : Int} (i0 : 0 ≤ i) (i1 : i < nS) (nk : ¬ D 7 (D 9 (M 49 i)) = D 8 (D 9 (M 49 i))) : ∃ p, 0 ≤ p ∧ p < pc (D 0 1) ∧ odr D (M 0 14) p = D 9 (M 49 i) ∧ M 78 (odr D (M 0 14) p) = pc (D 0 1) := by
  have hD := Cch_DW h c
  have n1 := hD.2.1
  have d0 := c.1.1
  have hO := c.2.2.2.1.2.1
  have hE := c.2.2.2.1.2.2.1
  simp only [Nat.reduceAdd] at hE
  have sh := h.2.2.2.2.2.2.2.1.2.2 i i0 i1
  have st := (c.1.2.2.2.2.1.1 _ sh.1 sh.2).2
  have hk : tb (D 0 2) (D 9 (M 49 i)) = true := (c.1.2.2.2.2.1.2.2.1.2 _ st.1 (by omega)).mpr ⟨nk, i, i0, i1, Or.inl rfl, rfl⟩
  obtain ⟨p, p0, p1, pe⟩ := hO.2.2.2.1 _ st.1 (by omega) (hD.2.2.2.2.2.1 _ st.1 (by omega) hk)
  exact ⟨p, p0, p1, pe, (hE p p0 p1).1 (by rw [pe]; exact hk)⟩
set_option maxHeartbeats 4000000 in
set_option maxRecDepth 20000 in
theorem c_ran {M : Mem} {t : Nat} {n nI nS lane i : Int} {D : Mem} {Rn : Int → Int} (h : InvQ M t n nI nS) (c : Cch M t n nS D) (hl : 0 ≤ lane ∧ lane < 4) (i0 : 0 ≤ i) (i1 : i < nS) (hRn : RnOK n (M 45) (M 46) (fun i => M 54 (4 * i + lane)) (M 55) D Rn) :
    ∃ r, fX4_run lane M = some r ∧ Kp M r ∧ fX4_heldFor (M 49 i) r = some (hdF D Rn (M 49 i), r) := by
  obtain ⟨r, f, fr, hr⟩ := c_run h c hl hRn
  have kr := Kp_67 fr
  have hD := Cch_DW h c
  have n1 := hD.2.1
  have pb := pc_bd (D 0 1)
  have sh := h.2.2.2.2.2.2.2.1.2.2 i i0 i1
  have hRg := c.2.2.2.1.2.2.2.2.1
  simp only [Nat.reduceAdd] at hRg
  refine ⟨r, f, kr, ?_⟩
  have r81 : r 81 = M 81 := fr 81 (by omega) (by omega)
  rw [c_held (InvQ_fr h kr) (Cch_fr h.1 c kr) sh.1 sh.2 (fun z => by
    obtain ⟨p, p0, p1, pe, -⟩ := sh_held h c i0 i1 z
    rw [r81, ← pe]
    have q := hRg p p0 p1
    have l := c.2.2.2.1.2.1.2.1 p p0 p1
    have w := (hD.2.2.2.2.2.2.2.2 _ l.1 l.2.1).2.1
    have q1 := q.1
    have q2 := q.2.1
    omega)]
  congr 2
  unfold hdF
  by_cases z : D 7 (D 9 (M 49 i)) = D 8 (D 9 (M 49 i))
  · rw [if_pos z, if_pos z]
  · rw [if_neg z, if_neg z]
    obtain ⟨p, p0, p1, pe, pE⟩ := sh_held h c i0 i1 z
    rw [← pe, r81]
    exact hr p p0 p1 (by omega)
