/-! a line of either sort; all lines -/
theorem bs1 {α : Type} (x : Option α) : (x.bind fun q => some q) = x := by cases x <;> rfl
theorem bs2 {α β : Type} (x : Option (α × β)) : (x.bind fun q => some (q.1, q.2)) = x := by cases x <;> rfl
theorem PC_up {A A' B B' : Mem} {t : Nat} {T : Int → Int} {n N c : Int} {G : Nat → Int → Int → Int} (h : PC A B t T n N G c) (ha : ∀ b, b ≠ 1 → b ≠ t → A' b = A b) (h12 : A' 1 2 = A 1 2) (ht' : ∀ k, k ≠ 17 → A' t k = A t k) (hb : ∀ b, b ≠ 132 → b ≠ 138 → B' b = B b) (b14 : B' 132 14 = B 132 14) (b18 : B' 132 18 = B 132 18) (b138 : ∀ k, k ≠ 417 → B' 138 k = B 138 k) : PC A' B' t T n N G c := by
  obtain ⟨p1, p2, p3, p4, p5, p6, p7, p8, p9, p10, p11, p12, p13, p14, p15, p16⟩ := h
  have ht := p1.1
  have e4 : A' 4 = A 4 := ha 4 (by omega) (by omega)
  have e19 : A' 19 = A 19 := ha 19 (by omega) (by omega)
  have e21 : A' 21 = A 21 := ha 21 (by omega) (by omega)
  have tu : ∀ k, 1 ≤ k → k ≤ 12 → A' (t + k) = A (t + k) := fun k k0 k1 => ha _ (by omega) (by omega)
  refine ⟨CK_fr p1 h12 (ha 2 (by omega) (by omega)) (ha 3 (by omega) (by omega)) (by rw [e4]), MK_fr p2 (hb _ (by omega) (by omega)) (hb _ (by omega) (by omega)) (hb _ (by omega) (by omega)) (hb _ (by omega) (by omega)), NmR_fr p3 (by rw [e4]) (ha 18 (by omega) (by omega)) e19 (ha 20 (by omega) (by omega)) b14 (hb 140 (by omega) (by omega)) (hb 141 (by omega) (by omega)), ?_, ?_, ?_, ?_, ?_, ?_, ?_, ?_, ?_, ?_, ?_, ?_, LnS_cg p16 (tu 1 (by omega) (by omega)) (tu 2 (by omega) (by omega)) (tu 3 (by omega) (by omega)) (tu 4 (by omega) (by omega)) (tu 5 (by omega) (by omega)) (tu 6 (by omega) (by omega)) (tu 7 (by omega) (by omega)) (tu 8 (by omega) (by omega)) (tu 9 (by omega) (by omega)) (ht' 10 (by omega)) (ht' 16 (by omega)) (hb 139 (by omega) (by omega))⟩
  · rw [ht' 0 (by omega), b138 412 (by omega)]; exact p4
  · rw [ht' 10 (by omega), b138 413 (by omega)]; exact p5
  · rw [ht' 16 (by omega), b138 414 (by omega), e4]; exact p6
  · rw [ht' 14 (by omega), b138 415 (by omega)]; exact p7
  · rw [ht' 15 (by omega), b138 416 (by omega)]; exact p8
  · rw [e4, b138 418 (by omega)]; exact p9
  · rw [e4, b138 419 (by omega)]; exact p10
  · rw [e4, b18]; exact p11
  · rw [e4, p12]
    apply sm_congr
    intro i _ _
    unfold whO
    rw [tu 1 (by omega) (by omega)]
  · intro i i0 i1
    rw [ht' 10 (by omega)] at i1
    rw [tu 10 (by omega) (by omega), tu 11 (by omega) (by omega), tu 12 (by omega) (by omega), b138 _ (by omega), b138 _ (by omega), b138 _ (by omega)]
    exact p13 i i0 i1
  · rw [e19]; exact p14
  · rw [e21, tu 1 (by omega) (by omega), hb 142 (by omega) (by omega), hb 143 (by omega) (by omega), hb 144 (by omega) (by omega)]
    exact p15
theorem PC_F1 {A A' B : Mem} {t : Nat} {T : Int → Int} {n N c : Int} {G : Nat → Int → Int → Int} (h : PC A B t T n N G c) (f : F1 A A') : PC A' B t T n N G c := PC_up h (fun b b1 _ => f.1 b b1) f.2 (fun k _ => by rw [f.1 t (by have := h.1.1; omega)]) (fun _ _ _ => rfl) rfl rfl (fun _ _ => rfl)
set_option maxHeartbeats 4000000 in
set_option maxRecDepth 20000 in
theorem ln_line {A B : Mem} {t : Nat} {T : Int → Int} {n N c j : Int} {G : Nat → Int → Int → Int} (h : PR A B t T n N G c j) (hk : A 1 4 ≠ 0) : ∃ x A' B', fX6_readLine A = some (x, A') ∧ ((fX12_readLine B).bind fun q => fX12_takeEnd q) = some B' ∧ LnRes t T n N j A B x A' B' := by
  obtain ⟨hP, hAt, hpos⟩ := id h
  have p1 := hP.1
  have p2 := hP.2.1
  have ht := p1.1
  have n1 := p2.2.1
  have p4 := hP.2.2.2.1
  have kr := kd_rel hAt.1
  have ne := not_end p2 hAt.2.2.2.1 (fun z => hk (kr.1.mpr z))
  have o := hP.2.2.2.2.2.2.2.2.2.2.2.2.2.2.2.2.1 c p4.2.2 (Int.le_refl _)
  have o1 := o.1
  have gA : gm A 4 1 = some t := gm41 ht p1.2.1
  have c2 : A t 0 < 200 := by rw [p4.1]; omega
  have wh := m_wordHere (f := 0) (m := 10) p1 p2 hAt (by omega) (by omega) (by omega)
  have nm := m_isName p1 p2 hAt
  unfold fX6_readLine fX12_readLine
  rw [gA, ob, if_pos c2, wh, ob]
  dsimp only
  -- a fault of both
  have flt : ∀ q : Int, q ≠ 0 → q ≠ 1 → q ≠ 2 → q ≠ 3 → q ≠ 5 → q ≠ 7 → q ≠ 6 → q ≠ 8 → q ≠ 9 → A 1 4 ≠ 4 → ∃ B', ((((if q = 0 then ((if q = 0 then some 1 else some 0 : Option (Int))).bind fun q2 => (fX12_readInput q2 B).bind fun q3 => some q3 else if q = 1 then ((if q = 0 then some 1 else some 0 : Option (Int))).bind fun q16 => (fX12_readInput q16 B).bind fun q17 => some q17 else if q = 2 then (fX12_readLimit 2 3 8 B).bind fun q15 => some q15 else if q = 3 then (fX12_readLimit 3 4 16 B).bind fun q14 => some q14 else if q = 5 then ((if q = 5 then some 1 else some 0 : Option (Int))).bind fun q4 => (fX12_readBlock q4 B).bind fun q5 => some q5 else if q = 7 then ((if q = 5 then some 1 else some 0 : Option (Int))).bind fun q12 => (fX12_readBlock q12 B).bind fun q13 => some q13 else if q = 6 then (fX12_readElse B).bind fun q11 => some q11 else if q = 8 then (fX12_readEnd B).bind fun q10 => some q10 else if q = 9 then (fX12_readShow B).bind fun q9 => some q9 else (fX12_isName B).bind fun q6 => if q6.1 = 0 then (fX12_wrong 1 q6.2).bind fun q7 => some q7 else (fX12_readIs q6.2).bind fun q8 => some q8 : Option (Mem))).bind fun q18 => some q18).bind fun q => fX12_takeEnd q) = some B' ∧ LnRes t T n N j A B (1 + 16 * pos T n j) A B' := by
    intro q e0 e1 e2 e3 e5 e7 e6 e8 e9 k4
    obtain ⟨fa, fb, B', fe, res⟩ := ln_fault (k := 1) p1 p2 hAt (by omega) (by omega)
    rw [if_neg k4] at nm
    refine ⟨B', ?_, res⟩
    rw [if_neg e0, if_neg e1, if_neg e2, if_neg e3, if_neg e5, if_neg e7, if_neg e6, if_neg e8, if_neg e9, nm, ob]
    dsimp only
    rw [if_pos rfl, fb, ob, ob, ob, fe]
  have cf := (ln_fault (k := 1) p1 p2 hAt (by omega) (by omega)).1
  by_cases k4 : A 1 4 = 4
  · rw [if_pos k4]
    have e : (if A 1 4 = 5 ∧ 0 ≤ A 1 6 ∧ A 1 6 < 0 + 10 then A 1 6 - 0 else -1) = -1 := if_neg (by omega)
    rw [if_pos k4] at nm
    simp only [e, nm]
    rw [if_neg (by decide), if_neg (by decide), if_neg (by decide), if_neg (by decide), if_neg (by decide), if_neg (by decide), if_neg (by decide), if_neg (by decide), if_neg (by decide), ob]
    dsimp only
    rw [if_neg (by decide), bs1, bs1, bs1]
    exact ln_is h k4
  · rw [if_neg k4]
    by_cases k5 : A 1 4 = 5
    · have w0 : 0 ≤ A 1 6 := by
        rcases (hAt.1.2.2.2.2.2.2 (kr.2.2.2.2.1.mp (Or.inr k5))).2 with z | z
        · exact z.2.1
        · have := z.1; omega
      rw [if_pos k5]
      by_cases w10 : A 1 6 < 10
      · have e : (if A 1 4 = 5 ∧ 0 ≤ A 1 6 ∧ A 1 6 < 0 + 10 then A 1 6 - 0 else -1) = A 1 6 := by rw [if_pos (by omega)]; omega
        simp only [e]
        by_cases q0 : A 1 6 = 0
        · rw [if_pos (Or.inl q0), if_pos q0, ob, if_pos q0, ob, bs1, bs1, bs1]
          exact ln_input h k5 q0 (by omega) (by omega)
        · by_cases q1 : A 1 6 = 1
          · rw [if_pos (Or.inr q1), if_neg q0, ob, if_neg q0, if_pos q1, ob, bs1, bs1, bs1]
            exact ln_input h k5 q1 (by omega) (by omega)
          · rw [if_neg (by omega)]
            by_cases q2 : A 1 6 = 2
            · rw [if_pos q2, if_neg q0, if_neg q1, if_pos q2, bs1, bs1, bs1]
              exact ln_fetch h k5 q2
            · rw [if_neg q2]
              by_cases q3 : A 1 6 = 3
              · rw [if_pos q3, if_neg q0, if_neg q1, if_neg q2, if_pos q3, bs1, bs1, bs1]
                exact ln_alu h k5 q3
              · rw [if_neg q3]
                by_cases q5 : A 1 6 = 5
                · rw [if_pos q5, if_neg q0, if_neg q1, if_neg q2, if_neg q3, if_pos q5, if_pos q5, ob, bs1, bs1, bs1]
                  exact ln_when h k5 q5
                · rw [if_neg q5]
                  by_cases q6 : A 1 6 = 6
                  · rw [if_pos q6, if_neg q0, if_neg q1, if_neg q2, if_neg q3, if_neg q5, if_neg (by omega), if_pos q6, bs1, bs1, bs1]
                    exact ln_else h k5 q6
                  · rw [if_neg q6]
                    by_cases q7 : A 1 6 = 7
                    · rw [if_pos q7, if_neg q0, if_neg q1, if_neg q2, if_neg q3, if_neg q5, if_pos q7, if_neg q5, ob, bs1, bs1, bs1]
                      exact ln_times h k5 q7
                    · rw [if_neg q7]
                      by_cases q8 : A 1 6 = 8
                      · rw [if_pos q8, if_neg q0, if_neg q1, if_neg q2, if_neg q3, if_neg q5, if_neg q7, if_neg q6, if_pos q8, bs1, bs1, bs1]
                        exact ln_end h k5 q8
                      · rw [if_neg q8]
                        by_cases q9 : A 1 6 = 9
                        · rw [if_pos q9, if_neg q0, if_neg q1, if_neg q2, if_neg q3, if_neg q5, if_neg q7, if_neg q6, if_neg q8, if_pos q9, bs1, bs1, bs1]
                          exact ln_show h k5 q9
                        · rw [if_neg q9, cf, ob]
                          obtain ⟨B', f, g⟩ := flt (A 1 6) q0 q1 q2 q3 q5 q7 q6 q8 q9 k4
                          exact ⟨_, _, B', rfl, f, g⟩
      · have e : (if A 1 4 = 5 ∧ 0 ≤ A 1 6 ∧ A 1 6 < 0 + 10 then A 1 6 - 0 else -1) = -1 := if_neg (by omega)
        simp only [e]
        rw [if_neg (by omega), if_neg (by omega), if_neg (by omega), if_neg (by omega), if_neg (by omega), if_neg (by omega), if_neg (by omega), if_neg (by omega), cf, ob]
        obtain ⟨B', f, g⟩ := flt (-1) (by decide) (by decide) (by decide) (by decide) (by decide) (by decide) (by decide) (by decide) (by decide) k4
        exact ⟨_, _, B', rfl, f, g⟩
    · have e : (if A 1 4 = 5 ∧ 0 ≤ A 1 6 ∧ A 1 6 < 0 + 10 then A 1 6 - 0 else -1) = -1 := if_neg (fun z => k5 z.1)
      simp only [e]
      rw [if_neg k5, cf, ob]
      obtain ⟨B', f, g⟩ := flt (-1) (by decide) (by decide) (by decide) (by decide) (by decide) (by decide) (by decide) (by decide) (by decide) k4
      exact ⟨_, _, B', rfl, f, g⟩
/-- what stands when reading is over -/
def PsR (t : Nat) (T : Int → Int) (n N : Int) (A0 B0 : Mem) (x : Int) (A B : Mem) : Prop := CFr t A0 A ∧ MFr B0 B ∧ ((x = 0 ∧ ∃ G c j, PR A B t T n N G c j ∧ ty T n (pos T n j) = 0) ∨ (0 < x ∧ B 132 8 = x))
set_option maxHeartbeats 4000000 in
set_option maxRecDepth 20000 in
theorem ps_loop {A B : Mem} {t : Nat} {T : Int → Int} {n N c j : Int} {G : Nat → Int → Int → Int} (h : PR A B t T n N G c j) : ∃ r r', lp fX6_parse_b1 (0, 0, A) = some r ∧ lp fX12_shader_b1 B = some r' ∧ PsR t T n N A B r.1 r.2 r' := by
  have n0 := h.1.1.2.2.1.2.1
  have n1 := h.1.2.1.2.1
  refine lp_rel (fun (s : Int × Int × Mem) (s' : Mem) => CFr t A s.2.2 ∧ MFr B s' ∧ 0 ≤ s.2.1 ∧ s.2.1 ≤ 1000 ∧ ((s.1 = 0 ∧ ∃ G c j, PR s.2.2 s' t T n N G c j ∧ s.2.1 ≤ pos T n j) ∨ (0 < s.1 ∧ s' 132 8 = s.1))) (fun (r : Int × Mem) (r' : Mem) => PsR t T n N A B r.1 r.2 r') (fun s _ => (1001 - s.2.1).toNat) ?_ _ _ _ (Nat.lt_succ_self _) ?_
  · rintro ⟨x, i, a⟩ b ⟨cf, mf, i0, i1, hx⟩
    dsimp only at cf mf i0 i1 hx
    unfold fX6_parse_b1 fX12_shader_b1
    dsimp only
    rcases hx with ⟨x0, G', c', j', pr, hi⟩ | ⟨x0, b8⟩
    · have hAt := pr.2.1
      have p2 := pr.1.2.1
      have nN := p2.1.2.1
      have jN' := hAt.2.2.2.1
      have j0' := hAt.2.2.1
      have kr := kd_rel hAt.1
      have mt := p2.1.2.2.2.2 j' hAt.2.2.1 hAt.2.2.2.1
      rw [if_pos hAt.2.2.2.2, hAt.2.1, ld134 _ _ hAt.2.2.1 (by omega), ob, mt.2.1]
      by_cases e : ty T n (pos T n j') = 0
      · rw [if_pos e]
        refine Or.inr ⟨(x, a), b, ?_, rfl, cf, mf, Or.inl ⟨x0, G', c', j', pr, e⟩⟩
        by_cases i2 : 1000 ≤ i
        · rw [if_pos i2]
        · rw [if_neg i2, if_pos x0, if_pos (kr.1.mpr e)]
      · have ne := not_end p2 hAt.2.2.2.1 e
        rw [if_neg e, if_neg (by omega), if_pos x0, if_neg (fun z => e (kr.1.mp z))]
        obtain ⟨y, A', B', f, g, cf', mf', res⟩ := ln_line pr (fun z => e (kr.1.mp z))
        rw [f, ob]
        dsimp only
        have g' : ((fX12_readLine b).bind fun q8 => (fX12_takeEnd q8).bind fun q9 => some (Sum.inl q9 : Mem ⊕ Mem)) = some (Sum.inl B') := by
          cases hq : fX12_readLine b with
          | none => rw [hq] at g; exact absurd g (by simp [Option.bind])
          | some q =>
            rw [hq, ob] at g
            rw [ob, g, ob]
        rw [g', w32_id (by omega) (by omega)]
        left
        rcases res with ⟨y0, G2, c2, j2, pc, at2, b7, b8, jj, jN, hp1, hp2⟩ | ⟨y0, b8⟩
        · obtain ⟨A2, f2, fr2, at3⟩ := c_advance pc.1 (by have := hAt.2.2.1; omega) at2.2.1
          rw [if_pos y0, f2, ob, ob]
          have q1 := pos_nx (T := T) (j := j2) n0 (by have := hAt.2.2.1; omega)
          refine ⟨_, _, rfl, rfl, ⟨CFr_trans cf (CFr_trans cf' (F1_CFr pc.1.1 fr2)), MFr_trans mf mf', by dsimp only; omega, by dsimp only; omega, Or.inl ⟨y0, G2, c2, j2 + 1, ⟨PC_F1 pc fr2, ⟨at3, b7, by have := hAt.2.2.1; omega, jN, b8⟩, by omega⟩, by dsimp only; omega⟩⟩, by dsimp only; omega⟩
        · rw [if_neg (by omega), ob]
          exact ⟨_, _, rfl, rfl, ⟨CFr_trans cf cf', MFr_trans mf mf', by dsimp only; omega, by dsimp only; omega, Or.inr ⟨y0, b8⟩⟩, by dsimp only; omega⟩
    · rw [if_neg (show ¬ b 132 8 = 0 by omega)]
      refine Or.inr ⟨(x, a), b, ?_, rfl, cf, mf, Or.inr ⟨x0, b8⟩⟩
      by_cases i2 : 1000 ≤ i
      · rw [if_pos i2]
      · rw [if_neg i2, if_neg (by omega)]
  · have := pos_b T (n := n) (j := j) n0
    exact ⟨CFr_refl t A, MFr_refl B, Int.le_refl _, by dsimp only; omega, Or.inl ⟨rfl, G, c, j, h, by dsimp only; omega⟩⟩
