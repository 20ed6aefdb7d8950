set_option maxHeartbeats 4000000 in
set_option maxRecDepth 20000 in
theorem s_X12_nd_b4 {M : Mem} {n : Int} {mk ag : Int → Int} {Kp : Int → Prop} {Sp : Int → Int → Prop} (hM : MV M n mk ag) (hn0 : 0 ≤ n) (hn : n ≤ 64) (hSp : ∀ v, 0 ≤ v → v < n → i64 (M 159 v) ∧ ∀ s, 0 ≤ s → s < 64 → (tb (M 159 v) s = true ↔ Sp v s)) (hlt : ∀ v s, 0 ≤ v → v < n → Sp v s → 0 ≤ s ∧ s < v)
    (hK : i64 (M 132 38) ∧ ∀ s, 0 ≤ s → s < 64 → (tb (M 132 38) s = true ↔ Kp s)) (hKn : ∀ s, 0 ≤ s → s < 64 → Kp s → s < n) (hz : ∀ v, 0 ≤ v → v < n → M 160 v = 0) :
    ∃ M', lp fX12_needs_b4 (n - 1, M) = some M' ∧ (∀ b, b ≠ 132 → b ≠ 160 → b ≠ 161 → M' b = M b) ∧ (∀ k, k ≠ 38 → M' 132 k = M 132 k) ∧ NdOK n Kp Sp (M' 132 38) ∧ UsOK n Sp (M' 132 38) (M' 160) ∧ HtOK n (M' 132 38) (M' 160) (M' 161) := by
  refine lp_ind (fun s : Int × Mem => -1 ≤ s.1 ∧ s.1 < n ∧ (∀ b, b ≠ 132 → b ≠ 160 → b ≠ 161 → s.2 b = M b) ∧ (∀ k, k ≠ 38 → s.2 132 k = M 132 k) ∧ i64 (s.2 132 38)
    ∧ (∀ w, 0 ≤ w → w < n → (tb (s.2 132 38) w = true ↔ Kp w ∨ ∃ u, w < u ∧ s.1 < u ∧ u < n ∧ tb (s.2 132 38) u = true ∧ Sp u w)) ∧ (∀ w, n ≤ w → w < 64 → tb (s.2 132 38) w = false)
    ∧ (∀ w, 0 ≤ w → w < n → s.1 < w → i64 (s.2 160 w) ∧ ∀ u, 0 ≤ u → u < 64 → (tb (s.2 160 w) u = true ↔ u < n ∧ tb (s.2 132 38) u = true ∧ Sp u w))
    ∧ (∀ w, 0 ≤ w → w < n → w ≤ s.1 → s.2 160 w = 0)
    ∧ (∀ w, 0 ≤ w → w < n → s.1 < w → 0 ≤ s.2 161 w ∧ s.2 161 w ≤ n - w ∧ (tb (s.2 132 38) w = false → s.2 161 w = 0) ∧ (tb (s.2 132 38) w = true → 1 ≤ s.2 161 w ∧ (∀ u, 0 ≤ u → u < 64 → tb (s.2 160 w) u = true → s.2 161 u + 1 ≤ s.2 161 w) ∧ (s.2 161 w = 1 ∨ ∃ u, 0 ≤ u ∧ u < 64 ∧ tb (s.2 160 w) u = true ∧ s.2 161 w = s.2 161 u + 1))))
    (fun M' : Mem => (∀ b, b ≠ 132 → b ≠ 160 → b ≠ 161 → M' b = M b) ∧ (∀ k, k ≠ 38 → M' 132 k = M 132 k) ∧ NdOK n Kp Sp (M' 132 38) ∧ UsOK n Sp (M' 132 38) (M' 160) ∧ HtOK n (M' 132 38) (M' 160) (M' 161)) (fun s => (s.1 + 1).toNat) ?_ (n - 1, M) ?_
  · rintro ⟨v, m⟩ ⟨h0, h1, hfr, hfk, hi, hN, hN2, hU, hU0, hH⟩
    dsimp only at h0 h1 hfr hfk hi hN hN2 hU hU0 hH
    unfold fX12_needs_b4
    dsimp only
    by_cases hv : v < 0
    · have hv1 : v = -1 := by omega
      rw [if_pos hv]
      refine Or.inr ⟨m, rfl, hfr, hfk, ⟨hi, fun w a b => ?_, hN2⟩, fun w a b => hU w a b (by omega), fun w a b => hH w a b (by omega)⟩
      rw [hN w a b]
      constructor
      · rintro (z | ⟨u, a1, -, a3⟩)
        · exact Or.inl z
        · exact Or.inr ⟨u, a1, a3⟩
      · rintro (z | ⟨u, a1, a3⟩)
        · exact Or.inl z
        · exact Or.inr ⟨u, a1, by omega, a3⟩
    · have hv0 : 0 ≤ v := by omega
      have hv64 : v < 64 := by omega
      rw [if_neg hv]
      have e159 : m 159 = M 159 := hfr _ (by omega) (by omega) (by omega)
      have hq47 : ((if (if tb (m 132 38) v = true then (1 : Int) else 0) = 0 then some 0 else (ldJ (wr m 161 v 0) 159 v).bind fun v46 => some v46 : Option Int)) = some (if tb (m 132 38) v = true then m 159 v else 0) := by
        cases tb (m 132 38) v
        · simp only [Nat.reduceAdd, reduceIte, Int.reduceEq, Int.reduceLT, Int.reduceLE, Int.reduceNeg, Int.reduceAdd, Int.reduceSub, Int.reduceMul, Int.reduceNe, or_true, true_or, or_false, false_or, or_self, and_true, true_and, and_false, false_and, and_self, not_true_eq_false, not_false_eq_true, ne_eq, Bool.false_eq_true]
        · simp (disch := omega) only [Nat.reduceAdd, reduceIte, Int.reduceEq, Int.reduceLT, Int.reduceLE, Int.reduceNeg, Int.reduceAdd, Int.reduceSub, Int.reduceMul, Int.reduceNe, or_true, true_or, or_false, false_or, or_self, and_true, true_and, and_false, false_and, and_self, not_true_eq_false, not_false_eq_true, ne_eq, LD, wr_ne, ob]
      simp (disch := omega) only [ST, ob, s_X12_has, wr_ne, hq47, pI_ok, w32_id]
      generalize hX : (if tb (m 132 38) v = true then m 159 v else 0 : Int) = X
      generalize hm1 : wr (wr m 161 v 0) 132 38 (lor (m 132 38) X) = m1
      have m1ne : ∀ b, b ≠ 132 → b ≠ 161 → m1 b = m b := fun b b1 b2 => by rw [← hm1]; simp (disch := omega) only [wr_ne]
      have m132 : ∀ k, m1 132 k = if k = 38 then lor (m 132 38) X else m 132 k := fun k => by rw [← hm1]; simp (disch := omega) only [wr_ne, wr_at]
      have m161 : ∀ w, m1 161 w = if w = v then 0 else m 161 w := fun w => by rw [← hm1]; simp (disch := omega) only [wr_ne, wr_at]
      have tX : ∀ s, 0 ≤ s → s < 64 → (tb X s = true ↔ tb (m 132 38) v = true ∧ Sp v s) := fun s a b => by
        rw [← hX]
        by_cases hb : tb (m 132 38) v = true
        · rw [if_pos hb, e159, (hSp v hv0 h1).2 s a b]
          exact ⟨fun z => ⟨hb, z⟩, fun z => z.2⟩
        · rw [if_neg hb, tb_0]
          exact ⟨fun z => (by cases z), fun z => absurd z.1 hb⟩
      have Nr : ∀ w, 0 ≤ w → w < 64 → (tb (m1 132 38) w = true ↔ tb (m 132 38) w = true ∨ (tb (m 132 38) v = true ∧ Sp v w)) := fun w a b => by
        rw [m132, if_pos rfl, tb_lor, Bool.or_eq_true, tX w a b]
      have Nhi : ∀ u, 0 ≤ u → u < 64 → v ≤ u → (tb (m1 132 38) u = true ↔ tb (m 132 38) u = true) := fun u a b c => by
        rw [Nr u a b]
        exact ⟨fun z => z.resolve_right (fun y => by have := hlt v u hv0 h1 y.2; omega), Or.inl⟩
      obtain ⟨r, f, fr, frw, ri, ru, rp, rmax, rex⟩ := s_X12_nd_b5 (m := m1) (v := v) (MV_fr hM (by rw [m1ne 138 (by omega) (by omega), hfr 138 (by omega) (by omega) (by omega)])) hn hv0 h1 (by rw [m1ne 160 (by omega) (by omega)]; exact hU0 v hv0 h1 (Int.le_refl v)) (by rw [m161, if_pos rfl]) (fun u a b => by rw [m161, if_neg (by omega)]; exact (hH u (by omega) b (by omega)).1)
      have r132 : r 132 = m1 132 := fr _ (by omega) (by omega)
      rw [f]
      have ruv : ∀ u, 0 ≤ u → u < 64 → (tb (r 160 v) u = true ↔ u < n ∧ tb (m1 132 38) u = true ∧ Sp u v) := fun u u0 u1 => by
        rw [ru u u0 u1]
        have e9 : m1 159 = M 159 := by rw [m1ne 159 (by omega) (by omega), e159]
        rw [e9]
        constructor
        · rintro ⟨z1, z2, z3, z4, z5⟩
          exact ⟨z3, z4, ((hSp u u0 z3).2 v hv0 hv64).mp z5⟩
        · rintro ⟨z1, z2, z3⟩
          have q := hlt u v u0 z1 z3
          refine ⟨?_, q.2, z1, z2, ((hSp u u0 z1).2 v hv0 hv64).mpr z3⟩
          rw [Nhi v hv0 hv64 (Int.le_refl v), hN v hv0 h1]
          exact Or.inr ⟨u, q.2, q.2, z1, (Nhi u u0 u1 (by omega)).mp z2, z3⟩
      have rH : ∀ u, 0 ≤ u → u < 64 → tb (r 160 v) u = true → r 161 u = m 161 u ∧ v < u ∧ u < n ∧ tb (m1 132 38) u = true := fun u u0 u1 z => by
        have q := (ruv u u0 u1).mp z
        have q2 := hlt u v u0 q.1 q.2.2
        exact ⟨by rw [(frw u (by omega)).2, m161, if_neg (by omega)], q2.2, q.1, q.2.1⟩
      have rle : r 161 v ≤ n - v - 1 := by
        rcases rex with z | ⟨u, u0, u1, z1, z2⟩
        · omega
        · have q := rH u u0 u1 z1
          have := (hH u u0 q.2.2.1 q.2.1).2.1
          rw [m161, if_neg (by omega)] at z2
          omega
      simp (disch := omega) only [ob, LD, s_X12_has]
      have hq66 : ((if (if tb (r 132 38) v = true then (1 : Int) else 0) = 0 then some 0 else some 1 : Option Int)) = some (if tb (r 132 38) v = true then 1 else 0) := by
        cases tb (r 132 38) v
        · simp only [Nat.reduceAdd, reduceIte, Int.reduceEq, Int.reduceLT, Int.reduceLE, Int.reduceNeg, Int.reduceAdd, Int.reduceSub, Int.reduceMul, Int.reduceNe, or_true, true_or, or_false, false_or, or_self, and_true, true_and, and_false, false_and, and_self, not_true_eq_false, not_false_eq_true, ne_eq, Bool.false_eq_true]
        · simp only [Nat.reduceAdd, reduceIte, Int.reduceEq, Int.reduceLT, Int.reduceLE, Int.reduceNeg, Int.reduceAdd, Int.reduceSub, Int.reduceMul, Int.reduceNe, or_true, true_or, or_false, false_or, or_self, and_true, true_and, and_false, false_and, and_self, not_true_eq_false, not_false_eq_true, ne_eq]
      simp only [hq66, ob]
      generalize hY : (if tb (r 132 38) v = true then 1 else 0 : Int) = Y
      have hY01 : 0 ≤ Y ∧ Y ≤ 1 := by rw [← hY]; split <;> omega
      simp (disch := omega) only [w32_id, ST, ob]
      refine Or.inl ⟨(v + -1, wr r 161 v (r 161 v + Y)), rfl, ⟨by dsimp only; omega, by dsimp only; omega, fun b b1 b2 b3 => ?_, fun k hk => ?_, ?_, fun w a b => ?_, fun w a b => ?_, fun w a b c => ?_, fun w a b c => ?_, fun w a b c => ?_⟩, by dsimp only; omega⟩
      · simp (disch := omega) only [wr_ne]
        rw [fr b b2 b3, m1ne b b1 b3]
        exact hfr b b1 b2 b3
      · simp (disch := omega) only [wr_ne]
        rw [r132, m132, if_neg hk]
        exact hfk k hk
      · simp (disch := omega) only [wr_ne]
        rw [r132, m132, if_pos rfl]
        exact i64_lor _ _
      · simp (disch := omega) only [wr_ne]
        rw [r132, Nr w a (by omega), hN w a b]
        constructor
        · rintro ((z | ⟨u, z1, z2, z3, z4, z5⟩) | ⟨z1, z2⟩)
          · exact Or.inl z
          · exact Or.inr ⟨u, z1, by omega, z3, (Nhi u (by omega) (by omega) (by omega)).mpr z4, z5⟩
          · exact Or.inr ⟨v, (hlt v w hv0 h1 z2).2, by omega, h1, (Nhi v hv0 hv64 (Int.le_refl v)).mpr z1, z2⟩
        · rintro (z | ⟨u, z1, z2, z3, z4, z5⟩)
          · exact Or.inl (Or.inl z)
          · have z4' := (Nhi u (by omega) (by omega) (by omega)).mp z4
            by_cases huv : u = v
            · subst huv; exact Or.inr ⟨z4', z5⟩
            · exact Or.inl (Or.inr ⟨u, z1, by omega, z3, z4', z5⟩)
      · simp (disch := omega) only [wr_ne]
        rw [r132]
        have := Nhi w (by omega) b (by omega)
        rw [hN2 w a b] at this
        cases h : tb (m1 132 38) w
        · rfl
        · rw [h] at this; exact absurd (this.mp rfl) (by decide)
      · simp (disch := omega) only [wr_ne]
        rw [r132]
        by_cases hwv : w = v
        · subst hwv; exact ⟨ri, ruv⟩
        · rw [(frw w hwv).1, m1ne 160 (by omega) (by omega)]
          have q := hU w a b (by dsimp only at c; omega)
          refine ⟨q.1, fun u u0 u1 => ?_⟩
          rw [q.2 u u0 u1]
          constructor
          · rintro ⟨z1, z2, z3⟩
            have := hlt u w u0 z1 z3
            dsimp only at c
            exact ⟨z1, (Nhi u u0 u1 (by omega)).mpr z2, z3⟩
          · rintro ⟨z1, z2, z3⟩
            have := hlt u w u0 z1 z3
            dsimp only at c
            exact ⟨z1, (Nhi u u0 u1 (by omega)).mp z2, z3⟩
      · dsimp only at c
        simp (disch := omega) only [wr_ne]
        rw [(frw w (by omega)).1, m1ne 160 (by omega) (by omega)]
        exact hU0 w a b (by omega)
      · dsimp only at c
        simp (disch := omega) only [wr_ne, wr_at]
        rw [r132]
        by_cases hwv : w = v
        · subst hwv
          rw [if_pos rfl]
          have hNw := hY
          rw [r132] at hNw
          refine ⟨by omega, by omega, fun z => ?_, fun z => ?_⟩
          · rw [z, if_neg (by decide)] at hNw
            rcases rex with y | ⟨u, u0, u1, z1, z2⟩
            · omega
            · have q := (ruv u u0 u1).mp z1
              have q2 := hlt u w u0 q.1 q.2.2
              have : tb (m1 132 38) w = true := by
                rw [Nhi w hv0 hv64 (Int.le_refl w), hN w hv0 h1]
                exact Or.inr ⟨u, q2.2, q2.2, q.1, (Nhi u u0 u1 (by omega)).mp q.2.1, q.2.2⟩
              rw [z] at this; cases this
          · rw [if_pos z] at hNw
            refine ⟨by omega, fun u u0 u1 z1 => ?_, ?_⟩
            · have q := rH u u0 u1 z1
              have := rmax u u0 u1 z1
              rw [m161, if_neg (by omega)] at this
              rw [if_neg (by omega)]
              omega
            · rcases rex with y | ⟨u, u0, u1, z1, z2⟩
              · exact Or.inl (by omega)
              · have q := rH u u0 u1 z1
                rw [m161, if_neg (by omega)] at z2
                exact Or.inr ⟨u, u0, u1, z1, by rw [if_neg (by omega)]; omega⟩
        · rw [if_neg hwv, (frw w hwv).1, (frw w hwv).2, m161, if_neg hwv, m1ne 160 (by omega) (by omega)]
          obtain ⟨q1, q2, q3, q4⟩ := hH w a b (by omega)
          have hNN := Nhi w a (by omega) (by omega)
          have hup : ∀ u, 0 ≤ u → u < 64 → tb (m 160 w) u = true → (if u = v then r 161 v + Y else r 161 u) = m 161 u := fun u u0 u1 z => by
            have q := ((hU w a b (by omega)).2 u u0 u1).mp z
            have := hlt u w u0 q.1 q.2.2
            rw [if_neg (by omega), (frw u (by omega)).2, m161, if_neg (by omega)]
          refine ⟨q1, q2, fun z => q3 ?_, fun z => ?_⟩
          · cases h : tb (m 132 38) w
            · rfl
            · rw [hNN.mpr h] at z; cases z
          · obtain ⟨p1, p2, p3⟩ := q4 (hNN.mp z)
            refine ⟨p1, fun u u0 u1 z1 => by rw [hup u u0 u1 z1]; exact p2 u u0 u1 z1, ?_⟩
            rcases p3 with y | ⟨u, u0, u1, z1, z2⟩
            · exact Or.inl y
            · exact Or.inr ⟨u, u0, u1, z1, by rw [hup u u0 u1 z1]; exact z2⟩
  · refine ⟨by dsimp only; omega, by dsimp only; omega, fun b _ _ _ => rfl, fun k _ => rfl, hK.1, fun w a b => ?_, fun w a b => ?_, fun w a b c => by dsimp only at c; omega, fun w a b c => hz w a b, fun w a b c => by dsimp only at c; omega⟩
    · dsimp only
      rw [hK.2 w a (by omega)]
      exact ⟨Or.inl, fun z => z.resolve_right (fun ⟨u, _, u2, u3, _⟩ => by omega)⟩
    · dsimp only
      cases h : tb (M 132 38) w
      · rfl
      · have := hKn w (by omega) b ((hK.2 w (by omega) b).mp h)
        omega
set_option maxHeartbeats 4000000 in
set_option maxRecDepth 20000 in
theorem s_X12_needs {M : Mem} {n nI nS only : Int} {mk ag F sh : Int → Int} (hM : MV M n mk ag) (hV : Val n mk ag F nI) (hS : MS M nS sh) (hsh : ShOK n nS sh) (ho : -1 ≤ only) :
    ∃ M', fX12_needs only M = some M' ∧ (∀ b, b ≠ 132 → b ≠ 158 → b ≠ 159 → b ≠ 160 → b ≠ 161 → M' b = M b) ∧ (∀ k, k ≠ 38 → k ≠ 39 → M' 132 k = M 132 k) ∧ NdC n mk ag (M 153) (M 154) sh nS only (M' 158) (M' 159) (M' 160) (M' 161) (M' 132 38) (M' 132 39) := by
  have n0 := hV.1
  have n1 := hV.2.1
  obtain ⟨m1, f1, fr1, St1, SB1, z1⟩ := s_X12_nd_b1 hM hV
  obtain ⟨x, f2, xi, hx⟩ := s_X12_shownSet (M := m1) (only := only) (MS_fr hS (fr1 138 (by omega) (by omega) (by omega))) n1 hsh ho
  obtain ⟨m3, f3, fr3, k3, ki, kb⟩ := s_X12_nd_b3 (M := wr m1 132 39 0) (n := n) (only := only) (x := x) (MV_fr hM (by simp (disch := omega) only [wr_ne]; exact fr1 138 (by omega) (by omega) (by omega))) hV hsh hx (fun v a b => by simp (disch := omega) only [wr_ne]; exact (St1 v a b).2) (by simp only [wr_at, if_true])
  have fr3' : ∀ b, b ≠ 132 → m3 b = m1 b := fun b hb => by rw [fr3 b hb]; simp (disch := omega) only [wr_ne]
  have e153 : (wr m1 132 39 0) 153 = M 153 := by simp (disch := omega) only [wr_ne]; exact fr1 _ (by omega) (by omega) (by omega)
  have e154 : (wr m1 132 39 0) 154 = M 154 := by simp (disch := omega) only [wr_ne]; exact fr1 _ (by omega) (by omega) (by omega)
  have e158 : (wr m1 132 39 0) 158 = m1 158 := by simp (disch := omega) only [wr_ne]
  rw [e153, e154, e158] at kb
  obtain ⟨m4, f4, fr4, k4, N4, U4, H4⟩ := s_X12_nd_b4 (M := wr m3 132 38 (m3 132 39)) (n := n) (Kp := KpP (M 153) (M 154) (m1 158) sh nS only) (Sp := SrcP mk ag (M 153) (M 154) (m1 158)) (MV_fr hM (by simp (disch := omega) only [wr_ne]; rw [fr3' 138 (by omega)]; exact fr1 138 (by omega) (by omega) (by omega))) n0 n1
    (fun v a b => by simp (disch := omega) only [wr_ne]; rw [fr3' 159 (by omega)]; exact SB1 v a b) (fun v s a b c => Src_lt hV a b (fun w w0 w1 => (St1 w w0 (by omega)).2) c)
    ⟨by simp only [wr_at, if_true]; exact ki, fun s a b => by simp only [wr_at, if_true]; exact kb s a b⟩ (fun s a b c => by
      obtain ⟨-, i, i0, i1, -, e⟩ := c
      have q := hsh.2.2 i i0 i1
      have := (St1 _ q.1 q.2).2
      omega) (fun v a b => by simp (disch := omega) only [wr_ne]; rw [fr3' 160 (by omega)]; exact z1 v a b)
  have h8 : m4 158 = m1 158 := by rw [fr4 _ (by omega) (by omega) (by omega)]; simp (disch := omega) only [wr_ne]; rw [fr3' 158 (by omega)]
  have h9 : m4 159 = m1 159 := by rw [fr4 _ (by omega) (by omega) (by omega)]; simp (disch := omega) only [wr_ne]; rw [fr3' 159 (by omega)]
  have h39 : m4 132 39 = m3 132 39 := by rw [k4 39 (by omega)]; simp (disch := omega) only [wr_at, if_neg]
  have hn8 : (wr m3 132 38 (m3 132 39)) 138 8 = n := by
    simp (disch := omega) only [wr_ne]; rw [fr3' 138 (by omega), fr1 138 (by omega) (by omega) (by omega)]; exact hM.1
  refine ⟨m4, ?_, fun b b1 b2 b3 b4 b5 => ?_, fun k k1 k2 => ?_, ?_⟩
  · unfold fX12_needs
    rw [f1]
    simp only [ob, f2, pI_ok, f3, s_X12_values, hn8]
    simp (disch := omega) only [w32_id, ob, f4]
  · rw [fr4 b b1 b4 b5]
    simp (disch := omega) only [wr_ne]
    rw [fr3' b b1, fr1 b b2 b3 b4]
  · rw [k4 k k1]
    simp (disch := omega) only [wr_at, if_neg]
    rw [k3 k k2]
    simp (disch := omega) only [wr_at, if_neg]
    rw [fr1 132 (by omega) (by omega) (by omega)]
  · rw [h8, h9, h39]
    exact ⟨St1, SB1, ⟨ki, kb⟩, N4, U4, H4⟩
