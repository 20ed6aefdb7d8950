/-- which are needed, by whom, how high, how far behind -/
def NdOK (n : Int) (Kp : Int → Prop) (Sp : Int → Int → Prop) (N : Int) : Prop := i64 N ∧ (∀ v, 0 ≤ v → v < n → (tb N v = true ↔ Kp v ∨ ∃ u, v < u ∧ u < n ∧ tb N u = true ∧ Sp u v)) ∧ ∀ v, n ≤ v → v < 64 → tb N v = false
def UsOK (n : Int) (Sp : Int → Int → Prop) (N : Int) (UB : Int → Int) : Prop := ∀ v, 0 ≤ v → v < n → i64 (UB v) ∧ ∀ u, 0 ≤ u → u < 64 → (tb (UB v) u = true ↔ u < n ∧ tb N u = true ∧ Sp u v)
def HtOK (n : Int) (N : Int) (UB H : Int → Int) : Prop := ∀ v, 0 ≤ v → v < n → 0 ≤ H v ∧ H v ≤ n - v ∧ (tb N v = false → H v = 0) ∧ (tb N v = true → 1 ≤ H v ∧ (∀ u, 0 ≤ u → u < 64 → tb (UB v) u = true → H u + 1 ≤ H v) ∧ (H v = 1 ∨ ∃ u, 0 ≤ u ∧ u < 64 ∧ tb (UB v) u = true ∧ H v = H u + 1))
def BhOK (n : Int) (UB BB : Int → Int) : Prop := ∀ v, 0 ≤ v → v < n → i64 (BB v) ∧ ∀ w, 0 ≤ w → w < 64 → (tb (BB v) w = true ↔ ∃ u, 0 ≤ u ∧ u < 64 ∧ tb (UB v) u = true ∧ (w = u ∨ tb (BB u) w = true))
set_option maxHeartbeats 4000000 in
set_option maxRecDepth 20000 in
theorem s_X5_fu_b2 {g : Nat} {m : Mem} {n v : Int} (hg : g = 62 ∨ g = 88) (hn : n ≤ 64) (h0 : 0 ≤ v) (h1 : v < n) (hR : SrcR (m (g + 8)) (m (g + 6)) (m (g + 7)) v) (hH : ∀ w, 0 ≤ w → w ≤ v → 0 ≤ m (g + 12) w ∧ m (g + 12) w ≤ 64) (hi9 : ∀ w, 0 ≤ w → w < n → i64 (m (g + 9) w) ∧ i64 (m (g + 11) w)) :
    ∃ r, lp (fX5_findUsers_b2 g v) (0, m) = some r ∧ (∀ b, b ≠ g + 9 → b ≠ g + 11 → b ≠ g + 12 → r b = m b) ∧ (∀ w, 0 ≤ w → w < n → i64 (r (g + 9) w) ∧ i64 (r (g + 11) w) ∧ (∀ u, 0 ≤ u → u < 64 → (tb (r (g + 9) w) u = true ↔ tb (m (g + 9) w) u = true ∨ (u = v ∧ tb (m (g + 8) v) w = true))) ∧ (∀ x, 0 ≤ x → x < 64 → (tb (r (g + 11) w) x = true ↔ tb (m (g + 11) w) x = true ∨ (tb (m (g + 8) v) w = true ∧ (x = v ∨ tb (m (g + 11) v) x = true)))) ∧ r (g + 12) w = if tb (m (g + 8) v) w = true then max (m (g + 12) w) (m (g + 12) v) else m (g + 12) w) := by
  have hg2 : 62 ≤ g := by omega
  have hv64 : v < 64 := by omega
  obtain ⟨r1, r2, r3, r4, r5⟩ := hR
  have hit : ∀ w, 0 ≤ w → w < 64 → ((∃ j, 0 ≤ j ∧ j < m (g + 7) v ∧ m (g + 6) (3 * v + j) = w) ↔ tb (m (g + 8) v) w = true) := fun w a b => ⟨fun ⟨j, j0, j1, e⟩ => by rw [← e]; exact (r3 j j0 j1).2.2, fun z => r4 w a b z⟩
  refine lp_ind (fun s : Int × Mem => 0 ≤ s.1 ∧ s.1 ≤ m (g + 7) v ∧ (∀ b, b ≠ g + 9 → b ≠ g + 11 → b ≠ g + 12 → s.2 b = m b) ∧ (∀ w, 0 ≤ w → w < n → i64 (s.2 (g + 9) w) ∧ i64 (s.2 (g + 11) w) ∧ (∀ u, 0 ≤ u → u < 64 → (tb (s.2 (g + 9) w) u = true ↔ tb (m (g + 9) w) u = true ∨ (u = v ∧ ∃ j, 0 ≤ j ∧ j < s.1 ∧ m (g + 6) (3 * v + j) = w))) ∧ (∀ x, 0 ≤ x → x < 64 → (tb (s.2 (g + 11) w) x = true ↔ tb (m (g + 11) w) x = true ∨ ((∃ j, 0 ≤ j ∧ j < s.1 ∧ m (g + 6) (3 * v + j) = w) ∧ (x = v ∨ tb (m (g + 11) v) x = true)))) ∧ ((∃ j, 0 ≤ j ∧ j < s.1 ∧ m (g + 6) (3 * v + j) = w) → s.2 (g + 12) w = max (m (g + 12) w) (m (g + 12) v)) ∧ (¬ (∃ j, 0 ≤ j ∧ j < s.1 ∧ m (g + 6) (3 * v + j) = w) → s.2 (g + 12) w = m (g + 12) w))) (fun r : Mem => (∀ b, b ≠ g + 9 → b ≠ g + 11 → b ≠ g + 12 → r b = m b) ∧ (∀ w, 0 ≤ w → w < n → i64 (r (g + 9) w) ∧ i64 (r (g + 11) w) ∧ (∀ u, 0 ≤ u → u < 64 → (tb (r (g + 9) w) u = true ↔ tb (m (g + 9) w) u = true ∨ (u = v ∧ tb (m (g + 8) v) w = true))) ∧ (∀ x, 0 ≤ x → x < 64 → (tb (r (g + 11) w) x = true ↔ tb (m (g + 11) w) x = true ∨ (tb (m (g + 8) v) w = true ∧ (x = v ∨ tb (m (g + 11) v) x = true)))) ∧ r (g + 12) w = if tb (m (g + 8) v) w = true then max (m (g + 12) w) (m (g + 12) v) else m (g + 12) w)) (fun s => (m (g + 7) v - s.1).toNat) ?_ (0, m) ?_
  · rintro ⟨k, c⟩ ⟨k0, k1, hfr, hw⟩
    dsimp only at k0 k1 hfr hw
    unfold fX5_findUsers_b2
    dsimp only
    have e6 : c (g + 6) = m (g + 6) := hfr _ (by omega) (by omega) (by omega)
    have e7 : c (g + 7) = m (g + 7) := hfr _ (by omega) (by omega) (by omega)
    simp (disch := omega) only [LGd hg, ob, e7]
    by_cases hk : m (g + 7) v ≤ k
    · have hkk : k = m (g + 7) v := by omega
      rw [if_pos hk]
      refine Or.inr ⟨c, rfl, hfr, fun w a b => ?_⟩
      obtain ⟨q1, q2, q3, q4, q5, q6⟩ := hw w a b
      rw [hkk] at q3 q4 q5 q6
      have hh := hit w a (by omega)
      refine ⟨q1, q2, fun u u0 u1 => by rw [q3 u u0 u1, hh], fun x x0 x1 => by rw [q4 x x0 x1, hh], ?_⟩
      by_cases hb : tb (m (g + 8) v) w = true
      · rw [if_pos hb]; exact q5 (hh.mpr hb)
      · rw [if_neg hb]; exact q6 (fun z => hb (hh.mp z))
    · rw [if_neg hk]
      have q := r3 k k0 (by omega)
      generalize hse : m (g + 6) (3 * v + k) = s at q
      obtain ⟨s1, s2, s3, s4, s5, s6⟩ := hw s q.1 (by omega)
      obtain ⟨v1, v2, v3, v4, v5, v6⟩ := hw v h0 h1
      have nov : ¬ ∃ j, 0 ≤ j ∧ j < k ∧ m (g + 6) (3 * v + j) = v := fun ⟨j, j0, j1, e⟩ => by have := (r3 j j0 (by omega)).2.1; omega
      have nos : ¬ ∃ j, 0 ≤ j ∧ j < k ∧ m (g + 6) (3 * v + j) = s := fun ⟨j, j0, j1, e⟩ => r5 j k j0 j1 (by omega) (by rw [e, hse])
      have hs12 := s6 nos
      have hv12 := v6 nov
      have hs1 := hH s q.1 (by omega)
      have hv1 := hH v h0 (Int.le_refl v)
      have hit1 : ∀ w, (∃ j, 0 ≤ j ∧ j < k + 1 ∧ m (g + 6) (3 * v + j) = w) ↔ (∃ j, 0 ≤ j ∧ j < k ∧ m (g + 6) (3 * v + j) = w) ∨ w = s := fun w => ⟨fun ⟨j, j0, j1, e⟩ => by
          by_cases hj : j = k
          · subst hj; exact Or.inr (by rw [← e, hse])
          · exact Or.inl ⟨j, j0, by omega, e⟩, fun z => by
          rcases z with ⟨j, j0, j1, e⟩ | e
          · exact ⟨j, j0, by omega, e⟩
          · exact ⟨k, k0, by omega, by rw [hse, e]⟩⟩
      refine Or.inl ⟨(k + 1, wr (wr (wr c (g + 9) s (lor (c (g + 9) s) (lshl 1 v))) (g + 11) s (lor (c (g + 11) s) (lor (lshl 1 v) (c (g + 11) v)))) (g + 12) s (max (m (g + 12) s) (m (g + 12) v))), ?_, ⟨by dsimp only; omega, by dsimp only; omega, fun b b1 b2 b3 => by simp (disch := omega) only [wr_ne, hfr], fun w a b => ?_⟩, by dsimp only; omega⟩
      · simp (disch := omega) only [w32_id, LGd hg, SGd hg, ob, e6, hse, wr_ne, imax_eq, hs12, hv12]
      · obtain ⟨q1, q2, q3, q4, q5, q6⟩ := hw w a b
        dsimp only
        rw [hit1 w]
        by_cases hws : w = s
        · subst hws
          simp (disch := omega) only [wr_ne, wr_at, Nat.reduceAdd, reduceIte, Int.reduceEq, Int.reduceLT, Int.reduceLE, Int.reduceNeg, Int.reduceAdd, Int.reduceSub, Int.reduceMul, Int.reduceNe, or_true, true_or, or_false, false_or, or_self, and_true, true_and, and_false, false_and, and_self, not_true_eq_false, not_false_eq_true, ne_eq]
          refine ⟨i64_lor _ _, i64_lor _ _, fun u u0 u1 => ?_, fun x x0 x1 => ?_, fun _ => trivial, fun z => z.elim⟩
          · simp (disch := omega) only [tb_lor, tb_shl1, Bool.or_eq_true, decide_eq_true_eq, q3 u u0 u1]
            constructor
            · rintro ((z | ⟨z, -⟩) | z)
              · exact Or.inl z
              · exact Or.inr z
              · exact Or.inr z
            · rintro (z | z)
              · exact Or.inl (Or.inl z)
              · exact Or.inr z
          · simp (disch := omega) only [tb_lor, tb_shl1, Bool.or_eq_true, decide_eq_true_eq, q4 x x0 x1, v4 x x0 x1]
            constructor
            · rintro ((z | ⟨-, z⟩) | z | z | ⟨z, -⟩)
              · exact Or.inl z
              · exact Or.inr z
              · exact Or.inr (Or.inl z)
              · exact Or.inr (Or.inr z)
              · exact absurd z nov
            · rintro (z | z | z)
              · exact Or.inl (Or.inl z)
              · exact Or.inr (Or.inl z)
              · exact Or.inr (Or.inr (Or.inl z))
        · simp (disch := omega) only [wr_ne, wr_at, if_neg]
          have hq : ((∃ j, 0 ≤ j ∧ j < k ∧ m (g + 6) (3 * v + j) = w) ∨ w = s) ↔ (∃ j, 0 ≤ j ∧ j < k ∧ m (g + 6) (3 * v + j) = w) := ⟨fun z => z.resolve_right hws, Or.inl⟩
          rw [hq]
          exact ⟨q1, q2, q3, q4, q5, q6⟩
  · refine ⟨by omega, r1, fun b _ _ _ => rfl, fun w a b => ?_⟩
    have no : ¬ ∃ j : Int, 0 ≤ j ∧ j < 0 ∧ m (g + 6) (3 * v + j) = w := fun ⟨j, j0, j1, _⟩ => by omega
    refine ⟨(hi9 w a b).1, (hi9 w a b).2, fun u _ _ => ⟨Or.inl, fun z => z.resolve_right (fun y => no y.2)⟩, fun x _ _ => ⟨Or.inl, fun z => z.resolve_right (fun y => no y.1)⟩, fun z => absurd z no, fun _ => rfl⟩
set_option maxHeartbeats 4000000 in
set_option maxRecDepth 20000 in
theorem s_X5_findUsers {g : Nat} {M : Mem} {n : Int} {Kp : Int → Prop} {Sp : Int → Int → Prop} (hg : g = 62 ∨ g = 88) (hn0 : 0 ≤ n) (hn : n ≤ 64) (hc : M 44 0 = n) (hSp : ∀ v, 0 ≤ v → v < n → i64 (M (g + 8) v) ∧ ∀ s, 0 ≤ s → s < 64 → (tb (M (g + 8) v) s = true ↔ Sp v s)) (hlt : ∀ v s, 0 ≤ v → v < n → Sp v s → 0 ≤ s ∧ s < v) (hR : ∀ v, 0 ≤ v → v < n → SrcR (M (g + 8)) (M (g + 6)) (M (g + 7)) v)
    (hK : i64 (M (g + 4) 3) ∧ ∀ s, 0 ≤ s → s < 64 → (tb (M (g + 4) 3) s = true ↔ Kp s)) (hKn : ∀ s, 0 ≤ s → s < 64 → Kp s → s < n) (hz : ∀ v, 0 ≤ v → v < n → M (g + 9) v = 0 ∧ M (g + 11) v = 0 ∧ M (g + 12) v = 0) :
    ∃ M', fX5_findUsers g M = some M' ∧ (∀ b, b ≠ g + 4 → b ≠ g + 9 → b ≠ g + 11 → b ≠ g + 12 → M' b = M b) ∧ (∀ k, k ≠ 3 → M' (g + 4) k = M (g + 4) k) ∧ NdOK n Kp Sp (M' (g + 4) 3) ∧ UsOK n Sp (M' (g + 4) 3) (M' (g + 9)) ∧ HtOK n (M' (g + 4) 3) (M' (g + 9)) (M' (g + 12)) ∧ BhOK n (M' (g + 9)) (M' (g + 11)) := by
  classical
  have hg2 : 62 ≤ g := by omega
  unfold fX5_findUsers
  simp (disch := omega) only [ob, hc, w32_id]
  refine lp_bind (fun s : Int × Mem => -1 ≤ s.1 ∧ s.1 < n ∧ (∀ b, b ≠ g + 4 → b ≠ g + 9 → b ≠ g + 11 → b ≠ g + 12 → s.2 b = M b) ∧ (∀ k, k ≠ 3 → s.2 (g + 4) k = M (g + 4) k) ∧ i64 (s.2 (g + 4) 3)
    ∧ (∀ w, 0 ≤ w → w < n → (tb (s.2 (g + 4) 3) w = true ↔ Kp w ∨ ∃ u, w < u ∧ s.1 < u ∧ u < n ∧ tb (s.2 (g + 4) 3) u = true ∧ Sp u w)) ∧ (∀ w, n ≤ w → w < 64 → tb (s.2 (g + 4) 3) w = false)
    ∧ (∀ w, 0 ≤ w → w < n → i64 (s.2 (g + 9) w) ∧ ∀ u, 0 ≤ u → u < 64 → (tb (s.2 (g + 9) w) u = true ↔ u < n ∧ s.1 < u ∧ tb (s.2 (g + 4) 3) u = true ∧ Sp u w))
    ∧ BhOK n (s.2 (g + 9)) (s.2 (g + 11))
    ∧ (∀ w, 0 ≤ w → w < n → 0 ≤ s.2 (g + 12) w ∧ (s.1 < w → s.2 (g + 12) w ≤ n - w ∧ (tb (s.2 (g + 4) 3) w = false → s.2 (g + 12) w = 0) ∧ (tb (s.2 (g + 4) 3) w = true → 1 ≤ s.2 (g + 12) w ∧ (∀ u, 0 ≤ u → u < 64 → tb (s.2 (g + 9) w) u = true → s.2 (g + 12) u + 1 ≤ s.2 (g + 12) w) ∧ (s.2 (g + 12) w = 1 ∨ ∃ u, 0 ≤ u ∧ u < 64 ∧ tb (s.2 (g + 9) w) u = true ∧ s.2 (g + 12) w = s.2 (g + 12) u + 1))) ∧ (w ≤ s.1 → s.2 (g + 12) w ≤ n - w - 1 ∧ (∀ u, 0 ≤ u → u < 64 → tb (s.2 (g + 9) w) u = true → s.2 (g + 12) u ≤ s.2 (g + 12) w) ∧ (s.2 (g + 12) w = 0 ∨ ∃ u, 0 ≤ u ∧ u < 64 ∧ tb (s.2 (g + 9) w) u = true ∧ s.2 (g + 12) w = s.2 (g + 12) u))))
    (fun r : Mem => (∀ b, b ≠ g + 4 → b ≠ g + 9 → b ≠ g + 11 → b ≠ g + 12 → r b = M b) ∧ (∀ k, k ≠ 3 → r (g + 4) k = M (g + 4) k) ∧ NdOK n Kp Sp (r (g + 4) 3) ∧ UsOK n Sp (r (g + 4) 3) (r (g + 9)) ∧ HtOK n (r (g + 4) 3) (r (g + 9)) (r (g + 12)) ∧ BhOK n (r (g + 9)) (r (g + 11))) (fun s => (s.1 + 1).toNat) ?_ ?_ ?_
  · rintro ⟨v, m⟩ ⟨h0, h1, hfr, hfk, hi, hN, hN2, hU, hB, hH⟩
    dsimp only at h0 h1 hfr hfk hi hN hN2 hU hB hH
    unfold fX5_findUsers_b1
    dsimp only
    by_cases hv : v < 0
    · have hv1 : v = -1 := by omega
      rw [if_pos hv]
      refine Or.inr ⟨m, rfl, hfr, hfk, ⟨hi, fun w a b => ?_, hN2⟩, fun w a b => ⟨(hU w a b).1, fun u u0 u1 => ?_⟩, fun w a b => ?_, hB⟩
      · rw [hN w a b]
        constructor
        · rintro (z | ⟨u, a1, -, a3⟩)
          · exact Or.inl z
          · exact Or.inr ⟨u, a1, a3⟩
        · rintro (z | ⟨u, a1, a3⟩)
          · exact Or.inl z
          · exact Or.inr ⟨u, a1, by omega, a3⟩
      · rw [(hU w a b).2 u u0 u1]
        constructor
        · rintro ⟨z1, -, z2⟩; exact ⟨z1, z2⟩
        · rintro ⟨z1, z2⟩; exact ⟨z1, by omega, z2⟩
      · have := hH w a b
        exact ⟨this.1, this.2.1 (by omega)⟩
    · have hv0 : 0 ≤ v := by omega
      have hv64 : v < 64 := by omega
      rw [if_neg hv]
      have isN : fX5_isNeeded g v m = some (if tb (m (g + 4) 3) v = true then 1 else 0, m) := by
        unfold fX5_isNeeded
        simp (disch := omega) only [hasU0, obi, ob]
        cases tb (m (g + 4) 3) v <;> simp [rz0, rz1]
      rw [isN]
      simp only [ob]
      obtain ⟨hh0, -, hh2⟩ := hH v hv0 h1
      obtain ⟨hh2, hh3, hh4⟩ := hh2 (Int.le_refl v)
      by_cases hb : tb (m (g + 4) 3) v = true
      · -- needed
        have e8 : m (g + 8) = M (g + 8) := hfr _ (by omega) (by omega) (by omega) (by omega)
        have e6 : m (g + 6) = M (g + 6) := hfr _ (by omega) (by omega) (by omega) (by omega)
        have e7 : m (g + 7) = M (g + 7) := hfr _ (by omega) (by omega) (by omega) (by omega)
        generalize hm0 : wr (wr m (g + 4) 3 (lor (m (g + 4) 3) (m (g + 8) v))) (g + 12) v (m (g + 12) v + 1) = m0
        have m0ne : ∀ b, b ≠ g + 4 → b ≠ g + 12 → m0 b = m b := fun b b1 b2 => by rw [← hm0]; simp (disch := omega) only [wr_ne]
        have m04 : ∀ k, m0 (g + 4) k = if k = 3 then lor (m (g + 4) 3) (m (g + 8) v) else m (g + 4) k := fun k => by rw [← hm0]; simp (disch := omega) only [wr_ne, wr_at]
        have m012 : ∀ w, m0 (g + 12) w = if w = v then m (g + 12) v + 1 else m (g + 12) w := fun w => by rw [← hm0]; simp (disch := omega) only [wr_ne, wr_at]
        obtain ⟨r, fr, r0, r1⟩ := s_X5_fu_b2 (m := m0) hg hn hv0 h1 (by rw [m0ne (g + 8) (by omega) (by omega), m0ne (g + 6) (by omega) (by omega), m0ne (g + 7) (by omega) (by omega), e8, e6, e7]; exact hR v hv0 h1)
          (fun w a b => by
            rw [m012]
            have := hH w a (by omega)
            by_cases hwv : w = v
            · subst hwv; rw [if_pos rfl]; omega
            · rw [if_neg hwv]; have := (this.2.2 b).1; omega) (fun w a b => by rw [m0ne (g + 9) (by omega) (by omega), m0ne (g + 11) (by omega) (by omega)]; exact ⟨(hU w a b).1, (hB w a b).1⟩)
        have Nr : ∀ w, 0 ≤ w → w < 64 → (tb (r (g + 4) 3) w = true ↔ tb (m (g + 4) 3) w = true ∨ Sp v w) := fun w a b => by
          rw [r0 (g + 4) (by omega) (by omega) (by omega), m04, if_pos rfl, tb_lor, Bool.or_eq_true, e8, (hSp v hv0 h1).2 w a b]
        have Nhi : ∀ u, 0 ≤ u → u < 64 → v ≤ u → (tb (r (g + 4) 3) u = true ↔ tb (m (g + 4) 3) u = true) := fun u a b c => by
          rw [Nr u a b]
          exact ⟨fun z => z.resolve_right (fun y => by have := hlt v u hv0 h1 y; omega), Or.inl⟩
        have b8 : ∀ w, 0 ≤ w → w < 64 → (tb (m0 (g + 8) v) w = true ↔ Sp v w) := fun w a b => by rw [m0ne (g + 8) (by omega) (by omega), e8]; exact (hSp v hv0 h1).2 w a b
        have Ur : ∀ w, 0 ≤ w → w < n → ∀ u, 0 ≤ u → u < 64 → (tb (r (g + 9) w) u = true ↔ u < n ∧ v - 1 < u ∧ tb (r (g + 4) 3) u = true ∧ Sp u w) := fun w a b u u0 u1 => by
          rw [(r1 w a b).2.2.1 u u0 u1, m0ne (g + 9) (by omega) (by omega), (hU w a b).2 u u0 u1, b8 w a (by omega)]
          constructor
          · rintro (⟨z1, z2, z3, z4⟩ | ⟨rfl, z⟩)
            · exact ⟨z1, by omega, (Nhi u u0 u1 (by omega)).mpr z3, z4⟩
            · exact ⟨h1, by omega, (Nhi u u0 u1 (by omega)).mpr hb, z⟩
          · rintro ⟨z1, z2, z3, z4⟩
            by_cases hu : u = v
            · subst hu; exact Or.inr ⟨rfl, z4⟩
            · exact Or.inl ⟨z1, by omega, (Nhi u u0 u1 (by omega)).mp z3, z4⟩
        have Br : ∀ w, 0 ≤ w → w < n → ∀ x, 0 ≤ x → x < 64 → (tb (r (g + 11) w) x = true ↔ tb (m (g + 11) w) x = true ∨ (Sp v w ∧ (x = v ∨ tb (m (g + 11) v) x = true))) := fun w a b x x0 x1 => by
          rw [(r1 w a b).2.2.2.1 x x0 x1, m0ne (g + 11) (by omega) (by omega), b8 w a (by omega)]
        have Hr : ∀ w, 0 ≤ w → w < n → r (g + 12) w = if w = v then m (g + 12) v + 1 else if Sp v w then max (m (g + 12) w) (m (g + 12) v + 1) else m (g + 12) w := fun w a b => by
          rw [(r1 w a b).2.2.2.2, m012, m012, if_pos rfl]
          by_cases hwv : w = v
          · subst hwv
            rw [if_pos rfl, if_pos rfl]
            rw [if_neg (fun z => by have := hlt w w hv0 h1 ((b8 w a (by omega)).mp z); omega)]
          · rw [if_neg hwv, if_neg hwv]
            by_cases hsw : Sp v w
            · rw [if_pos ((b8 w a (by omega)).mpr hsw), if_pos hsw]
            · rw [if_neg (fun z => hsw ((b8 w a (by omega)).mp z)), if_neg hsw]
        have Bold : ∀ u, v < u → 0 ≤ u → u < n → ∀ x, 0 ≤ x → x < 64 → (tb (r (g + 11) u) x = true ↔ tb (m (g + 11) u) x = true) := fun u hu a b x x0 x1 => by
          rw [Br u a b x x0 x1]
          exact ⟨fun z => z.resolve_right (fun y => by have := hlt v u hv0 h1 y.1; omega), Or.inl⟩
        have Bvv : ∀ x, 0 ≤ x → x < 64 → (tb (r (g + 11) v) x = true ↔ tb (m (g + 11) v) x = true) := fun x x0 x1 => by
          rw [Br v hv0 h1 x x0 x1]
          exact ⟨fun z => z.resolve_right (fun y => by have := hlt v v hv0 h1 y.1; omega), Or.inl⟩
        have Hhi : ∀ u, v < u → 0 ≤ u → u < n → r (g + 12) u = m (g + 12) u := fun u hu a b => by
          rw [Hr u a b, if_neg (by omega), if_neg (fun z => by have := hlt v u hv0 h1 z; omega)]
        have Hv : r (g + 12) v = m (g + 12) v + 1 := by rw [Hr v hv0 h1, if_pos rfl]
        refine Or.inl ⟨(v - 1, r), ?_, ⟨by dsimp only; omega, by dsimp only; omega, fun b b1 b2 b3 b4 => ?_, fun k hk => ?_, ?_, fun w a b => ?_, fun w a b => ?_, fun w a b => ⟨(r1 w a b).1, Ur w a b⟩, fun w a b => ⟨(r1 w a b).2.1, fun x x0 x1 => ?_⟩, fun w a b => ?_⟩, by dsimp only; omega⟩
        · rw [if_pos hb, if_neg (by decide)]
          simp (disch := omega) only [LGd hg, pI_ok, ob, wr_ne, SGd hg, w32_id]
          rw [hm0, fr]
          simp (disch := omega) only [ob, Int.add_neg_one]
        · dsimp only
          rw [r0 b b2 b3 b4, m0ne b b1 b4]; exact hfr b b1 b2 b3 b4
        · dsimp only
          rw [r0 (g + 4) (by omega) (by omega) (by omega), m04, if_neg hk]; exact hfk k hk
        · dsimp only
          rw [r0 (g + 4) (by omega) (by omega) (by omega), m04, if_pos rfl]; exact i64_lor _ _
        · dsimp only
          rw [Nr w a (by omega), hN w a b]
          constructor
          · rintro ((z | ⟨u, z1, z2, z3, z4, z5⟩) | z)
            · exact Or.inl z
            · exact Or.inr ⟨u, z1, by omega, z3, (Nhi u (by omega) (by omega) (by omega)).mpr z4, z5⟩
            · exact Or.inr ⟨v, by have := hlt v w hv0 h1 z; omega, by omega, h1, (Nhi v hv0 hv64 (Int.le_refl v)).mpr hb, z⟩
          · rintro (z | ⟨u, z1, z2, z3, z4, z5⟩)
            · exact Or.inl (Or.inl z)
            · by_cases hu : u = v
              · subst hu; exact Or.inr z5
              · exact Or.inl (Or.inr ⟨u, z1, by omega, z3, (Nhi u (by omega) (by omega) (by omega)).mp z4, z5⟩)
        · dsimp only
          have := hN2 w a b
          rw [Bool.eq_false_iff] at this ⊢
          exact fun z => this ((Nhi w (by omega) b (by omega)).mp z)
        · rw [Br w a b x x0 x1, (hB w a b).2 x x0 x1]
          constructor
          · rintro (⟨u, u0, u1, z1, z2⟩ | ⟨z1, z2⟩)
            · have zu := ((hU w a b).2 u u0 u1).mp z1
              refine ⟨u, u0, u1, (Ur w a b u u0 u1).mpr ⟨zu.1, by omega, (Nhi u u0 u1 (by omega)).mpr zu.2.2.1, zu.2.2.2⟩, ?_⟩
              rw [Bold u zu.2.1 u0 zu.1 x x0 x1]
              exact z2
            · refine ⟨v, hv0, hv64, (Ur w a b v hv0 hv64).mpr ⟨h1, by omega, (Nhi v hv0 hv64 (Int.le_refl v)).mpr hb, z1⟩, ?_⟩
              rw [Bvv x x0 x1]
              exact z2
          · rintro ⟨u, u0, u1, z1, z2⟩
            have zu := (Ur w a b u u0 u1).mp z1
            by_cases hu : u = v
            · subst hu
              rw [Bvv x x0 x1] at z2
              exact Or.inr ⟨zu.2.2.2, z2⟩
            · rw [Bold u (by omega) u0 zu.1 x x0 x1] at z2
              exact Or.inl ⟨u, u0, u1, ((hU w a b).2 u u0 u1).mpr ⟨zu.1, by omega, (Nhi u u0 u1 (by omega)).mp zu.2.2.1, zu.2.2.2⟩, z2⟩
        · dsimp only
          obtain ⟨w1, w2, w3⟩ := hH w a b
          by_cases hwv : w = v
          · subst hwv
            rw [Hv]
            refine ⟨by omega, fun _ => ⟨by omega, fun z => ?_, fun _ => ⟨by omega, fun u u0 u1 z => ?_, ?_⟩⟩, fun z => by omega⟩
            · rw [Bool.eq_false_iff] at z
              exact absurd ((Nhi w hv0 hv64 (Int.le_refl w)).mpr hb) z
            · have zu := (Ur w a b u u0 u1).mp z
              have hwu := hlt u w u0 zu.1 zu.2.2.2
              rw [Hhi u (by omega) u0 zu.1]
              have := hh3 u u0 u1 (((hU w a b).2 u u0 u1).mpr ⟨zu.1, by omega, (Nhi u u0 u1 (by omega)).mp zu.2.2.1, zu.2.2.2⟩)
              omega
            · rcases hh4 with z | ⟨u, u0, u1, z1, z2⟩
              · exact Or.inl (by omega)
              · have zu := ((hU w a b).2 u u0 u1).mp z1
                refine Or.inr ⟨u, u0, u1, (Ur w a b u u0 u1).mpr ⟨zu.1, by omega, (Nhi u u0 u1 (by omega)).mpr zu.2.2.1, zu.2.2.2⟩, ?_⟩
                rw [Hhi u zu.2.1 u0 zu.1]
                omega
          · by_cases hwl : v < w
            · obtain ⟨y1, y2, y3⟩ := w2 hwl
              rw [Hhi w hwl a b]
              refine ⟨w1, fun _ => ⟨y1, fun z => y2 ?_, fun z => ?_⟩, fun z => by omega⟩
              · rw [Bool.eq_false_iff] at z ⊢
                exact fun q => z ((Nhi w a (by omega) (by omega)).mpr q)
              · obtain ⟨x1, x2, x3⟩ := y3 ((Nhi w a (by omega) (by omega)).mp z)
                refine ⟨x1, fun u u0 u1 z => ?_, ?_⟩
                · have zu := (Ur w a b u u0 u1).mp z
                  have hwu := hlt u w u0 zu.1 zu.2.2.2
                  rw [Hhi u (by omega) u0 zu.1]
                  exact x2 u u0 u1 (((hU w a b).2 u u0 u1).mpr ⟨zu.1, by omega, (Nhi u u0 u1 (by omega)).mp zu.2.2.1, zu.2.2.2⟩)
                · rcases x3 with z | ⟨u, u0, u1, z1, z2⟩
                  · exact Or.inl z
                  · have zu := ((hU w a b).2 u u0 u1).mp z1
                    refine Or.inr ⟨u, u0, u1, (Ur w a b u u0 u1).mpr ⟨zu.1, by omega, (Nhi u u0 u1 (by omega)).mpr zu.2.2.1, zu.2.2.2⟩, ?_⟩
                    rw [Hhi u zu.2.1 u0 zu.1]
                    exact z2
            · obtain ⟨y1, y2, y3⟩ := w3 (by omega)
              have hHw : r (g + 12) w = if Sp v w then max (m (g + 12) w) (m (g + 12) v + 1) else m (g + 12) w := by rw [Hr w a b, if_neg hwv]
              have hwlt : w < v := by clear hHw y3; omega
              refine ⟨?_, fun z => absurd z (by clear hHw y3; omega), fun _ => ⟨?_, fun u u0 u1 z => ?_, ?_⟩⟩
              · rw [hHw]; split <;> omega
              · rw [hHw]
                split
                · omega
                · exact y1
              · have zu := (Ur w a b u u0 u1).mp z
                by_cases huv : u = v
                · subst huv
                  rw [Hv, hHw, if_pos zu.2.2.2]
                  omega
                · rw [Hhi u (by omega) u0 zu.1, hHw]
                  have := y2 u u0 u1 (((hU w a b).2 u u0 u1).mpr ⟨zu.1, by omega, (Nhi u u0 u1 (by omega)).mp zu.2.2.1, zu.2.2.2⟩)
                  split <;> omega
              · rw [hHw]
                by_cases hsw : Sp v w
                · rw [if_pos hsw]
                  by_cases hmx : m (g + 12) w ≤ m (g + 12) v + 1
                  · refine Or.inr ⟨v, hv0, hv64, (Ur w a b v hv0 hv64).mpr ⟨h1, by omega, (Nhi v hv0 hv64 (Int.le_refl v)).mpr hb, hsw⟩, ?_⟩
                    rw [Hv]; omega
                  · rcases y3 with z | ⟨u, u0, u1, z1, z2⟩
                    · omega
                    · have zu := ((hU w a b).2 u u0 u1).mp z1
                      refine Or.inr ⟨u, u0, u1, (Ur w a b u u0 u1).mpr ⟨zu.1, by omega, (Nhi u u0 u1 (by omega)).mpr zu.2.2.1, zu.2.2.2⟩, ?_⟩
                      rw [Hhi u zu.2.1 u0 zu.1]; omega
                · rw [if_neg hsw]
                  rcases y3 with z | ⟨u, u0, u1, z1, z2⟩
                  · exact Or.inl z
                  · have zu := ((hU w a b).2 u u0 u1).mp z1
                    refine Or.inr ⟨u, u0, u1, (Ur w a b u u0 u1).mpr ⟨zu.1, by omega, (Nhi u u0 u1 (by omega)).mpr zu.2.2.1, zu.2.2.2⟩, ?_⟩
                    rw [Hhi u zu.2.1 u0 zu.1]
                    exact z2
      · -- not needed
        have hbf : tb (m (g + 4) 3) v = false := by simpa using hb
        have nou : ∀ u, 0 ≤ u → u < 64 → ¬ tb (m (g + 9) v) u = true := fun u u0 u1 z => by
          have zu := ((hU v hv0 h1).2 u u0 u1).mp z
          exact hb ((hN v hv0 h1).mpr (Or.inr ⟨u, by omega, by omega, zu.1, zu.2.2⟩))
        have hz0 : m (g + 12) v = 0 := hh4.resolve_right (fun ⟨u, u0, u1, z, _⟩ => nou u u0 u1 z)
        refine Or.inl ⟨(v - 1, m), ?_, ⟨by dsimp only; omega, by dsimp only; omega, hfr, hfk, hi, fun w a b => ?_, hN2, fun w a b => ⟨(hU w a b).1, fun u u0 u1 => ?_⟩, hB, fun w a b => ?_⟩, by dsimp only; omega⟩
        · rw [if_neg hb, if_pos rfl]
          simp (disch := omega) only [w32_id, Int.add_neg_one]
        · dsimp only
          rw [hN w a b]
          constructor
          · rintro (z | ⟨u, z1, z2, z3⟩)
            · exact Or.inl z
            · exact Or.inr ⟨u, z1, by omega, z3⟩
          · rintro (z | ⟨u, z1, z2, z3, z4, z5⟩)
            · exact Or.inl z
            · by_cases hu : u = v
              · subst hu; exact absurd z4 hb
              · exact Or.inr ⟨u, z1, by omega, z3, z4, z5⟩
        · dsimp only
          rw [(hU w a b).2 u u0 u1]
          constructor
          · rintro ⟨z1, z2, z3⟩; exact ⟨z1, by omega, z3⟩
          · rintro ⟨z1, z2, z3, z4⟩
            refine ⟨z1, ?_, z3, z4⟩
            refine Decidable.byContradiction fun q => ?_
            have : u = v := by omega
            subst this
            exact hb z3
        · dsimp only
          obtain ⟨w1, w2, w3⟩ := hH w a b
          refine ⟨w1, fun z => ?_, fun z => w3 (by omega)⟩
          by_cases hwv : w = v
          · subst hwv
            exact ⟨by omega, fun _ => hz0, fun q => absurd q hb⟩
          · exact w2 (by omega)
  · have hz9 : ∀ w, 0 ≤ w → w < n → ∀ u : Int, ¬ tb (M (g + 9) w) u = true := fun w a b u z => by rw [(hz w a b).1, tb_0] at z; cases z
    refine ⟨by dsimp only; omega, by dsimp only; omega, fun b _ _ _ _ => rfl, fun k _ => rfl, hK.1, fun w a b => ?_, fun w a b => ?_, fun w a b => ⟨by dsimp only; rw [(hz w a b).1]; exact i64_0, fun u u0 u1 => ?_⟩, fun w a b => ⟨by dsimp only; rw [(hz w a b).2.1]; exact i64_0, fun x x0 x1 => ?_⟩, fun w a b => ?_⟩
    · dsimp only
      rw [hK.2 w a (by omega)]
      exact ⟨Or.inl, fun z => z.resolve_right (fun ⟨u, _, q, _⟩ => by omega)⟩
    · dsimp only
      rw [Bool.eq_false_iff]
      intro z
      have := hKn w (by omega) b ((hK.2 w (by omega) b).mp z)
      omega
    · dsimp only
      exact ⟨fun z => absurd z (hz9 w a b u), fun ⟨z1, z2, _⟩ => by omega⟩
    · dsimp only
      rw [(hz w a b).2.1, tb_0]
      exact ⟨fun z => (by cases z), fun ⟨u, _, _, z, _⟩ => absurd z (hz9 w a b u)⟩
    · dsimp only
      rw [(hz w a b).2.2]
      exact ⟨by omega, fun z => by omega, fun _ => ⟨by omega, fun u u0 u1 z => absurd z (hz9 w a b u), Or.inl rfl⟩⟩
  · intro r hr
    exact ⟨r, rfl, hr⟩
