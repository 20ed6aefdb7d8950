/-- the reference's row of shown values -/
def MS (M : Mem) (nS : Int) (sh : Int → Int) : Prop := M 138 9 = nS ∧ ∀ i, 0 ≤ i → i < nS → M 138 (28 + i) = sh i
theorem MS_fr {M M' : Mem} {nS : Int} {sh : Int → Int} (h : MS M nS sh) (e : M' 138 = M 138) : MS M' nS sh := by unfold MS; rw [e]; exact h
set_option maxHeartbeats 4000000 in
set_option maxRecDepth 20000 in
theorem s_X12_shownSet {M : Mem} {n nS only : Int} {sh : Int → Int} (hS : MS M nS sh) (hn : n ≤ 64) (hsh : ShOK n nS sh) (ho : -1 ≤ only) : ∃ x, fX12_shownSet only M = some (x, M) ∧ i64 x ∧ ∀ s, 0 ≤ s → s < 64 → (tb x s = true ↔ ∃ i, 0 ≤ i ∧ i < nS ∧ (only = -1 ∨ only = i) ∧ sh i = s) := by
  have h8 := hsh.2.1
  unfold fX12_shownSet
  suffices h : ∃ x, lp (fX12_shownSet_b1 M only) (0, 0) = some x ∧ i64 x ∧ ∀ s, 0 ≤ s → s < 64 → (tb x s = true ↔ ∃ i, 0 ≤ i ∧ i < nS ∧ (only = -1 ∨ only = i) ∧ sh i = s) by
    obtain ⟨x, e, h1, h2⟩ := h
    exact ⟨x, by rw [e]; rfl, h1, h2⟩
  refine lp_ind (fun s : Int × Int => 0 ≤ s.2 ∧ s.2 ≤ nS ∧ i64 s.1 ∧ ∀ x, 0 ≤ x → x < 64 → (tb s.1 x = true ↔ ∃ i, 0 ≤ i ∧ i < s.2 ∧ (only = -1 ∨ only = i) ∧ sh i = x)) (fun r : Int => i64 r ∧ ∀ x, 0 ≤ x → x < 64 → (tb r x = true ↔ ∃ i, 0 ≤ i ∧ i < nS ∧ (only = -1 ∨ only = i) ∧ sh i = x)) (fun s => (nS - s.2).toNat) ?_ (0, 0) ?_
  · rintro ⟨c, i⟩ ⟨h0, h1, hi, hb⟩
    dsimp only at h0 h1 hi hb
    unfold fX12_shownSet_b1
    simp (disch := omega) only [LD, ob, hS.1]
    by_cases hv : nS ≤ i
    · have : i = nS := by omega
      subst this
      rw [if_pos hv]
      exact Or.inr ⟨c, rfl, hi, hb⟩
    · rw [if_neg hv]
      have q := hsh.2.2 i h0 (by omega)
      have st : ∀ x, (∃ j, 0 ≤ j ∧ j < i + 1 ∧ (only = -1 ∨ only = j) ∧ sh j = x) ↔ (∃ j, 0 ≤ j ∧ j < i ∧ (only = -1 ∨ only = j) ∧ sh j = x) ∨ ((only = -1 ∨ only = i) ∧ x = sh i) := fun x => ⟨fun ⟨j, j0, j1, c, e⟩ => by
          by_cases hj : j = i
          · subst hj; exact Or.inr ⟨c, e.symm⟩
          · exact Or.inl ⟨j, j0, by omega, c, e⟩, fun z => by
          rcases z with ⟨j, j0, j1, c, e⟩ | ⟨c, e⟩
          · exact ⟨j, j0, by omega, c, e⟩
          · exact ⟨i, h0, by omega, c, e.symm⟩⟩
      by_cases hoo : only = -1 ∨ only = i
      · have hfl : ((if only < 0 then some true else if only = i then some true else some false : Option Bool)) = some true := by
          rcases hoo with rfl | rfl
          · rfl
          · split
            · rfl
            · rw [if_pos rfl]
        rw [hfl]
        simp (disch := omega) only [ob, if_true, w32_id, LD, hS.2 i h0 (show i < nS by omega)]
        refine Or.inl ⟨(lor c (lshl 1 (sh i)), i + 1), rfl, ⟨by dsimp only; omega, by dsimp only; omega, i64_lor _ _, fun x a b => ?_⟩, by dsimp only; omega⟩
        dsimp only
        rw [st, ← hb x a b]
        simp (disch := omega) only [tb_lor, tb_shl1, Bool.or_eq_true, decide_eq_true_eq]
        exact ⟨fun z => z.imp id (fun y => ⟨hoo, y⟩), fun z => z.imp id (fun y => y.2)⟩
      · have hfl : ((if only < 0 then some true else if only = i then some true else some false : Option Bool)) = some false := by
          rw [if_neg (fun z => hoo (Or.inl (by omega))), if_neg (fun z => hoo (Or.inr z))]
        rw [hfl]
        simp (disch := omega) only [ob, Bool.false_eq_true, if_false, w32_id]
        refine Or.inl ⟨(lor c 0, i + 1), rfl, ⟨by dsimp only; omega, by dsimp only; omega, i64_lor _ _, fun x a b => ?_⟩, by dsimp only; omega⟩
        dsimp only
        rw [st, ← hb x a b, tb_lor, tb_0, Bool.or_false]
        exact ⟨Or.inl, fun z => z.resolve_right (fun y => hoo y.1)⟩
  · refine ⟨by omega, hsh.1, i64_0, fun x a b => ?_⟩
    dsimp only
    rw [tb_0]
    exact ⟨fun z => (by cases z), fun ⟨j, _, _, _⟩ => by omega⟩
set_option maxHeartbeats 4000000 in
set_option maxRecDepth 20000 in
theorem s_X12_nd_b3 {M : Mem} {n nI nS only x : Int} {mk ag F sh : Int → Int} (hM : MV M n mk ag) (hV : Val n mk ag F nI) (hsh : ShOK n nS sh) (hx : ∀ s, 0 ≤ s → s < 64 → (tb x s = true ↔ ∃ i, 0 ≤ i ∧ i < nS ∧ (only = -1 ∨ only = i) ∧ sh i = s)) (hS : ∀ v, 0 ≤ v → v < n → 0 ≤ M 158 v ∧ M 158 v ≤ v) (hz : M 132 39 = 0) :
    ∃ r, lp (fX12_needs_b3 x) (0, M) = some r ∧ (∀ b, b ≠ 132 → r b = M b) ∧ (∀ k, k ≠ 39 → r 132 k = M 132 k) ∧ i64 (r 132 39) ∧ ∀ s, 0 ≤ s → s < 64 → (tb (r 132 39) s = true ↔ KpP (M 153) (M 154) (M 158) sh nS only s) := by
  have n0 := hV.1
  have n1 := hV.2.1
  refine lp_ind (fun s : Int × Mem => 0 ≤ s.1 ∧ s.1 ≤ n ∧ (∀ b, b ≠ 132 → s.2 b = M b) ∧ (∀ k, k ≠ 39 → s.2 132 k = M 132 k) ∧ i64 (s.2 132 39) ∧ ∀ y, 0 ≤ y → y < 64 → (tb (s.2 132 39) y = true ↔ ¬ M 153 y = M 154 y ∧ ∃ v, 0 ≤ v ∧ v < s.1 ∧ tb x v = true ∧ M 158 v = y)) (fun r : Mem => (∀ b, b ≠ 132 → r b = M b) ∧ (∀ k, k ≠ 39 → r 132 k = M 132 k) ∧ i64 (r 132 39) ∧ ∀ s, 0 ≤ s → s < 64 → (tb (r 132 39) s = true ↔ KpP (M 153) (M 154) (M 158) sh nS only s)) (fun s => (n - s.1).toNat) ?_ (0, M) ?_
  · rintro ⟨v, m⟩ ⟨h0, h1, hfr, hfk, hi, hb⟩
    dsimp only at h0 h1 hfr hfk hi hb
    unfold fX12_needs_b3
    have hm : MV m n mk ag := MV_fr hM (hfr 138 (by omega))
    have e153 : m 153 = M 153 := hfr _ (by omega)
    have e154 : m 154 = M 154 := hfr _ (by omega)
    have e158 : m 158 = M 158 := hfr _ (by omega)
    simp only [s_X12_values, ob, hm.1]
    by_cases hv : n ≤ v
    · have : v = n := by omega
      subst this
      rw [if_pos hv]
      refine Or.inr ⟨m, rfl, hfr, hfk, hi, fun s a b => ?_⟩
      rw [hb s a b]
      unfold KpP
      constructor
      · rintro ⟨z, w, w0, w1, w2, w3⟩
        obtain ⟨i, i0, i1, c, e⟩ := (hx w w0 (by omega)).mp w2
        exact ⟨z, i, i0, i1, c, by rw [e]; exact w3⟩
      · rintro ⟨z, i, i0, i1, c, e⟩
        have q := hsh.2.2 i i0 i1
        exact ⟨z, sh i, q.1, q.2, (hx _ q.1 (by omega)).mpr ⟨i, i0, i1, c, rfl⟩, e⟩
    · rw [if_neg hv]
      have hv1 : v < n := by omega
      have qs := hS v h0 hv1
      simp (disch := omega) only [s_X12_has h0 (show v < 64 by omega), ob]
      have st : ∀ y, (∃ w, 0 ≤ w ∧ w < v + 1 ∧ tb x w = true ∧ M 158 w = y) ↔ (∃ w, 0 ≤ w ∧ w < v ∧ tb x w = true ∧ M 158 w = y) ∨ (tb x v = true ∧ y = M 158 v) := fun y => ⟨fun ⟨w, w0, w1, c, e⟩ => by
          by_cases hw : w = v
          · subst hw; exact Or.inr ⟨c, e.symm⟩
          · exact Or.inl ⟨w, w0, by omega, c, e⟩, fun z => by
          rcases z with ⟨w, w0, w1, c, e⟩ | ⟨c, e⟩
          · exact ⟨w, w0, by omega, c, e⟩
          · exact ⟨v, h0, by omega, c, e.symm⟩⟩
      have fin : ∀ z : Int, i64 z → (∀ y, 0 ≤ y → y < 64 → (tb z y = true ↔ ¬ M 153 y = M 154 y ∧ tb x v = true ∧ y = M 158 v)) → ((0 : Int) ≤ v + 1 ∧ v + 1 ≤ n ∧ (∀ b, b ≠ 132 → (wr m 132 39 (lor (m 132 39) z)) b = M b) ∧ (∀ k, k ≠ 39 → (wr m 132 39 (lor (m 132 39) z)) 132 k = M 132 k) ∧ i64 ((wr m 132 39 (lor (m 132 39) z)) 132 39) ∧ ∀ y, 0 ≤ y → y < 64 → (tb ((wr m 132 39 (lor (m 132 39) z)) 132 39) y = true ↔ ¬ M 153 y = M 154 y ∧ ∃ w, 0 ≤ w ∧ w < v + 1 ∧ tb x w = true ∧ M 158 w = y)) := fun z hz1 hz2 => by
        refine ⟨by omega, by omega, fun b hb1 => by simp (disch := omega) only [wr_ne, hfr], fun k hk => by simp (disch := omega) only [wr_at, if_neg, hfk], ?_, fun y a b => ?_⟩
        · simp only [wr_at, if_true]; exact i64_lor _ _
        · simp only [wr_at, if_true, tb_lor, Bool.or_eq_true]
          rw [st, hb y a b, hz2 y a b]
          constructor
          · rintro (⟨z1, z2⟩ | ⟨z1, z2⟩)
            · exact ⟨z1, Or.inl z2⟩
            · exact ⟨z1, Or.inr z2⟩
          · rintro ⟨z1, z2 | z2⟩
            · exact Or.inl ⟨z1, z2⟩
            · exact Or.inr ⟨z1, z2⟩
      by_cases hbx : tb x v = true
      · simp (disch := omega) only [Nat.reduceAdd, reduceIte, Int.reduceEq, Int.reduceLT, Int.reduceLE, Int.reduceNeg, Int.reduceAdd, Int.reduceSub, Int.reduceMul, Int.reduceNe, or_true, true_or, or_false, false_or, or_self, and_true, true_and, and_false, false_and, and_self, not_true_eq_false, not_false_eq_true, ne_eq, hbx, LD, e158, s_X12_isKnown, e153, e154, ob, pI_ok]
        by_cases hq : M 153 (M 158 v) = M 154 (M 158 v)
        · simp (disch := omega) only [Nat.reduceAdd, reduceIte, Int.reduceEq, Int.reduceLT, Int.reduceLE, Int.reduceNeg, Int.reduceAdd, Int.reduceSub, Int.reduceMul, Int.reduceNe, or_true, true_or, or_false, false_or, or_self, and_true, true_and, and_false, false_and, and_self, not_true_eq_false, not_false_eq_true, ne_eq, hq, ob, w32_id]
          refine Or.inl ⟨_, rfl, fin 0 i64_0 (fun y a b => ?_), by dsimp only; omega⟩
          rw [tb_0]
          exact ⟨fun z => (by cases z), fun ⟨z1, _, z3⟩ => by rw [z3] at z1; exact absurd hq z1⟩
        · simp (disch := omega) only [Nat.reduceAdd, reduceIte, Int.reduceEq, Int.reduceLT, Int.reduceLE, Int.reduceNeg, Int.reduceAdd, Int.reduceSub, Int.reduceMul, Int.reduceNe, or_true, true_or, or_false, false_or, or_self, and_true, true_and, and_false, false_and, and_self, not_true_eq_false, not_false_eq_true, ne_eq, hq, ob, w32_id]
          refine Or.inl ⟨_, rfl, fin _ (i64_lshl _ _) (fun y a b => ?_), by dsimp only; omega⟩
          rw [tb_shl1 qs.1 (by omega) a b, decide_eq_true_eq]
          exact ⟨fun z => ⟨by rw [z]; exact hq, hbx, z⟩, fun z => z.2.2⟩
      · simp (disch := omega) only [Nat.reduceAdd, reduceIte, Int.reduceEq, Int.reduceLT, Int.reduceLE, Int.reduceNeg, Int.reduceAdd, Int.reduceSub, Int.reduceMul, Int.reduceNe, or_true, true_or, or_false, false_or, or_self, and_true, true_and, and_false, false_and, and_self, not_true_eq_false, not_false_eq_true, ne_eq, hbx, ob, pI_ok, w32_id]
        refine Or.inl ⟨_, rfl, fin 0 i64_0 (fun y a b => ?_), by dsimp only; omega⟩
        rw [tb_0]
        exact ⟨fun z => (by cases z), fun ⟨_, z2, _⟩ => absurd z2 hbx⟩
  · refine ⟨by omega, n0, fun b _ => rfl, fun k _ => rfl, by dsimp only; rw [hz]; exact i64_0, fun y a b => ?_⟩
    dsimp only
    rw [hz, tb_0]
    exact ⟨fun z => (by cases z), fun ⟨_, w, _, _, _⟩ => by omega⟩

set_option maxHeartbeats 4000000 in
set_option maxRecDepth 20000 in
theorem s_X12_nd_b5 {m : Mem} {n v : Int} {mk ag : Int → Int} (hM : MV m n mk ag) (hn : n ≤ 64) (h0 : 0 ≤ v) (h1 : v < n) (hz0 : m 160 v = 0) (hh0 : m 161 v = 0) (hH : ∀ u, v < u → u < n → 0 ≤ m 161 u) :
    ∃ r, lp (fX12_needs_b5 v) (v + 1, m) = some r ∧ (∀ b, b ≠ 160 → b ≠ 161 → r b = m b) ∧ (∀ w, w ≠ v → r 160 w = m 160 w ∧ r 161 w = m 161 w) ∧ i64 (r 160 v) ∧ (∀ u, 0 ≤ u → u < 64 → (tb (r 160 v) u = true ↔ tb (m 132 38) v = true ∧ v < u ∧ u < n ∧ tb (m 132 38) u = true ∧ tb (m 159 u) v = true)) ∧ 0 ≤ r 161 v ∧ (∀ u, 0 ≤ u → u < 64 → tb (r 160 v) u = true → m 161 u ≤ r 161 v) ∧ (r 161 v = 0 ∨ ∃ u, 0 ≤ u ∧ u < 64 ∧ tb (r 160 v) u = true ∧ r 161 v = m 161 u) := by
  by_cases hb : tb (m 132 38) v = true
  · refine lp_ind (fun s : Int × Mem => v + 1 ≤ s.1 ∧ s.1 ≤ n ∧ (∀ b, b ≠ 160 → b ≠ 161 → s.2 b = m b) ∧ (∀ w, w ≠ v → s.2 160 w = m 160 w ∧ s.2 161 w = m 161 w) ∧ i64 (s.2 160 v) ∧ (∀ u, 0 ≤ u → u < 64 → (tb (s.2 160 v) u = true ↔ v < u ∧ u < s.1 ∧ tb (m 132 38) u = true ∧ tb (m 159 u) v = true)) ∧ 0 ≤ s.2 161 v ∧ (∀ u, 0 ≤ u → u < 64 → tb (s.2 160 v) u = true → m 161 u ≤ s.2 161 v) ∧ (s.2 161 v = 0 ∨ ∃ u, 0 ≤ u ∧ u < 64 ∧ tb (s.2 160 v) u = true ∧ s.2 161 v = m 161 u)) (fun r : Mem => (∀ b, b ≠ 160 → b ≠ 161 → r b = m b) ∧ (∀ w, w ≠ v → r 160 w = m 160 w ∧ r 161 w = m 161 w) ∧ i64 (r 160 v) ∧ (∀ u, 0 ≤ u → u < 64 → (tb (r 160 v) u = true ↔ tb (m 132 38) v = true ∧ v < u ∧ u < n ∧ tb (m 132 38) u = true ∧ tb (m 159 u) v = true)) ∧ 0 ≤ r 161 v ∧ (∀ u, 0 ≤ u → u < 64 → tb (r 160 v) u = true → m 161 u ≤ r 161 v) ∧ (r 161 v = 0 ∨ ∃ u, 0 ≤ u ∧ u < 64 ∧ tb (r 160 v) u = true ∧ r 161 v = m 161 u)) (fun s => (n - s.1).toNat) ?_ (v + 1, m) ?_
    · rintro ⟨u, c⟩ ⟨u0, u1, hfr, hw, hi, hU, hp, hmax, hex⟩
      dsimp only at u0 u1 hfr hw hi hU hp hmax hex
      unfold fX12_needs_b5
      have hc : MV c n mk ag := MV_fr hM (hfr 138 (by omega) (by omega))
      have e132 : c 132 = m 132 := hfr _ (by omega) (by omega)
      have e159 : c 159 = m 159 := hfr _ (by omega) (by omega)
      simp only [s_X12_values, ob, hc.1]
      by_cases hu : n ≤ u
      · have : u = n := by omega
        subst this
        rw [if_pos hu]
        exact Or.inr ⟨c, rfl, hfr, hw, hi, fun x a b => by rw [hU x a b]; exact ⟨fun z => ⟨hb, z⟩, fun z => z.2⟩, hp, hmax, hex⟩
      · rw [if_neg hu]
        simp (disch := omega) only [s_X12_has, ob, e132, hb, Nat.reduceAdd, reduceIte, Int.reduceEq, Int.reduceLT, Int.reduceLE, Int.reduceNeg, Int.reduceAdd, Int.reduceSub, Int.reduceMul, Int.reduceNe, or_true, true_or, or_false, false_or, or_self, and_true, true_and, and_false, false_and, and_self, not_true_eq_false, not_false_eq_true, ne_eq, e159]
        have stU : ∀ x, (v < x ∧ x < u + 1 ∧ tb (m 132 38) x = true ∧ tb (m 159 x) v = true) ↔ (v < x ∧ x < u ∧ tb (m 132 38) x = true ∧ tb (m 159 x) v = true) ∨ (x = u ∧ tb (m 132 38) u = true ∧ tb (m 159 u) v = true) := fun x => ⟨fun ⟨z1, z2, z3, z4⟩ => by
            by_cases hx : x = u
            · subst hx; exact Or.inr ⟨rfl, z3, z4⟩
            · exact Or.inl ⟨z1, by omega, z3, z4⟩, fun z => by
            rcases z with ⟨z1, z2, z3, z4⟩ | ⟨rfl, z3, z4⟩
            · exact ⟨z1, by omega, z3, z4⟩
            · exact ⟨by omega, by omega, z3, z4⟩⟩
        by_cases hall : tb (m 132 38) u = true ∧ tb (m 159 u) v = true
        · obtain ⟨y1, y2⟩ := hall
          have eu : c 161 u = m 161 u := (hw u (by omega)).2
          simp (disch := omega) only [Nat.reduceAdd, reduceIte, Int.reduceEq, Int.reduceLT, Int.reduceLE, Int.reduceNeg, Int.reduceAdd, Int.reduceSub, Int.reduceMul, Int.reduceNe, or_true, true_or, or_false, false_or, or_self, and_true, true_and, and_false, false_and, and_self, not_true_eq_false, not_false_eq_true, ne_eq, y1, y2, ob, LD, e159, ST, s_X12_has, wr_ne, s_X12_greater, eu, w32_id]
          refine Or.inl ⟨_, rfl, ⟨by dsimp only; omega, by dsimp only; omega, fun b b1 b2 => by simp (disch := omega) only [wr_ne, hfr], fun w hwv => ?_, ?_, fun x a b => ?_, ?_, fun x a b z => ?_, ?_⟩, by dsimp only; omega⟩
          · simp (disch := omega) only [wr_ne, wr_at, if_neg]
            exact hw w hwv
          · simp (disch := omega) only [wr_ne, wr_at, if_true]
            exact i64_lor _ _
          · simp (disch := omega) only [wr_ne, wr_at, if_true, tb_lor, tb_shl1, Bool.or_eq_true, decide_eq_true_eq]
            rw [stU, hU x a b]
            exact ⟨fun z => z.imp id (fun e => ⟨e, y1, y2⟩), fun z => z.imp id (fun e => e.1)⟩
          · simp (disch := omega) only [wr_ne, wr_at, if_true]
            omega
          · simp (disch := omega) only [wr_ne, wr_at, if_true, tb_lor, tb_shl1, Bool.or_eq_true, decide_eq_true_eq] at z ⊢
            rcases z with z | rfl
            · have := hmax x a b z; omega
            · omega
          · simp (disch := omega) only [wr_ne, wr_at, if_true, tb_lor, Bool.or_eq_true]
            by_cases hmx : c 161 v ≤ m 161 u
            · refine Or.inr ⟨u, by omega, by omega, Or.inr ?_, by omega⟩
              rw [tb_shl1 (by omega) (by omega) (by omega) (by omega), decide_eq_true_eq]
            · rcases hex with z | ⟨x, a, b, z1, z2⟩
              · have := hH u (by omega) (by omega)
                omega
              · exact Or.inr ⟨x, a, b, Or.inl z1, by omega⟩
        · refine Or.inl ⟨(u + 1, c), ?_, ⟨by dsimp only; omega, by dsimp only; omega, hfr, hw, hi, fun x a b => ?_, hp, hmax, hex⟩, by dsimp only; omega⟩
          · by_cases y1 : tb (m 132 38) u = true
            · have y2 : ¬ tb (m 159 u) v = true := fun z => hall ⟨y1, z⟩
              simp (disch := omega) only [Nat.reduceAdd, reduceIte, Int.reduceEq, Int.reduceLT, Int.reduceLE, Int.reduceNeg, Int.reduceAdd, Int.reduceSub, Int.reduceMul, Int.reduceNe, or_true, true_or, or_false, false_or, or_self, and_true, true_and, and_false, false_and, and_self, not_true_eq_false, not_false_eq_true, ne_eq, y1, y2, ob, LD, e159, s_X12_has, w32_id, Bool.false_eq_true]
            · simp (disch := omega) only [Nat.reduceAdd, reduceIte, Int.reduceEq, Int.reduceLT, Int.reduceLE, Int.reduceNeg, Int.reduceAdd, Int.reduceSub, Int.reduceMul, Int.reduceNe, or_true, true_or, or_false, false_or, or_self, and_true, true_and, and_false, false_and, and_self, not_true_eq_false, not_false_eq_true, ne_eq, y1, ob, w32_id, Bool.false_eq_true]
          · dsimp only
            rw [stU, hU x a b]
            exact ⟨Or.inl, fun z => z.resolve_right (fun y => hall y.2)⟩
    · refine ⟨by dsimp only; omega, by dsimp only; omega, fun b _ _ => rfl, fun w _ => ⟨rfl, rfl⟩, by dsimp only; rw [hz0]; exact i64_0, fun x a b => ?_, by dsimp only; omega, fun x a b z => ?_, Or.inl hh0⟩
      · dsimp only
        rw [hz0, tb_0]
        exact ⟨fun z => (by cases z), fun z => by omega⟩
      · dsimp only at z
        rw [hz0, tb_0] at z
        cases z
  · refine ⟨m, ?_, fun b _ _ => rfl, fun w _ => ⟨rfl, rfl⟩, by rw [hz0]; exact i64_0, fun x a b => ?_, by omega, fun x a b z => ?_, Or.inl hh0⟩
    · rw [lp_out]
      unfold fX12_needs_b5
      simp (disch := omega) only [s_X12_values, ob, hM.1, s_X12_has, Nat.reduceAdd, reduceIte, Int.reduceEq, Int.reduceLT, Int.reduceLE, Int.reduceNeg, Int.reduceAdd, Int.reduceSub, Int.reduceMul, Int.reduceNe, or_true, true_or, or_false, false_or, or_self, and_true, true_and, and_false, false_and, and_self, not_true_eq_false, not_false_eq_true, ne_eq, hb]
      split <;> rfl
    · rw [hz0, tb_0]
      exact ⟨fun z => (by cases z), fun z => absurd z.1 hb⟩
    · rw [hz0, tb_0] at z
      cases z
