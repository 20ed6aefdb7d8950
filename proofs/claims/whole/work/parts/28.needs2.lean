theorem SrcP_congr {n nI : Int} {mk ag F L G S S' : Int → Int} (hV : Val n mk ag F nI) {v s : Int} (h0 : 0 ≤ v) (h1 : v < n) (h : ∀ w, 0 ≤ w → w < v → S' w = S w) : SrcP mk ag L G S' v s ↔ SrcP mk ag L G S v s := by
  rw [← Src_k hV h0 h1, ← Src_k hV h0 h1]
  constructor
  · rintro ⟨j, j0, j1, e, q⟩
    have := arg_in hV h0 h1 j0 j1
    exact ⟨j, j0, j1, by rw [← h _ this.1 this.2]; exact e, q⟩
  · rintro ⟨j, j0, j1, e, q⟩
    have := arg_in hV h0 h1 j0 j1
    exact ⟨j, j0, j1, by rw [h _ this.1 this.2]; exact e, q⟩
theorem SrcR_congr {SB row cnt SB' row' cnt' : Int → Int} {v : Int} (h : SrcR SB row cnt v) (e1 : SB' v = SB v) (e2 : cnt' v = cnt v) (e3 : ∀ k, 0 ≤ k → k < 3 → row' (3 * v + k) = row (3 * v + k)) : SrcR SB' row' cnt' v := by
  obtain ⟨r1, r2, r3, r4, r5⟩ := h
  refine ⟨by rw [e2]; exact r1, by rw [e2]; exact r2, fun k a b => ?_, fun s a b c => ?_, fun i j a b c => ?_⟩
  · rw [e2] at b
    rw [e1, e3 k a (by omega)]
    exact r3 k a b
  · rw [e1] at c
    obtain ⟨k, k0, k1, e⟩ := r4 s a b c
    exact ⟨k, k0, by rw [e2]; exact k1, by rw [e3 k k0 (by omega)]; exact e⟩
  · rw [e2] at c
    rw [e3 i a (by omega), e3 j (by omega) (by omega)]
    exact r5 i j a b c
theorem AhB_congr {SB AB SB' AB' : Int → Int} {v : Int} (h : AhB SB AB v) (e1 : SB' v = SB v) (e2 : ∀ w, 0 ≤ w → w ≤ v → AB' w = AB w) (hv : 0 ≤ v) : AhB SB' AB' v := by
  obtain ⟨a1, a2⟩ := h
  refine ⟨by rw [e2 v hv (by omega)]; exact a1, fun w w0 w1 => ?_⟩
  rw [e2 v hv (by omega), a2 w w0 w1, e1]
  constructor
  · rintro ⟨s, s0, s1, b, c⟩
    exact ⟨s, s0, s1, b, by rw [e2 s s0 (by omega)]; exact c⟩
  · rintro ⟨s, s0, s1, b, c⟩
    exact ⟨s, s0, s1, b, by rw [e2 s s0 (by omega)] at c; exact c⟩
/-- rows behind the first loop of Needs.reckon -/
def NdA (n : Int) (mk ag L G S row cnt SB AB : Int → Int) : Prop := StOK n mk ag L G S ∧ ∀ v, 0 ≤ v → v < n → SrcB mk ag L G S SB v ∧ SrcR SB row cnt v ∧ AhB SB AB v
set_option maxHeartbeats 4000000 in
set_option maxRecDepth 20000 in
theorem s_X5_loop {g : Nat} {M : Mem} {n nI : Int} {F : Int → Int} (hg : g = 62 ∨ g = 88) (hn : M 44 0 = n) (hV : Val n (M 45) (M 46) F nI) :
    ∃ M', lp (fX5_reckon_b1 g) (0, M) = some M' ∧ (∀ b, b < g + 5 ∨ g + 12 < b → M' b = M b) ∧ NdA n (M 45) (M 46) (M (g + 1)) (M (g + 2)) (M' (g + 5)) (M' (g + 6)) (M' (g + 7)) (M' (g + 8)) (M' (g + 10)) ∧ ∀ v, 0 ≤ v → v < n → M' (g + 9) v = 0 ∧ M' (g + 11) v = 0 ∧ M' (g + 12) v = 0 := by
  have n0 := hV.1
  have n1 := hV.2.1
  have hg2 : 62 ≤ g := by omega
  refine lp_ind (fun s : Int × Mem => 0 ≤ s.1 ∧ s.1 ≤ n ∧ (∀ b, b < g + 5 ∨ g + 12 < b → s.2 b = M b) ∧ NdA s.1 (M 45) (M 46) (M (g + 1)) (M (g + 2)) (s.2 (g + 5)) (s.2 (g + 6)) (s.2 (g + 7)) (s.2 (g + 8)) (s.2 (g + 10)) ∧ ∀ v, 0 ≤ v → v < s.1 → s.2 (g + 9) v = 0 ∧ s.2 (g + 11) v = 0 ∧ s.2 (g + 12) v = 0) (fun r : Mem => (∀ b, b < g + 5 ∨ g + 12 < b → r b = M b) ∧ NdA n (M 45) (M 46) (M (g + 1)) (M (g + 2)) (r (g + 5)) (r (g + 6)) (r (g + 7)) (r (g + 8)) (r (g + 10)) ∧ ∀ v, 0 ≤ v → v < n → r (g + 9) v = 0 ∧ r (g + 11) v = 0 ∧ r (g + 12) v = 0) (fun s => (n - s.1).toNat) ?_ (0, M) ?_
  · rintro ⟨v, m⟩ ⟨h0, h1, hfr, hA, hz⟩
    dsimp only at h0 h1 hfr hA hz
    unfold fX5_reckon_b1
    dsimp only
    have e44 : m 44 = M 44 := hfr 44 (by omega)
    have e45 : m 45 = M 45 := hfr 45 (by omega)
    have e46 : m 46 = M 46 := hfr 46 (by omega)
    have e1 : m (g + 1) = M (g + 1) := hfr _ (by omega)
    have e2 : m (g + 2) = M (g + 2) := hfr _ (by omega)
    by_cases hv : n ≤ v
    · have : v = n := by omega
      subst this
      refine Or.inr ⟨m, ?_, hfr, hA, hz⟩
      rw [if_pos (show m 44 0 ≤ v by rw [e44, hn]; exact hv)]
    · have hv1 : v < n := by omega
      have hv64 : v < 64 := by omega
      have hVm : Val n (m 45) (m 46) F nI := by rw [e45, e46]; exact hV
      have f1 := s_X5_findStandsFor (M := m) hg hVm h0 hv1
      rw [e45, e46, e1, e2] at f1
      generalize hme : wr m (g + 5) v (stF (M 45) (M 46) (M (g + 1)) (M (g + 2)) (m (g + 5)) v) = m1 at f1
      have m1ne : ∀ b, b ≠ g + 5 → m1 b = m b := fun b hb => by rw [← hme]; simp (disch := omega) only [wr_ne]
      have m1at : ∀ w, m1 (g + 5) w = if w = v then stF (M 45) (M 46) (M (g + 1)) (M (g + 2)) (m (g + 5)) v else m (g + 5) w := fun w => by rw [← hme, wr_at]
      have hSt : StOK (v + 1) (M 45) (M 46) (M (g + 1)) (M (g + 2)) (m1 (g + 5)) := St_step hV h0 hv1 hA.1 (fun w a b => by rw [m1at, if_neg (by omega)]) (by rw [m1at, if_pos rfl])
      have hVm1 : Val n (m1 45) (m1 46) F nI := by rw [m1ne 45 (by omega), m1ne 46 (by omega)]; exact hVm
      obtain ⟨m2, f2, fr2, w2, r2, b2, s2, a2⟩ := s_X5_findSources (M := m1) hg hVm1 h0 hv1 (fun w a b => (hSt w a (by omega)).2)
      rw [m1ne 45 (by omega), m1ne 46 (by omega), e45, e46, m1ne (g + 1) (by omega), m1ne (g + 2) (by omega), e1, e2] at b2
      refine Or.inl ⟨(v + 1, wr (wr (wr m2 (g + 9) v 0) (g + 11) v 0) (g + 12) v 0), ?_, ⟨by dsimp only; omega, by dsimp only; omega, ?_, ?_, ?_⟩, by dsimp only; omega⟩
      · rw [if_neg (show ¬ m 44 0 ≤ v by rw [e44, hn]; exact hv)]
        simp (disch := omega) only [f1, f2, ob, SGd hg, w32_id]
      · intro b hb
        simp (disch := omega) only [wr_ne, fr2, m1ne]
        exact hfr b hb
      · simp (disch := omega) only [wr_ne]
        rw [fr2 (g + 5) (by omega) (by omega) (by omega) (by omega)]
        refine ⟨hSt, fun w w0 w1 => ?_⟩
        by_cases hw : w = v
        · subst hw
          exact ⟨b2, s2, a2⟩
        · obtain ⟨B, R, A⟩ := hA.2 w w0 (by omega)
          have q := w2 w hw
          rw [m1ne (g + 7) (by omega), m1ne (g + 8) (by omega), m1ne (g + 10) (by omega)] at q
          refine ⟨⟨by rw [q.2.1]; exact B.1, fun x a b => ?_⟩, SrcR_congr R q.2.1 q.1 (fun k k0 k1 => by rw [r2 _ (by omega), m1ne (g + 6) (by omega)]), AhB_congr A q.2.1 (fun u u0 u1 => by rw [(w2 u (by omega)).2.2, m1ne (g + 10) (by omega)]) w0⟩
          rw [q.2.1, B.2 x a b]
          exact (SrcP_congr hV w0 (by omega) (fun u u0 u1 => by rw [m1at, if_neg (by omega)])).symm
      · intro w w0 w1
        by_cases hw : w = v
        · subst hw
          simp (disch := omega) only [wr_ne, wr_at, Nat.reduceAdd, reduceIte, Int.reduceEq, Int.reduceLT, Int.reduceLE, Int.reduceNeg, Int.reduceAdd, Int.reduceSub, Int.reduceMul, Int.reduceNe, or_true, true_or, or_false, false_or, or_self, and_true, true_and, and_false, false_and, and_self, not_true_eq_false, not_false_eq_true, ne_eq]
        · have := hz w w0 (by omega)
          simp (disch := omega) only [wr_ne, wr_at, if_neg, fr2, m1ne]
          exact this
  · exact ⟨by omega, n0, fun b _ => rfl, ⟨fun v a b => by dsimp only at b; omega, fun v a b => by dsimp only at b; omega⟩, fun v a b => by dsimp only at b; omega⟩
def KpP (L G S sh : Int → Int) (nS only s : Int) : Prop := ¬ L s = G s ∧ ∃ i, 0 ≤ i ∧ i < nS ∧ (only = -1 ∨ only = i) ∧ S (sh i) = s
set_option maxHeartbeats 4000000 in
set_option maxRecDepth 20000 in
theorem s_X5_keepShown {g : Nat} {M : Mem} {n nS only : Int} (hg : g = 62 ∨ g = 88) (hn : n ≤ 64) (hs : M 44 5 = nS) (hs0 : 0 ≤ nS) (hs8 : nS ≤ 8) (hsh : ∀ i, 0 ≤ i → i < nS → 0 ≤ M 49 i ∧ M 49 i < n) (hS : ∀ v, 0 ≤ v → v < n → 0 ≤ M (g + 5) v ∧ M (g + 5) v ≤ v) :
    ∃ M', fX5_keepShown g only M = some M' ∧ (∀ b, b ≠ g + 4 → M' b = M b) ∧ M' (g + 4) 3 = M' (g + 4) 4 ∧ i64 (M' (g + 4) 4) ∧ ∀ s, 0 ≤ s → s < 64 → (tb (M' (g + 4) 4) s = true ↔ KpP (M (g + 1)) (M (g + 2)) (M (g + 5)) (M 49) nS only s) := by
  have hg2 : 62 ≤ g := by omega
  unfold fX5_keepShown
  simp only [pI_ok, ob]
  refine lp_bind (fun s => 0 ≤ s.1 ∧ s.1 ≤ nS ∧ (∀ b, b ≠ g + 4 → s.2 b = M b) ∧ i64 (s.2 (g + 4) 4) ∧ ∀ x, 0 ≤ x → x < 64 → (tb (s.2 (g + 4) 4) x = true ↔ KpP (M (g + 1)) (M (g + 2)) (M (g + 5)) (M 49) s.1 only x)) (fun r => (∀ b, b ≠ g + 4 → r b = M b) ∧ i64 (r (g + 4) 4) ∧ ∀ x, 0 ≤ x → x < 64 → (tb (r (g + 4) 4) x = true ↔ KpP (M (g + 1)) (M (g + 2)) (M (g + 5)) (M 49) nS only x)) (fun s => (nS - s.1).toNat) ?_ ?_ ?_
  · rintro ⟨i, m⟩ ⟨h0, h1, hfr, hi, hb⟩
    dsimp only at h0 h1 hfr hi hb
    unfold fX5_keepShown_b1
    dsimp only
    have e44 : m 44 = M 44 := hfr 44 (by omega)
    have e49 : m 49 = M 49 := hfr 49 (by omega)
    have e1 : m (g + 1) = M (g + 1) := hfr _ (by omega)
    have e2 : m (g + 2) = M (g + 2) := hfr _ (by omega)
    have e5 : m (g + 5) = M (g + 5) := hfr _ (by omega)
    by_cases hv : nS ≤ i
    · have : i = nS := by omega
      subst this
      refine Or.inr ⟨m, ?_, hfr, hi, hb⟩
      rw [if_pos (show m 44 5 ≤ i by rw [e44, hs]; exact hv)]
    · have qs := hsh i h0 (by omega)
      have qv := hS _ qs.1 qs.2
      generalize hse : M (g + 5) (M 49 i) = s at qv
      have hs64 : s < 64 := by omega
      have hkn := s_X2_isKnown (g := g) (v := s) (M := m) hg qv.1 hs64
      rw [if_neg (show ¬ m 44 5 ≤ i by rw [e44, hs]; exact hv)]
      simp (disch := omega) only [LD, ob, e49, LGd hg, e5, hse]
      have kp1 : ∀ x, KpP (M (g + 1)) (M (g + 2)) (M (g + 5)) (M 49) (i + 1) only x ↔ KpP (M (g + 1)) (M (g + 2)) (M (g + 5)) (M 49) i only x ∨ (¬ M (g + 1) x = M (g + 2) x ∧ (only = -1 ∨ only = i) ∧ x = s) := by
        intro x
        unfold KpP
        constructor
        · rintro ⟨a, j, j0, j1, c, e⟩
          by_cases hj : j = i
          · subst hj
            exact Or.inr ⟨a, c, by rw [← e, hse]⟩
          · exact Or.inl ⟨a, j, j0, by omega, c, e⟩
        · rintro (⟨a, j, j0, j1, c, e⟩ | ⟨a, c, e⟩)
          · exact ⟨a, j, j0, by omega, c, e⟩
          · exact ⟨a, i, h0, by omega, c, by rw [hse, e]⟩
      by_cases ho : only = -1 ∨ only = i
      · have hfl : ((if only = -1 then some true else if only = i then some true else some false : Option Bool)) = some true := by
          rcases ho with rfl | rfl
          · rfl
          · split
            · rfl
            · rw [if_pos rfl]
        rw [hfl]
        simp only [ob, if_true, hkn, e1, e2]
        by_cases hq : M (g + 1) s = M (g + 2) s
        · refine Or.inl ⟨(i + 1, m), ?_, ⟨by dsimp only; omega, by dsimp only; omega, hfr, hi, fun x a b => ?_⟩, by dsimp only; omega⟩
          · simp (disch := omega) only [Nat.reduceAdd, reduceIte, Int.reduceEq, Int.reduceLT, Int.reduceLE, Int.reduceNeg, Int.reduceAdd, Int.reduceSub, Int.reduceMul, Int.reduceNe, or_true, true_or, or_false, false_or, or_self, and_true, true_and, and_false, false_and, and_self, not_true_eq_false, not_false_eq_true, ne_eq, hq, ob, w32_id]
          · dsimp only
            rw [kp1, hb x a b]
            exact ⟨Or.inl, fun z => z.resolve_right (fun ⟨z1, _, z2⟩ => z1 (by rw [z2]; exact hq))⟩
        · refine Or.inl ⟨(i + 1, wr m (g + 4) 4 (lor (m (g + 4) 4) (lshl 1 s))), ?_, ⟨by dsimp only; omega, by dsimp only; omega, fun b hb2 => by simp (disch := omega) only [wr_ne, hfr], ?_, fun x a b => ?_⟩, by dsimp only; omega⟩
          · simp (disch := omega) only [Nat.reduceAdd, reduceIte, Int.reduceEq, Int.reduceLT, Int.reduceLE, Int.reduceNeg, Int.reduceAdd, Int.reduceSub, Int.reduceMul, Int.reduceNe, or_true, true_or, or_false, false_or, or_self, and_true, true_and, and_false, false_and, and_self, not_true_eq_false, not_false_eq_true, ne_eq, hq, ob, w32_id, pI_ok]
          · simp only [wr_at, if_true]
            exact i64_lor _ _
          · dsimp only
            rw [kp1]
            simp (disch := omega) only [wr_at, Nat.reduceAdd, reduceIte, Int.reduceEq, Int.reduceLT, Int.reduceLE, Int.reduceNeg, Int.reduceAdd, Int.reduceSub, Int.reduceMul, Int.reduceNe, or_true, true_or, or_false, false_or, or_self, and_true, true_and, and_false, false_and, and_self, not_true_eq_false, not_false_eq_true, ne_eq, tb_lor, tb_shl1, Bool.or_eq_true, decide_eq_true_eq, hb x a b]
            constructor
            · rintro (z | rfl)
              · exact Or.inl z
              · exact Or.inr ⟨hq, ho, rfl⟩
            · rintro (z | ⟨_, _, z⟩)
              · exact Or.inl z
              · exact Or.inr z
      · have hfl : ((if only = -1 then some true else if only = i then some true else some false : Option Bool)) = some false := by
          rw [if_neg (fun z => ho (Or.inl z)), if_neg (fun z => ho (Or.inr z))]
        rw [hfl]
        refine Or.inl ⟨(i + 1, m), ?_, ⟨by dsimp only; omega, by dsimp only; omega, hfr, hi, fun x a b => ?_⟩, by dsimp only; omega⟩
        · simp (disch := omega) only [ob, Bool.false_eq_true, if_false, w32_id]
        · dsimp only
          rw [kp1, hb x a b]
          exact ⟨Or.inl, fun z => z.resolve_right (fun ⟨_, z1, _⟩ => ho z1)⟩
  · refine ⟨by omega, hs0, fun b hb => by simp (disch := omega) only [wr_ne], ?_, fun x a b => ?_⟩
    · simp only [wr_at, if_true]
      exact i64_0
    · simp only [wr_at, if_true, tb_0]
      constructor
      · intro z; cases z
      · rintro ⟨_, i, i0, i1, _⟩; omega
  · rintro r ⟨hfr, hi, hb⟩
    refine ⟨wr r (g + 4) 3 (r (g + 4) 4), rfl, fun b hb2 => by simp (disch := omega) only [wr_ne, hfr], ?_, ?_, fun s a b => ?_⟩
    · simp only [wr_at, Nat.reduceAdd, reduceIte, Int.reduceEq, Int.reduceLT, Int.reduceLE, Int.reduceNeg, Int.reduceAdd, Int.reduceSub, Int.reduceMul, Int.reduceNe, or_true, true_or, or_false, false_or, or_self, and_true, true_and, and_false, false_and, and_self, not_true_eq_false, not_false_eq_true, ne_eq]
    · simp only [wr_at, Nat.reduceAdd, reduceIte, Int.reduceEq, Int.reduceLT, Int.reduceLE, Int.reduceNeg, Int.reduceAdd, Int.reduceSub, Int.reduceMul, Int.reduceNe, or_true, true_or, or_false, false_or, or_self, and_true, true_and, and_false, false_and, and_self, not_true_eq_false, not_false_eq_true, ne_eq]
      exact hi
    · simp only [wr_at, Nat.reduceAdd, reduceIte, Int.reduceEq, Int.reduceLT, Int.reduceLE, Int.reduceNeg, Int.reduceAdd, Int.reduceSub, Int.reduceMul, Int.reduceNe, or_true, true_or, or_false, false_or, or_self, and_true, true_and, and_false, false_and, and_self, not_true_eq_false, not_false_eq_true, ne_eq]
      exact hb s a b
