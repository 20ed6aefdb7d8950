/-! WHAT IS NEEDED: what stands for what, sources, users, heights -/
theorem wr_wr {M : Mem} {a : Nat} {i x y : Int} : wr (wr M a i x) a i y = wr M a i y := by
  funext b j
  unfold wr
  by_cases hb : b = a
  · by_cases hj : j = i <;> simp [hb, hj]
  · simp [hb]
def stF (mk ag L G S : Int → Int) (v : Int) : Int := if mk v = 13 ∧ ¬ L v = G v ∧ L (ag (3 * v)) = G (ag (3 * v)) then S (if L (ag (3 * v)) = 1 then ag (3 * v + 1) else ag (3 * v + 2)) else v
def StOK (n : Int) (mk ag L G S : Int → Int) : Prop := ∀ v, 0 ≤ v → v < n → S v = stF mk ag L G S v ∧ 0 ≤ S v ∧ S v ≤ v
def SrcP (mk ag L G S : Int → Int) (v s : Int) : Prop := 2 ≤ mk v ∧ ¬ L s = G s ∧ ((0 ≤ ag (3 * v) ∧ S (ag (3 * v)) = s) ∨ (0 ≤ ag (3 * v + 1) ∧ S (ag (3 * v + 1)) = s) ∨ (0 ≤ ag (3 * v + 2) ∧ S (ag (3 * v + 2)) = s))
def argc (k : Int) : Int := if k = 0 ∨ k = 1 then 0 else if k = 7 ∨ k = 12 ∨ k = 14 then 1 else if k = 13 then 3 else 2
theorem s_X11_argsOf {k : Int} {M : Mem} : fX11_argsOf k M = some (argc k, M) := by
  unfold fX11_argsOf argc
  repeat' split
  all_goals first | rfl | contradiction
theorem stF_congr {n nI : Int} {mk ag F L G S S' : Int → Int} (hV : Val n mk ag F nI) {v : Int} (h0 : 0 ≤ v) (h1 : v < n) (h : ∀ w, 0 ≤ w → w < v → S' w = S w) : stF mk ag L G S' v = stF mk ag L G S v := by
  obtain ⟨k0, k1, -, -, k4, k5, k6, -⟩ := hV.2.2.2.2 v h0 h1
  unfold stF
  by_cases hc : mk v = 13 ∧ ¬ L v = G v ∧ L (ag (3 * v)) = G (ag (3 * v))
  · rw [if_pos hc, if_pos hc]
    have q5 := k5 (by omega) (by omega) (by omega)
    have q6 := k6 hc.1
    split
    · exact h _ q5.1 q5.2
    · exact h _ q6.1 q6.2
  · rw [if_neg hc, if_neg hc]
theorem St_uniq {n nI : Int} {mk ag F L G S S' : Int → Int} (hV : Val n mk ag F nI) (h : StOK n mk ag L G S) (h' : StOK n mk ag L G S') : ∀ (k : Nat) (v : Int), v < k → 0 ≤ v → v < n → S' v = S v := by
  intro k
  induction k with
  | zero => intro v h1 h2; omega
  | succ k ih =>
    intro v hvk h0 h1
    rw [(h v h0 h1).1, (h' v h0 h1).1, stF_congr hV h0 h1 (fun w a b => ih w (by omega) a (by omega))]
theorem St_step {n nI : Int} {mk ag F L G S S' : Int → Int} (hV : Val n mk ag F nI) {v : Int} (h0 : 0 ≤ v) (h1 : v < n) (h : StOK v mk ag L G S) (e : ∀ w, 0 ≤ w → w < v → S' w = S w) (hv : S' v = stF mk ag L G S v) : StOK (v + 1) mk ag L G S' := by
  obtain ⟨k0, k1, -, -, k4, k5, k6, -⟩ := hV.2.2.2.2 v h0 h1
  intro w w0 w1
  by_cases hw : w = v
  · subst hw
    refine ⟨by rw [hv, stF_congr hV h0 h1 e], ?_⟩
    rw [hv]
    unfold stF
    by_cases hc : mk w = 13 ∧ ¬ L w = G w ∧ L (ag (3 * w)) = G (ag (3 * w))
    · rw [if_pos hc]
      have q5 := k5 (by omega) (by omega) (by omega)
      have q6 := k6 hc.1
      split
      · have := (h _ q5.1 q5.2).2; omega
      · have := (h _ q6.1 q6.2).2; omega
    · rw [if_neg hc]; omega
  · have := h w w0 (by omega)
    rw [e w w0 (by omega)]
    refine ⟨?_, this.2⟩
    rw [this.1, stF_congr hV w0 (by omega) (fun u a b => e u a (by omega))]
theorem Src_lt {n nI : Int} {mk ag F L G S : Int → Int} (hV : Val n mk ag F nI) {v s : Int} (h0 : 0 ≤ v) (h1 : v < n) (hS : ∀ w, 0 ≤ w → w < v → 0 ≤ S w ∧ S w ≤ w) (h : SrcP mk ag L G S v s) : 0 ≤ s ∧ s < v := by
  obtain ⟨k0, k1, -, -, k4, k5, k6, k7, k8, -⟩ := hV.2.2.2.2 v h0 h1
  obtain ⟨hk, -, h | h | h⟩ := h
  · have q := k4 hk; have := hS _ q.1 q.2; omega
  · have q : ag (3 * v + 1) < v := by
      by_cases hc : mk v = 7 ∨ mk v = 12
      · have := k7 (Or.inr hc); omega
      · exact (k5 hk (by omega) (by omega)).2
    have := hS _ h.1 q; omega
  · have q : ag (3 * v + 2) < v := by
      by_cases hc : mk v = 13
      · exact (k6 hc).2
      · have := k8 hc; omega
    have := hS _ h.1 q; omega
theorem Src_k {n nI : Int} {mk ag F L G S : Int → Int} (hV : Val n mk ag F nI) {v s : Int} (h0 : 0 ≤ v) (h1 : v < n) : (∃ j, 0 ≤ j ∧ j < argc (mk v) ∧ S (ag (3 * v + j)) = s ∧ ¬ L s = G s) ↔ SrcP mk ag L G S v s := by
  obtain ⟨k0, k1, -, -, k4, k5, k6, k7, k8, -⟩ := hV.2.2.2.2 v h0 h1
  unfold SrcP argc
  constructor
  · rintro ⟨j, j0, j1, e, hn⟩
    have hk : 2 ≤ mk v := by
      refine Int.not_lt.mp fun q => ?_
      rw [if_pos (by omega)] at j1
      omega
    refine ⟨hk, hn, ?_⟩
    rw [if_neg (by omega)] at j1
    have q4 := k4 hk
    by_cases c1 : mk v = 7 ∨ mk v = 12 ∨ mk v = 14
    · rw [if_pos c1] at j1
      have : j = 0 := by omega
      subst this
      rw [Int.add_zero] at e
      exact Or.inl ⟨q4.1, e⟩
    · rw [if_neg c1] at j1
      have q5 := k5 hk (by omega) (by omega)
      by_cases c2 : mk v = 13
      · rw [if_pos c2] at j1
        have q6 := k6 c2
        have : j = 0 ∨ j = 1 ∨ j = 2 := by omega
        rcases this with rfl | rfl | rfl
        · rw [Int.add_zero] at e
          exact Or.inl ⟨q4.1, e⟩
        · exact Or.inr (Or.inl ⟨q5.1, e⟩)
        · exact Or.inr (Or.inr ⟨q6.1, e⟩)
      · rw [if_neg c2] at j1
        have : j = 0 ∨ j = 1 := by omega
        rcases this with rfl | rfl
        · rw [Int.add_zero] at e
          exact Or.inl ⟨q4.1, e⟩
        · exact Or.inr (Or.inl ⟨q5.1, e⟩)
  · rintro ⟨hk, hn, h | h | h⟩
    · refine ⟨0, by omega, ?_, by rw [Int.add_zero]; exact h.2, hn⟩
      rw [if_neg (by omega)]
      repeat' split
      all_goals omega
    · refine ⟨1, by omega, ?_, h.2, hn⟩
      have hc : ¬ (mk v = 7 ∨ mk v = 12) := fun q => by have := k7 (Or.inr q); omega
      rw [if_neg (by omega), if_neg (by omega)]
      split <;> omega
    · refine ⟨2, by omega, ?_, h.2, hn⟩
      have hc : mk v = 13 := by
        refine Decidable.byContradiction fun q => ?_
        have := k8 q; omega
      rw [if_neg (by omega), if_neg (by omega), if_pos hc]
      omega
theorem argc_bd (k : Int) : 0 ≤ argc k ∧ argc k ≤ 3 := by
  unfold argc
  repeat' split
  all_goals omega
theorem arg_in {n nI : Int} {mk ag F : Int → Int} (hV : Val n mk ag F nI) {v j : Int} (h0 : 0 ≤ v) (h1 : v < n) (j0 : 0 ≤ j) (j1 : j < argc (mk v)) : 0 ≤ ag (3 * v + j) ∧ ag (3 * v + j) < v := by
  obtain ⟨k0, k1, -, -, k4, k5, k6, k7, k8, -⟩ := hV.2.2.2.2 v h0 h1
  unfold argc at j1
  have hk : 2 ≤ mk v := by
    refine Int.not_lt.mp fun q => ?_
    rw [if_pos (by omega)] at j1
    omega
  rw [if_neg (by omega)] at j1
  by_cases c1 : mk v = 7 ∨ mk v = 12 ∨ mk v = 14
  · rw [if_pos c1] at j1
    have : j = 0 := by omega
    subst this
    rw [Int.add_zero]
    exact k4 hk
  · rw [if_neg c1] at j1
    by_cases c2 : mk v = 13
    · rw [if_pos c2] at j1
      have : j = 0 ∨ j = 1 ∨ j = 2 := by omega
      rcases this with rfl | rfl | rfl
      · rw [Int.add_zero]; exact k4 hk
      · exact k5 hk (by omega) (by omega)
      · exact k6 c2
    · rw [if_neg c2] at j1
      have : j = 0 ∨ j = 1 := by omega
      rcases this with rfl | rfl
      · rw [Int.add_zero]; exact k4 hk
      · exact k5 hk (by omega) (by omega)
set_option maxHeartbeats 4000000 in
set_option maxRecDepth 20000 in
theorem s_X5_findStandsFor {g : Nat} {M : Mem} {n nI v : Int} {F : Int → Int} (hg : g = 62 ∨ g = 88) (hV : Val n (M 45) (M 46) F nI) (h0 : 0 ≤ v) (h1 : v < n) : fX5_findStandsFor g v M = some (wr M (g + 5) v (stF (M 45) (M 46) (M (g + 1)) (M (g + 2)) (M (g + 5)) v)) := by
  have n1 := hV.2.1
  have hg2 : 62 ≤ g := by omega
  obtain ⟨k0, k1, -, -, k4, k5, k6, -⟩ := hV.2.2.2.2 v h0 h1
  unfold fX5_findStandsFor stF
  simp (disch := omega) only [w32_id, LD, ob, SGd hg]
  simp (disch := omega) only [wr_ne]
  by_cases h13 : M 45 v = 13
  · have q4 := k4 (by omega)
    have q5 := k5 (by omega) (by omega) (by omega)
    have q6 := k6 h13
    simp (disch := omega) only [Nat.reduceAdd, reduceIte, Int.reduceEq, Int.reduceLT, Int.reduceLE, Int.reduceNeg, Int.reduceAdd, Int.reduceSub, Int.reduceMul, Int.reduceNe, or_true, true_or, or_false, false_or, or_self, and_true, true_and, and_false, false_and, and_self, not_true_eq_false, not_false_eq_true, ne_eq, h13, s_X2_isKnown hg h0 (show v < 64 by omega), s_X2_isKnown hg q4.1 (show M 46 (3 * v) < 64 by omega), ob, wr_ne]
    by_cases hk : M (g + 1) v = M (g + 2) v
    · simp only [Nat.reduceAdd, reduceIte, Int.reduceEq, Int.reduceLT, Int.reduceLE, Int.reduceNeg, Int.reduceAdd, Int.reduceSub, Int.reduceMul, Int.reduceNe, or_true, true_or, or_false, false_or, or_self, and_true, true_and, and_false, false_and, and_self, not_true_eq_false, not_false_eq_true, ne_eq, hk, ob]
    · simp only [Nat.reduceAdd, reduceIte, Int.reduceEq, Int.reduceLT, Int.reduceLE, Int.reduceNeg, Int.reduceAdd, Int.reduceSub, Int.reduceMul, Int.reduceNe, or_true, true_or, or_false, false_or, or_self, and_true, true_and, and_false, false_and, and_self, not_true_eq_false, not_false_eq_true, ne_eq, hk, ob]
      by_cases hk2 : M (g + 1) (M 46 (3 * v)) = M (g + 2) (M 46 (3 * v))
      · have e1 : ldI (wr M (g + 5) v v) (g + 1) (M 46 (3 * v)) = some (M (g + 2) (M 46 (3 * v))) := by
          simp (disch := omega) only [LGd hg, wr_ne, hk2]
        simp only [Nat.reduceAdd, reduceIte, Int.reduceEq, Int.reduceLT, Int.reduceLE, Int.reduceNeg, Int.reduceAdd, Int.reduceSub, Int.reduceMul, Int.reduceNe, or_true, true_or, or_false, false_or, or_self, and_true, true_and, and_false, false_and, and_self, not_true_eq_false, not_false_eq_true, ne_eq, hk2, ob, e1]
        by_cases h1' : M (g + 2) (M 46 (3 * v)) = 1
        · simp (disch := omega) only [Nat.reduceAdd, reduceIte, Int.reduceEq, Int.reduceLT, Int.reduceLE, Int.reduceNeg, Int.reduceAdd, Int.reduceSub, Int.reduceMul, Int.reduceNe, or_true, true_or, or_false, false_or, or_self, and_true, true_and, and_false, false_and, and_self, not_true_eq_false, not_false_eq_true, ne_eq, h1', ob, w32_id, LD, wr_ne, LGd hg, SGd hg, wr_at, if_neg, wr_wr]
        · simp (disch := omega) only [Nat.reduceAdd, reduceIte, Int.reduceEq, Int.reduceLT, Int.reduceLE, Int.reduceNeg, Int.reduceAdd, Int.reduceSub, Int.reduceMul, Int.reduceNe, or_true, true_or, or_false, false_or, or_self, and_true, true_and, and_false, false_and, and_self, not_true_eq_false, not_false_eq_true, ne_eq, h1', ob, w32_id, LD, wr_ne, LGd hg, SGd hg, wr_at, if_neg, wr_wr]
      · simp only [Nat.reduceAdd, reduceIte, Int.reduceEq, Int.reduceLT, Int.reduceLE, Int.reduceNeg, Int.reduceAdd, Int.reduceSub, Int.reduceMul, Int.reduceNe, or_true, true_or, or_false, false_or, or_self, and_true, true_and, and_false, false_and, and_self, not_true_eq_false, not_false_eq_true, ne_eq, hk2, ob]
  · simp only [Nat.reduceAdd, reduceIte, Int.reduceEq, Int.reduceLT, Int.reduceLE, Int.reduceNeg, Int.reduceAdd, Int.reduceSub, Int.reduceMul, Int.reduceNe, or_true, true_or, or_false, false_or, or_self, and_true, true_and, and_false, false_and, and_self, not_true_eq_false, not_false_eq_true, ne_eq, h13, ob]
/-- sources of a value: as bits, as a row, with theirs on and on -/
def SrcB (mk ag L G S SB : Int → Int) (v : Int) : Prop := i64 (SB v) ∧ ∀ s, 0 ≤ s → s < 64 → (tb (SB v) s = true ↔ SrcP mk ag L G S v s)
def SrcR (SB row cnt : Int → Int) (v : Int) : Prop := 0 ≤ cnt v ∧ cnt v ≤ 3 ∧ (∀ k, 0 ≤ k → k < cnt v → 0 ≤ row (3 * v + k) ∧ row (3 * v + k) < v ∧ tb (SB v) (row (3 * v + k)) = true) ∧ (∀ s, 0 ≤ s → s < 64 → tb (SB v) s = true → ∃ k, 0 ≤ k ∧ k < cnt v ∧ row (3 * v + k) = s) ∧ (∀ i j, 0 ≤ i → i < j → j < cnt v → row (3 * v + i) ≠ row (3 * v + j))
def AhB (SB AB : Int → Int) (v : Int) : Prop := i64 (AB v) ∧ ∀ w, 0 ≤ w → w < 64 → (tb (AB v) w = true ↔ ∃ s, 0 ≤ s ∧ s < v ∧ tb (SB v) s = true ∧ (w = s ∨ tb (AB s) w = true))
set_option maxHeartbeats 4000000 in
set_option maxRecDepth 20000 in
theorem s_X5_findSources {g : Nat} {M : Mem} {n nI v : Int} {F : Int → Int} (hg : g = 62 ∨ g = 88) (hV : Val n (M 45) (M 46) F nI) (h0 : 0 ≤ v) (h1 : v < n) (hS : ∀ w, 0 ≤ w → w < v → 0 ≤ M (g + 5) w ∧ M (g + 5) w ≤ w) :
    ∃ M', fX5_findSources g v M = some M' ∧ (∀ b, b ≠ g + 6 → b ≠ g + 7 → b ≠ g + 8 → b ≠ g + 10 → M' b = M b) ∧ (∀ w, w ≠ v → M' (g + 7) w = M (g + 7) w ∧ M' (g + 8) w = M (g + 8) w ∧ M' (g + 10) w = M (g + 10) w) ∧ (∀ j, j < 3 * v ∨ 3 * v + 3 ≤ j → M' (g + 6) j = M (g + 6) j) ∧ SrcB (M 45) (M 46) (M (g + 1)) (M (g + 2)) (M (g + 5)) (M' (g + 8)) v ∧ SrcR (M' (g + 8)) (M' (g + 6)) (M' (g + 7)) v ∧ AhB (M' (g + 8)) (M' (g + 10)) v := by
  have n1 := hV.2.1
  have hg2 : 62 ≤ g := by omega
  have hv64 : v < 64 := by omega
  unfold fX5_findSources
  simp (disch := omega) only [SGd hg, ob]
  have ac := argc_bd (M 45 v)
  refine lp_bind (fun s => 0 ≤ s.1 ∧ s.1 ≤ argc (M 45 v) ∧ (∀ b, b ≠ g + 6 → b ≠ g + 7 → b ≠ g + 8 → b ≠ g + 10 → s.2 b = M b) ∧ (∀ w, w ≠ v → s.2 (g + 7) w = M (g + 7) w ∧ s.2 (g + 8) w = M (g + 8) w ∧ s.2 (g + 10) w = M (g + 10) w) ∧ (∀ j, j < 3 * v ∨ 3 * v + 3 ≤ j → s.2 (g + 6) j = M (g + 6) j) ∧ i64 (s.2 (g + 8) v) ∧ (∀ x, 0 ≤ x → x < 64 → (tb (s.2 (g + 8) v) x = true ↔ ∃ j, 0 ≤ j ∧ j < s.1 ∧ M (g + 5) (M 46 (3 * v + j)) = x ∧ ¬ M (g + 1) x = M (g + 2) x)) ∧ s.2 (g + 7) v ≤ s.1 ∧ SrcR (s.2 (g + 8)) (s.2 (g + 6)) (s.2 (g + 7)) v ∧ AhB (s.2 (g + 8)) (s.2 (g + 10)) v) (fun r => (∀ b, b ≠ g + 6 → b ≠ g + 7 → b ≠ g + 8 → b ≠ g + 10 → r b = M b) ∧ (∀ w, w ≠ v → r (g + 7) w = M (g + 7) w ∧ r (g + 8) w = M (g + 8) w ∧ r (g + 10) w = M (g + 10) w) ∧ (∀ j, j < 3 * v ∨ 3 * v + 3 ≤ j → r (g + 6) j = M (g + 6) j) ∧ SrcB (M 45) (M 46) (M (g + 1)) (M (g + 2)) (M (g + 5)) (r (g + 8)) v ∧ SrcR (r (g + 8)) (r (g + 6)) (r (g + 7)) v ∧ AhB (r (g + 8)) (r (g + 10)) v) (fun s => (argc (M 45 v) - s.1).toNat) ?_ ?_ ?_
  · rintro ⟨k, m⟩ ⟨c0, c1, hfr, hw, hrow, hi, hbits, hcnt, hR, hA⟩
    dsimp only at c0 c1 hfr hw hrow hi hbits hcnt hR hA
    unfold fX5_findSources_b1
    dsimp only
    have e45 : m 45 = M 45 := hfr 45 (by omega) (by omega) (by omega) (by omega)
    have e46 : m 46 = M 46 := hfr 46 (by omega) (by omega) (by omega) (by omega)
    have e1 : m (g + 1) = M (g + 1) := hfr _ (by omega) (by omega) (by omega) (by omega)
    have e2 : m (g + 2) = M (g + 2) := hfr _ (by omega) (by omega) (by omega) (by omega)
    have e5 : m (g + 5) = M (g + 5) := hfr _ (by omega) (by omega) (by omega) (by omega)
    by_cases hk : argc (M 45 v) ≤ k
    · refine Or.inr ⟨m, ?_, hfr, hw, hrow, ⟨hi, fun x a b => ?_⟩, hR, hA⟩
      · simp (disch := omega) only [LD, ob, e45, s_X11_argsOf]
        rw [if_pos hk]
      · have : k = argc (M 45 v) := by omega
        rw [hbits x a b, this]
        exact Src_k hV h0 h1
    · have hk1 : k < argc (M 45 v) := by omega
      have qa := arg_in hV h0 h1 c0 hk1
      generalize hae : M 46 (3 * v + k) = a at qa
      have qs := hS a qa.1 qa.2
      generalize hse : M (g + 5) a = s at qs
      have hkn := s_X2_isKnown (g := g) (v := s) (M := m) hg qs.1 (by omega)
      simp (disch := omega) only [LD, ob, e45, s_X11_argsOf, e46, w32_id, LGd hg, e5, hae, hse, hasU0]
      rw [if_neg hk]
      have hsame : (∃ j, 0 ≤ j ∧ j < k + 1 ∧ M (g + 5) (M 46 (3 * v + j)) = s ∧ ¬ M (g + 1) s = M (g + 2) s) ↔ ¬ M (g + 1) s = M (g + 2) s := ⟨fun ⟨_, _, _, _, q⟩ => q, fun q => ⟨k, c0, by omega, by rw [hae, hse], q⟩⟩
      have hother : ∀ x, x ≠ s → ((∃ j, 0 ≤ j ∧ j < k + 1 ∧ M (g + 5) (M 46 (3 * v + j)) = x ∧ ¬ M (g + 1) x = M (g + 2) x) ↔ (∃ j, 0 ≤ j ∧ j < k ∧ M (g + 5) (M 46 (3 * v + j)) = x ∧ ¬ M (g + 1) x = M (g + 2) x)) := fun x hx => ⟨fun ⟨j, j0, j1, e, q⟩ => ⟨j, j0, by
          refine Decidable.byContradiction fun z => ?_
          have : j = k := by omega
          subst this
          rw [hae, hse] at e
          exact hx e.symm, e, q⟩, fun ⟨j, j0, j1, e, q⟩ => ⟨j, j0, by omega, e, q⟩⟩
      by_cases hbit : tb (m (g + 8) v) s = true
      · refine Or.inl ⟨(k + 1, m), ?_, ⟨by dsimp only; omega, by dsimp only; omega, hfr, hw, hrow, hi, fun x a b => ?_, by dsimp only; omega, hR, hA⟩, by dsimp only; omega⟩
        · simp only [Nat.reduceAdd, reduceIte, Int.reduceEq, Int.reduceLT, Int.reduceLE, Int.reduceNeg, Int.reduceAdd, Int.reduceSub, Int.reduceMul, Int.reduceNe, or_true, true_or, or_false, false_or, or_self, and_true, true_and, and_false, false_and, and_self, not_true_eq_false, not_false_eq_true, ne_eq, hbit, ob, Bool.true_eq_false]
        · by_cases hx : x = s
          · subst hx
            rw [hsame]
            exact ⟨fun _ => by have := (hbits x a b).mp hbit; exact this.choose_spec.2.2.2, fun _ => hbit⟩
          · rw [hother x hx]
            exact hbits x a b
      · have hbf : tb (m (g + 8) v) s = false := by simpa using hbit
        by_cases hkn2 : M (g + 1) s = M (g + 2) s
        · refine Or.inl ⟨(k + 1, m), ?_, ⟨by dsimp only; omega, by dsimp only; omega, hfr, hw, hrow, hi, fun x a b => ?_, by dsimp only; omega, hR, hA⟩, by dsimp only; omega⟩
          · simp only [Nat.reduceAdd, reduceIte, Int.reduceEq, Int.reduceLT, Int.reduceLE, Int.reduceNeg, Int.reduceAdd, Int.reduceSub, Int.reduceMul, Int.reduceNe, or_true, true_or, or_false, false_or, or_self, and_true, true_and, and_false, false_and, and_self, not_true_eq_false, not_false_eq_true, ne_eq, hbf, ob, hkn, e1, e2, hkn2]
          · by_cases hx : x = s
            · subst hx
              rw [hsame]
              exact ⟨fun z => absurd z hbit, fun z => absurd hkn2 z⟩
            · rw [hother x hx]
              exact hbits x a b
        · generalize hce : m (g + 7) v = c at hcnt
          have hc0 : 0 ≤ c := by rw [← hce]; exact hR.1
          have hs64 : s < 64 := by omega
          refine Or.inl ⟨(k + 1, wr (wr (wr (wr m (g + 6) (3 * v + c) s) (g + 7) v (c + 1)) (g + 8) v (lor (m (g + 8) v) (lshl 1 s))) (g + 10) v (lor (m (g + 10) v) (lor (lshl 1 s) (m (g + 10) s)))), ?_, ⟨by dsimp only; omega, by dsimp only; omega, ?_, ?_, ?_, ?_, ?_, ?_, ?_, ?_⟩, by dsimp only; omega⟩
          · simp only [Nat.reduceAdd, reduceIte, Int.reduceEq, Int.reduceLT, Int.reduceLE, Int.reduceNeg, Int.reduceAdd, Int.reduceSub, Int.reduceMul, Int.reduceNe, or_true, true_or, or_false, false_or, or_self, and_true, true_and, and_false, false_and, and_self, not_true_eq_false, not_false_eq_true, ne_eq, hbf, ob, hkn, e1, e2, hkn2]
            simp (disch := omega) only [ob, LGd hg, SGd hg, w32_id, hce, wr_ne, wr_at, Nat.reduceAdd, reduceIte, Int.reduceEq, Int.reduceLT, Int.reduceLE, Int.reduceNeg, Int.reduceAdd, Int.reduceSub, Int.reduceMul, Int.reduceNe, or_true, true_or, or_false, false_or, or_self, and_true, true_and, and_false, false_and, and_self, not_true_eq_false, not_false_eq_true, ne_eq]
          · intro b b1 b2 b3 b4
            simp (disch := omega) only [wr_ne, hfr]
          · intro w hwv
            simp (disch := omega) only [wr_ne, wr_at, if_neg]
            exact hw w hwv
          · intro j hj
            simp (disch := omega) only [wr_ne, wr_at, if_neg]
            exact hrow j hj
          · simp (disch := omega) only [wr_ne, wr_at, Nat.reduceAdd, reduceIte, Int.reduceEq, Int.reduceLT, Int.reduceLE, Int.reduceNeg, Int.reduceAdd, Int.reduceSub, Int.reduceMul, Int.reduceNe, or_true, true_or, or_false, false_or, or_self, and_true, true_and, and_false, false_and, and_self, not_true_eq_false, not_false_eq_true, ne_eq]
            exact i64_lor _ _
          · intro x a b
            simp (disch := omega) only [wr_ne, wr_at, Nat.reduceAdd, reduceIte, Int.reduceEq, Int.reduceLT, Int.reduceLE, Int.reduceNeg, Int.reduceAdd, Int.reduceSub, Int.reduceMul, Int.reduceNe, or_true, true_or, or_false, false_or, or_self, and_true, true_and, and_false, false_and, and_self, not_true_eq_false, not_false_eq_true, ne_eq, tb_lor, tb_shl1, Bool.or_eq_true, decide_eq_true_eq]
            by_cases hx : x = s
            · subst hx
              rw [hsame]
              exact ⟨fun _ => hkn2, fun _ => Or.inr rfl⟩
            · rw [hother x hx, ← hbits x a b]
              exact ⟨fun z => z.resolve_right hx, Or.inl⟩
          · simp (disch := omega) only [wr_ne, wr_at, Nat.reduceAdd, reduceIte, Int.reduceEq, Int.reduceLT, Int.reduceLE, Int.reduceNeg, Int.reduceAdd, Int.reduceSub, Int.reduceMul, Int.reduceNe, or_true, true_or, or_false, false_or, or_self, and_true, true_and, and_false, false_and, and_self, not_true_eq_false, not_false_eq_true, ne_eq]
            omega
          · obtain ⟨r1, r2, r3, r4, r5⟩ := hR
            rw [hce] at r1 r2 r3 r4 r5
            unfold SrcR
            simp (disch := omega) only [wr_ne, wr_at, Nat.reduceAdd, reduceIte, Int.reduceEq, Int.reduceLT, Int.reduceLE, Int.reduceNeg, Int.reduceAdd, Int.reduceSub, Int.reduceMul, Int.reduceNe, or_true, true_or, or_false, false_or, or_self, and_true, true_and, and_false, false_and, and_self, not_true_eq_false, not_false_eq_true, ne_eq]
            refine ⟨by omega, by omega, fun i i0 i1 => ?_, fun x a b hx => ?_, fun i j i0 ij j1 => ?_⟩
            · by_cases hic : i = c
              · subst hic
                simp (disch := omega) only [Nat.reduceAdd, reduceIte, Int.reduceEq, Int.reduceLT, Int.reduceLE, Int.reduceNeg, Int.reduceAdd, Int.reduceSub, Int.reduceMul, Int.reduceNe, or_true, true_or, or_false, false_or, or_self, and_true, true_and, and_false, false_and, and_self, not_true_eq_false, not_false_eq_true, ne_eq, tb_lor, tb_shl1, Bool.or_eq_true, decide_eq_true_eq]
                omega
              · have := r3 i i0 (by omega)
                simp (disch := omega) only [if_neg, tb_lor, Bool.or_eq_true]
                exact ⟨this.1, this.2.1, Or.inl this.2.2⟩
            · simp (disch := omega) only [tb_lor, tb_shl1, Bool.or_eq_true, decide_eq_true_eq] at hx
              by_cases hxs : x = s
              · exact ⟨c, by omega, by omega, by simp only [if_true]; omega⟩
              · obtain ⟨i, i0, i1, e⟩ := r4 x a b (hx.resolve_right hxs)
                refine ⟨i, i0, by omega, ?_⟩
                simp (disch := omega) only [if_neg]
                exact e
            · by_cases hjc : j = c
              · subst hjc
                simp (disch := omega) only [if_neg, Nat.reduceAdd, reduceIte, Int.reduceEq, Int.reduceLT, Int.reduceLE, Int.reduceNeg, Int.reduceAdd, Int.reduceSub, Int.reduceMul, Int.reduceNe, or_true, true_or, or_false, false_or, or_self, and_true, true_and, and_false, false_and, and_self, not_true_eq_false, not_false_eq_true, ne_eq]
                intro e
                have := (r3 i i0 (by omega)).2.2
                rw [e, hbf] at this
                cases this
              · simp (disch := omega) only [if_neg]
                exact r5 i j i0 ij (by omega)
          · obtain ⟨a1, a2⟩ := hA
            unfold AhB
            simp (disch := omega) only [wr_ne, wr_at, Nat.reduceAdd, reduceIte, Int.reduceEq, Int.reduceLT, Int.reduceLE, Int.reduceNeg, Int.reduceAdd, Int.reduceSub, Int.reduceMul, Int.reduceNe, or_true, true_or, or_false, false_or, or_self, and_true, true_and, and_false, false_and, and_self, not_true_eq_false, not_false_eq_true, ne_eq]
            refine ⟨i64_lor _ _, fun w w0 w1 => ?_⟩
            simp (disch := omega) only [tb_lor, tb_shl1, Bool.or_eq_true, decide_eq_true_eq]
            constructor
            · rintro (z | z | z)
              · obtain ⟨x, x0, x1, xb, xw⟩ := (a2 w w0 w1).mp z
                refine ⟨x, x0, x1, ?_, ?_⟩
                · exact Or.inl xb
                · simp (disch := omega) only [if_neg]
                  exact xw
              · exact ⟨s, by omega, by omega, by simp (disch := omega) only [tb_lor, tb_shl1, Bool.or_eq_true, decide_eq_true_eq]; exact Or.inr trivial, Or.inl z⟩
              · refine ⟨s, by omega, by omega, by simp (disch := omega) only [tb_lor, tb_shl1, Bool.or_eq_true, decide_eq_true_eq]; exact Or.inr trivial, Or.inr ?_⟩
                simp (disch := omega) only [if_neg]
                exact z
            · rintro ⟨x, x0, x1, xb, xw⟩
              simp (disch := omega) only [tb_lor, tb_shl1, Bool.or_eq_true, decide_eq_true_eq] at xb
              simp (disch := omega) only [if_neg] at xw
              rcases xb with xb | rfl
              · exact Or.inl ((a2 w w0 w1).mpr ⟨x, x0, x1, xb, xw⟩)
              · rcases xw with xw | xw
                · exact Or.inr (Or.inl xw)
                · exact Or.inr (Or.inr xw)
  · refine ⟨by omega, ac.1, fun b b1 b2 b3 b4 => by simp (disch := omega) only [wr_ne], fun w hwv => ?_, fun j hj => by simp (disch := omega) only [wr_ne], ?_, fun x a b => ?_, ?_, ?_, ?_⟩
    · simp (disch := omega) only [wr_ne, wr_at, if_neg]
      exact ⟨trivial, trivial, trivial⟩
    · simp (disch := omega) only [wr_ne, wr_at, Nat.reduceAdd, reduceIte, Int.reduceEq, Int.reduceLT, Int.reduceLE, Int.reduceNeg, Int.reduceAdd, Int.reduceSub, Int.reduceMul, Int.reduceNe, or_true, true_or, or_false, false_or, or_self, and_true, true_and, and_false, false_and, and_self, not_true_eq_false, not_false_eq_true, ne_eq]
      exact i64_0
    · simp (disch := omega) only [wr_ne, wr_at, Nat.reduceAdd, reduceIte, Int.reduceEq, Int.reduceLT, Int.reduceLE, Int.reduceNeg, Int.reduceAdd, Int.reduceSub, Int.reduceMul, Int.reduceNe, or_true, true_or, or_false, false_or, or_self, and_true, true_and, and_false, false_and, and_self, not_true_eq_false, not_false_eq_true, ne_eq, tb_0]
      constructor
      · intro z; cases z
      · rintro ⟨j, j0, j1, -⟩; omega
    · simp (disch := omega) only [wr_ne, wr_at, Nat.reduceAdd, reduceIte, Int.reduceEq, Int.reduceLT, Int.reduceLE, Int.reduceNeg, Int.reduceAdd, Int.reduceSub, Int.reduceMul, Int.reduceNe, or_true, true_or, or_false, false_or, or_self, and_true, true_and, and_false, false_and, and_self, not_true_eq_false, not_false_eq_true, ne_eq]
    · have e7 : (wr (wr (wr M (g + 7) v 0) (g + 8) v 0) (g + 10) v 0) (g + 7) v = 0 := by simp (disch := omega) only [wr_ne, wr_at, Nat.reduceAdd, reduceIte, Int.reduceEq, Int.reduceLT, Int.reduceLE, Int.reduceNeg, Int.reduceAdd, Int.reduceSub, Int.reduceMul, Int.reduceNe, or_true, true_or, or_false, false_or, or_self, and_true, true_and, and_false, false_and, and_self, not_true_eq_false, not_false_eq_true, ne_eq]
      have e8 : (wr (wr (wr M (g + 7) v 0) (g + 8) v 0) (g + 10) v 0) (g + 8) v = 0 := by simp (disch := omega) only [wr_ne, wr_at, Nat.reduceAdd, reduceIte, Int.reduceEq, Int.reduceLT, Int.reduceLE, Int.reduceNeg, Int.reduceAdd, Int.reduceSub, Int.reduceMul, Int.reduceNe, or_true, true_or, or_false, false_or, or_self, and_true, true_and, and_false, false_and, and_self, not_true_eq_false, not_false_eq_true, ne_eq]
      exact ⟨by dsimp only; rw [e7]; omega, by dsimp only; rw [e7]; omega, fun k a b => by dsimp only at b; rw [e7] at b; omega, fun s a b c => (by dsimp only at c; rw [e8, tb_0] at c; cases c), fun i j a b c => by dsimp only at c; rw [e7] at c; omega⟩
    · unfold AhB
      simp (disch := omega) only [wr_ne, wr_at, Nat.reduceAdd, reduceIte, Int.reduceEq, Int.reduceLT, Int.reduceLE, Int.reduceNeg, Int.reduceAdd, Int.reduceSub, Int.reduceMul, Int.reduceNe, or_true, true_or, or_false, false_or, or_self, and_true, true_and, and_false, false_and, and_self, not_true_eq_false, not_false_eq_true, ne_eq, tb_0]
      refine ⟨i64_0, fun w a b => ⟨fun c => (by cases c), fun ⟨s, _, _, c, _⟩ => (by cases c)⟩⟩
  · intro r hr
    exact ⟨r, rfl, hr⟩
