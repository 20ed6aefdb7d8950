/-! HOW LONG EACH LIVES -/
def EndOK (D : Mem) (L : Int → Int) (c : Int) (E : Int → Int) : Prop := ∀ p, 0 ≤ p → p < c → (tb (D 0 2) (L p) = true → E (L p) = c) ∧ (tb (D 0 2) (L p) = false → p ≤ E (L p) ∧ (∀ q, 0 ≤ q → q < c → tb (D 4 (L q)) (L p) = true → q ≤ E (L p)) ∧ (E (L p) = p ∨ ∃ q, 0 ≤ q ∧ q < c ∧ tb (D 4 (L q)) (L p) = true ∧ E (L p) = q))
theorem src_lt {D : Mem} (hD : DW D) {L : Int → Int} {c : Int} (hO : OrdV D L c) {p q : Int} (p0 : 0 ≤ p) (p1 : p < c) (q0 : 0 ≤ q) (q1 : q < c) (h : tb (D 4 (L q)) (L p) = true) : p < q := by
  have n1 := hD.2.1
  have a := hO.2.1 p p0 p1
  obtain ⟨r, r0, r1, e⟩ := hO.2.2.2.2 q (L p) q0 q1 a.1 (by omega) h
  by_cases h1 : r = p
  · omega
  · by_cases h2 : r < p
    · exact absurd e (hO.2.2.1 r p r0 h2 p1)
    · exact absurd e.symm (hO.2.2.1 p r p0 (by omega) (by omega))
theorem L_inj {D : Mem} {L : Int → Int} {c : Int} (hO : OrdV D L c) {p q : Int} (p0 : 0 ≤ p) (p1 : p < c) (q0 : 0 ≤ q) (q1 : q < c) (h : L p = L q) : p = q := by
  by_cases h1 : p < q
  · exact absurd h (hO.2.2.1 p q p0 h1 q1)
  · by_cases h2 : q < p
    · exact absurd h.symm (hO.2.2.1 q p q0 h2 p1)
    · omega
theorem End_bd {D : Mem} (hD : DW D) {L : Int → Int} {c : Int} (hO : OrdV D L c) {E : Int → Int} (hE : EndOK D L c E) {p : Int} (p0 : 0 ≤ p) (p1 : p < c) : p < E (L p) ∧ E (L p) ≤ c := by
  have n1 := hD.2.1
  have a := hO.2.1 p p0 p1
  obtain ⟨e1, e2⟩ := hE p p0 p1
  cases hk : tb (D 0 2) (L p)
  · obtain ⟨x, y, z⟩ := e2 hk
    have hv := hD.2.2.2.2.2.2.2.2 (L p) a.1 a.2.1
    rcases hv.2.2.2.2.2.1 a.2.2 with w | ⟨u, u0, u1, w⟩
    · rw [hk] at w; cases w
    · obtain ⟨w1, w2, w3⟩ := (hv.2.2.2.2.1.2 u u0 u1).mp w
      obtain ⟨q, q0, q1, rfl⟩ := hO.2.2.2.1 u u0 w1 w2
      have := src_lt hD hO p0 p1 q0 q1 w3
      have := y q q0 q1 w3
      refine ⟨by omega, ?_⟩
      rcases z with z | ⟨r, r0, r1, -, z⟩ <;> omega
  · have := e1 hk
    omega
theorem End_uniq {D : Mem} (hD : DW D) {L : Int → Int} {c : Int} (hO : OrdV D L c) {E E' : Int → Int} (h : EndOK D L c E) (h' : EndOK D L c E') {p : Int} (p0 : 0 ≤ p) (p1 : p < c) : E' (L p) = E (L p) := by
  obtain ⟨a1, a2⟩ := h p p0 p1
  obtain ⟨b1, b2⟩ := h' p p0 p1
  cases hk : tb (D 0 2) (L p)
  · obtain ⟨x1, x2, x3⟩ := a2 hk
    obtain ⟨y1, y2, y3⟩ := b2 hk
    have l1 : E' (L p) ≤ E (L p) := by
      rcases y3 with z | ⟨q, q0, q1, z1, z2⟩
      · omega
      · have := x2 q q0 q1 z1; omega
    have l2 : E (L p) ≤ E' (L p) := by
      rcases x3 with z | ⟨q, q0, q1, z1, z2⟩
      · omega
      · have := y2 q q0 q1 z1; omega
    omega
  · rw [a1 hk, b1 hk]
def CL (g : Nat) (M : Mem) (L : Int → Int) (c : Int) : Prop := M (g + 13) 4 = c ∧ ∀ p, 0 ≤ p → p < c → M (g + 14) p = L p
set_option maxHeartbeats 4000000 in
set_option maxRecDepth 20000 in
theorem s_X7_fe_b2 {g : Nat} {m D : Mem} {v t : Int} (hg : g = 62 ∨ g = 88) (hD : DW D) (hC : CV g m D) (h0 : 0 ≤ v) (h1 : v < D 0 0) :
    ∃ r, lp (fX7_findEnds_b2 g t v) (0, m) = some r ∧ (∀ b, b ≠ g + 16 → r b = m b) ∧ ∀ w, 0 ≤ w → w < D 0 0 → r (g + 16) w = if tb (D 4 v) w = true then max (m (g + 16) w) t else m (g + 16) w := by
  have hg2 : 62 ≤ g := by omega
  have n1 := hD.2.1
  obtain ⟨d1, d2, d3, d4, d5, d6, r1, r2, r3, r4, r5⟩ := hC.2.2.2 v h0 h1
  rw [d4] at r3 r4
  have hit : ∀ w, 0 ≤ w → w < 64 → ((∃ j, 0 ≤ j ∧ j < m (g + 7) v ∧ m (g + 6) (3 * v + j) = w) ↔ tb (D 4 v) w = true) := fun w a b => ⟨fun ⟨j, j0, j1, e⟩ => by rw [← e]; exact (r3 j j0 j1).2.2, fun z => r4 w a b z⟩
  refine lp_ind (fun s : Int × Mem => 0 ≤ s.1 ∧ s.1 ≤ m (g + 7) v ∧ (∀ b, b ≠ g + 16 → s.2 b = m b) ∧ ∀ w, 0 ≤ w → w < D 0 0 → ((∃ j, 0 ≤ j ∧ j < s.1 ∧ m (g + 6) (3 * v + j) = w) → s.2 (g + 16) w = max (m (g + 16) w) t) ∧ (¬ (∃ j, 0 ≤ j ∧ j < s.1 ∧ m (g + 6) (3 * v + j) = w) → s.2 (g + 16) w = m (g + 16) w)) (fun r : Mem => (∀ b, b ≠ g + 16 → r b = m b) ∧ ∀ w, 0 ≤ w → w < D 0 0 → r (g + 16) w = if tb (D 4 v) w = true then max (m (g + 16) w) t else m (g + 16) w) (fun s => (m (g + 7) v - s.1).toNat) ?_ (0, m) ?_
  · rintro ⟨k, c⟩ ⟨k0, k1, hfr, hw⟩
    dsimp only at k0 k1 hfr hw
    unfold fX7_findEnds_b2
    have e6 : c (g + 6) = m (g + 6) := hfr _ (by omega)
    have e7 : c (g + 7) = m (g + 7) := hfr _ (by omega)
    simp (disch := omega) only [LGd hg, ob, e7]
    by_cases hk : m (g + 7) v ≤ k
    · have hkk : k = m (g + 7) v := by omega
      rw [if_pos hk]
      refine Or.inr ⟨c, rfl, hfr, fun w a b => ?_⟩
      obtain ⟨q5, q6⟩ := hw w a b
      rw [hkk] at q5 q6
      have hh := hit w a (by omega)
      by_cases hb : tb (D 4 v) w = true
      · rw [if_pos hb]; exact q5 (hh.mpr hb)
      · rw [if_neg hb]; exact q6 (fun z => hb (hh.mp z))
    · rw [if_neg hk]
      have q := r3 k k0 (by omega)
      generalize hse : m (g + 6) (3 * v + k) = s at q
      obtain ⟨s5, s6⟩ := hw s q.1 (by omega)
      have nos : ¬ ∃ j, 0 ≤ j ∧ j < k ∧ m (g + 6) (3 * v + j) = s := fun ⟨j, j0, j1, e⟩ => r5 j k j0 j1 (by omega) (by rw [e, hse])
      have hs12 := s6 nos
      simp (disch := omega) only [w32_id, LGd hg, SGd hg, ob, e6, hse, imax_eq, hs12]
      refine Or.inl ⟨_, rfl, ⟨by dsimp only; omega, by dsimp only; omega, fun b b1 => by simp (disch := omega) only [wr_ne, hfr], fun w a b => ?_⟩, by dsimp only; omega⟩
      obtain ⟨q5, q6⟩ := hw w a b
      simp only [wr_at]
      by_cases hws : w = s
      · subst hws
        rw [if_pos rfl]
        exact ⟨fun _ => rfl, fun z => absurd ⟨k, k0, by omega, hse⟩ z⟩
      · rw [if_neg hws]
        have hq : (∃ j, 0 ≤ j ∧ j < k + 1 ∧ m (g + 6) (3 * v + j) = w) ↔ (∃ j, 0 ≤ j ∧ j < k ∧ m (g + 6) (3 * v + j) = w) := ⟨fun ⟨j, j0, j1, e⟩ => by
            by_cases hj : j = k
            · subst hj; exact absurd (by rw [← e, hse]) hws
            · exact ⟨j, j0, by omega, e⟩, fun ⟨j, j0, j1, e⟩ => ⟨j, j0, by omega, e⟩⟩
        rw [hq]
        exact ⟨q5, q6⟩
  · exact ⟨Int.le_refl _, r1, fun b _ => rfl, fun w a b => ⟨fun ⟨j, j0, j1, _⟩ => by dsimp only at j1; omega, fun _ => rfl⟩⟩
set_option maxHeartbeats 4000000 in
set_option maxRecDepth 20000 in
theorem s_X7_findEnds {g : Nat} {M D : Mem} {L : Int → Int} {c : Int} (hg : g = 62 ∨ g = 88) (hD : DW D) (hC : CV g M D) (hL : CL g M L c) (hO : OrdV D L c) :
    ∃ M', fX7_findEnds g M = some M' ∧ (∀ b, b ≠ g + 16 → M' b = M b) ∧ EndOK D L c (M' (g + 16)) := by
  have hg2 : 62 ≤ g := by omega
  have n1 := hD.2.1
  have pb := pc_bd (D 0 1)
  have hc := hO.1
  unfold fX7_findEnds
  refine lp_bind (fun s : Int × Mem => 0 ≤ s.1 ∧ s.1 ≤ c ∧ (∀ b, b ≠ g + 16 → s.2 b = M b) ∧ ∀ p, 0 ≤ p → p < s.1 → (tb (D 0 2) (L p) = true → s.2 (g + 16) (L p) = c) ∧ (tb (D 0 2) (L p) = false → p ≤ s.2 (g + 16) (L p) ∧ (∀ q, 0 ≤ q → q < s.1 → tb (D 4 (L q)) (L p) = true → q ≤ s.2 (g + 16) (L p)) ∧ (s.2 (g + 16) (L p) = p ∨ ∃ q, 0 ≤ q ∧ q < s.1 ∧ tb (D 4 (L q)) (L p) = true ∧ s.2 (g + 16) (L p) = q)))
    (fun r : Mem => (∀ b, b ≠ g + 16 → r b = M b) ∧ EndOK D L c (r (g + 16))) (fun s => (c - s.1).toNat) ?_ ?_ (fun r h => ⟨r, rfl, h⟩)
  · rintro ⟨t, m⟩ ⟨t0, t1, hfr, hE⟩
    dsimp only at t0 t1 hfr hE
    have hm : CV g m D := CV_fr hg hC (fun b hb => hfr b (by omega))
    have h13 : m (g + 13) 4 = c := by rw [hfr _ (by omega)]; exact hL.1
    unfold fX7_findEnds_b1
    simp only [h13]
    by_cases ht : c ≤ t
    · have : t = c := by omega
      subst this
      rw [if_pos ht]
      exact Or.inr ⟨m, rfl, hfr, hE⟩
    · rw [if_neg ht]
      have q := hO.2.1 t t0 (by omega)
      have h14 : m (g + 14) t = L t := by rw [hfr _ (by omega)]; exact hL.2 t t0 (by omega)
      have hq4 : ∀ m' : Mem, m' (g + 13) 4 = c → ((if (if tb (D 0 2) (L t) = true then (1 : Int) else 0) = 0 then some t else some (m' (g + 13) 4) : Option Int)) = some (if tb (D 0 2) (L t) = true then c else t) := fun m' e => by
        rw [e]
        cases tb (D 0 2) (L t) <;> simp only [Nat.reduceAdd, reduceIte, Int.reduceEq, Int.reduceLT, Int.reduceLE, Int.reduceNeg, Int.reduceAdd, Int.reduceSub, Int.reduceMul, Int.reduceNe, or_true, true_or, or_false, false_or, or_self, and_true, true_and, and_false, false_and, and_self, not_true_eq_false, not_false_eq_true, ne_eq, Bool.false_eq_true, Bool.true_eq_false, decide_true, decide_false]
      simp (disch := omega) only [LGd hg, ob, h14, s_X5_isKept, hm.2.2.1, hq4 m h13, SGd hg]
      generalize hX : (if tb (D 0 2) (L t) = true then c else t : Int) = X
      obtain ⟨r, f, fr, rE⟩ := s_X7_fe_b2 (m := wr m (g + 16) (L t) X) (v := L t) (t := t) hg hD (CV_fr hg hm (fun b hb => by simp (disch := omega) only [wr_ne])) q.1 q.2.1
      simp (disch := omega) only [f, ob, w32_id]
      refine Or.inl ⟨_, rfl, ⟨by dsimp only; omega, by dsimp only; omega, fun b b1 => by dsimp only; rw [fr b b1]; simp (disch := omega) only [wr_ne, hfr], fun p a b => ?_⟩, by dsimp only; omega⟩
      dsimp only at b ⊢
      have qp := hO.2.1 p a (by omega)
      have hr := rE (L p) qp.1 qp.2.1
      simp only [wr_at] at hr
      by_cases hpt : p = t
      · subst hpt
        rw [if_pos rfl] at hr
        have no : ¬ tb (D 4 (L p)) (L p) = true := fun z => by have := src_lt hD hO a (by omega) a (by omega) z; omega
        rw [if_neg no] at hr
        rw [hr, ← hX]
        refine ⟨fun z => by rw [if_pos z], fun z => ?_⟩
        rw [z, if_neg (by decide)]
        exact ⟨Int.le_refl _, fun q' q0 q1 w => by omega, Or.inl rfl⟩
      · have ne : L p ≠ L t := fun z => hpt (L_inj hO a (by omega) t0 (by omega) z)
        rw [if_neg ne] at hr
        obtain ⟨x1, x2⟩ := hE p a (by omega)
        rw [hr]
        refine ⟨fun z => ?_, fun z => ?_⟩
        · have := x1 z
          split <;> omega
        · obtain ⟨y1, y2, y3⟩ := x2 z
          by_cases hb : tb (D 4 (L t)) (L p) = true
          · rw [if_pos hb]
            refine ⟨by omega, fun q' q0 q1 w => ?_, ?_⟩
            · by_cases hq : q' = t
              · omega
              · have := y2 q' q0 (by omega) w; omega
            · by_cases hmx : m (g + 16) (L p) ≤ t
              · exact Or.inr ⟨t, t0, by omega, hb, by omega⟩
              · rcases y3 with y | ⟨q', q0, q1, w1, w2⟩
                · exact Or.inl (by omega)
                · exact Or.inr ⟨q', q0, by omega, w1, by omega⟩
          · rw [if_neg hb]
            refine ⟨y1, fun q' q0 q1 w => ?_, ?_⟩
            · by_cases hq : q' = t
              · subst hq; exact absurd w hb
              · exact y2 q' q0 (by omega) w
            · rcases y3 with y | ⟨q', q0, q1, w1, w2⟩
              · exact Or.inl y
              · exact Or.inr ⟨q', q0, by omega, w1, w2⟩
  · exact ⟨Int.le_refl _, by omega, fun b _ => rfl, fun p a b => by dsimp only at b; omega⟩
/-! the reference's -/
def ML (M : Mem) (L : Int → Int) (c : Int) : Prop := M 132 41 = c ∧ ∀ p, 0 ≤ p → p < c → M 162 p = L p
set_option maxHeartbeats 4000000 in
set_option maxRecDepth 20000 in
theorem s_X12_lv_b1 {M D : Mem} {L : Int → Int} {c : Int} (hD : DW D) (hL : ML M L c) (hO : OrdV D L c) :
    ∃ r, lp fX12_lives_b1 (0, M) = some r ∧ (∀ b, b ≠ 163 → r b = M b) ∧ ∀ p, 0 ≤ p → p < c → r 163 (L p) = p := by
  have n1 := hD.2.1
  have pb := pc_bd (D 0 1)
  have hc := hO.1
  refine lp_ind (fun s : Int × Mem => 0 ≤ s.1 ∧ s.1 ≤ c ∧ (∀ b, b ≠ 163 → s.2 b = M b) ∧ ∀ p, 0 ≤ p → p < s.1 → s.2 163 (L p) = p) (fun r : Mem => (∀ b, b ≠ 163 → r b = M b) ∧ ∀ p, 0 ≤ p → p < c → r 163 (L p) = p) (fun s => (c - s.1).toNat) ?_ _ ?_
  · rintro ⟨t, m⟩ ⟨t0, t1, hfr, hP⟩
    dsimp only at t0 t1 hfr hP
    unfold fX12_lives_b1
    have h41 : m 132 41 = c := by rw [hfr _ (by omega)]; exact hL.1
    simp only [h41]
    by_cases ht : c ≤ t
    · have : t = c := by omega
      subst this
      rw [if_pos ht]
      exact Or.inr ⟨m, rfl, hfr, hP⟩
    · rw [if_neg ht]
      have q := hO.2.1 t t0 (by omega)
      have h162 : m 162 t = L t := by rw [hfr _ (by omega)]; exact hL.2 t t0 (by omega)
      simp (disch := omega) only [LD, ob, h162, ST, w32_id]
      refine Or.inl ⟨_, rfl, ⟨by dsimp only; omega, by dsimp only; omega, fun b b1 => by simp (disch := omega) only [wr_ne, hfr], fun p a b => ?_⟩, by dsimp only; omega⟩
      dsimp only at b ⊢
      simp only [wr_at]
      by_cases hpt : p = t
      · subst hpt; rw [if_pos rfl]
      · rw [if_neg (fun z => hpt (L_inj hO a (by omega) t0 (by omega) z))]
        exact hP p a (by omega)
  · exact ⟨Int.le_refl _, by omega, fun b _ => rfl, fun p a b => by dsimp only at b; omega⟩
set_option maxHeartbeats 4000000 in
set_option maxRecDepth 20000 in
theorem s_X12_lv_b3 {m D : Mem} {L : Int → Int} {c v : Int} (hD : DW D) (hM : MD m D) (hO : OrdV D L c) (hP : ∀ p, 0 ≤ p → p < c → m 163 (L p) = p) (h0 : 0 ≤ v) (h1 : v < D 0 0) :
    ∃ r, lp (fX12_lives_b3 v) (0, m) = some r ∧ (∀ b, b ≠ 164 → r b = m b) ∧ (∀ w, w ≠ v → r 164 w = m 164 w) ∧ m 164 v ≤ r 164 v ∧ (∀ q, 0 ≤ q → q < c → tb (D 4 (L q)) v = true → q ≤ r 164 v) ∧ (r 164 v = m 164 v ∨ ∃ q, 0 ≤ q ∧ q < c ∧ tb (D 4 (L q)) v = true ∧ r 164 v = q) := by
  have n0 := hD.1
  have n1 := hD.2.1
  have hUv := (hD.2.2.2.2.2.2.2.2 v h0 h1).2.2.2.2.1.2
  refine lp_ind (fun s : Int × Mem => 0 ≤ s.1 ∧ s.1 ≤ D 0 0 ∧ (∀ b, b ≠ 164 → s.2 b = m b) ∧ (∀ w, w ≠ v → s.2 164 w = m 164 w) ∧ m 164 v ≤ s.2 164 v ∧ (∀ q, 0 ≤ q → q < c → L q < s.1 → tb (D 4 (L q)) v = true → q ≤ s.2 164 v) ∧ (s.2 164 v = m 164 v ∨ ∃ q, 0 ≤ q ∧ q < c ∧ tb (D 4 (L q)) v = true ∧ s.2 164 v = q))
    (fun r : Mem => (∀ b, b ≠ 164 → r b = m b) ∧ (∀ w, w ≠ v → r 164 w = m 164 w) ∧ m 164 v ≤ r 164 v ∧ (∀ q, 0 ≤ q → q < c → tb (D 4 (L q)) v = true → q ≤ r 164 v) ∧ (r 164 v = m 164 v ∨ ∃ q, 0 ≤ q ∧ q < c ∧ tb (D 4 (L q)) v = true ∧ r 164 v = q)) (fun s => (D 0 0 - s.1).toNat) ?_ _ ?_
  · rintro ⟨u, k⟩ ⟨u0, u1, hfr, hw, hge, hq, hex⟩
    dsimp only at u0 u1 hfr hw hge hq hex
    unfold fX12_lives_b3
    have e8 : k 138 8 = D 0 0 := by rw [hfr 138 (by omega)]; exact hM.1
    have e160 : k 160 v = D 5 v := by rw [hfr 160 (by omega)]; exact (hM.2.2.2.2.2 v h0 h1).2.2.2.2.1
    have e163 : k 163 = m 163 := hfr 163 (by omega)
    simp only [s_X12_values, ob, e8]
    by_cases hu : D 0 0 ≤ u
    · rw [if_pos hu]
      exact Or.inr ⟨k, rfl, hfr, hw, hge, fun q a b z => hq q a b (by have := hO.2.1 q a b; omega) z, hex⟩
    · rw [if_neg hu]
      simp (disch := omega) only [LD, ob, e160, s_X12_has, e163]
      have hmem := hUv u u0 (by omega)
      by_cases hb : tb (D 5 v) u = true
      · obtain ⟨z1, z2, z3⟩ := hmem.mp hb
        obtain ⟨q, q0, q1, e⟩ := hO.2.2.2.1 u u0 z1 z2
        have e3 : m 163 u = q := by rw [← e]; exact hP q q0 q1
        have e4 : ((if (if tb (D 5 v) u = true then (1 : Int) else 0) = 0 then some (k 164 v) else if m 163 u ≤ k 164 v then some (k 164 v) else some (m 163 u) : Option Int)) = some (max (k 164 v) q) := by
          rw [e3]
          by_cases h : q ≤ k 164 v
          · simp only [Nat.reduceAdd, reduceIte, Int.reduceEq, Int.reduceLT, Int.reduceLE, Int.reduceNeg, Int.reduceAdd, Int.reduceSub, Int.reduceMul, Int.reduceNe, or_true, true_or, or_false, false_or, or_self, and_true, true_and, and_false, false_and, and_self, not_true_eq_false, not_false_eq_true, ne_eq, Bool.false_eq_true, Bool.true_eq_false, decide_true, decide_false, hb, h]; congr 1; omega
          · simp only [Nat.reduceAdd, reduceIte, Int.reduceEq, Int.reduceLT, Int.reduceLE, Int.reduceNeg, Int.reduceAdd, Int.reduceSub, Int.reduceMul, Int.reduceNe, or_true, true_or, or_false, false_or, or_self, and_true, true_and, and_false, false_and, and_self, not_true_eq_false, not_false_eq_true, ne_eq, Bool.false_eq_true, Bool.true_eq_false, decide_true, decide_false, hb, h]; congr 1; omega
        simp (disch := omega) only [e4, ob, ST, w32_id]
        refine Or.inl ⟨_, rfl, ⟨by dsimp only; omega, by dsimp only; omega, fun b b1 => by simp (disch := omega) only [wr_ne, hfr], fun w a => by simp (disch := omega) only [wr_at, if_neg, hw], ?_, fun q' a b z1' z2' => ?_, ?_⟩, by dsimp only; omega⟩
        · simp only [wr_at, if_true]; omega
        · simp only [wr_at, if_true]
          dsimp only at z1'
          by_cases hqq : q' = q
          · omega
          · have hne : L q' ≠ u := fun z => hqq (L_inj hO a b q0 q1 (by rw [z, e]))
            have := hq q' a b (by omega) z2'
            omega
        · simp only [wr_at, if_true]
          by_cases h : q ≤ k 164 v
          · have : max (k 164 v) q = k 164 v := by omega
            rw [this]; exact hex
          · exact Or.inr ⟨q, q0, q1, by rw [e]; exact z3, by omega⟩
      · simp (disch := omega) only [Nat.reduceAdd, reduceIte, Int.reduceEq, Int.reduceLT, Int.reduceLE, Int.reduceNeg, Int.reduceAdd, Int.reduceSub, Int.reduceMul, Int.reduceNe, or_true, true_or, or_false, false_or, or_self, and_true, true_and, and_false, false_and, and_self, not_true_eq_false, not_false_eq_true, ne_eq, Bool.false_eq_true, Bool.true_eq_false, decide_true, decide_false, hb, ob, ST, w32_id]
        refine Or.inl ⟨_, rfl, ⟨by dsimp only; omega, by dsimp only; omega, fun b b1 => by simp (disch := omega) only [wr_ne, hfr], fun w a => by simp (disch := omega) only [wr_at, if_neg, hw], ?_, fun q' a b z1' z2' => ?_, ?_⟩, by dsimp only; omega⟩
        · simp only [wr_at, if_true]; exact hge
        · simp only [wr_at, if_true]
          dsimp only at z1'
          have qq := hO.2.1 q' a b
          have hne : L q' ≠ u := fun z => hb (hmem.mpr (by rw [← z]; exact ⟨qq.2.1, qq.2.2, z2'⟩))
          exact hq q' a b (by omega) z2'
        · simp only [wr_at, if_true]; exact hex
  · exact ⟨Int.le_refl _, n0, fun b _ => rfl, fun w _ => rfl, Int.le_refl _, fun q a b z => by have := hO.2.1 q a b; dsimp only at z; omega, Or.inl rfl⟩
set_option maxHeartbeats 4000000 in
set_option maxRecDepth 20000 in
theorem s_X12_lv_b2 {M D : Mem} {L : Int → Int} {c : Int} (hD : DW D) (hM : MD M D) (hL : ML M L c) (hO : OrdV D L c) (hP : ∀ p, 0 ≤ p → p < c → M 163 (L p) = p) :
    ∃ r, lp fX12_lives_b2 (0, M) = some r ∧ (∀ b, b ≠ 164 → r b = M b) ∧ EndOK D L c (r 164) := by
  have n1 := hD.2.1
  have pb := pc_bd (D 0 1)
  have hc := hO.1
  refine lp_ind (fun s : Int × Mem => 0 ≤ s.1 ∧ s.1 ≤ c ∧ (∀ b, b ≠ 164 → s.2 b = M b) ∧ ∀ p, 0 ≤ p → p < s.1 → (tb (D 0 2) (L p) = true → s.2 164 (L p) = c) ∧ (tb (D 0 2) (L p) = false → p ≤ s.2 164 (L p) ∧ (∀ q, 0 ≤ q → q < c → tb (D 4 (L q)) (L p) = true → q ≤ s.2 164 (L p)) ∧ (s.2 164 (L p) = p ∨ ∃ q, 0 ≤ q ∧ q < c ∧ tb (D 4 (L q)) (L p) = true ∧ s.2 164 (L p) = q)))
    (fun r : Mem => (∀ b, b ≠ 164 → r b = M b) ∧ EndOK D L c (r 164)) (fun s => (c - s.1).toNat) ?_ _ ?_
  · rintro ⟨t, m⟩ ⟨t0, t1, hfr, hE⟩
    dsimp only at t0 t1 hfr hE
    unfold fX12_lives_b2
    have h41 : m 132 41 = c := by rw [hfr _ (by omega)]; exact hL.1
    have h39 : m 132 39 = D 0 2 := by rw [hfr _ (by omega)]; exact hM.2.2.1
    simp only [h41]
    by_cases ht : c ≤ t
    · have : t = c := by omega
      subst this
      rw [if_pos ht]
      exact Or.inr ⟨m, rfl, hfr, hE⟩
    · rw [if_neg ht]
      have q := hO.2.1 t t0 (by omega)
      have h162 : m 162 t = L t := by rw [hfr _ (by omega)]; exact hL.2 t t0 (by omega)
      have hq8 : ((if (if tb (D 0 2) (L t) = true then (1 : Int) else 0) = 0 then some t else some c : Option Int)) = some (if tb (D 0 2) (L t) = true then c else t) := by
        cases tb (D 0 2) (L t) <;> simp only [Nat.reduceAdd, reduceIte, Int.reduceEq, Int.reduceLT, Int.reduceLE, Int.reduceNeg, Int.reduceAdd, Int.reduceSub, Int.reduceMul, Int.reduceNe, or_true, true_or, or_false, false_or, or_self, and_true, true_and, and_false, false_and, and_self, not_true_eq_false, not_false_eq_true, ne_eq, Bool.false_eq_true, Bool.true_eq_false, decide_true, decide_false]
      simp (disch := omega) only [LD, ob, h162, h39, s_X12_has, h41, hq8, ST]
      generalize hX : (if tb (D 0 2) (L t) = true then c else t : Int) = X
      obtain ⟨r, f, fr, frw, rge, rq, rex⟩ := s_X12_lv_b3 (m := wr m 164 (L t) X) (v := L t) hD (MD_fr hM ⟨fun b b1 b2 => by simp (disch := omega) only [wr_ne, hfr], fun k _ _ _ => by simp (disch := omega) only [wr_ne, hfr]⟩) hO (fun p a b => by simp (disch := omega) only [wr_ne, hfr]; exact hP p a b) q.1 q.2.1
      simp (disch := omega) only [f, ob, w32_id]
      refine Or.inl ⟨_, rfl, ⟨by dsimp only; omega, by dsimp only; omega, fun b b1 => by dsimp only; rw [fr b b1]; simp (disch := omega) only [wr_ne, hfr], fun p a b => ?_⟩, by dsimp only; omega⟩
      dsimp only at b ⊢
      by_cases hpt : p = t
      · subst hpt
        simp only [wr_at, if_true] at rge rex
        refine ⟨fun z => ?_, fun z => ?_⟩
        · rw [if_pos z] at hX
          rcases rex with y | ⟨q', q0, q1, w1, w2⟩ <;> omega
        · rw [z, if_neg (by decide)] at hX
          refine ⟨by omega, rq, ?_⟩
          rcases rex with y | y
          · exact Or.inl (by omega)
          · exact Or.inr y
      · have ne : L p ≠ L t := fun z => hpt (L_inj hO a (by omega) t0 (by omega) z)
        have hr := frw (L p) ne
        simp only [wr_at, if_neg ne] at hr
        rw [hr]
        exact hE p a (by omega)
  · exact ⟨Int.le_refl _, by omega, fun b _ => rfl, fun p a b => by dsimp only at b; omega⟩
