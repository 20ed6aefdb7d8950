/-! GATHERED: those needed, by rank -/
def rk (N v : Int) : Int := sm (fun i => if tb N i = true then 1 else 0) v.toNat
theorem rk_s {N v : Int} (h : 0 ≤ v) : rk N (v + 1) = rk N v + if tb N v = true then 1 else 0 := sm_s h
theorem rk_0 (N : Int) : rk N 0 = 0 := rfl
theorem rk_mono {N : Int} : ∀ (k : Nat) {v : Int}, 0 ≤ v → rk N v ≤ rk N (v + k) := by
  intro k
  induction k with
  | zero => intro v h; rw [show v + ((0 : Nat) : Int) = v by omega]; exact Int.le_refl _
  | succ k ih =>
    intro v h
    have := ih h
    rw [show v + ((k + 1 : Nat) : Int) = v + (k : Int) + 1 by omega, rk_s (by omega)]
    split <;> omega
theorem rk_le {N v w : Int} (h0 : 0 ≤ v) (h : v ≤ w) : rk N v ≤ rk N w := by
  have := rk_mono (N := N) (w - v).toNat h0
  rw [show v + (((w - v).toNat : Nat) : Int) = w by omega] at this
  exact this
theorem rk_pos (N v : Int) (h : 0 ≤ v) : 0 ≤ rk N v := by
  have := rk_le (N := N) (Int.le_refl 0) h
  rw [rk_0] at this; exact this
theorem rk_pc (N : Int) : rk N 64 = pc N := rfl
theorem rk_lt {N v : Int} (h0 : 0 ≤ v) (h1 : v < 64) (h : tb N v = true) : rk N v < pc N := by
  have a := rk_s (N := N) h0
  rw [if_pos h] at a
  have b := rk_le (N := N) (v := v + 1) (w := 64) (by omega) (by omega)
  rw [rk_pc] at b
  omega
theorem rk_inj {N v w : Int} (h0 : 0 ≤ v) (h1 : v < w) (hv : tb N v = true) : rk N v < rk N w := by
  have a := rk_s (N := N) h0
  rw [if_pos hv] at a
  have b := rk_le (N := N) (v := v + 1) (w := w) (by omega) (by omega)
  omega
/-- all below v that are needed are gathered -/
def Gat (N v : Int) (mem : Int → Int) : Prop := (∀ u, 0 ≤ u → u < v → tb N u = true → mem (rk N u) = u) ∧ ∀ k, 0 ≤ k → k < rk N v → 0 ≤ mem k ∧ mem k < v ∧ tb N (mem k) = true ∧ rk N (mem k) = k
theorem Gat_s {N v : Int} {mem mem' : Int → Int} (h0 : 0 ≤ v) (hN : tb N v = true) (h : Gat N v mem) (e : ∀ k, mem' k = if k = rk N v then v else mem k) : Gat N (v + 1) mem' := by
  refine ⟨fun u u0 u1 hu => ?_, fun k k0 k1 => ?_⟩
  · rw [e]
    by_cases z : u = v
    · rw [z, if_pos rfl]
    · have := rk_inj u0 (show u < v by omega) hu
      rw [if_neg (by omega)]
      exact h.1 u u0 (by omega) hu
  · rw [rk_s h0, if_pos hN] at k1
    rw [e]
    by_cases z : k = rk N v
    · rw [if_pos z]; exact ⟨h0, by omega, hN, z.symm⟩
    · rw [if_neg z]
      obtain ⟨a, b, c, d⟩ := h.2 k k0 (by omega)
      exact ⟨a, by omega, c, d⟩
theorem Gat_n {N v : Int} {mem : Int → Int} (h0 : 0 ≤ v) (hN : ¬ tb N v = true) (h : Gat N v mem) : Gat N (v + 1) mem := by
  refine ⟨fun u u0 u1 hu => ?_, fun k k0 k1 => ?_⟩
  · by_cases z : u = v
    · rw [z] at hu; exact absurd hu hN
    · exact h.1 u u0 (by omega) hu
  · rw [rk_s h0, if_neg hN] at k1
    obtain ⟨a, b, c, d⟩ := h.2 k k0 (by omega)
    exact ⟨a, by omega, c, d⟩
theorem Gat_0 (N : Int) (mem : Int → Int) : Gat N 0 mem := ⟨fun u a b => by omega, fun k a b => by rw [rk_0] at b; omega⟩
/-- none is needed behind: all are gathered -/
theorem Gat_all {N v : Int} {mem : Int → Int} (h0 : 0 ≤ v) (h1 : v ≤ 64) (h : Gat N v mem) (hn : ∀ u, v ≤ u → u < 64 → tb N u = false) : Gat N 64 mem ∧ rk N v = pc N := by
  have key : ∀ (k : Nat), v + k ≤ 64 → rk N (v + k) = rk N v := by
    intro k
    induction k with
    | zero => intro _; rw [show v + ((0 : Nat) : Int) = v by omega]
    | succ k ih =>
      intro hk
      rw [show v + ((k + 1 : Nat) : Int) = v + (k : Int) + 1 by omega, rk_s (by omega), hn (v + (k : Int)) (by omega) (by omega), ih (by omega)]
      simp
  have e := key (64 - v).toNat (by omega)
  rw [show v + (((64 - v).toNat : Nat) : Int) = 64 by omega] at e
  rw [rk_pc] at e
  refine ⟨⟨fun u u0 u1 hu => ?_, fun k k0 k1 => ?_⟩, e.symm⟩
  · by_cases z : u < v
    · exact h.1 u u0 z hu
    · rw [hn u (by omega) u1] at hu; cases hu
  · rw [rk_pc, e] at k1
    obtain ⟨a, b, c, d⟩ := h.2 k k0 k1
    exact ⟨a, by omega, c, d⟩
theorem Gat_full {N v : Int} (h0 : 0 ≤ v) (h1 : v ≤ 64) (h : pc N ≤ rk N v) : ∀ u, v ≤ u → u < 64 → tb N u = false := by
  intro u a b
  by_cases z : tb N u = true
  · have := rk_lt (by omega) b z
    have := rk_le (N := N) h0 a
    omega
  · simpa using z
theorem Gat_uniq {N : Int} {mem mem' : Int → Int} (h : Gat N 64 mem) (h' : Gat N 64 mem') : ∀ k, 0 ≤ k → k < pc N → mem' k = mem k := by
  intro k k0 k1
  obtain ⟨a, b, c, d⟩ := h.2 k k0 (by rw [rk_pc]; exact k1)
  have := h'.1 _ a b c
  rw [d] at this
  exact this
set_option maxHeartbeats 4000000 in
set_option maxRecDepth 20000 in
theorem s_X1_gb1 {M D : Mem} (hD : DW D) (hC : CV 62 M D) (hp : pc (D 0 1) ≤ 12) (h7 : M 114 7 = 0) : ∃ r, lp fX1_gather_b1 (0, M) = some r ∧ (∀ b, b ≠ 114 → b ≠ 116 → r b = M b) ∧ r 114 7 = pc (D 0 1) ∧ Gat (D 0 1) 64 (r 116) := by
  have n0 := hD.1
  have n1 := hD.2.1
  have hN := hD.2.2.2.2.1
  have c1 := hC.1
  have c2 := hC.2.1
  simp only [Nat.reduceAdd] at c2
  refine lp_ind (fun s : Int × Mem => 0 ≤ s.1 ∧ s.1 ≤ D 0 0 ∧ (∀ b, b ≠ 114 → b ≠ 116 → s.2 b = M b) ∧ s.2 114 7 = rk (D 0 1) s.1 ∧ Gat (D 0 1) s.1 (s.2 116)) (fun r : Mem => (∀ b, b ≠ 114 → b ≠ 116 → r b = M b) ∧ r 114 7 = pc (D 0 1) ∧ Gat (D 0 1) 64 (r 116)) (fun s => (D 0 0 - s.1).toNat) ?_ _ ?_
  · rintro ⟨v, q⟩ ⟨v0, v1, hfr, h7', hG⟩
    dsimp only at v0 v1 hfr h7' hG
    unfold fX1_gather_b1
    dsimp only
    have e44 : q 44 0 = D 0 0 := by rw [hfr 44 (by omega) (by omega)]; exact c1
    simp only [e44, h7']
    have done : (∀ u, v ≤ u → u < 64 → tb (D 0 1) u = false) → (∀ b, b ≠ 114 → b ≠ 116 → q b = M b) ∧ q 114 7 = pc (D 0 1) ∧ Gat (D 0 1) 64 (q 116) := fun z => by
      have := Gat_all v0 (by omega) hG z
      exact ⟨hfr, by rw [h7', this.2], this.1⟩
    by_cases hv : D 0 0 ≤ v
    · rw [if_pos hv]
      refine Or.inr ⟨q, rfl, done (fun u a b => ?_)⟩
      by_cases z : tb (D 0 1) u = true
      · have := hN u (by omega) b z; omega
      · simpa using z
    · rw [if_neg hv]
      by_cases h12 : 12 ≤ rk (D 0 1) v
      · rw [if_pos h12]
        exact Or.inr ⟨q, rfl, done (Gat_full v0 (by omega) (by omega))⟩
      · rw [if_neg h12, s_X5_isNeeded v0 (by omega), ob]
        simp only [Nat.reduceAdd]
        rw [hfr 66 (by omega) (by omega), c2]
        have rp := rk_pos (D 0 1) v v0
        by_cases z : tb (D 0 1) v = true
        · simp only [z, if_true]
          rw [if_neg (show ¬ (1 : Int) = 0 by decide), h7', st116 _ _ _ rp (by omega), ob, pI_ok, ob, ob]
          have e7 : wr q 116 (rk (D 0 1) v) v 114 7 = rk (D 0 1) v := by rw [wr_ne (by omega), h7']
          rw [e7, w32_id (by omega) (by omega), w32_id (by omega) (by omega)]
          refine Or.inl ⟨_, rfl, ⟨by dsimp only; omega, by dsimp only; omega, fun b b1 b2 => by dsimp only; rw [wr_ne b1, wr_ne b2, hfr b b1 b2], ?_, Gat_s v0 z hG (fun k => ?_)⟩, by dsimp only; omega⟩
          · dsimp only; rw [wr_at, if_pos rfl, rk_s v0, if_pos z]
          · dsimp only; rw [wr_ne (by omega), wr_at]
        · simp only [z, Nat.reduceAdd, reduceIte, Int.reduceEq, Int.reduceLT, Int.reduceLE, Int.reduceNeg, Int.reduceAdd, Int.reduceSub, Int.reduceMul, Int.reduceNe, or_true, true_or, or_false, false_or, or_self, and_true, true_and, and_false, false_and, and_self, not_true_eq_false, not_false_eq_true, ne_eq, Bool.false_eq_true, Bool.true_eq_false, decide_true, decide_false, ob]
          rw [w32_id (by omega) (by omega)]
          refine Or.inl ⟨_, rfl, ⟨by dsimp only; omega, by dsimp only; omega, hfr, ?_, Gat_n v0 z hG⟩, by dsimp only; omega⟩
          dsimp only; rw [h7', rk_s v0, if_neg z]; omega
  · exact ⟨Int.le_refl _, n0, fun b _ _ => rfl, by dsimp only; rw [h7, rk_0], Gat_0 _ _⟩
/-- a set of values as one of few -/
def AsS (m : Int) (mem : Int → Int) (b s : Int) : Prop := i32 s ∧ ∀ j, 0 ≤ j → j < 32 → (t3 s j = true ↔ j < m ∧ tb b (mem j) = true)
set_option maxHeartbeats 4000000 in
set_option maxRecDepth 20000 in
theorem s_X1_asSet {M : Mem} {b m : Int} (h7 : M 114 7 = m) (m0 : 0 ≤ m) (m1 : m ≤ 12) (hm : ∀ k, 0 ≤ k → k < m → 0 ≤ M 116 k ∧ M 116 k < 64) : ∃ s, fX1_asSet b M = some (s, M) ∧ AsS m (M 116) b s := by
  unfold fX1_asSet
  have L : ∃ r, lp (fX1_asSet_b1 M b) (0, 0) = some r ∧ AsS m (M 116) b r := by
    refine lp_ind (fun s : Int × Int => 0 ≤ s.2 ∧ s.2 ≤ m ∧ AsS s.2 (M 116) b s.1) (fun r : Int => AsS m (M 116) b r) (fun s => (m - s.2).toNat) ?_ _ ?_
    · rintro ⟨x, k⟩ ⟨k0, k1, hx, hk⟩
      dsimp only at k0 k1 hx hk
      unfold fX1_asSet_b1
      dsimp only
      simp only [h7]
      by_cases hkm : m ≤ k
      · rw [if_pos hkm]
        have : k = m := by omega
        subst this
        exact Or.inr ⟨x, rfl, hx, hk⟩
      · have q := hm k k0 (by omega)
        rw [if_neg hkm, ld116 _ _ k0 (by omega), ob]
        by_cases z : tb b (M 116 k) = true
        · rw [if_neg (fun y => by rw [hasU0 q.1 q.2, z] at y; cases y), ob, ob, w32_id (by omega) (by omega)]
          refine Or.inl ⟨_, rfl, ⟨by dsimp only; omega, by dsimp only; omega, i32_of _, fun j j0 j1 => ?_⟩, by dsimp only; omega⟩
          dsimp only
          rw [t3_ior, t3_shl1 k0 (by omega) j0 j1, Bool.or_eq_true, hk j j0 j1, decide_eq_true_iff]
          constructor
          · rintro (y | y)
            · exact ⟨by omega, y.2⟩
            · rw [y]; exact ⟨by omega, z⟩
          · intro y
            by_cases e : j = k
            · exact Or.inr e
            · exact Or.inl ⟨by omega, y.2⟩
        · rw [if_pos ((hasU0 q.1 q.2).mpr (by simpa using z)), ob, w32_id (by omega) (by omega)]
          refine Or.inl ⟨_, rfl, ⟨by dsimp only; omega, by dsimp only; omega, hx, fun j j0 j1 => ?_⟩, by dsimp only; omega⟩
          dsimp only
          rw [hk j j0 j1]
          constructor
          · rintro y; exact ⟨by omega, y.2⟩
          · intro y
            refine ⟨?_, y.2⟩
            by_cases e : j = k
            · rw [e] at y; exact absurd y.2 z
            · omega
    · refine ⟨Int.le_refl _, m0, i32_0, fun j j0 j1 => ?_⟩
      dsimp only
      rw [t3_0]
      constructor
      · intro z; cases z
      · intro z; omega
  obtain ⟨r, f, hr⟩ := L
  exact ⟨r, by rw [f, ob], hr⟩
/-- the class's gathered few -/
def Few (M D : Mem) (m : Int) : Prop := M 114 7 = m ∧ Gat (D 0 1) 64 (M 116) ∧ ∀ k, 0 ≤ k → k < m → AsS m (M 116) (D 4 (M 116 k)) (M 117 k) ∧ AsS m (M 116) (D 5 (M 116 k)) (M 118 k)
set_option maxHeartbeats 4000000 in
set_option maxRecDepth 20000 in
theorem s_X1_gather {M D : Mem} (hD : DW D) (hC : CV 62 M D) (hp : pc (D 0 1) ≤ 12) : ∃ r, fX1_gather M = some r ∧ (∀ b, b ≠ 114 → b ≠ 116 → b ≠ 117 → b ≠ 118 → r b = M b) ∧ Few r D (pc (D 0 1)) := by
  have n1 := hD.2.1
  have pb := pc_bd (D 0 1)
  have hN := hD.2.2.2.2.1
  unfold fX1_gather
  rw [pI_ok, ob]
  obtain ⟨q, f, fr, q7, hG⟩ := s_X1_gb1 (M := wr M 114 7 0) hD (by
    unfold CV at hC ⊢
    simp only [Nat.reduceAdd] at hC ⊢
    simp (disch := omega) only [wr_ne]
    exact hC) hp (by rw [wr_at, if_pos rfl])
  rw [f, ob]
  have cv := hC.2.2.2
  simp only [Nat.reduceAdd] at cv
  generalize hm : pc (D 0 1) = m at *
  have mb : ∀ k, 0 ≤ k → k < m → 0 ≤ q 116 k ∧ q 116 k < D 0 0 := fun k a b => by
    obtain ⟨x, y, z, -⟩ := hG.2 k a (by rw [rk_pc, hm]; exact b)
    exact ⟨x, hN _ x y z⟩
  have qf : ∀ b, b ≠ 114 → b ≠ 116 → q b = M b := fun b b1 b2 => by rw [fr b b1 b2, wr_ne b1]
  have L : ∃ r, lp fX1_gather_b2 (0, q) = some r ∧ (∀ b, b ≠ 117 → b ≠ 118 → r b = q b) ∧ ∀ k, 0 ≤ k → k < m → AsS m (q 116) (D 4 (q 116 k)) (r 117 k) ∧ AsS m (q 116) (D 5 (q 116 k)) (r 118 k) := by
    refine lp_ind (fun s : Int × Mem => 0 ≤ s.1 ∧ s.1 ≤ m ∧ (∀ b, b ≠ 117 → b ≠ 118 → s.2 b = q b) ∧ ∀ k, 0 ≤ k → k < s.1 → AsS m (q 116) (D 4 (q 116 k)) (s.2 117 k) ∧ AsS m (q 116) (D 5 (q 116 k)) (s.2 118 k)) (fun r : Mem => (∀ b, b ≠ 117 → b ≠ 118 → r b = q b) ∧ ∀ k, 0 ≤ k → k < m → AsS m (q 116) (D 4 (q 116 k)) (r 117 k) ∧ AsS m (q 116) (D 5 (q 116 k)) (r 118 k)) (fun s => (m - s.1).toNat) ?_ _ ?_
    · rintro ⟨k, w⟩ ⟨k0, k1, hfr, hk⟩
      dsimp only at k0 k1 hfr hk
      unfold fX1_gather_b2
      dsimp only
      have e7 : w 114 7 = m := by rw [hfr 114 (by omega) (by omega)]; exact q7
      simp only [e7]
      by_cases hkm : m ≤ k
      · rw [if_pos hkm]
        have : k = m := by omega
        subst this
        exact Or.inr ⟨w, rfl, hfr, hk⟩
      · have b1 := mb k k0 (by omega)
        have y := cv _ b1.1 b1.2
        have w116 : w 116 = q 116 := hfr 116 (by omega) (by omega)
        obtain ⟨s1, e1, a1⟩ := s_X1_asSet (M := w) (b := D 4 (q 116 k)) (m := m) (by rw [hfr 114 (by omega) (by omega), q7]) pb.1 hp (fun j j0 j1 => by rw [w116]; have := mb j j0 j1; omega)
        rw [w116] at a1
        rw [if_neg hkm, ld116 _ _ k0 (by omega), ob, w116, ld70 _ _ b1.1 (by omega), ob, hfr 70 (by omega) (by omega), qf 70 (by omega) (by omega), y.2.2.2.1, e1, ob]
        dsimp only
        rw [st117 _ _ _ k0 (by omega), ob, ld116 _ _ k0 (by omega), ob, wr_ne (show (116 : Nat) ≠ 117 by omega), w116, ld71 _ _ b1.1 (by omega), ob, wr_ne (show (71 : Nat) ≠ 117 by omega), hfr 71 (by omega) (by omega), qf 71 (by omega) (by omega), y.2.2.2.2.1]
        obtain ⟨s2, e2, a2⟩ := s_X1_asSet (M := wr w 117 k s1) (b := D 5 (q 116 k)) (m := m) (by rw [wr_ne (by omega), hfr 114 (by omega) (by omega), q7]) pb.1 hp (fun j j0 j1 => by rw [wr_ne (by omega), w116]; have := mb j j0 j1; omega)
        rw [wr_ne (by omega), w116] at a2
        rw [e2, ob]
        dsimp only
        rw [st118 _ _ _ k0 (by omega), ob, w32_id (by omega) (by omega)]
        refine Or.inl ⟨_, rfl, ⟨by dsimp only; omega, by dsimp only; omega, fun b c1 c2 => by dsimp only; rw [wr_ne c2, wr_ne c1, hfr b c1 c2], fun j j0 j1 => ?_⟩, by dsimp only; omega⟩
        dsimp only at j1 ⊢
        rw [wr_ne (show (117 : Nat) ≠ 118 by omega), wr_at, wr_at, wr_ne (show (118 : Nat) ≠ 117 by omega)]
        by_cases e : j = k
        · rw [if_pos e, if_pos e, e]; exact ⟨a1, a2⟩
        · rw [if_neg e, if_neg e]; exact hk j j0 (by omega)
    · exact ⟨Int.le_refl _, pb.1, fun b _ _ => rfl, fun j a b => by dsimp only at b; omega⟩
  obtain ⟨r, g, gr, hr⟩ := L
  rw [g, ob]
  have r116 : r 116 = q 116 := gr 116 (by omega) (by omega)
  refine ⟨r, rfl, fun b c1 c2 c3 c4 => by rw [gr b c3 c4, qf b c1 c2], by rw [gr 114 (by omega) (by omega), q7], by rw [r116]; exact hG, ?_⟩
  rw [r116]
  exact hr
