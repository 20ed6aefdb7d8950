/-! ROADS to sets -/
def RdI (D : Mem) (mem us ss : Int → Int) (m T : Int) (R : Int → Int) : Prop := R 0 = 0 ∧ (∀ S, 0 ≤ S → S < W2 m → 0 ≤ R S ∧ R S ≤ 2147483647) ∧ (∀ S, 1 ≤ S → S < T → S < W2 m → ∀ P, 0 ≤ P → P < 2147483647 → (R S ≤ P ↔ lv D mem us m S ≤ P ∧ ∃ k, 0 ≤ k ∧ k < m ∧ t3 S k = true ∧ iand (ss k) (ixor (S - W2 k) (-1)) = 0 ∧ R (S - W2 k) ≤ P)) ∧ (∀ S, 1 ≤ S → T ≤ S → S < W2 m → ∀ P, 0 ≤ P → P < 2147483647 → (R S ≤ P ↔ ∃ k, 0 ≤ k ∧ k < m ∧ t3 S k = true ∧ S - W2 k < T ∧ iand (ss k) (ixor (S - W2 k) (-1)) = 0 ∧ R (S - W2 k) ≤ P))
theorem rd_skip {D : Mem} {mem us ss R : Int → Int} {m T : Int} (m0 : 0 ≤ m) (m1 : m ≤ 12) (h : RdI D mem us ss m T R) (T1 : 1 ≤ T) (T2 : T < W2 m) (hT : R T = 2147483647) : RdI D mem us ss m (T + 1) R := by
  obtain ⟨h0, hb, h1, h2⟩ := h
  have wm := W_bd m0 m1
  refine ⟨h0, hb, fun S S1 S2 S3 P P0 P1 => ?_, fun S S1 S2 S3 P P0 P1 => ?_⟩
  · by_cases e : S = T
    · subst e
      constructor
      · intro z; omega
      · rintro ⟨-, k, k0, k1, kb, ks, kr⟩
        have wk := W_bd k0 (by omega)
        exact (h2 S S1 (Int.le_refl _) S3 P P0 P1).mpr ⟨k, k0, k1, kb, by omega, ks, kr⟩
    · exact h1 S S1 (by omega) S3 P P0 P1
  · rw [h2 S S1 (by omega) S3 P P0 P1]
    constructor
    · rintro ⟨k, k0, k1, kb, kt, ks, kr⟩
      exact ⟨k, k0, k1, kb, by omega, ks, kr⟩
    · rintro ⟨k, k0, k1, kb, kt, ks, kr⟩
      by_cases e : S - W2 k = T
      · rw [e, hT] at kr; omega
      · exact ⟨k, k0, k1, kb, by omega, ks, kr⟩
theorem rd_go {D : Mem} {mem us ss R R' : Int → Int} {m T : Int} (m0 : 0 ≤ m) (m1 : m ≤ 12) (h : RdI D mem us ss m T R) (T1 : 0 ≤ T) (T2 : T < W2 m) (hl : 0 ≤ lv D mem us m T ∧ lv D mem us m T ≤ 24) (hT : R T ≠ 2147483647) (e1 : R' T = max (R T) (lv D mem us m T)) (e2 : ∀ k, 0 ≤ k → k < m → t3 T k = false → iand (ss k) (ixor T (-1)) = 0 → R' (T + W2 k) = min (R (T + W2 k)) (R' T)) (e3 : ∀ j, j ≠ T → (∀ k, 0 ≤ k → k < m → t3 T k = false → iand (ss k) (ixor T (-1)) = 0 → j ≠ T + W2 k) → R' j = R j) : RdI D mem us ss m (T + 1) R' := by
  obtain ⟨h0, hb, h1, h2⟩ := h
  have wm := W_bd m0 m1
  have lo : ∀ j, j < T → R' j = R j := fun j hj => e3 j (by omega) (fun k k0 k1 _ _ z => by have := W_bd k0 (by omega); omega)
  have bT := hb T T1 T2
  refine ⟨?_, fun S S0 S1 => ?_, fun S S1 S2 S3 P P0 P1 => ?_, fun S S1 S2 S3 P P0 P1 => ?_⟩
  · by_cases e : T = 0
    · subst e
      rw [e1, h0, lv_0]; rfl
    · rw [lo 0 (by omega), h0]
  · have bS := hb S S0 S1
    by_cases e : S = T
    · rw [e, e1]; omega
    · by_cases hit : ∃ k, 0 ≤ k ∧ k < m ∧ t3 T k = false ∧ iand (ss k) (ixor T (-1)) = 0 ∧ S = T + W2 k
      · obtain ⟨k, k0, k1, k2, k3, k4⟩ := hit
        have := e2 k k0 k1 k2 k3
        rw [← k4] at this
        rw [this, e1]; omega
      · rw [e3 S e (fun k k0 k1 k2 k3 k4 => hit ⟨k, k0, k1, k2, k3, k4⟩)]; exact bS
  · by_cases e : S = T
    · subst e
      rw [e1]
      have := h2 S S1 (Int.le_refl _) S3 P P0 P1
      constructor
      · intro z
        obtain ⟨k, k0, k1, kb, kt, ks, kr⟩ := this.mp (by omega)
        exact ⟨by omega, k, k0, k1, kb, ks, by rw [lo _ kt]; exact kr⟩
      · rintro ⟨z, k, k0, k1, kb, ks, kr⟩
        have wk := W_bd k0 (by omega)
        have := this.mpr ⟨k, k0, k1, kb, by omega, ks, by rw [lo _ (by omega)] at kr; exact kr⟩
        omega
    · rw [lo S (by omega), h1 S S1 (by omega) S3 P P0 P1]
      constructor
      · rintro ⟨z, k, k0, k1, kb, ks, kr⟩
        have wk := W_bd k0 (by omega)
        exact ⟨z, k, k0, k1, kb, ks, by rw [lo _ (by omega)]; exact kr⟩
      · rintro ⟨z, k, k0, k1, kb, ks, kr⟩
        have wk := W_bd k0 (by omega)
        exact ⟨z, k, k0, k1, kb, ks, by rw [lo _ (by omega)] at kr; exact kr⟩
  · have old := h2 S S1 (by omega) S3 P P0 P1
    have fwd : R S ≤ P → ∃ k, 0 ≤ k ∧ k < m ∧ t3 S k = true ∧ S - W2 k < T + 1 ∧ iand (ss k) (ixor (S - W2 k) (-1)) = 0 ∧ R' (S - W2 k) ≤ P := fun z => by
      obtain ⟨k, k0, k1, kb, kt, ks, kr⟩ := old.mp z
      exact ⟨k, k0, k1, kb, by omega, ks, by rw [lo _ kt]; exact kr⟩
    by_cases hit : ∃ k, 0 ≤ k ∧ k < m ∧ t3 T k = false ∧ iand (ss k) (ixor T (-1)) = 0 ∧ S = T + W2 k
    · obtain ⟨k, k0, k1, k2, k3, k4⟩ := hit
      have eS := e2 k k0 k1 k2 k3
      rw [← k4] at eS
      rw [eS]
      constructor
      · intro z
        by_cases y : R S ≤ P
        · exact fwd y
        · refine ⟨k, k0, k1, ?_, by omega, ?_, ?_⟩
          · rw [k4, set_add T1 (by omega) k0 (by omega) k2 k k0 (by omega), decide_eq_true rfl, Bool.or_true]
          · rw [show S - W2 k = T by omega]; exact k3
          · rw [show S - W2 k = T by omega]; omega
      · rintro ⟨i, i0, i1, ib, it, is, ir⟩
        by_cases y : S - W2 i = T
        · rw [y] at ir; omega
        · have := old.mpr ⟨i, i0, i1, ib, by omega, is, by rw [lo _ (by omega)] at ir; exact ir⟩
          omega
    · rw [e3 S (by omega) (fun k k0 k1 k2 k3 k4 => hit ⟨k, k0, k1, k2, k3, k4⟩)]
      constructor
      · exact fwd
      · rintro ⟨i, i0, i1, ib, it, is, ir⟩
        by_cases y : S - W2 i = T
        · have q := set_sub (S := S) (by omega) (by omega) i0 (by omega) ib
          rw [y] at q is
          exact absurd ⟨i, i0, i1, q.2.1, is, by omega⟩ hit
        · exact old.mpr ⟨i, i0, i1, ib, by omega, is, by rw [lo _ (by omega)] at ir; exact ir⟩
theorem rd_0 {D : Mem} {mem us ss R : Int → Int} {m : Int} (m0 : 0 ≤ m) (m1 : m ≤ 12) (h0 : R 0 = 0) (h : ∀ S, 1 ≤ S → S < W2 m → R S = 2147483647) : RdI D mem us ss m 0 R := by
  have wm := W_bd m0 m1
  refine ⟨h0, fun S S0 S1 => ?_, fun S S1 S2 => by omega, fun S S1 S2 S3 P P0 P1 => ?_⟩
  · by_cases e : S = 0
    · rw [e, h0]; omega
    · rw [h S (by omega) S1]; omega
  · rw [h S S1 S3]
    constructor
    · intro z; omega
    · rintro ⟨k, k0, k1, kb, kt, -⟩
      have := set_sub (S := S) (by omega) (by omega) k0 (by omega) kb
      omega
/-- those in the order of their numbers: all can be in an order -/
theorem rd_fin {D M : Mem} {R : Int → Int} {m : Int} (hD : DW D) (hF : Few M D m) (hm : m = pc (D 0 1)) (m1 : m ≤ 12) (h : RdI D (M 116) (M 118) (M 117) m (W2 m) R) : ∀ (k : Nat), (k : Int) ≤ m → R (W2 k - 1) ≤ 24 := by
  have m0 : 0 ≤ m := by rw [hm]; exact (pc_bd _).1
  have wm := W_bd m0 m1
  have mb := Few_mem hD hF hm
  intro k
  induction k with
  | zero =>
    intro _
    have : W2 ((0 : Nat) : Int) - 1 = 0 := by decide
    rw [this, h.1]; omega
  | succ k ih =>
    intro hk
    have i := ih (by omega)
    have w0 := W_bd (k := (k : Int)) (by omega) (by omega)
    have w1 := W_bd (k := ((k + 1 : Nat) : Int)) (by omega) (by omega)
    have ws : W2 ((k + 1 : Nat) : Int) = W2 (k : Int) + W2 (k : Int) := by
      unfold W2
      rw [Int.toNat_natCast, Int.toNat_natCast, Nat.pow_succ]
      omega
    have lt : W2 ((k + 1 : Nat) : Int) - 1 < W2 m := by
      by_cases e : ((k + 1 : Nat) : Int) = m
      · rw [e]; omega
      · rw [W_lt (by omega) (by omega) m0]
        intro j j0 j1
        rw [set_pre (by omega) (by omega) (by omega), decide_eq_false (by omega)]
    have lb := lv_bd (us := M 118) (S := W2 ((k + 1 : Nat) : Int) - 1) hD m0 m1 mb (k := m.toNat) (by omega)
    rw [h.2.2.1 _ (by omega) lt lt 24 (by omega) (by omega)]
    refine ⟨lb.2, (k : Int), by omega, by omega, ?_, ?_, ?_⟩
    · rw [set_pre (by omega) (by omega) (by omega)]; exact decide_eq_true (by omega)
    · rw [show W2 ((k + 1 : Nat) : Int) - 1 - W2 (k : Int) = W2 (k : Int) - 1 by omega, sub3]
      intro j j0 j1 hj
      obtain ⟨-, a⟩ := (hF.2.2 (k : Int) (by omega) (by omega)).1
      obtain ⟨b1, b2⟩ := (a j j0 j1).mp hj
      rw [set_pre (by omega) (by omega) j0]
      apply decide_eq_true
      have mk := mb (k : Int) (by omega) (by omega)
      have mj := mb j j0 b1
      have lt := ((hD.2.2.2.2.2.2.2.2 _ mk.1 mk.2).2.2.2.1.2 _ mj.1 (by have := hD.2.1; omega) b2).1
      obtain ⟨x1, x2, x3, x4⟩ := hF.2.1.2 (k : Int) (by omega) (by rw [rk_pc, ← hm]; omega)
      obtain ⟨y1, y2, y3, y4⟩ := hF.2.1.2 j j0 (by rw [rk_pc, ← hm]; exact b1)
      have := rk_inj mj.1 lt y3
      omega
    · rw [show W2 ((k + 1 : Nat) : Int) - 1 - W2 (k : Int) = W2 (k : Int) - 1 by omega]; exact i
/-! the class reckons -/
noncomputable def fX1_reckon_b1 (full : Int) (s : Int × Mem) : Option ((Int × Mem) ⊕ Mem) :=
  if full < s.1 then some (.inr s.2) else (stI s.2 115 s.1 2147483647).bind fun M1 => some (.inl (w32 (s.1 + 1), M1))
noncomputable def fX1_reckon_b2 (full : Int) (s : Int × Mem) : Option ((Int × Mem) ⊕ Mem) :=
  if full < s.1 then some (.inr s.2) else
    (ldI s.2 115 s.1).bind fun v1 =>
    ((if v1 = 2147483647 then some s.2 else
      (ldI s.2 115 s.1).bind fun v2 =>
      (fX1_living s.1 s.2).bind fun q3 =>
      (stI q3.2 115 s.1 (imax v2 q3.1)).bind fun M4 =>
      (fX1_goOn s.1 M4).bind fun q5 => some q5 : Option Mem)).bind fun q6 =>
    some (.inl (w32 (s.1 + 1), q6))
def mkR (M : Mem) (n : Int) : Mem := fun b j => if b = 115 then 0 else if b = 1000 ∧ j = 0 then n else M b j
noncomputable def fX1_reckon (M : Mem) : Option (Int × Mem) :=
  (fX1_gather M).bind fun q1 =>
  (some (if len q1 115 ≤ w32 (ishl 1 (q1 114 7) - 1) then mkR q1 (w32 (w32 (ishl 1 (q1 114 7) - 1) + 1)) else q1)).bind fun q2 =>
  (lp (fX1_reckon_b1 (w32 (ishl 1 (q1 114 7) - 1))) (0, q2)).bind fun q3 =>
  (stI q3 115 0 0).bind fun q4 =>
  (lp (fX1_reckon_b2 (w32 (ishl 1 (q1 114 7) - 1))) (0, q4)).bind fun q5 =>
  (ldI q5 115 (w32 (ishl 1 (q1 114 7) - 1))).bind fun v6 =>
  some (v6, q5)
theorem Few_fr {M M' D : Mem} {m : Int} (h : Few M D m) (e : ∀ b, b = 114 ∨ b = 116 ∨ b = 117 ∨ b = 118 → M' b = M b) : Few M' D m := by
  unfold Few
  rw [e 114 (by omega), e 116 (by omega), e 117 (by omega), e 118 (by omega)]
  exact h
theorem CV_fr2 {M M' D : Mem} (h : CV 62 M D) (e : ∀ b, 44 ≤ b → b ≤ 74 → M' b = M b) : CV 62 M' D := by
  unfold CV at h ⊢
  simp only [Nat.reduceAdd] at h ⊢
  rw [e 44 (by omega) (by omega), e 45 (by omega) (by omega), e 48 (by omega) (by omega), e 65 (by omega) (by omega), e 66 (by omega) (by omega), e 68 (by omega) (by omega), e 69 (by omega) (by omega), e 70 (by omega) (by omega), e 71 (by omega) (by omega), e 74 (by omega) (by omega)]
  exact h
set_option maxHeartbeats 4000000 in
set_option maxRecDepth 20000 in
theorem s_X1_reckon {M D : Mem} {m : Int} (hD : DW D) (hC : CV 62 M D) (hm : m = pc (D 0 1)) (m1 : m ≤ 12) : ∃ r, fX1_reckon M = some (r 115 (W2 m - 1), r) ∧ (∀ b, b ≠ 1000 → (b < 114 ∨ 118 < b) → r b = M b) ∧ Few r D m ∧ RdI D (r 116) (r 118) (r 117) m (W2 m) (r 115) := by
  have m0 : 0 ≤ m := by rw [hm]; exact (pc_bd _).1
  have wm := W_bd m0 m1
  obtain ⟨q1, f1, fr1, F1⟩ := s_X1_gather hD hC (by omega)
  rw [← hm] at F1
  unfold fX1_reckon
  rw [f1, ob, F1.1, W_shl m0 m1, w32_id (show -2147483648 ≤ W2 m - 1 by omega) (by omega), w32_id (show -2147483648 ≤ W2 m - 1 + 1 by omega) (by omega), ob]
  generalize hq2 : (if len q1 115 ≤ W2 m - 1 then mkR q1 (W2 m - 1 + 1) else q1) = q2
  have q2l : W2 m ≤ q2 1000 0 := by
    rw [← hq2]
    by_cases z : len q1 115 ≤ W2 m - 1
    · rw [if_pos z]
      unfold mkR
      rw [if_neg (by omega), if_pos ⟨rfl, rfl⟩]; omega
    · rw [if_neg z]
      have : len q1 115 = q1 1000 0 := by unfold len; rw [if_pos rfl]
      omega
  have q2f : ∀ b, b ≠ 115 → b ≠ 1000 → q2 b = q1 b := fun b b1 b2 => by
    rw [← hq2]
    split
    · funext j; unfold mkR; rw [if_neg b1, if_neg (fun z => b2 z.1)]
    · rfl
  have L1 : ∃ r, lp (fX1_reckon_b1 (W2 m - 1)) (0, q2) = some r ∧ (∀ b, b ≠ 115 → r b = q2 b) ∧ ∀ S, 0 ≤ S → S < W2 m → r 115 S = 2147483647 := by
    refine lp_ind (fun s : Int × Mem => 0 ≤ s.1 ∧ s.1 ≤ W2 m ∧ (∀ b, b ≠ 115 → s.2 b = q2 b) ∧ ∀ S, 0 ≤ S → S < s.1 → s.2 115 S = 2147483647) (fun r : Mem => (∀ b, b ≠ 115 → r b = q2 b) ∧ ∀ S, 0 ≤ S → S < W2 m → r 115 S = 2147483647) (fun s => (W2 m - s.1).toNat) ?_ _ ?_
    · rintro ⟨S, q⟩ ⟨S0, S1, hfr, hS⟩
      dsimp only at S0 S1 hfr hS
      unfold fX1_reckon_b1
      dsimp only
      by_cases z : W2 m - 1 < S
      · rw [if_pos z]
        exact Or.inr ⟨q, rfl, hfr, fun T a b => hS T a (by omega)⟩
      · rw [if_neg z, st115 _ _ _ S0 (by rw [hfr 1000 (by omega)]; omega), ob, w32_id (by omega) (by omega)]
        refine Or.inl ⟨_, rfl, ⟨by dsimp only; omega, by dsimp only; omega, fun b hb => by dsimp only; rw [wr_ne hb, hfr b hb], fun T a b => ?_⟩, by dsimp only; omega⟩
        dsimp only at b ⊢
        rw [wr_at]
        by_cases e : T = S
        · rw [if_pos e]
        · rw [if_neg e]; exact hS T a (by omega)
    · exact ⟨Int.le_refl _, by dsimp only; omega, fun b _ => rfl, fun T a b => by dsimp only at b; omega⟩
  obtain ⟨q3, f3, fr3, h3⟩ := L1
  rw [f3, ob, st115 _ _ _ (by omega) (by rw [fr3 1000 (by omega)]; omega), ob]
  have F4 : ∀ q : Mem, (∀ b, b ≠ 115 → q b = q2 b) → Few q D m ∧ CV 62 q D ∧ q 1000 0 = q2 1000 0 := fun q hq => ⟨Few_fr F1 (fun b hb => by rw [hq b (by omega), q2f b (by omega) (by omega)]), CV_fr2 hC (fun b b1 b2 => by rw [hq b (by omega), q2f b (by omega) (by omega), fr1 b (by omega) (by omega) (by omega) (by omega)]), by rw [hq 1000 (by omega)]⟩
  have fr4 : ∀ b, b ≠ 115 → wr q3 115 0 0 b = q2 b := fun b hb => by rw [wr_ne hb, fr3 b hb]
  have L2 : ∃ r, lp (fX1_reckon_b2 (W2 m - 1)) (0, wr q3 115 0 0) = some r ∧ (∀ b, b ≠ 115 → r b = q2 b) ∧ RdI D (q2 116) (q2 118) (q2 117) m (W2 m) (r 115) := by
    refine lp_ind (fun s : Int × Mem => 0 ≤ s.1 ∧ s.1 ≤ W2 m ∧ (∀ b, b ≠ 115 → s.2 b = q2 b) ∧ RdI D (q2 116) (q2 118) (q2 117) m s.1 (s.2 115)) (fun r : Mem => (∀ b, b ≠ 115 → r b = q2 b) ∧ RdI D (q2 116) (q2 118) (q2 117) m (W2 m) (r 115)) (fun s => (W2 m - s.1).toNat) ?_ _ ?_
    · rintro ⟨S, q⟩ ⟨S0, S1, hfr, hR⟩
      dsimp only at S0 S1 hfr hR
      obtain ⟨Fq, Cq, lq⟩ := F4 q hfr
      unfold fX1_reckon_b2
      dsimp only
      by_cases z : W2 m - 1 < S
      · rw [if_pos z]
        have : S = W2 m := by omega
        subst this
        exact Or.inr ⟨q, rfl, hfr, hR⟩
      · rw [if_neg z, ld115 _ _ S0 (by omega), ob, w32_id (by omega) (by omega)]
        by_cases hN : q 115 S = 2147483647
        · rw [if_pos hN, ob]
          have S1' : 1 ≤ S := by
            by_cases e : S = 0
            · rw [e, hR.1] at hN; omega
            · omega
          exact Or.inl ⟨_, rfl, ⟨by dsimp only; omega, by dsimp only; omega, hfr, rd_skip m0 m1 hR S1' (by omega) hN⟩, by dsimp only; omega⟩
        · rw [if_neg hN, ob, s_X1_living hD Cq Fq hm m1, ob]
          dsimp only
          rw [st115 _ _ _ S0 (by omega), ob, imax_eq]
          have mb := Few_mem hD Fq hm
          have lb := lv_bd (us := q 118) (S := S) hD m0 m1 mb (k := m.toNat) (by omega)
          generalize hX : max (q 115 S) (lv D (q 116) (q 118) m S) = X
          obtain ⟨r, f, fr, ha, hb⟩ := s_X1_goOn (M := wr q 115 S X) (S := S) (m := m) (by rw [wr_ne (by omega)]; exact Fq.1) m0 m1 S0 (by omega) (by rw [wr_ne (by omega)]; omega)
          rw [f, ob, ob]
          rw [wr_ne (show (117 : Nat) ≠ 115 by omega)] at ha hb
          have q116 : q 116 = q2 116 := hfr 116 (by omega)
          have q117 : q 117 = q2 117 := hfr 117 (by omega)
          have q118 : q 118 = q2 118 := hfr 118 (by omega)
          rw [q117] at ha hb
          rw [q116, q118] at hX lb
          refine Or.inl ⟨_, rfl, ⟨by dsimp only; omega, by dsimp only; omega, fun b hb' => by dsimp only; rw [fr b hb', wr_ne hb', hfr b hb'], ?_⟩, by dsimp only; omega⟩
          dsimp only
          have rS : r 115 S = X := by
            rw [hb S (fun k k0 k1 _ _ => by have := W_bd k0 (by omega); omega), wr_at, if_pos rfl]
          refine rd_go m0 m1 hR S0 (by omega) lb hN (by rw [rS, hX]) (fun k k0 k1 k2 k3 => ?_) (fun j j1 j2 => ?_)
          · have wk := W_bd k0 (by omega)
            rw [ha k k0 k1 k2 k3, wr_at, if_neg (by omega), wr_at, if_pos rfl, rS]
          · rw [hb j j2, wr_at, if_neg j1]
    · refine ⟨Int.le_refl _, by dsimp only; omega, fr4, ?_⟩
      dsimp only
      apply rd_0 m0 m1
      · rw [wr_at, if_pos rfl]
      · intro S S1 S2
        rw [wr_at, if_neg (by omega)]
        exact h3 S (by omega) S2
  obtain ⟨q5, f5, fr5, R5⟩ := L2
  obtain ⟨F5, C5, l5⟩ := F4 q5 fr5
  rw [f5, ob, ld115 _ _ (by omega) (by omega), ob]
  refine ⟨q5, rfl, fun b b1 b2 => ?_, F5, ?_⟩
  · rw [fr5 b (by omega), q2f b (by omega) b1, fr1 b (by omega) (by omega) (by omega) (by omega)]
  · rw [fr5 116 (by omega), fr5 117 (by omega), fr5 118 (by omega)]; exact R5
