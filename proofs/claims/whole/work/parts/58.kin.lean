/-! KIN, near and far -/
def sg (up k : Int) : Int := if up = 0 then 63 - k else k
theorem cl_in {n up : Int} {X C : Int → Int} (hn : n ≤ 64) (hX : ∀ v s, 0 ≤ v → v < n → 0 ≤ s → s < 64 → tb (X v) s = true → s < n ∧ sg up v < sg up s) (hC : ∀ v, 0 ≤ v → v < n → ∀ y, 0 ≤ y → y < 64 → (tb (C v) y = true ↔ ∃ s, 0 ≤ s ∧ s < 64 ∧ tb (X v) s = true ∧ (y = s ∨ tb (C s) y = true))) :
    ∀ (k : Nat) (v : Int), 63 - sg up v < k → 0 ≤ v → v < n → (∀ w, 0 ≤ w → w < 64 → tb (C v) w = true → w < n ∧ ∀ y, 0 ≤ y → y < 64 → tb (X w) y = true → tb (C v) y = true) := by
  intro k
  induction k with
  | zero => intro v a b c; exfalso; unfold sg at a; split at a <;> omega
  | succ k ih =>
    intro v a b c w w0 w1 hw
    obtain ⟨s, s0, s1, z1, z2⟩ := (hC v b c w w0 w1).mp hw
    have hs := hX v s b c s0 s1 z1
    rcases z2 with rfl | z2
    · refine ⟨hs.1, fun y y0 y1 hy => ?_⟩
      exact (hC v b c y y0 y1).mpr ⟨w, s0, s1, z1, Or.inr ((hC w s0 hs.1 y y0 y1).mpr ⟨y, y0, y1, hy, Or.inl rfl⟩)⟩
    · have := ih s (by omega) s0 hs.1 w w0 w1 z2
      refine ⟨this.1, fun y y0 y1 hy => ?_⟩
      exact (hC v b c y y0 y1).mpr ⟨s, s0, s1, z1, Or.inr (this.2 y y0 y1 hy)⟩
theorem cl_sub {n up S : Int} {X C : Int → Int} (hn : n ≤ 64) (hX : ∀ v s, 0 ≤ v → v < n → 0 ≤ s → s < 64 → tb (X v) s = true → s < n ∧ sg up v < sg up s) (hC : ∀ v, 0 ≤ v → v < n → ∀ y, 0 ≤ y → y < 64 → (tb (C v) y = true ↔ ∃ s, 0 ≤ s ∧ s < 64 ∧ tb (X v) s = true ∧ (y = s ∨ tb (C s) y = true))) (hS : ∀ w, 0 ≤ w → w < 64 → tb S w = true → ∀ y, 0 ≤ y → y < 64 → tb (X w) y = true → tb S y = true) :
    ∀ (k : Nat) (v : Int), 63 - sg up v < k → 0 ≤ v → v < n → (∀ y, 0 ≤ y → y < 64 → tb (X v) y = true → tb S y = true) → ∀ y, 0 ≤ y → y < 64 → tb (C v) y = true → tb S y = true := by
  intro k
  induction k with
  | zero => intro v a b c; exfalso; unfold sg at a; split at a <;> omega
  | succ k ih =>
    intro v a b c hv y y0 y1 hy
    obtain ⟨s, s0, s1, z1, z2⟩ := (hC v b c y y0 y1).mp hy
    have hs := hX v s b c s0 s1 z1
    have sS := hv s s0 s1 z1
    rcases z2 with rfl | z2
    · exact sS
    · exact ih s (by omega) s0 hs.1 (hS s s0 s1 sS) y y0 y1 z2
set_option maxHeartbeats 4000000 in
set_option maxRecDepth 20000 in
theorem s_X12_farKin {M D : Mem} {C : Int → Int} {v up : Int} (hD : DW D) (hM : MD M D) (hup : up = 0 ∨ up = 1) (v0 : 0 ≤ v) (v1 : v < D 0 0) (hi : i64 (C v)) (hC : ∀ v, 0 ≤ v → v < D 0 0 → ∀ y, 0 ≤ y → y < 64 → (tb (C v) y = true ↔ ∃ s, 0 ≤ s ∧ s < 64 ∧ tb ((if up = 0 then D 4 else D 5) v) s = true ∧ (y = s ∨ tb (C s) y = true))) : fX12_farKin v up M = some (C v, M) := by
  have n1 := hD.2.1
  generalize hXe : (if up = 0 then D 4 else D 5 : Int → Int) = X at hC
  have hX : ∀ v s, 0 ≤ v → v < D 0 0 → 0 ≤ s → s < 64 → tb (X v) s = true → s < D 0 0 ∧ sg up v < sg up s := fun v s a b s0 s1 z => by
    obtain ⟨-, -, -, h4, h5, -⟩ := hD.2.2.2.2.2.2.2.2 v a b
    rcases hup with rfl | rfl
    · rw [if_pos rfl] at hXe
      subst hXe
      have := (h4.2 s s0 s1 z).1
      unfold sg
      rw [if_pos rfl, if_pos rfl]
      omega
    · rw [if_neg (by decide)] at hXe
      subst hXe
      obtain ⟨y1, y2, y3⟩ := (h5.2 s s0 s1).mp z
      have := ((hD.2.2.2.2.2.2.2.2 s s0 y1).2.2.2.1.2 v a (by omega) y3).1
      unfold sg
      rw [if_neg (by decide), if_neg (by decide)]
      omega
  have hXi : ∀ v, 0 ≤ v → v < D 0 0 → i64 (X v) := fun v a b => by
    obtain ⟨-, -, -, h4, h5, -⟩ := hD.2.2.2.2.2.2.2.2 v a b
    rcases hup with rfl | rfl
    · rw [if_pos rfl] at hXe; subst hXe; exact h4.1
    · rw [if_neg (by decide)] at hXe; subst hXe; exact h5.1
  have hXv : ∀ w, 0 ≤ w → w < D 0 0 → ((if up = 0 then (ldJ M 159 w).bind fun v7 => some v7 else (ldJ M 160 w).bind fun v8 => some v8 : Option Int)) = some (X w) := fun w a b => by
    obtain ⟨-, -, -, z4, z5, -⟩ := hM.2.2.2.2.2 w a b
    rcases hup with rfl | rfl
    · rw [if_pos rfl] at hXe ⊢; subst hXe; rw [ld159 _ _ a (by omega), ob, z4]
    · rw [if_neg (by decide)] at hXe ⊢; subst hXe; rw [ld160 _ _ a (by omega), ob, z5]
  have tr := cl_in n1 hX hC (64 - (sg up v)).toNat v (by unfold sg; split <;> omega) v0 v1
  unfold fX12_farKin
  rw [hXv v v0 v1, ob]
  suffices h : ∃ r, lp (fX12_farKin_b1 up) (X v, 0, M) = some r ∧ r = (C v, M) by
    obtain ⟨r, e, rfl⟩ := h
    rw [e]; rfl
  have sgb : ∀ k, 0 ≤ k → k < 64 → 0 ≤ sg up k ∧ sg up k < 64 ∧ sg up (sg up k) = k := fun k a b => by
    unfold sg
    rcases hup with rfl | rfl
    · simp only [if_true]; omega
    · simp only [Nat.reduceAdd, reduceIte, Int.reduceEq, Int.reduceLT, Int.reduceLE, Int.reduceNeg, Int.reduceAdd, Int.reduceSub, Int.reduceMul, Int.reduceNe, or_true, true_or, or_false, false_or, or_self, and_true, true_and, and_false, false_and, and_self, not_true_eq_false, not_false_eq_true, ne_eq, Bool.false_eq_true, Bool.true_eq_false, decide_true, decide_false]; omega
  refine lp_ind (fun s : Int × Int × Mem => 0 ≤ s.2.1 ∧ s.2.1 ≤ 64 ∧ s.2.2 = M ∧ i64 s.1 ∧ (∀ y, 0 ≤ y → y < 64 → tb s.1 y = true → tb (C v) y = true) ∧ (∀ y, 0 ≤ y → y < 64 → tb (X v) y = true → tb s.1 y = true) ∧ (∀ w, 0 ≤ w → w < 64 → sg up w < s.2.1 → tb s.1 w = true → ∀ y, 0 ≤ y → y < 64 → tb (X w) y = true → tb s.1 y = true)) (fun r => r = (C v, M)) (fun s => (64 - s.2.1).toNat) ?_ _ ?_
  · rintro ⟨S, k, m⟩ ⟨k0, k1, hm, iS, hS1, hS2, hS3⟩
    dsimp only at k0 k1 hm iS hS1 hS2 hS3
    subst hm
    unfold fX12_farKin_b1
    dsimp only
    by_cases hk : 64 ≤ k
    · rw [if_pos hk]
      refine Or.inr ⟨_, rfl, ?_⟩
      congr 1
      apply bits_eq iS hi
      intro y y0 y1
      refine ⟨hS1 y y0 y1, fun z => ?_⟩
      exact cl_sub n1 hX hC (fun w w0 w1 hw => hS3 w w0 w1 (by have := sgb w w0 w1; omega) hw) (64 - (sg up v)).toNat v (by unfold sg; split <;> omega) v0 v1 hS2 y y0 y1 z
    · rw [if_neg hk]
      have gk := sgb k k0 (by omega)
      have hq5 : ((if up = 0 then some (w32 (63 - k)) else some k : Option Int)) = some (sg up k) := by
        unfold sg
        rcases hup with rfl | rfl
        · rw [if_pos rfl, if_pos rfl, w32_id (by omega) (by omega)]
        · rw [if_neg (by decide), if_neg (by decide)]
      rw [hq5, ob, s_X12_has gk.1 gk.2.1, ob]
      generalize hw : sg up k = w at *
      by_cases hb : tb S w = true
      · have hCw := hS1 w gk.1 gk.2.1 hb
        have tw := tr w gk.1 gk.2.1 hCw
        rw [if_pos hb, if_neg (show ¬ (1 : Int) = 0 by decide)]
        dsimp only
        rw [hXv w gk.1 tw.1, ob, ob, w32_id (by omega) (by omega)]
        refine Or.inl ⟨_, rfl, ⟨by dsimp only; omega, by dsimp only; omega, rfl, i64_lor _ _, fun y y0 y1 z => ?_, fun y y0 y1 z => ?_, fun x x0 x1 hx z y y0 y1 zy => ?_⟩, by dsimp only; omega⟩
        · rw [tb_lor, Bool.or_eq_true] at z
          rcases z with z | z
          · exact hS1 y y0 y1 z
          · exact tw.2 y y0 y1 z
        · rw [tb_lor, Bool.or_eq_true]
          exact Or.inl (hS2 y y0 y1 z)
        · dsimp only at hx
          rw [tb_lor, Bool.or_eq_true] at z ⊢
          by_cases hxw : x = w
          · subst hxw; exact Or.inr zy
          · have hx' : sg up x < k := by
              have : sg up x ≠ k := fun e => by
                have := (sgb x x0 x1).2.2
                rw [e, hw] at this
                exact hxw this.symm
              omega
            rcases z with z | z
            · exact Or.inl (hS3 x x0 x1 hx' z y y0 y1 zy)
            · have := (hX w x gk.1 tw.1 x0 x1 z).2
              omega
      · rw [if_neg hb, if_pos rfl, ob, ob, w32_id (by omega) (by omega)]
        refine Or.inl ⟨_, rfl, ⟨by dsimp only; omega, by dsimp only; omega, rfl, i64_lor _ _, fun y y0 y1 z => ?_, fun y y0 y1 z => ?_, fun x x0 x1 hx z y y0 y1 zy => ?_⟩, by dsimp only; omega⟩
        · rw [tb_lor, tb_0, Bool.or_false] at z
          exact hS1 y y0 y1 z
        · rw [tb_lor, tb_0, Bool.or_false]
          exact hS2 y y0 y1 z
        · dsimp only at hx
          rw [tb_lor, tb_0, Bool.or_false] at z ⊢
          have hx' : sg up x < k := by
            have : sg up x ≠ k := fun e => by
              have := (sgb x x0 x1).2.2
              rw [e, hw] at this
              subst this
              exact hb z
            omega
          exact hS3 x x0 x1 hx' z y y0 y1 zy
  · refine ⟨Int.le_refl _, by dsimp only; omega, rfl, hXi v v0 v1, fun y y0 y1 z => ?_, fun y y0 y1 z => z, fun w w0 w1 hw => by have := sgb w w0 w1; dsimp only at hw; omega⟩
    exact (hC v v0 v1 y y0 y1).mpr ⟨y, y0, y1, z, Or.inl rfl⟩
