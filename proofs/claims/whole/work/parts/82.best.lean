theorem ld115 (M : Mem) (i : Int) (h0 : 0 ≤ i) (h1 : i < M 1000 0) : ldI M 115 i = some (M 115 i) := if_pos ⟨by decide +kernel, h0, by unfold len; rw [if_pos rfl]; exact h1⟩
theorem st115 (M : Mem) (i x : Int) (h0 : 0 ≤ i) (h1 : i < M 1000 0) : stI M 115 i x = some (wr M 115 i x) := if_pos ⟨by decide +kernel, h0, by unfold len; rw [if_pos rfl]; exact h1⟩
theorem W_inj {a b : Int} (a0 : 0 ≤ a) (a1 : a ≤ 12) (b0 : 0 ≤ b) (b1 : b ≤ 12) (h : W2 a = W2 b) : a = b := by
  have key : ∀ x y : Fin 13, ((2 ^ x.val : Nat) : Int) = ((2 ^ y.val : Nat) : Int) → x.val = y.val := by decide +kernel
  obtain ⟨x, rfl⟩ : ∃ x : Fin 13, a = (x.val : Int) := ⟨⟨a.toNat, by omega⟩, by simp; omega⟩
  obtain ⟨y, rfl⟩ : ∃ y : Fin 13, b = (y.val : Int) := ⟨⟨b.toNat, by omega⟩, by simp; omega⟩
  unfold W2 at h
  rw [show ((x.val : Int)).toNat = x.val by simp, show ((y.val : Int)).toNat = y.val by simp] at h
  have := key x y h
  omega
/-- what lives when those of a set are in the order -/
def lvT (D : Mem) (mem us : Int → Int) (S k : Int) : Int := if t3 S k = true ∧ (tb (D 0 2) (mem k) = true ∨ ¬ iand (us k) (ixor S (-1)) = 0) then D 2 (mem k) else 0
def lv (D : Mem) (mem us : Int → Int) (m S : Int) : Int := sm (lvT D mem us S) m.toNat
theorem lvT_bd {D : Mem} {mem us : Int → Int} (hD : DW D) {S k : Int} (h0 : 0 ≤ mem k) (h1 : mem k < D 0 0) : 0 ≤ lvT D mem us S k ∧ lvT D mem us S k ≤ 2 := by
  have := (hD.2.2.2.2.2.2.2.2 (mem k) h0 h1).2.1
  unfold lvT
  split <;> omega
theorem lv_bd {D : Mem} {mem us : Int → Int} (hD : DW D) {S m : Int} (m0 : 0 ≤ m) (m1 : m ≤ 12) (hm : ∀ k, 0 ≤ k → k < m → 0 ≤ mem k ∧ mem k < D 0 0) {k : Nat} (hk : (k : Int) ≤ m) : 0 ≤ sm (lvT D mem us S) k ∧ sm (lvT D mem us S) k ≤ 24 := by
  have := sm_bd (f := lvT D mem us S) (c := 2) (k := k) (fun i a b => lvT_bd hD (hm i a (by omega)).1 (hm i a (by omega)).2)
  omega
theorem lv_0 {D : Mem} {mem us : Int → Int} {m : Int} : lv D mem us m 0 = 0 := by
  unfold lv
  apply sm_z
  intro i _ _
  unfold lvT
  rw [t3_0, if_neg (fun z => by cases z.1)]
theorem Few_mem {M D : Mem} {m : Int} (hD : DW D) (hF : Few M D m) (hm : m = pc (D 0 1)) : ∀ k, 0 ≤ k → k < m → 0 ≤ M 116 k ∧ M 116 k < D 0 0 := fun k a b => by
  obtain ⟨x, y, z, -⟩ := hF.2.1.2 k a (by rw [rk_pc, ← hm]; exact b)
  exact ⟨x, hD.2.2.2.2.1 _ x y z⟩
set_option maxHeartbeats 4000000 in
set_option maxRecDepth 20000 in
theorem s_X1_living {M D : Mem} {m S : Int} (hD : DW D) (hC : CV 62 M D) (hF : Few M D m) (hm : m = pc (D 0 1)) (m1 : m ≤ 12) : fX1_living S M = some (lv D (M 116) (M 118) m S, M) := by
  have n1 := hD.2.1
  have m0 : 0 ≤ m := by rw [hm]; exact (pc_bd _).1
  have mb := Few_mem hD hF hm
  have cv := hC.2.2.2
  have c4 := hC.2.2.1
  simp only [Nat.reduceAdd] at cv c4
  unfold fX1_living
  have L : ∃ r, lp (fX1_living_b1 S) (0, 0, M) = some r ∧ r = (lv D (M 116) (M 118) m S, M) := by
    refine lp_ind (fun s : Int × Int × Mem => 0 ≤ s.2.1 ∧ s.2.1 ≤ m ∧ s.2.2 = M ∧ s.1 = sm (lvT D (M 116) (M 118) S) s.2.1.toNat) (fun r : Int × Mem => r = (lv D (M 116) (M 118) m S, M)) (fun s => (m - s.2.1).toNat) ?_ _ ?_
    · rintro ⟨x, k, q⟩ ⟨k0, k1, hq, hx⟩
      dsimp only at k0 k1 hq hx
      subst hq
      unfold fX1_living_b1
      dsimp only
      simp only [hF.1]
      by_cases hkm : m ≤ k
      · rw [if_pos hkm]
        have : k = m := by omega
        subst this
        exact Or.inr ⟨_, rfl, by rw [hx]; rfl⟩
      · rw [if_neg hkm]
        have b := mb k k0 (by omega)
        have bd := lv_bd (us := q 118) (S := S) hD m0 m1 mb (k := k.toNat) (by omega)
        have bd1 := lv_bd (us := q 118) (S := S) hD m0 m1 mb (k := (k + 1).toNat) (by omega)
        have w := (cv _ b.1 b.2).2.1
        have go : ∀ y, y = lvT D (q 116) (q 118) S k → ∃ s', (some (Sum.inl (w32 (x + y), w32 (k + 1), q)) : Option ((Int × Int × Mem) ⊕ (Int × Mem))) = some (Sum.inl s') ∧ (0 ≤ s'.2.1 ∧ s'.2.1 ≤ m ∧ s'.2.2 = q ∧ s'.1 = sm (lvT D (q 116) (q 118) S) s'.2.1.toNat) ∧ (m - s'.2.1).toNat < (m - k).toNat := by
          intro y hy
          have e : x + y = sm (lvT D (q 116) (q 118) S) (k + 1).toNat := by rw [sm_s k0, hx, hy]
          rw [w32_id (show -2147483648 ≤ k + 1 by omega) (by omega), e, w32_id (by omega) (by omega)]
          exact ⟨_, rfl, ⟨by dsimp only; omega, by dsimp only; omega, rfl, rfl⟩, by dsimp only; omega⟩
        left
        rw [bitU k0 (by omega)]
        by_cases hb : t3 S k = true
        · rw [if_pos hb, if_neg (show ¬ (1 : Int) = 0 by decide), ob, if_neg (show ¬ (1 : Int) = 0 by decide), ld116 _ _ k0 (by omega), ob, s_X5_isKept b.1 (by omega), ob]
          simp only [Nat.reduceAdd]
          rw [c4]
          by_cases hk : tb (D 0 2) (q 116 k) = true
          · rw [if_pos hk, if_neg (show ¬ (1 : Int) = 0 by decide), ob, if_neg (show ¬ (false, q).1 = true from Bool.false_ne_true)]
            dsimp only
            rw [ld116 _ _ k0 (by omega), ob, ld65 _ _ b.1 (by omega), ob, ob, ob, w]
            exact go _ (by unfold lvT; rw [if_pos ⟨hb, Or.inl hk⟩])
          · rw [if_neg hk, if_pos rfl, ld118 _ _ k0 (by omega), ob]
            by_cases hu : iand (q 118 k) (ixor S (-1)) = 0
            · rw [if_pos hu, ob, if_pos rfl, ob]
              have := go 0 (by unfold lvT; rw [if_neg (fun z => z.2.elim hk (fun y => y hu))])
              rw [Int.add_zero, w32_id (by omega) (by omega)] at this
              exact this
            · rw [if_neg hu, ob, if_neg (show ¬ (false, q).1 = true from Bool.false_ne_true)]
              dsimp only
              rw [ld116 _ _ k0 (by omega), ob, ld65 _ _ b.1 (by omega), ob, ob, ob, w]
              exact go _ (by unfold lvT; rw [if_pos ⟨hb, Or.inr hu⟩])
        · rw [if_neg hb, if_pos rfl, ob, if_pos rfl, ob, if_pos rfl, ob]
          have := go 0 (by unfold lvT; rw [if_neg (fun z => hb z.1)])
          rw [Int.add_zero, w32_id (by omega) (by omega)] at this
          exact this
    · exact ⟨Int.le_refl _, m0, rfl, rfl⟩
  obtain ⟨r, f, hr⟩ := L
  rw [f, ob, hr]
set_option maxHeartbeats 4000000 in
set_option maxRecDepth 20000 in
theorem s_X1_goOn {M : Mem} {m S : Int} (h7 : M 114 7 = m) (m0 : 0 ≤ m) (m1 : m ≤ 12) (S0 : 0 ≤ S) (S1 : S < W2 m) (hl : W2 m ≤ M 1000 0) : ∃ r, fX1_goOn S M = some r ∧ (∀ b, b ≠ 115 → r b = M b) ∧ (∀ k, 0 ≤ k → k < m → t3 S k = false → iand (M 117 k) (ixor S (-1)) = 0 → r 115 (S + W2 k) = min (M 115 (S + W2 k)) (M 115 S)) ∧ ∀ j, (∀ k, 0 ≤ k → k < m → t3 S k = false → iand (M 117 k) (ixor S (-1)) = 0 → j ≠ S + W2 k) → r 115 j = M 115 j := by
  have wm := W_bd m0 m1
  unfold fX1_goOn
  refine lp_bind (fun s : Int × Mem => 0 ≤ s.1 ∧ s.1 ≤ m ∧ (∀ b, b ≠ 115 → s.2 b = M b) ∧ (∀ k, 0 ≤ k → k < s.1 → t3 S k = false → iand (M 117 k) (ixor S (-1)) = 0 → s.2 115 (S + W2 k) = min (M 115 (S + W2 k)) (M 115 S)) ∧ ∀ j, (∀ k, 0 ≤ k → k < s.1 → t3 S k = false → iand (M 117 k) (ixor S (-1)) = 0 → j ≠ S + W2 k) → s.2 115 j = M 115 j) (fun r : Mem => (∀ b, b ≠ 115 → r b = M b) ∧ (∀ k, 0 ≤ k → k < m → t3 S k = false → iand (M 117 k) (ixor S (-1)) = 0 → r 115 (S + W2 k) = min (M 115 (S + W2 k)) (M 115 S)) ∧ ∀ j, (∀ k, 0 ≤ k → k < m → t3 S k = false → iand (M 117 k) (ixor S (-1)) = 0 → j ≠ S + W2 k) → r 115 j = M 115 j) (fun s => (m - s.1).toNat) ?_ ?_ ?_
  · rintro ⟨k, q⟩ ⟨k0, k1, hfr, hA, hB⟩
    dsimp only at k0 k1 hfr hA hB
    unfold fX1_goOn_b1
    dsimp only
    have e7 : q 114 7 = m := by rw [hfr 114 (by omega)]; exact h7
    simp only [e7]
    by_cases hkm : m ≤ k
    · rw [if_pos hkm]
      have : k = m := by omega
      subst this
      exact Or.inr ⟨q, rfl, hfr, hA, hB⟩
    · rw [if_neg hkm, bitU k0 (by omega)]
      have wk := W_bd k0 (by omega)
      have skip : (t3 S k = false → ¬ iand (M 117 k) (ixor S (-1)) = 0) → ∃ s', (some (Sum.inl (w32 (k + 1), q)) : Option ((Int × Mem) ⊕ Mem)) = some (Sum.inl s') ∧ (0 ≤ s'.1 ∧ s'.1 ≤ m ∧ (∀ b, b ≠ 115 → s'.2 b = M b) ∧ (∀ k, 0 ≤ k → k < s'.1 → t3 S k = false → iand (M 117 k) (ixor S (-1)) = 0 → s'.2 115 (S + W2 k) = min (M 115 (S + W2 k)) (M 115 S)) ∧ ∀ j, (∀ k, 0 ≤ k → k < s'.1 → t3 S k = false → iand (M 117 k) (ixor S (-1)) = 0 → j ≠ S + W2 k) → s'.2 115 j = M 115 j) ∧ (m - s'.1).toNat < (m - k).toNat := by
        intro hno
        rw [w32_id (by omega) (by omega)]
        refine ⟨_, rfl, ⟨by dsimp only; omega, by dsimp only; omega, hfr, fun i i0 i1 x y => ?_, fun j hj => ?_⟩, by dsimp only; omega⟩
        · dsimp only at i1 ⊢
          by_cases e : i = k
          · rw [e] at x y; exact absurd y (hno x)
          · exact hA i i0 (by omega) x y
        · dsimp only at hj ⊢
          exact hB j (fun i i0 i1 x y => hj i i0 (by omega) x y)
      by_cases hb : t3 S k = true
      · rw [if_pos hb, if_neg (show ¬ (1 : Int) = 0 by decide), ob]
        exact Or.inl (skip (fun z => by rw [hb] at z; cases z))
      · have hb' : t3 S k = false := by simpa using hb
        rw [if_neg hb, if_pos rfl, ld117 _ _ k0 (by omega), ob, hfr 117 (by omega)]
        by_cases hs : iand (M 117 k) (ixor S (-1)) = 0
        · have lt := set_add_lt S0 m0 m1 S1 k0 (by omega) hb'
          have l1 : q 1000 0 = M 1000 0 := by rw [hfr 1000 (by omega)]
          rw [if_pos hs, ob, ior_add S0 (by omega) k0 (by omega) hb', ld115 _ _ (by omega) (by omega), ob, ld115 _ _ S0 (by omega), ob, st115 _ _ _ (by omega) (by omega), ob, ob, imin_eq, w32_id (by omega) (by omega)]
          have e1 : q 115 (S + W2 k) = M 115 (S + W2 k) := hB _ (fun i i0 i1 x y z => by
            have : W2 k = W2 i := by omega
            have := W_inj k0 (by omega) i0 (by omega) this
            omega)
          have e2 : q 115 S = M 115 S := hB _ (fun i i0 i1 x y z => by
            have := W_bd i0 (by omega)
            omega)
          refine Or.inl ⟨_, rfl, ⟨by dsimp only; omega, by dsimp only; omega, fun b hb => by dsimp only; rw [wr_ne hb, hfr b hb], fun i i0 i1 x y => ?_, fun j hj => ?_⟩, by dsimp only; omega⟩
          · dsimp only at i1 ⊢
            rw [wr_at]
            by_cases e : i = k
            · rw [e, if_pos rfl, e1, e2]
            · rw [if_neg (fun z => e (W_inj i0 (by omega) k0 (by omega) (by omega)))]
              exact hA i i0 (by omega) x y
          · dsimp only at hj ⊢
            rw [wr_at, if_neg (hj k k0 (by omega) hb' hs)]
            exact hB j (fun i i0 i1 x y => hj i i0 (by omega) x y)
        · rw [if_neg hs, ob]
          exact Or.inl (skip (fun _ => hs))
  · exact ⟨Int.le_refl _, m0, fun b _ => rfl, fun i a b => by dsimp only at b; omega, fun j _ => rfl⟩
  · exact fun r hr => ⟨r, rfl, hr⟩
