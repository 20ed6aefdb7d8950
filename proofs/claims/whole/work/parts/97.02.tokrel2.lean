/-! numbers, the end of a line, arguments -/
theorem pos_nx {T : Int → Int} {n j : Int} (hn : 0 ≤ n) (j0 : 0 ≤ j) : te T n (pos T n j) ≤ pos T n (j + 1) := by
  rw [pos_s T n j0]
  have pb := pos_b T (n := n) (j := j) hn
  have t := te_bd (T := T) pb.2
  exact (sk_bd T n (n - te T n (pos T n j)).toNat _ (Nat.le_refl _) t.2.1).1
theorem pos_te {T : Int → Int} {n j : Int} (hn : 0 ≤ n) (h : pos T n j < n) : pos T n j + 1 ≤ te T n (pos T n j) := by
  have pb := pos_b T (n := n) (j := j) hn
  have := (te_bd (T := T) pb.2).2.2 h
  omega
theorem not_end {B : Mem} {T : Int → Int} {n N j : Int} (hM : MK B T n N) (j1 : j ≤ N) (h : ty T n (pos T n j) ≠ 0) : j < N ∧ pos T n j < n := by
  have lt : pos T n j < n := by
    by_cases z : n ≤ pos T n j
    · exact absurd (by unfold ty; rw [if_pos z]) h
    · omega
  refine ⟨?_, lt⟩
  by_cases e : j = N
  · rw [e, hM.1.2.2.1] at lt; omega
  · omega
theorem dig_bd {T : Int → Int} {n p : Int} (p1 : p ≤ n) (h : ty T n p = 2) : 0 ≤ cdS 10 (dig_ T p) (te T n p - p).toNat ∧ cdS 10 (dig_ T p) (te T n p - p).toNat ≤ 999 := by
  obtain ⟨a, b, c⟩ := ty_2 h
  have rb := run_bd T n 48 57 (n - p).toNat p (Nat.le_refl _) p1
  have lt := cd_lt (B := 10) (a := dig_ T p) (by omega) (te T n p - p).toNat (fun i x y => by
    have := rb.2.2 (p + i) (by omega) (by omega)
    unfold dig_; omega)
  have pw := pw10' (k := (te T n p - p).toNat) (by omega)
  omega
/-- the reference's fields 7 and 8 alone -/
def F78 (B B' : Mem) : Prop := (∀ b, b ≠ 132 → B' b = B b) ∧ ∀ k, k ≠ 7 → k ≠ 8 → B' 132 k = B 132 k
theorem F78_trans {A B C : Mem} (h : F78 A B) (h' : F78 B C) : F78 A C := ⟨fun b hb => by rw [h'.1 b hb, h.1 b hb], fun k a b => by rw [h'.2 k a b, h.2 k a b]⟩
theorem F78_8 (B : Mem) (x : Int) : F78 B (wr B 132 8 x) := ⟨fun b hb => wr_ne hb, fun k _ b => by rw [wr_at, if_neg b]⟩
theorem F78_7 (B : Mem) (x : Int) : F78 B (wr B 132 7 x) := ⟨fun b hb => wr_ne hb, fun k a _ => by rw [wr_at, if_neg a]⟩
theorem MK_78 {B B' : Mem} {T : Int → Int} {n N : Int} (h : MK B T n N) (f : F78 B B') : MK B' T n N := MK_fr h (f.1 _ (by omega)) (f.1 _ (by omega)) (f.1 _ (by omega)) (f.1 _ (by omega))
set_option maxHeartbeats 4000000 in
set_option maxRecDepth 20000 in
theorem r_number {A B : Mem} {t : Nat} {T : Int → Int} {n N j lo hi : Int} (hC : CK A t T n) (hM : MK B T n N) (hA : A 1 3 = te T n (pos T n j)) (j0 : 0 ≤ j) (jN : j + 1 ≤ N) (h7 : B 132 7 = j + 1) (h8 : B 132 8 = 0) (l0 : 0 ≤ lo ∧ lo ≤ 999) (hi0 : 0 ≤ hi ∧ hi ≤ 999) : ∃ x A' v B', fX6_readNumber lo hi A = some (x, A') ∧ fX12_takeNumber lo hi B = some (v, B') ∧ F1 A A' ∧ F78 B B' ∧ ((x = 0 ∧ CAt A' T n (pos T n (j + 1)) ∧ A' 1 6 = v ∧ lo ≤ v ∧ v ≤ hi ∧ B' 132 7 = j + 2 ∧ B' 132 8 = 0 ∧ j + 2 ≤ N ∧ pos T n (j + 1) < n) ∨ (0 < x ∧ B' 132 8 = x)) := by
  have nN := hM.1.2.1
  have n1 := hM.2.1
  have n0 := hC.2.2.1.2.1
  obtain ⟨A', f, fr, at'⟩ := c_advance hC j0 hA
  have kr := kd_rel at'
  have pb := pos_b T (n := n) (j := j + 1) n0
  have mt := hM.1.2.2.2.2 (j + 1) (by omega) jN
  have mw := fun k (k0 : 1 ≤ k) (k1 : k ≤ 6) => m_wrong hM h7 (by omega) jN h8 k0 k1
  have cf := fun k (k0 : 1 ≤ k) (k1 : k ≤ 6) => c_fault (k := k) at' n0 n1 k0 k1
  have fp := fun k (k0 : 1 ≤ k) => flt_pos (T := T) (j := j + 1) n0 k0
  unfold fX6_readNumber fX12_takeNumber
  simp only [f, ob, h8, if_true, h7]
  rw [ld134 _ _ (by omega) (by omega), ob, mt.2.1]
  by_cases e2 : ty T n (pos T n (j + 1)) = 2
  · have db := dig_bd pb.2 e2
    have ne := not_end hM jN (by omega)
    have v6 := (at'.2.2.2.2.1 e2).2
    have mv := mt.2.2.2 e2
    rw [if_pos (kr.2.2.1.mpr e2), if_pos e2, ob, if_pos rfl, ld136 _ _ (by omega) (by omega), ob, ob, mv, v6]
    generalize cdS 10 (dig_ T (pos T n (j + 1))) (te T n (pos T n (j + 1)) - pos T n (j + 1)).toNat = v at *
    have k1 : lc v lo < 0 ↔ v < lo := by
      have := lc_ge0 (a := v) (b := lo) ⟨by omega, by omega⟩ ⟨by omega, by omega⟩
      omega
    have k2 : lc v hi ≤ 0 ↔ v ≤ hi := lc_le0 ⟨by omega, by omega⟩ ⟨by omega, by omega⟩
    by_cases c1 : v < lo
    · rw [if_pos c1, if_pos (k1.mpr c1), cf 4 (by omega) (by omega), mw 4 (by omega) (by omega), ob, ob, ob, ob]
      have e8 : wr B 132 8 (4 + 16 * pos T n (j + 1)) 132 8 = 4 + 16 * pos T n (j + 1) := by rw [wr_at, if_pos rfl]
      have := fp 4 (by omega)
      simp only [e8]
      rw [if_neg (by omega)]
      exact ⟨_, _, _, _, rfl, rfl, fr, F78_8 B _, Or.inr ⟨this, e8⟩⟩
    · rw [if_neg c1, if_neg (fun z => c1 (k1.mp z))]
      by_cases c2 : v ≤ hi
      · rw [if_pos c2, if_pos (k2.mpr c2), ob, ob]
        simp only [h8]
        rw [if_pos (by omega), pI_ok, ob]
        have e7 : wr B 132 7 (w32 (B 132 7 + 1)) 132 7 = j + 2 := by rw [wr_at, if_pos rfl, h7, w32_id (by omega) (by omega)]; omega
        rw [e7, w32_id (show -2147483648 ≤ j + 2 - 1 by omega) (by omega), ld136 _ _ (by omega) (by omega), ob, wr_ne (by omega), show j + 2 - 1 = j + 1 by omega, mv, w32_id (by omega) (by omega)]
        exact ⟨_, _, _, _, rfl, rfl, fr, F78_7 B _, Or.inl ⟨rfl, at', v6, by omega, c2, e7, by rw [wr_at, if_neg (by omega)]; exact h8, by omega, ne.2⟩⟩
      · rw [if_neg c2, if_neg (fun z => c2 (k2.mp z)), cf 4 (by omega) (by omega), mw 4 (by omega) (by omega), ob, ob, ob, ob]
        have e8 : wr B 132 8 (4 + 16 * pos T n (j + 1)) 132 8 = 4 + 16 * pos T n (j + 1) := by rw [wr_at, if_pos rfl]
        have := fp 4 (by omega)
        simp only [e8]
        rw [if_neg (by omega)]
        exact ⟨_, _, _, _, rfl, rfl, fr, F78_8 B _, Or.inr ⟨this, e8⟩⟩
  · rw [if_neg (fun z => e2 (kr.2.2.1.mp z)), if_neg e2, ob, if_neg (by decide), cf 1 (by omega) (by omega), mw 1 (by omega) (by omega), ob, ob, ob]
    have e8 : wr B 132 8 (1 + 16 * pos T n (j + 1)) 132 8 = 1 + 16 * pos T n (j + 1) := by rw [wr_at, if_pos rfl]
    have := fp 1 (by omega)
    simp only [e8]
    rw [if_neg (by omega)]
    exact ⟨_, _, _, _, rfl, rfl, fr, F78_8 B _, Or.inr ⟨this, e8⟩⟩
theorem m_takeNumber8 {B : Mem} {lo hi : Int} (h8 : 0 < B 132 8) : fX12_takeNumber lo hi B = some (0, B) := by
  unfold fX12_takeNumber
  have : ¬ B 132 8 = 0 := by omega
  simp only [this, if_false, ob, if_true]
  rw [if_neg (by omega)]
set_option maxHeartbeats 4000000 in
set_option maxRecDepth 20000 in
theorem r_semi {A B : Mem} {t : Nat} {T : Int → Int} {n N j : Int} (hC : CK A t T n) (hM : MK B T n N) (hA : A 1 3 = te T n (pos T n j)) (j0 : 0 ≤ j) (jN : j + 1 ≤ N) (h7 : B 132 7 = j + 1) (h8 : B 132 8 = 0) : ∃ x A' B', fX6_readSemicolon A = some (x, A') ∧ fX12_takeEnd B = some B' ∧ F1 A A' ∧ F78 B B' ∧ ((x = 0 ∧ CAt A' T n (pos T n (j + 1)) ∧ B' 132 7 = j + 2 ∧ B' 132 8 = 0 ∧ j + 2 ≤ N ∧ pos T n (j + 1) < n) ∨ (0 < x ∧ B' 132 8 = x)) := by
  have nN := hM.1.2.1
  have n1 := hM.2.1
  have n0 := hC.2.2.1.2.1
  obtain ⟨A', f, fr, at'⟩ := c_advance hC j0 hA
  have kr := kd_rel at'
  have mt := hM.1.2.2.2.2 (j + 1) (by omega) jN
  unfold fX6_readSemicolon fX12_takeEnd
  simp only [f, ob, h8, if_true, h7]
  rw [ld134 _ _ (by omega) (by omega), ob, mt.2.1]
  by_cases e3 : ty T n (pos T n (j + 1)) = 3
  · have ne := not_end hM jN (by omega)
    rw [if_pos (kr.2.2.2.1.mpr e3), if_pos e3, ob, ob]
    simp only [h8, if_true]
    rw [ob, pI_ok, ob, h7, w32_id (by omega) (by omega)]
    exact ⟨_, _, _, rfl, rfl, fr, F78_7 B _, Or.inl ⟨rfl, at', by rw [wr_at, if_pos rfl]; omega, by rw [wr_at, if_neg (by omega)]; exact h8, by omega, ne.2⟩⟩
  · rw [if_neg (fun z => e3 (kr.2.2.2.1.mp z)), if_neg e3, c_fault at' n0 n1 (by omega) (by omega), m_wrong hM h7 (by omega) jN h8 (by omega) (by omega), ob, ob, ob, ob]
    have fp := flt_pos (T := T) (j := j + 1) (k := 1) n0 (by omega)
    have e8 : wr B 132 8 (1 + 16 * pos T n (j + 1)) 132 8 = 1 + 16 * pos T n (j + 1) := by rw [wr_at, if_pos rfl]
    simp only [e8]
    rw [if_neg (by omega), ob, pI_ok, ob]
    exact ⟨_, _, _, rfl, rfl, fr, F78_trans (F78_8 B _) (F78_7 _ _), Or.inr ⟨fp, by rw [wr_at, if_neg (by omega)]; exact e8⟩⟩
theorem m_takeEnd8 {B : Mem} (h8 : B 132 8 ≠ 0) : ∃ B', fX12_takeEnd B = some B' ∧ F78 B B' ∧ B' 132 8 = B 132 8 := by
  unfold fX12_takeEnd
  simp only [h8, if_false, ob]
  rw [pI_ok, ob]
  exact ⟨_, rfl, F78_7 B _, by rw [wr_at, if_neg (by omega)]⟩
theorem ixorm {x : Int} (h0 : 0 ≤ x) (h1 : x ≤ 999) : ixor x (-1) = -1 - x := by
  have key : ∀ b : Fin 1000, ixor (b.val : Int) (-1) = -1 - (b.val : Int) := by decide +kernel
  obtain ⟨b, rfl⟩ : ∃ b : Fin 1000, x = (b.val : Int) := ⟨⟨x.toNat, by omega⟩, by simp; omega⟩
  exact key b
/-- an argument of a line, as both keep it -/
def ArR (A B : Mem) (t : Nat) (off i k m : Int) : Prop := B 139 (12 * (off + i) + 5 + 2 * k) = -1 - A (t + 6) (3 * i + k) ∧ B 139 (12 * (off + i) + 6 + 2 * k) = A (t + 7) (3 * i + k) ∧ -1000 ≤ A (t + 6) (3 * i + k) ∧ A (t + 6) (3 * i + k) < m ∧ 0 ≤ A (t + 7) (3 * i + k) ∧ A (t + 7) (3 * i + k) ≤ 1000
theorem s_X12_typeOf {k : Int} {M : Mem} : fX12_typeOf k M = some (if k = 2 then 0 else k, M) := by
  unfold fX12_typeOf
  by_cases h : k = 2
  · simp only [h, Nat.reduceAdd, reduceIte, Int.reduceEq, Int.reduceLT, Int.reduceLE, Int.reduceNeg, Int.reduceAdd, Int.reduceSub, Int.reduceMul, Int.reduceNe, or_true, true_or, or_false, false_or, or_self, and_true, true_and, and_false, false_and, and_self, not_true_eq_false, not_false_eq_true, ne_eq, Bool.false_eq_true, Bool.true_eq_false, decide_true, decide_false, ob]
  · simp only [h, Nat.reduceAdd, reduceIte, Int.reduceEq, Int.reduceLT, Int.reduceLE, Int.reduceNeg, Int.reduceAdd, Int.reduceSub, Int.reduceMul, Int.reduceNe, or_true, true_or, or_false, false_or, or_self, and_true, true_and, and_false, false_and, and_self, not_true_eq_false, not_false_eq_true, ne_eq, Bool.false_eq_true, Bool.true_eq_false, decide_true, decide_false, ob]
theorem tl1 {t : Nat} (h : t = 5 ∨ t = 119) (M : Mem) (i : Int) (h0 : 0 ≤ i) (h1 : i < 200) : ldI M (t + 1) i = some (M (t + 1) i) := (LTd h).1 M i h0 h1
theorem ts1 {t : Nat} (h : t = 5 ∨ t = 119) (M : Mem) (i x : Int) (h0 : 0 ≤ i) (h1 : i < 200) : stI M (t + 1) i x = some (wr M (t + 1) i x) := (STd h).1 M i x h0 h1
theorem tl2 {t : Nat} (h : t = 5 ∨ t = 119) (M : Mem) (i : Int) (h0 : 0 ≤ i) (h1 : i < 200) : ldI M (t + 2) i = some (M (t + 2) i) := (LTd h).2.1 M i h0 h1
theorem ts2 {t : Nat} (h : t = 5 ∨ t = 119) (M : Mem) (i x : Int) (h0 : 0 ≤ i) (h1 : i < 200) : stI M (t + 2) i x = some (wr M (t + 2) i x) := (STd h).2.1 M i x h0 h1
theorem tl3 {t : Nat} (h : t = 5 ∨ t = 119) (M : Mem) (i : Int) (h0 : 0 ≤ i) (h1 : i < 200) : ldI M (t + 3) i = some (M (t + 3) i) := (LTd h).2.2.1 M i h0 h1
theorem ts3 {t : Nat} (h : t = 5 ∨ t = 119) (M : Mem) (i x : Int) (h0 : 0 ≤ i) (h1 : i < 200) : stI M (t + 3) i x = some (wr M (t + 3) i x) := (STd h).2.2.1 M i x h0 h1
theorem tl4 {t : Nat} (h : t = 5 ∨ t = 119) (M : Mem) (i : Int) (h0 : 0 ≤ i) (h1 : i < 200) : ldI M (t + 4) i = some (M (t + 4) i) := (LTd h).2.2.2.1 M i h0 h1
theorem ts4 {t : Nat} (h : t = 5 ∨ t = 119) (M : Mem) (i x : Int) (h0 : 0 ≤ i) (h1 : i < 200) : stI M (t + 4) i x = some (wr M (t + 4) i x) := (STd h).2.2.2.1 M i x h0 h1
theorem tl5 {t : Nat} (h : t = 5 ∨ t = 119) (M : Mem) (i : Int) (h0 : 0 ≤ i) (h1 : i < 200) : ldI M (t + 5) i = some (M (t + 5) i) := (LTd h).2.2.2.2.1 M i h0 h1
theorem ts5 {t : Nat} (h : t = 5 ∨ t = 119) (M : Mem) (i x : Int) (h0 : 0 ≤ i) (h1 : i < 200) : stI M (t + 5) i x = some (wr M (t + 5) i x) := (STd h).2.2.2.2.1 M i x h0 h1
theorem tl6 {t : Nat} (h : t = 5 ∨ t = 119) (M : Mem) (i : Int) (h0 : 0 ≤ i) (h1 : i < 600) : ldI M (t + 6) i = some (M (t + 6) i) := (LTd h).2.2.2.2.2.1 M i h0 h1
theorem ts6 {t : Nat} (h : t = 5 ∨ t = 119) (M : Mem) (i x : Int) (h0 : 0 ≤ i) (h1 : i < 600) : stI M (t + 6) i x = some (wr M (t + 6) i x) := (STd h).2.2.2.2.2.1 M i x h0 h1
theorem tl7 {t : Nat} (h : t = 5 ∨ t = 119) (M : Mem) (i : Int) (h0 : 0 ≤ i) (h1 : i < 600) : ldI M (t + 7) i = some (M (t + 7) i) := (LTd h).2.2.2.2.2.2.1 M i h0 h1
theorem ts7 {t : Nat} (h : t = 5 ∨ t = 119) (M : Mem) (i x : Int) (h0 : 0 ≤ i) (h1 : i < 600) : stI M (t + 7) i x = some (wr M (t + 7) i x) := (STd h).2.2.2.2.2.2.1 M i x h0 h1
theorem tl8 {t : Nat} (h : t = 5 ∨ t = 119) (M : Mem) (i : Int) (h0 : 0 ≤ i) (h1 : i < 200) : ldI M (t + 8) i = some (M (t + 8) i) := (LTd h).2.2.2.2.2.2.2.1 M i h0 h1
theorem ts8 {t : Nat} (h : t = 5 ∨ t = 119) (M : Mem) (i x : Int) (h0 : 0 ≤ i) (h1 : i < 200) : stI M (t + 8) i x = some (wr M (t + 8) i x) := (STd h).2.2.2.2.2.2.2.1 M i x h0 h1
theorem tl9 {t : Nat} (h : t = 5 ∨ t = 119) (M : Mem) (i : Int) (h0 : 0 ≤ i) (h1 : i < 200) : ldI M (t + 9) i = some (M (t + 9) i) := (LTd h).2.2.2.2.2.2.2.2.1 M i h0 h1
theorem ts9 {t : Nat} (h : t = 5 ∨ t = 119) (M : Mem) (i x : Int) (h0 : 0 ≤ i) (h1 : i < 200) : stI M (t + 9) i x = some (wr M (t + 9) i x) := (STd h).2.2.2.2.2.2.2.2.1 M i x h0 h1
theorem tl10 {t : Nat} (h : t = 5 ∨ t = 119) (M : Mem) (i : Int) (h0 : 0 ≤ i) (h1 : i < 6) : ldZ M (t + 10) i = some (M (t + 10) i) := (LTd h).2.2.2.2.2.2.2.2.2.1 M i h0 h1
theorem ts10 {t : Nat} (h : t = 5 ∨ t = 119) (M : Mem) (i x : Int) (h0 : 0 ≤ i) (h1 : i < 6) : stZ M (t + 10) i x = some (wr M (t + 10) i (nz x)) := (STd h).2.2.2.2.2.2.2.2.2.1 M i x h0 h1
theorem tl11 {t : Nat} (h : t = 5 ∨ t = 119) (M : Mem) (i : Int) (h0 : 0 ≤ i) (h1 : i < 6) : ldI M (t + 11) i = some (M (t + 11) i) := (LTd h).2.2.2.2.2.2.2.2.2.2.1 M i h0 h1
theorem ts11 {t : Nat} (h : t = 5 ∨ t = 119) (M : Mem) (i x : Int) (h0 : 0 ≤ i) (h1 : i < 6) : stI M (t + 11) i x = some (wr M (t + 11) i x) := (STd h).2.2.2.2.2.2.2.2.2.2.1 M i x h0 h1
theorem tl12 {t : Nat} (h : t = 5 ∨ t = 119) (M : Mem) (i : Int) (h0 : 0 ≤ i) (h1 : i < 6) : ldI M (t + 12) i = some (M (t + 12) i) := (LTd h).2.2.2.2.2.2.2.2.2.2.2 M i h0 h1
theorem ts12 {t : Nat} (h : t = 5 ∨ t = 119) (M : Mem) (i x : Int) (h0 : 0 ≤ i) (h1 : i < 6) : stI M (t + 12) i x = some (wr M (t + 12) i x) := (STd h).2.2.2.2.2.2.2.2.2.2.2 M i x h0 h1
theorem gm41 {A : Mem} {t : Nat} (ht : t = 5 ∨ t = 119) (h : A 4 1 = t) : gm A 4 1 = some t := by
  unfold gm
  rw [if_pos (by omega), h]
  congr 1
set_option maxHeartbeats 4000000 in
set_option maxRecDepth 20000 in
theorem r_arg {A B : Mem} {t : Nat} {T : Int → Int} {n N j m i k ty' : Int} (hC : CK A t T n) (hM : MK B T n N) (hN : NmR A B m) (h : AtB A B T n N j) (i0 : 0 ≤ i) (i1 : i < 200) (k0 : 0 ≤ k) (k1 : k < 3) (ht : ty' = 0 ∨ ty' = 1 ∨ ty' = 2) : ∃ x A' B', fX6_takeArg i k ty' A = some (x, A') ∧ fX12_takeArg (12 * (210 + i) + 5 + 2 * k) (if ty' = 2 then 3 else ty') B = some B' ∧ (∀ b, b ≠ 4 → b ≠ t + 6 → b ≠ t + 7 → A' b = A b) ∧ (∀ f, f ≠ 11 → A' 4 f = A 4 f) ∧ (∀ y, y ≠ 3 * i + k → A' (t + 6) y = A (t + 6) y ∧ A' (t + 7) y = A (t + 7) y) ∧ (∀ b, b ≠ 132 → b ≠ 139 → B' b = B b) ∧ (∀ f, f ≠ 7 → f ≠ 8 → f ≠ 19 → B' 132 f = B 132 f) ∧ (∀ y, y ≠ 12 * (210 + i) + 5 + 2 * k → y ≠ 12 * (210 + i) + 6 + 2 * k → B' 139 y = B 139 y) ∧ ((x = 0 ∧ B' 132 7 = j + 1 ∧ B' 132 8 = 0 ∧ j + 1 ≤ N ∧ pos T n j < n ∧ ArR A' B' t 210 i k m ∧ A' 4 11 = B' 132 19 ∧ (A' 4 11 = 0 ∨ A' 4 11 = 1) ∧ (ty' ≠ 2 → A' 4 11 = ty') ∧ A' 4 11 = (if 0 ≤ A' (t + 6) (3 * i + k) then A 19 (A' (t + 6) (3 * i + k)) else 0)) ∨ (0 < x ∧ B' 132 8 = x)) := by
  obtain ⟨ht5, h41, hT, hK⟩ := id hC
  have n0 := hT.2.1
  have n1 := hM.2.1
  have nN := hM.1.2.1
  have kr := kd_rel h.1
  obtain ⟨hA, h7, j0, j1, h8⟩ := id h
  have pb := pos_b T (n := n) (j := j) n0
  have mt := hM.1.2.2.2.2 j j0 j1
  obtain ⟨nA, nB, m0, m20, nk, nd⟩ := id hN
  have ew1 : w32 (3 * i) = 3 * i := w32_id (by omega) (by omega)
  have ew2 : w32 (3 * i + k) = 3 * i + k := w32_id (by omega) (by omega)
  have ew3 : w32 (12 * (210 + i) + 5 + 2 * k + 1) = 12 * (210 + i) + 6 + 2 * k := by rw [w32_id (by omega) (by omega)]; omega
  -- the class puts an argument down
  generalize hAp : (fun τ a : Int => wr (wr (wr A 4 11 τ) (t + 6) (3 * i + k) a) (t + 7) (3 * i + k) (pos T n j)) = Ap
  have ap : ∀ τ a, Ap τ a = wr (wr (wr A 4 11 τ) (t + 6) (3 * i + k) a) (t + 7) (3 * i + k) (pos T n j) := fun τ a => by rw [← hAp]
  have apf : ∀ τ a, (∀ b, b ≠ 4 → b ≠ t + 6 → b ≠ t + 7 → Ap τ a b = A b) ∧ (∀ f, f ≠ 11 → Ap τ a 4 f = A 4 f) ∧ (∀ y, y ≠ 3 * i + k → Ap τ a (t + 6) y = A (t + 6) y ∧ Ap τ a (t + 7) y = A (t + 7) y) ∧ Ap τ a 4 11 = τ ∧ Ap τ a (t + 6) (3 * i + k) = a ∧ Ap τ a (t + 7) (3 * i + k) = pos T n j := fun τ a => by
    rw [ap]
    refine ⟨fun b b1 b2 b3 => by rw [wr_ne b3, wr_ne b2, wr_ne b1], fun f hf => by rw [wr_ne (by omega), wr_ne (by omega), wr_at, if_neg hf], fun y hy => ⟨by rw [wr_ne (by omega), wr_at, if_neg hy, wr_ne (by omega)], by rw [wr_at, if_neg hy, wr_ne (by omega), wr_ne (by omega)]⟩, by rw [wr_ne (by omega), wr_ne (by omega), wr_at, if_pos rfl], by rw [wr_ne (by omega), wr_at, if_pos rfl], by rw [wr_at, if_pos rfl]⟩
  have cput : ∀ τ a, ((pI A 4 11 τ).bind fun M13 => (gm M13 4 1).bind fun t14 => (stI M13 (t14 + 6) (w32 ((w32 (3 * i)) + k)) a).bind fun M15 => (gm M15 4 1).bind fun t16 => (stI M15 (t16 + 7) (w32 ((w32 (3 * i)) + k)) (M15 1 5)).bind fun M17 => ((if ty' = 2 then some (0, M17) else if ty' = (M17 4 11) then some (0, M17) else (fX6_faultHere 6 M17).bind fun q18 => some (q18.1, q18.2) : Option (Int × Mem))).bind fun q19 => some (q19.1, q19.2)) = some (if ty' = 2 ∨ ty' = τ then 0 else 6 + 16 * pos T n j, Ap τ a) := by
    intro τ a
    have g1 : gm (wr A 4 11 τ) 4 1 = some t := gm41 ht5 (by rw [wr_at, if_neg (by omega)]; exact h41)
    have g2 : gm (wr (wr A 4 11 τ) (t + 6) (3 * i + k) a) 4 1 = some t := gm41 ht5 (by rw [wr_ne (by omega), wr_at, if_neg (by omega)]; exact h41)
    rw [pI_ok, ob, g1, ob, ew1, ew2, ts6 ht5 _ _ _ (by omega) (by omega), ob, g2, ob, ts7 ht5 _ _ _ (by omega) (by omega), ob]
    have e15 : wr (wr A 4 11 τ) (t + 6) (3 * i + k) a 1 5 = pos T n j := by rw [wr_ne (by omega), wr_ne (by omega)]; exact hA.1
    rw [e15, ← ap]
    simp only [(apf τ a).2.2.2.1]
    by_cases e1 : ty' = 2
    · rw [if_pos e1, ob, if_pos (Or.inl e1)]
    · rw [if_neg e1]
      by_cases e2 : ty' = τ
      · rw [if_pos e2, ob, if_pos (Or.inr e2)]
      · have hA' : CAt (Ap τ a) T n (pos T n j) := by
          unfold CAt
          rw [(apf τ a).1 1 (by omega) (by omega) (by omega), (apf τ a).1 3 (by omega) (by omega) (by omega)]
          exact hA
        rw [if_neg e2, c_fault hA' n0 n1 (by omega) (by omega), ob, ob, if_neg (by omega)]
  -- the reference goes on behind the name or number that stands here
  have mput : ∀ τ q2 v : Int, -1000 ≤ v → v < 1000 → (q2 = 0 → w32 (-1 - v) = -1 - v) → ((q2 = 0 ∧ (0 : Int) ≤ v) ∨ (q2 = 1 ∧ B 136 j = -1 - v)) → ∃ B', ((pI B 132 19 τ).bind fun M14 => ((if (if ty' = 2 then (3 : Int) else ty') = 3 then some M14 else if (M14 132 19) = (if ty' = 2 then (3 : Int) else ty') then some M14 else (fX12_wrong 6 M14).bind fun q15 => some q15 : Option Mem)).bind fun q16 => if (q16 132 8) ≤ 0 then ((if q2 = 0 then some (w32 ((-1) - v)) else (ldJ q16 136 (q16 132 7)).bind fun v17 => some (w32 v17) : Option Int)).bind fun q18 => (stI q16 139 (12 * (210 + i) + 5 + 2 * k) q18).bind fun M19 => (ldI M19 135 (M19 132 7)).bind fun v20 => (stI M19 139 (w32 (12 * (210 + i) + 5 + 2 * k + 1)) v20).bind fun M21 => (pI M21 132 7 (w32 ((M21 132 7) + 1))).bind fun M22 => some M22 else some q16) = some B' ∧ (∀ b, b ≠ 132 → b ≠ 139 → B' b = B b) ∧ (∀ f, f ≠ 7 → f ≠ 8 → f ≠ 19 → B' 132 f = B 132 f) ∧ (∀ y, y ≠ 12 * (210 + i) + 5 + 2 * k → y ≠ 12 * (210 + i) + 6 + 2 * k → B' 139 y = B 139 y) ∧ ((ty' = 2 ∨ ty' = τ) → B' 132 7 = j + 1 ∧ B' 132 8 = 0 ∧ B' 132 19 = τ ∧ B' 139 (12 * (210 + i) + 5 + 2 * k) = -1 - v ∧ B' 139 (12 * (210 + i) + 6 + 2 * k) = pos T n j) ∧ (¬ (ty' = 2 ∨ ty' = τ) → B' 132 8 = 6 + 16 * pos T n j) := by
    intro τ q2 v v0 v1 hv hq
    have e19 : wr B 132 19 τ 132 19 = τ := by rw [wr_at, if_pos rfl]
    have e7 : wr B 132 19 τ 132 7 = j := by rw [wr_at, if_neg (by omega), h7]
    have e8 : wr B 132 19 τ 132 8 = 0 := by rw [wr_at, if_neg (by omega), h8]
    rw [pI_ok, ob]
    simp only [e19]
    by_cases ok : ty' = 2 ∨ ty' = τ
    · have ec : ((if (if ty' = 2 then (3 : Int) else ty') = 3 then some (wr B 132 19 τ) else if τ = (if ty' = 2 then (3 : Int) else ty') then some (wr B 132 19 τ) else (fX12_wrong 6 (wr B 132 19 τ)).bind fun q15 => some q15 : Option Mem)) = some (wr B 132 19 τ) := by
        by_cases e1 : ty' = 2
        · rw [if_pos e1, if_pos rfl]
        · have e2 : ty' = τ := by omega
          rw [if_neg e1, if_neg (by omega), if_pos e2.symm]
      rw [ec, ob]
      simp only [e8]
      rw [if_pos (Int.le_refl _)]
      have ev : ((if q2 = 0 then some (w32 ((-1) - v)) else (ldJ (wr B 132 19 τ) 136 (wr B 132 19 τ 132 7)).bind fun v17 => some (w32 v17) : Option Int)) = some (-1 - v) := by
        rcases hq with ⟨a, b⟩ | ⟨a, b⟩
        · rw [if_pos a, hv a]
        · rw [if_neg (by omega), e7, ld136 _ _ j0 (by omega), ob, wr_ne (by omega), b, w32_id (by omega) (by omega)]
      rw [ev, ob, st139 _ _ _ (by omega) (by omega), ob]
      have f7 : wr (wr B 132 19 τ) 139 (12 * (210 + i) + 5 + 2 * k) (-1 - v) 132 7 = j := by rw [wr_ne (by omega)]; exact e7
      rw [f7, ld135 _ _ j0 (by omega), ob, ew3, st139 _ _ _ (by omega) (by omega), ob, pI_ok, ob]
      have g7 : wr (wr (wr B 132 19 τ) 139 (12 * (210 + i) + 5 + 2 * k) (-1 - v)) 139 (12 * (210 + i) + 6 + 2 * k) (wr (wr B 132 19 τ) 139 (12 * (210 + i) + 5 + 2 * k) (-1 - v) 135 j) 132 7 = j := by rw [wr_ne (by omega)]; exact f7
      have p5 : wr (wr B 132 19 τ) 139 (12 * (210 + i) + 5 + 2 * k) (-1 - v) 135 j = pos T n j := by rw [wr_ne (by omega), wr_ne (by omega)]; exact mt.1
      rw [g7, w32_id (by omega) (by omega), p5]
      refine ⟨_, rfl, fun b b1 b2 => by rw [wr_ne b1, wr_ne b2, wr_ne b2, wr_ne b1], fun f f7 f8 f19 => by rw [wr_at, if_neg f7, wr_ne (by omega), wr_ne (by omega), wr_at, if_neg f19], fun y y1 y2 => by rw [wr_ne (by omega), wr_at, if_neg y2, wr_at, if_neg y1, wr_ne (by omega)], fun _ => ⟨by rw [wr_at, if_pos rfl], by rw [wr_at, if_neg (by omega), wr_ne (by omega), wr_ne (by omega)]; exact e8, by rw [wr_at, if_neg (by omega), wr_ne (by omega), wr_ne (by omega)]; exact e19, by rw [wr_ne (by omega), wr_at, if_neg (by omega), wr_at, if_pos rfl], by rw [wr_ne (by omega), wr_at, if_pos rfl]⟩, fun z => absurd ok z⟩
    · have e1 : ¬ ty' = 2 := fun z => ok (Or.inl z)
      have e2 : ¬ ty' = τ := fun z => ok (Or.inr z)
      have hM' : MK (wr B 132 19 τ) T n N := MK_fr hM (wr_ne (by omega)) (wr_ne (by omega)) (wr_ne (by omega)) (wr_ne (by omega))
      have fp := flt_pos (T := T) (j := j) (k := 6) n0 (by omega)
      simp only [e1, if_false]
      rw [if_neg (by omega), if_neg (fun z => e2 z.symm), m_wrong hM' e7 j0 j1 e8 (by omega) (by omega), ob, ob]
      have e88 : wr (wr B 132 19 τ) 132 8 (6 + 16 * pos T n j) 132 8 = 6 + 16 * pos T n j := by rw [wr_at, if_pos rfl]
      simp only [e88]
      rw [if_neg (by omega)]
      exact ⟨_, rfl, fun b b1 b2 => by rw [wr_ne b1, wr_ne b1], fun f f7 f8 f19 => by rw [wr_at, if_neg f8, wr_at, if_neg f19], fun y y1 y2 => by rw [wr_ne (by omega), wr_ne (by omega)], fun z => absurd (z.resolve_left (fun y => y.elim)) e2, fun _ => e88⟩
  have fin : ∀ τ q2 v : Int, (τ = 0 ∨ τ = 1) → -1000 ≤ v → v < m → (τ = if 0 ≤ v then A 19 v else 0) → ∀ B', (∀ b, b ≠ 132 → b ≠ 139 → B' b = B b) ∧ (∀ f, f ≠ 7 → f ≠ 8 → f ≠ 19 → B' 132 f = B 132 f) ∧ (∀ y, y ≠ 12 * (210 + i) + 5 + 2 * k → y ≠ 12 * (210 + i) + 6 + 2 * k → B' 139 y = B 139 y) ∧ ((ty' = 2 ∨ ty' = τ) → B' 132 7 = j + 1 ∧ B' 132 8 = 0 ∧ B' 132 19 = τ ∧ B' 139 (12 * (210 + i) + 5 + 2 * k) = -1 - v ∧ B' 139 (12 * (210 + i) + 6 + 2 * k) = pos T n j) ∧ (¬ (ty' = 2 ∨ ty' = τ) → B' 132 8 = 6 + 16 * pos T n j) → ty T n (pos T n j) ≠ 0 → (∀ b, b ≠ 4 → b ≠ t + 6 → b ≠ t + 7 → Ap τ v b = A b) ∧ (∀ f, f ≠ 11 → Ap τ v 4 f = A 4 f) ∧ (∀ y, y ≠ 3 * i + k → Ap τ v (t + 6) y = A (t + 6) y ∧ Ap τ v (t + 7) y = A (t + 7) y) ∧ (∀ b, b ≠ 132 → b ≠ 139 → B' b = B b) ∧ (∀ f, f ≠ 7 → f ≠ 8 → f ≠ 19 → B' 132 f = B 132 f) ∧ (∀ y, y ≠ 12 * (210 + i) + 5 + 2 * k → y ≠ 12 * (210 + i) + 6 + 2 * k → B' 139 y = B 139 y) ∧ (((if ty' = 2 ∨ ty' = τ then (0 : Int) else 6 + 16 * pos T n j) = 0 ∧ B' 132 7 = j + 1 ∧ B' 132 8 = 0 ∧ j + 1 ≤ N ∧ pos T n j < n ∧ ArR (Ap τ v) B' t 210 i k m ∧ Ap τ v 4 11 = B' 132 19 ∧ (Ap τ v 4 11 = 0 ∨ Ap τ v 4 11 = 1) ∧ (ty' ≠ 2 → Ap τ v 4 11 = ty') ∧ Ap τ v 4 11 = (if 0 ≤ Ap τ v (t + 6) (3 * i + k) then A 19 (Ap τ v (t + 6) (3 * i + k)) else 0)) ∨ (0 < (if ty' = 2 ∨ ty' = τ then (0 : Int) else 6 + 16 * pos T n j) ∧ B' 132 8 = (if ty' = 2 ∨ ty' = τ then (0 : Int) else 6 + 16 * pos T n j))) := by
    intro τ q2 v hτ v0 v1 hv B' ⟨g1, g2, g3, g4, g5⟩ hne
    obtain ⟨a1, a2, a3, a4, a5, a6⟩ := apf τ v
    have ne := not_end hM j1 hne
    refine ⟨a1, a2, a3, g1, g2, g3, ?_⟩
    by_cases ok : ty' = 2 ∨ ty' = τ
    · obtain ⟨o1, o2, o3, o4, o5⟩ := g4 ok
      left
      refine ⟨if_pos ok, o1, o2, by omega, ne.2, ⟨by rw [o4, a5], by rw [o5, a6], by rw [a5]; exact v0, by rw [a5]; exact v1, by rw [a6]; exact pb.1, by rw [a6]; omega⟩, by rw [a4, o3], by rw [a4]; exact hτ, fun z => by rw [a4]; omega, by rw [a4, a5]; exact hv⟩
    · right
      rw [if_neg ok]
      exact ⟨flt_pos n0 (by omega), g5 ok⟩
  have p8 : B 132 8 ≤ 0 := by omega
  have sort : ∀ x, ty T n (pos T n j) = x → B 134 j = x := fun x z => by rw [mt.2.1, z]
  by_cases e2 : ty T n (pos T n j) = 2
  · have k2 := kr.2.2.1.mpr e2
    have db := dig_bd pb.2 e2
    have v6 := (hA.2.2.2.2.1 e2).2
    have mv := mt.2.2.2 e2
    have iv : ixor (A 1 6) (-1) = -1 - A 1 6 := ixorm (by omega) (by omega)
    obtain ⟨B', f, g⟩ := mput 0 1 (ixor (A 1 6) (-1)) (by omega) (by omega) (fun z => by omega) (Or.inr ⟨rfl, by rw [iv, mv, v6]; omega⟩)
    have cl : fX6_takeArg i k ty' A = some (if ty' = 2 ∨ ty' = 0 then 0 else 6 + 16 * pos T n j, Ap 0 (ixor (A 1 6) (-1))) := by
      unfold fX6_takeArg
      rw [if_pos k2, ob]
      exact cput 0 _
    have ml : fX12_takeArg (12 * (210 + i) + 5 + 2 * k) (if ty' = 2 then 3 else ty') B = some B' := by
      unfold fX12_takeArg
      rw [if_pos p8, h7, ld134 _ _ j0 (by omega), ob, if_pos (sort 2 e2), ob, m_isName hC hM h, ob]
      simp only [show ¬ A 1 4 = 4 by omega, if_false, if_true]
      rw [ob]
      dsimp only
      rw [if_neg (show ¬ (1 : Int) = 0 by decide), if_neg (show ¬ (1 : Int) = 0 by decide), ob, if_neg (show ¬ (1 : Int) = 0 by decide), ob]
      exact f
    exact ⟨_, _, B', cl, ml, fin 0 1 _ (Or.inl rfl) (by omega) (by omega) (by rw [if_neg (by omega)]) B' g (by omega)⟩
  · have k2 : ¬ A 1 4 = 2 := fun z => e2 (kr.2.2.1.mp z)
    by_cases e4 : A 1 4 = 4
    · have e1 : ty T n (pos T n j) = 1 := kr.2.2.2.2.1.mp (Or.inl e4)
      have wt := tk_wrd hM h e1
      obtain ⟨s, fs, hs⟩ := c_slotOf hN (wrd_i wt).1
      have ms := m_nameAt hN hM h7 j0 j1 wt hs
      by_cases s0 : s = -1
      · have fp := flt_pos (T := T) (j := j) (k := 2) n0 (by omega)
        have cl : fX6_takeArg i k ty' A = some (2 + 16 * pos T n j, A) := by
          unfold fX6_takeArg
          rw [if_neg k2, if_pos e4, fs, ob]
          dsimp only
          rw [if_pos s0, c_fault hA n0 n1 (by omega) (by omega), ob]
        have e8 : wr (wr B 132 8 (2 + 16 * pos T n j)) 132 19 0 132 8 = 2 + 16 * pos T n j := by rw [wr_at, if_neg (by omega), wr_at, if_pos rfl]
        have ml : fX12_takeArg (12 * (210 + i) + 5 + 2 * k) (if ty' = 2 then 3 else ty') B = some (wr (wr B 132 8 (2 + 16 * pos T n j)) 132 19 0) := by
          unfold fX12_takeArg
          rw [if_pos p8, h7, ld134 _ _ j0 (by omega), ob, if_neg (fun z => e2 (by rw [← mt.2.1]; exact z)), ob, m_isName hC hM h, ob, if_pos e4, if_neg (show ¬ (1 : Int) = 0 by decide), ms, ob]
          dsimp only
          rw [ob]
          dsimp only
          rw [if_pos rfl, m_isName hC hM h, ob, if_pos e4, if_neg (show ¬ (1 : Int) = 0 by decide), if_pos rfl, if_neg (by omega), m_wrong hM h7 j0 j1 h8 (by omega) (by omega), ob, ob, if_pos rfl, if_neg (by omega), ob, pI_ok, ob]
          have ec : ((if (if ty' = 2 then (3 : Int) else ty') = 3 then some (wr (wr B 132 8 (2 + 16 * pos T n j)) 132 19 0) else if (wr (wr B 132 8 (2 + 16 * pos T n j)) 132 19 0 132 19) = (if ty' = 2 then (3 : Int) else ty') then some (wr (wr B 132 8 (2 + 16 * pos T n j)) 132 19 0) else (fX12_wrong 6 (wr (wr B 132 8 (2 + 16 * pos T n j)) 132 19 0)).bind fun q15 => some q15 : Option Mem)) = some (wr (wr B 132 8 (2 + 16 * pos T n j)) 132 19 0) := by
            rw [m_wrong8 (by rw [e8]; omega), ob]
            repeat' split
            all_goals rfl
          rw [ec, ob]
          simp only [e8]
          rw [if_neg (by omega)]
        refine ⟨_, _, _, cl, ml, fun _ _ _ _ => rfl, fun _ _ => rfl, fun _ _ => ⟨rfl, rfl⟩, fun b b1 b2 => by rw [wr_ne b1, wr_ne b1], fun f f7 f8 f19 => by rw [wr_at, if_neg f19, wr_at, if_neg f8], fun y _ _ => by rw [wr_ne (by omega), wr_ne (by omega)], Or.inr ⟨fp, e8⟩⟩
      · have hs' : 0 ≤ s ∧ s < m ∧ A 18 s = A 1 7 := by
          rcases hs with z | z
          · exact absurd z.1 s0
          · exact z
        have ks := nk s hs'.1 hs'.2.1
        obtain ⟨B', f, g⟩ := mput (A 19 s) 0 s (by omega) (by omega) (fun _ => w32_id (by omega) (by omega)) (Or.inl ⟨rfl, hs'.1⟩)
        have cl : fX6_takeArg i k ty' A = some (if ty' = 2 ∨ ty' = A 19 s then 0 else 6 + 16 * pos T n j, Ap (A 19 s) s) := by
          unfold fX6_takeArg
          rw [if_neg k2, if_pos e4, fs, ob]
          dsimp only
          rw [if_neg s0, ld19 _ _ hs'.1 (by omega), ob]
          exact cput _ _
        have ml : fX12_takeArg (12 * (210 + i) + 5 + 2 * k) (if ty' = 2 then 3 else ty') B = some B' := by
          unfold fX12_takeArg
          rw [if_pos p8, h7, ld134 _ _ j0 (by omega), ob, if_neg (fun z => e2 (by rw [← mt.2.1]; exact z)), ob, m_isName hC hM h, ob, if_pos e4, if_neg (show ¬ (1 : Int) = 0 by decide), ms, ob]
          dsimp only
          rw [ob]
          dsimp only
          have et : (if B 141 s = 2 then 0 else B 141 s) = A 19 s := by
            rw [ks.2.2.2.2]
            by_cases z : A 20 s = 1
            · rw [if_pos z, if_pos rfl, ks.2.2.2.1 z]
            · rw [if_neg z, if_neg (by have := ks.2.2.1; omega)]
          rw [if_pos rfl, m_isName hC hM h, ob, if_pos e4, if_neg (show ¬ (1 : Int) = 0 by decide), if_pos rfl, if_pos hs'.1, ob, if_pos rfl, if_pos hs'.1, ld141 _ _ hs'.1 (by omega), ob, s_X12_typeOf, ob, ob, et]
          exact f
        exact ⟨_, _, B', cl, ml, fin _ 0 _ ks.2.2.1 (by omega) hs'.2.1 (by rw [if_pos hs'.1]) B' g (by omega)⟩
    · have fp := flt_pos (T := T) (j := j) (k := 1) n0 (by omega)
      have cl : fX6_takeArg i k ty' A = some (1 + 16 * pos T n j, A) := by
        unfold fX6_takeArg
        rw [if_neg k2, if_neg e4, c_fault hA n0 n1 (by omega) (by omega), ob]
      have e8 : wr (wr B 132 8 (1 + 16 * pos T n j)) 132 19 0 132 8 = 1 + 16 * pos T n j := by rw [wr_at, if_neg (by omega), wr_at, if_pos rfl]
      have ml : fX12_takeArg (12 * (210 + i) + 5 + 2 * k) (if ty' = 2 then 3 else ty') B = some (wr (wr B 132 8 (1 + 16 * pos T n j)) 132 19 0) := by
        unfold fX12_takeArg
        rw [if_pos p8, h7, ld134 _ _ j0 (by omega), ob, if_neg (fun z => e2 (by rw [← mt.2.1]; exact z)), ob, m_isName hC hM h, ob, if_neg e4, if_pos rfl, ob]
        dsimp only
        rw [if_pos rfl, m_isName hC hM h, ob, if_neg e4, if_pos rfl, m_wrong hM h7 j0 j1 h8 (by omega) (by omega), ob, ob, if_pos rfl, if_neg (show ¬ (0 : Int) ≤ -1 by decide), ob, pI_ok, ob]
        have ec : ((if (if ty' = 2 then (3 : Int) else ty') = 3 then some (wr (wr B 132 8 (1 + 16 * pos T n j)) 132 19 0) else if (wr (wr B 132 8 (1 + 16 * pos T n j)) 132 19 0 132 19) = (if ty' = 2 then (3 : Int) else ty') then some (wr (wr B 132 8 (1 + 16 * pos T n j)) 132 19 0) else (fX12_wrong 6 (wr (wr B 132 8 (1 + 16 * pos T n j)) 132 19 0)).bind fun q15 => some q15 : Option Mem)) = some (wr (wr B 132 8 (1 + 16 * pos T n j)) 132 19 0) := by
          rw [m_wrong8 (by rw [e8]; omega), ob]
          repeat' split
          all_goals rfl
        rw [ec, ob]
        simp only [e8]
        rw [if_neg (by omega)]
      refine ⟨_, _, _, cl, ml, fun _ _ _ _ => rfl, fun _ _ => rfl, fun _ _ => ⟨rfl, rfl⟩, fun b b1 b2 => by rw [wr_ne b1, wr_ne b1], fun f f7 f8 f19 => by rw [wr_at, if_neg f19, wr_at, if_neg f8], fun y _ _ => by rw [wr_ne (by omega), wr_ne (by omega)], Or.inr ⟨fp, e8⟩⟩
theorem m_takeArg8 {B : Mem} {p q : Int} (h8 : 0 < B 132 8) : fX12_takeArg p q B = some B := by
  unfold fX12_takeArg
  rw [if_neg (by omega)]
