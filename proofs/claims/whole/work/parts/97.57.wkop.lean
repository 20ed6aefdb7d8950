/-! walking: an `is` line -/
set_option maxHeartbeats 4000000 in
set_option maxRecDepth 20000 in
theorem wl_is {M a b : Mem} {t : Nat} {G : Nat → Int → Int → Int} {i v sl md : Int} (ht : t = 5 ∨ t = 119) (i0 : 0 ≤ i) (i1 : i < 200) (hv : M (t + 4) i = v) (hs : M (t + 3) i = sl) (hb2 : M 139 (12 * i + 2) = v) (v2 : 2 ≤ v) (v14 : v ≤ 14) (ar : ∀ k, 0 ≤ k → k < argc v → ArR M M t 0 i k (G 1 i 0)) (ot : OpT M t G i md) (s0 : 0 ≤ sl) (s20 : sl < 20) (m20 : G 1 i 0 ≤ 20) (fa : ∀ d, d ≠ 56 → d ≠ 58 → d ≠ 59 → d ≠ 61 → a d = M d) (f9 : b 139 = M 139) (f2 : b 152 = M 152) (hc : ∀ i, 0 ≤ i → i < 16 → M 55 i = M 152 i ∧ 0 ≤ M 55 i ∧ M 55 i ≤ 999) (hN : wNm G i a b) : ∃ x a', fX4_walkIs t i a = some a' ∧ fX12_opNumber (12 * i) b = some (x, b) ∧ (∀ d, d ≠ 58 → d ≠ 61 → a' d = a d) ∧ (∀ s, a' 58 s = if s = sl then x else a 58 s) ∧ (-99999 ≤ x ∧ x ≤ 99999) ∧ (md = 1 → x = 0 ∨ x = 1) := by
  have ab := argc_bd v
  have a1 := argc1 v2
  have wa : ∀ k, 0 ≤ k → k < argc v → fX4_argNumber t i k a = some (wlx M t a i k, a) ∧ fX12_argNumber (12 * i + 5 + 2 * k) b = some (wlx M t a i k, b) ∧ (-99999 ≤ wlx M t a i k ∧ wlx M t a i k ≤ 99999) ∧ (aTy M t G i k = 1 → wlx M t a i k = 0 ∨ wlx M t a i k = 1) := fun k k0 k1 => wl_arg ht (ar k k0 k1) (fa _ (by omega) (by omega) (by omega) (by omega)) f9 i0 i1 k0 (by omega) m20 hN
  obtain ⟨r, l1, l2, l3⟩ := wl_take (a := a) (t := t) (i := i) (v := v) (xs := wlx M t a i) (fun k k0 k1 m hm => by
    have q := wl_arg (a := m) (b := b) ht (ar k k0 k1) (by rw [hm _ (by omega)]; exact fa _ (by omega) (by omega) (by omega) (by omega)) f9 i0 i1 k0 (by omega) m20 (fun s x y => by rw [hm 58 (by omega)]; exact hN s x y)
    have e : wlx M t m i k = wlx M t a i k := by unfold wlx; rw [hm 58 (by omega)]
    rw [e] at q
    exact q.1)
  obtain ⟨X0, hX0⟩ : ∃ x, x = wlx M t a i 0 := ⟨_, rfl⟩
  obtain ⟨X1, hX1⟩ : ∃ x, x = if argc v ≤ 1 then 0 else wlx M t a i 1 := ⟨_, rfl⟩
  obtain ⟨X2, hX2⟩ : ∃ x, x = if argc v ≤ 2 then 0 else wlx M t a i 2 := ⟨_, rfl⟩
  have w0 := wa 0 (by omega) (by omega)
  rw [← hX0] at w0
  have b1 : -99999 ≤ X1 ∧ X1 ≤ 99999 := by
    rw [hX1]
    by_cases z : argc v ≤ 1
    · rw [if_pos z]; omega
    · rw [if_neg z]; exact (wa 1 (by omega) (by omega)).2.2.1
  have b2 : -99999 ≤ X2 ∧ X2 ≤ 99999 := by
    rw [hX2]
    by_cases z : argc v ≤ 2
    · rw [if_pos z]; omega
    · rw [if_neg z]; exact (wa 2 (by omega) (by omega)).2.2.1
  have ac1 : v = 7 ∨ v = 12 ∨ v = 14 → argc v = 1 := fun z => by unfold argc; rw [if_neg (by omega), if_pos z]
  have ac3 : v = 13 → argc v = 3 := fun z => by rw [z]; decide
  have ac2 : v ≠ 7 → v ≠ 12 → v ≠ 14 → v ≠ 13 → argc v = 2 := fun a b c d => by unfold argc; rw [if_neg (by omega), if_neg (by omega), if_neg d]
  have r0 : r 61 0 = X0 := by rw [l3 0 (by omega) (by omega), hX0]
  have r1 : v ≠ 7 → v ≠ 12 → v ≠ 14 → r 61 1 = X1 := fun p q s => by
    have : ¬ argc v ≤ 1 := by
      by_cases d : v = 13
      · rw [ac3 d]; omega
      · rw [ac2 p q s d]; omega
    rw [l3 1 (by omega) (by omega), hX1, if_neg this]
  have r2 : v = 13 → r 61 2 = X2 := fun d => by
    have := ac3 d
    rw [l3 2 (by omega) (by omega), hX2, if_neg (by omega)]
  have r55 : r 55 = M 55 := by rw [l2 55 (by omega)]; exact fa 55 (by omega) (by omega) (by omega) (by omega)
  have cm : fX11_made v (r 61 0) (r 61 1) (r 61 2) r = some (mdF v X0 X1 X2 (M 55), r) := by
    by_cases d : v = 14
    · rw [d, s_made14, r0, r55]
      have : ∀ p q p' q' : Int, mdF 14 X0 p q (M 55) = mdF 14 X0 p' q' (M 55) := fun p q p' q' => by
        unfold mdF
        simp only [Nat.reduceAdd, reduceIte, Int.reduceEq, Int.reduceLT, Int.reduceLE, Int.reduceNeg, Int.reduceAdd, Int.reduceSub, Int.reduceMul, Int.reduceNe, or_true, true_or, or_false, false_or, or_self, and_true, true_and, and_false, false_and, and_self, not_true_eq_false, not_false_eq_true, ne_eq, Bool.false_eq_true, Bool.true_eq_false, decide_true, decide_false]
      rw [this _ _ X1 X2]
    · rw [s_X11_made' (by rw [r0]; exact w0.2.2.1) (fun p q => by rw [r1 p q d]; exact b1), r0, r55]
      rw [mdF_irr (b := X1) (c := X2) v2 (fun p q => r1 p q d) (fun q => r2 q)]
  refine ⟨mdF v X0 X1 X2 (M 55), wr r 58 sl (mdF v X0 X1 X2 (M 55)), ?_, ?_, fun d h1 h2 => by rw [wr_ne h1]; exact l2 d h2, fun s => by rw [wr_at, l2 58 (by omega)], ?_, ?_⟩
  · have e4 : a (t + 4) i = v := by rw [fa _ (by omega) (by omega) (by omega) (by omega)]; exact hv
    have e3 : r (t + 3) i = sl := by rw [l2 _ (by omega), fa _ (by omega) (by omega) (by omega) (by omega)]; exact hs
    unfold fX4_walkIs
    rw [tl4 ht _ _ i0 i1, ob, e4, l1, ob, tl3 ht _ _ i0 i1, ob, e3, ld61 _ _ (by omega) (by omega), ob, ld61 _ _ (by omega) (by omega), ob, ld61 _ _ (by omega) (by omega), ob, cm, ob]
    dsimp only
    rw [st58 _ _ _ s0 s20, ob]
  · have e2 : b 139 (12 * i + 2) = v := by rw [f9]; exact hb2
    have w0b := w0.2.1
    rw [show 12 * i + 5 + 2 * 0 = 12 * i + 5 by omega] at w0b
    have q5 : ((if argc v ≤ 1 then some (0, b) else (fX12_argNumber (w32 (12 * i + 7)) b).bind fun q4 => some (q4.1, q4.2) : Option (Int × Mem))) = some (X1, b) := by
      rw [hX1]
      by_cases z : argc v ≤ 1
      · rw [if_pos z, if_pos z]
      · have w1 := (wa 1 (by omega) (by omega)).2.1
        rw [show 12 * i + 5 + 2 * 1 = 12 * i + 7 by omega] at w1
        rw [if_neg z, if_neg z, w32_id (show -2147483648 ≤ 12 * i + 7 by omega) (by omega), w1, ob]
    have q7 : ((if argc v ≤ 2 then some (0, b) else (fX12_argNumber (w32 (12 * i + 9)) b).bind fun q6 => some (q6.1, q6.2) : Option (Int × Mem))) = some (X2, b) := by
      rw [hX2]
      by_cases z : argc v ≤ 2
      · rw [if_pos z, if_pos z]
      · have w1 := (wa 2 (by omega) (by omega)).2.1
        rw [show 12 * i + 5 + 2 * 2 = 12 * i + 9 by omega] at w1
        rw [if_neg z, if_neg z, w32_id (show -2147483648 ≤ 12 * i + 9 by omega) (by omega), w1, ob]
    have q9 : ((if v = 14 then some (X0, b) else (fX12_worked v X0 X1 X2 b).bind fun q8 => some (q8.1, q8.2) : Option (Int × Mem))) = some (mdF v X0 X1 X2 (M 55), b) := by
      by_cases d : v = 14
      · rw [if_pos d, d]
        unfold mdF
        simp only [Nat.reduceAdd, reduceIte, Int.reduceEq, Int.reduceLT, Int.reduceLE, Int.reduceNeg, Int.reduceAdd, Int.reduceSub, Int.reduceMul, Int.reduceNe, or_true, true_or, or_false, false_or, or_self, and_true, true_and, and_false, false_and, and_self, not_true_eq_false, not_false_eq_true, ne_eq, Bool.false_eq_true, Bool.true_eq_false, decide_true, decide_false]
      · rw [if_neg d, s_X12_worked v2 (by omega) w0.2.2.1 b1, ob, f2, mdF_cell (cell' := M 152) (cell := M 55) (fun j x y => (hc j x y).1.symm)]
    unfold fX12_opNumber
    rw [w32_id (show -2147483648 ≤ 12 * i + 2 by omega) (by omega), ld139 _ _ (by omega) (by omega), ob, e2, s_argsOf12 v2, ob]
    dsimp only
    rw [w32_id (show -2147483648 ≤ 12 * i + 5 by omega) (by omega), w0b, ob]
    dsimp only
    rw [q5, ob]
    dsimp only
    rw [q7, ob]
    dsimp only
    rw [q9, ob]
  · obtain ⟨o1, o2, o3, o4, o5, o6⟩ := ot
    rw [hv] at o2
    refine mdF_bd w0.2.2.1 b1 b2 (fun d => ?_) (fun j x y => (hc j x y).2)
    exact w0.2.2.2 (o2 (by omega) (by omega) 0 (by omega) (by omega))
  · intro hm
    obtain ⟨o1, o2, o3, o4, o5, o6⟩ := ot
    rw [hv] at o2 o3 o4 o5
    have v8 : 8 ≤ v := by
      by_cases z : v ≤ 7
      · have := o5 z; omega
      · omega
    refine mdF_fl v8 v14 (fun p q => w0.2.2.2 (o2 p q 0 (by omega) (by omega))) (fun p => ?_) (fun p => ?_) (fun p => w0.2.2.2 (by rw [o4 p]; exact hm))
    · have a2 : argc v = 2 := ac2 (by omega) (by omega) (by omega) (by omega)
      rw [hX1, if_neg (by omega)]
      exact (wa 1 (by omega) (by omega)).2.2.2 (o2 (by omega) (by omega) 1 (by omega) (by omega))
    · have a3 := ac3 p
      rw [hX1, if_neg (by omega), hX2, if_neg (by omega)]
      exact ⟨(wa 1 (by omega) (by omega)).2.2.2 (by rw [(o3 p).2.1]; exact hm), (wa 2 (by omega) (by omega)).2.2.2 (by rw [(o3 p).2.2]; exact hm)⟩
