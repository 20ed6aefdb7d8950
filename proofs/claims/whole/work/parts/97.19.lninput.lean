theorem CK_in {A : Mem} {t : Nat} {T : Int → Int} {n u giv : Int} (h : CK A t T n) : CK (wr (wr A t 10 (u + 1)) (t + 10) u giv) t T n := by
  have ht := h.1
  exact CK_fr h (by rw [wr_ne (by omega), wr_ne (by omega)]) (by rw [wr_ne (by omega), wr_ne (by omega)]) (by rw [wr_ne (by omega), wr_ne (by omega)]) (by rw [wr_ne (by omega), wr_ne (by omega)])
/-! the class's way through an input line, up to its name -/
set_option maxHeartbeats 4000000 in
set_option maxRecDepth 20000 in
theorem c_inA {A : Mem} {t : Nat} {T : Int → Int} {n c u giv j : Int} (hC : CK A t T n) (hA : CAt A T n (pos T n j)) (j0 : 0 ≤ j) (h47 : A 4 7 ≤ 0) (h10 : A t 10 = u) (u0 : 0 ≤ u) (u1 : u < 6) (h0 : A t 0 = c) (c0 : 0 ≤ c) (c1 : c < 200) (hg : giv = 0 ∨ giv = 1) : ∃ A2, (fX6_readInput giv A = ((((if A2 1 4 = 4 then (fX6_slotOf (A2 1 7) A2).bind fun q4 => if q4.1 = (-1) then if (q4.2 4 5) < 20 then (gm q4.2 4 1).bind fun t5 => (stI q4.2 (t5 + 9) c u).bind fun M6 => (gm M6 4 1).bind fun t7 => (fX6_tell (M6 1 7) 0 1 M6).bind fun q8 => (stI q8.2 (t7 + 3) c q8.1).bind fun M9 => some ((0 : Int), M9) else (fX6_faultHere 5 q4.2).bind fun q10 => some (q10.1, q10.2) else (fX6_faultHere 3 q4.2).bind fun q11 => some (q11.1, q11.2) else (fX6_faultHere 1 A2).bind fun q12 => some (q12.1, q12.2) : Option (Int × Mem))).bind fun q8 => ((if q8.1 = 0 then (fX6_readNumber 0 999 q8.2).bind fun q9 => some (q9.1, q9.2) else some (q8.1, q8.2) : Option (Int × Mem))).bind fun q10 => ((if q10.1 = 0 then (gm q10.2 4 1).bind fun t11 => (stI q10.2 (t11 + 11) u (q10.2 1 6)).bind fun M12 => (fX6_readNumber (M12 1 6) 999 M12).bind fun q13 => some (q13.1, q13.2) else some (q10.1, q10.2) : Option (Int × Mem))).bind fun q14 => ((if q14.1 = 0 then (gm q14.2 4 1).bind fun t15 => (stI q14.2 (t15 + 12) u (q14.2 1 6)).bind fun M16 => (fX6_readSemicolon M16).bind fun q17 => some (q17.1, q17.2) else some (q14.1, q14.2) : Option (Int × Mem))).bind fun q18 => some (q18.1, q18.2)))) ∧ CAt A2 T n (pos T n (j + 1)) ∧ A2 1 2 = A 1 2 ∧ A2 t 0 = c + 1 ∧ A2 t 10 = u + 1 ∧ (∀ k, k ≠ 0 → k ≠ 10 → A2 t k = A t k) ∧ A2 (t + 1) c = 0 ∧ A2 (t + 2) c = pos T n j ∧ A2 (t + 8) c = -1 ∧ (∀ i, i ≠ c → A2 (t + 1) i = A (t + 1) i ∧ A2 (t + 2) i = A (t + 2) i ∧ A2 (t + 8) i = A (t + 8) i) ∧ (∀ i, A2 (t + 10) i = if i = u then giv else A (t + 10) i) ∧ ∀ b, b ≠ 1 → b ≠ t → b ≠ t + 1 → b ≠ t + 2 → b ≠ t + 8 → b ≠ t + 10 → A2 b = A b := by
  have ht := hC.1
  generalize hAa : wr (wr A t 10 (u + 1)) (t + 10) u giv = Aa
  have ab : ∀ b, b ≠ t → b ≠ t + 10 → Aa b = A b := fun b e1 e2 => by rw [← hAa, wr_ne e2, wr_ne e1]
  have at_ : ∀ k, Aa t k = if k = 10 then u + 1 else A t k := fun k => by rw [← hAa, wr_ne (by omega), wr_at]
  have a10 : ∀ i, Aa (t + 10) i = if i = u then giv else A (t + 10) i := fun i => by rw [← hAa, wr_at, wr_ne (by omega)]
  have hCa : CK Aa t T n := by rw [← hAa]; exact CK_in hC
  obtain ⟨A1, f1, x1, x2, x3, x4, x5, x6, x7⟩ := c_open (A := Aa) (kind := 0) (start := pos T n j) ht (by rw [at_, if_neg (by decide)]; exact h0) c0 c1
  have hC1 : CK A1 t T n := CK_fr hCa (by rw [x7 1 (by omega) (by omega) (by omega) (by omega)]) (x7 2 (by omega) (by omega) (by omega) (by omega)) (x7 3 (by omega) (by omega) (by omega) (by omega)) (by rw [x7 4 (by omega) (by omega) (by omega) (by omega)])
  have a11 : A1 1 = A 1 := by rw [x7 1 (by omega) (by omega) (by omega) (by omega), ab 1 (by omega) (by omega)]
  obtain ⟨A2, f2, fr2, at2⟩ := c_advance hC1 j0 (by rw [a11]; exact hA.2.1)
  have g0 : gm A 4 1 = some t := gm41 ht hC.2.1
  have g1 : gm (wr A t 10 (u + 1)) 4 1 = some t := gm41 ht (by rw [wr_ne (by omega)]; exact hC.2.1)
  have ga : gm Aa 4 1 = some t := gm41 ht hCa.2.1
  have e15 : Aa 1 5 = pos T n j := by rw [ab 1 (by omega) (by omega)]; exact hA.1
  refine ⟨A2, ?_, at2, ?_, ?_, ?_, fun k k0 k10 => ?_, ?_, ?_, ?_, fun i hi => ?_, fun i => ?_, fun b e1 e2 e3 e4 e5 e6 => ?_⟩
  · unfold fX6_readInput
    rw [if_pos h47, g0, ob, if_pos (show A t 10 < 6 by omega), ob, ob, ob, h10, pI_ok, ob, w32_id (show -2147483648 ≤ u + 1 by omega) (by omega), g1, ob, ts10 ht _ _ _ u0 u1, ob, nz_ok hg, hAa]
    unfold fX6_readInputName
    rw [ga, ob, e15, f1, ob]
    dsimp only
    rw [f2, ob]
  · rw [fr2.2, a11]
  · rw [fr2.1 t (by omega)]; exact x1
  · rw [fr2.1 t (by omega), x5 10 (by decide), at_, if_pos rfl]
  · rw [fr2.1 t (by omega), x5 k k0, at_, if_neg k10]
  · rw [fr2.1 (t + 1) (by omega)]; exact x2
  · rw [fr2.1 (t + 2) (by omega)]; exact x3
  · rw [fr2.1 (t + 8) (by omega)]; exact x4
  · rw [fr2.1 (t + 1) (by omega), fr2.1 (t + 2) (by omega), fr2.1 (t + 8) (by omega)]
    have := x6 i hi
    rw [ab (t + 1) (by omega) (by omega), ab (t + 2) (by omega) (by omega), ab (t + 8) (by omega) (by omega)] at this
    exact this
  · rw [fr2.1 (t + 10) (by omega), x7 (t + 10) (by omega) (by omega) (by omega) (by omega), a10]
  · rw [fr2.1 b e1, x7 b e2 e3 e4 e5, ab b e2 e6]
