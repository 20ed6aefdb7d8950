/-! RESERVED WORDS -/
def resL : List (List Int) := [[7, 9, 22, 5, 14], [12, 1, 14, 5], [6, 5, 20, 3, 8], [1, 12, 21], [9, 19], [23, 8, 5, 14], [5, 12, 19, 5], [20, 9, 13, 5, 19], [5, 14, 4], [19, 8, 15, 23], [1, 4, 4], [19, 21, 2], [13, 21, 12], [13, 9, 14], [13, 1, 24], [20, 5, 24], [12, 5, 19, 19], [19, 1, 13, 5], [2, 15, 20, 8], [5, 9, 20, 8, 5, 18], [6, 12, 9, 16], [16, 9, 3, 11], [3, 15, 16, 25]]
def ra (w : Int) : Int → Int := fun i => (resL.getD w.toNat []).getD i.toNat 0
def rl (w : Int) : Nat := (resL.getD w.toNat []).length
def CsT (M : Mem) : Prop := ∀ w, 0 ≤ w → w < 23 → M 3 w = cdS 32 (ra w) (rl w) ∧ M 137 w = cdS 27 (ra w) (rl w)
theorem w22 {w : Int} (h0 : 0 ≤ w) (h1 : w < 23) : ∃ j : Fin 23, w = (j.val : Int) := ⟨⟨w.toNat, by omega⟩, by simp; omega⟩
theorem res_ok {w : Int} (h0 : 0 ≤ w) (h1 : w < 23) : 1 ≤ rl w ∧ rl w ≤ 7 ∧ (0 ≤ cdS 32 (ra w) (rl w) ∧ cdS 32 (ra w) (rl w) ≤ 34359738368) ∧ (0 ≤ cdS 27 (ra w) (rl w) ∧ cdS 27 (ra w) (rl w) ≤ 34359738368) := by
  have key : ∀ j : Fin 23, 1 ≤ rl (j.val : Int) ∧ rl (j.val : Int) ≤ 7 ∧ (0 ≤ cdS 32 (ra (j.val : Int)) (rl (j.val : Int)) ∧ cdS 32 (ra (j.val : Int)) (rl (j.val : Int)) ≤ 34359738368) ∧ (0 ≤ cdS 27 (ra (j.val : Int)) (rl (j.val : Int)) ∧ cdS 27 (ra (j.val : Int)) (rl (j.val : Int)) ≤ 34359738368) := by decide +kernel
  obtain ⟨j, rfl⟩ := w22 h0 h1
  exact key j
theorem res_let {w : Int} (h0 : 0 ≤ w) (h1 : w < 23) : ∀ i : Int, 0 ≤ i → i < rl w → 1 ≤ ra w i ∧ ra w i ≤ 26 := by
  have key : ∀ j : Fin 23, ∀ i : Fin 8, i.val < rl (j.val : Int) → 1 ≤ ra (j.val : Int) (i.val : Int) ∧ ra (j.val : Int) (i.val : Int) ≤ 26 := by decide +kernel
  intro i i0 i1
  have r := res_ok h0 h1
  obtain ⟨j, rfl⟩ := w22 h0 h1
  have := key j ⟨i.toNat, by omega⟩ (by show i.toNat < _; omega)
  rw [show (((⟨i.toNat, by omega⟩ : Fin 8).val : Nat) : Int) = i by show ((i.toNat : Nat) : Int) = i; omega] at this
  exact this
theorem res_dis {w v : Int} (h0 : 0 ≤ w) (h1 : w < 23) (g0 : 0 ≤ v) (g1 : v < 23) (h : cdS 32 (ra w) (rl w) = cdS 32 (ra v) (rl v)) : w = v := by
  have key : ∀ a b : Fin 23, cdS 32 (ra (a.val : Int)) (rl (a.val : Int)) = cdS 32 (ra (b.val : Int)) (rl (b.val : Int)) → a.val = b.val := by decide +kernel
  obtain ⟨a, rfl⟩ := w22 h0 h1
  obtain ⟨b, rfl⟩ := w22 g0 g1
  have := key a b h
  omega
theorem ty_1 {T : Int → Int} {n p : Int} (h : ty T n p = 1) : p < n ∧ (97 ≤ T p ∧ T p ≤ 122) ∧ te T n p = run T n 97 122 p ∧ te T n p - p ≤ 7 := by
  unfold ty at h
  unfold te
  by_cases h1 : n ≤ p
  · rw [if_pos h1] at h; omega
  · rw [if_neg h1] at h ⊢
    by_cases h2 : 97 ≤ T p ∧ T p ≤ 122
    · rw [if_pos h2] at h ⊢
      refine ⟨by omega, h2, rfl, ?_⟩
      by_cases h3 : run T n 97 122 p - p ≤ 7
      · exact h3
      · rw [if_neg h3] at h; omega
    · rw [if_neg h2] at h
      exfalso
      revert h
      repeat' split
      all_goals omega
theorem ty_2 {T : Int → Int} {n p : Int} (h : ty T n p = 2) : p < n ∧ te T n p = run T n 48 57 p ∧ te T n p - p ≤ 3 := by
  unfold ty at h
  unfold te
  by_cases h1 : n ≤ p
  · rw [if_pos h1] at h; omega
  · rw [if_neg h1] at h ⊢
    by_cases h2 : 97 ≤ T p ∧ T p ≤ 122
    · rw [if_pos h2] at h
      split at h <;> omega
    · rw [if_neg h2] at h ⊢
      by_cases h3 : 48 ≤ T p ∧ T p ≤ 57
      · rw [if_pos h3] at h ⊢
        refine ⟨by omega, rfl, ?_⟩
        by_cases h4 : run T n 48 57 p - p ≤ 3
        · exact h4
        · rw [if_neg h4] at h; omega
      · rw [if_neg h3] at h
        split at h <;> omega
theorem let_ok {T : Int → Int} {n p : Int} (p0 : p ≤ n) (h : ty T n p = 1) : ∀ i : Int, 0 ≤ i → i < (te T n p - p).toNat → 1 ≤ let_ T p i ∧ let_ T p i ≤ 26 := by
  obtain ⟨a, b, c, d⟩ := ty_1 h
  have rb := run_bd T n 97 122 (n - p).toNat p (Nat.le_refl _) p0
  intro i i0 i1
  have := rb.2.2 (p + i) (by omega) (by omega)
  unfold let_; omega
theorem cd32_bd {T : Int → Int} {n p : Int} (p0 : p ≤ n) (h : ty T n p = 1) : 0 ≤ cdS 32 (let_ T p) (te T n p - p).toNat ∧ cdS 32 (let_ T p) (te T n p - p).toNat ≤ 34359738368 := by
  have l := let_ok p0 h
  have := cd_lt (B := 32) (a := let_ T p) (by omega) (te T n p - p).toNat (fun i a b => by have := l i a b; omega)
  have pw := pw32 (k := (te T n p - p).toNat) (by have := (ty_1 h).2.2.2; omega)
  omega
theorem cd27_bd {T : Int → Int} {n p : Int} (p0 : p ≤ n) (h : ty T n p = 1) : 0 ≤ cdS 27 (let_ T p) (te T n p - p).toNat ∧ cdS 27 (let_ T p) (te T n p - p).toNat ≤ 34359738368 := by
  have l := let_ok p0 h
  have := cd_lt (B := 27) (a := let_ T p) (by omega) (te T n p - p).toNat (fun i a b => by have := l i a b; omega)
  have pw := pw27 (k := (te T n p - p).toNat) (by have := (ty_1 h).2.2.2; omega)
  omega
set_option maxHeartbeats 4000000 in
set_option maxRecDepth 20000 in
theorem s_X8_find {M : Mem} (hC : ∀ w, 0 ≤ w → w < 23 → M 3 w = cdS 32 (ra w) (rl w)) (h : (M 1 4 = 1) ∨ (M 1 4 = 4 ∧ 0 ≤ M 1 7 ∧ M 1 7 ≤ 34359738368)) : ∃ r, lp fX8_readWord_b2 (0, M) = some r ∧ F1 M r ∧ r 1 3 = M 1 3 ∧ r 1 5 = M 1 5 ∧ r 1 7 = M 1 7 ∧ (M 1 4 = 1 → r 1 4 = 1) ∧ (M 1 4 = 4 → (r 1 4 = 5 ∧ 0 ≤ r 1 6 ∧ r 1 6 < 23 ∧ M 3 (r 1 6) = M 1 7) ∨ (r 1 4 = 4 ∧ ∀ w, 0 ≤ w → w < 23 → M 3 w ≠ M 1 7)) := by
  refine lp_ind (fun s : Int × Mem => 0 ≤ s.1 ∧ s.1 ≤ 23 ∧ F1 M s.2 ∧ s.2 1 3 = M 1 3 ∧ s.2 1 5 = M 1 5 ∧ s.2 1 7 = M 1 7 ∧ (M 1 4 = 1 → s.2 1 4 = 1) ∧ (M 1 4 = 4 → (s.2 1 4 = 5 ∧ 0 ≤ s.2 1 6 ∧ s.2 1 6 < 23 ∧ M 3 (s.2 1 6) = M 1 7) ∨ (s.2 1 4 = 4 ∧ ∀ w, 0 ≤ w → w < s.1 → M 3 w ≠ M 1 7))) (fun r : Mem => F1 M r ∧ r 1 3 = M 1 3 ∧ r 1 5 = M 1 5 ∧ r 1 7 = M 1 7 ∧ (M 1 4 = 1 → r 1 4 = 1) ∧ (M 1 4 = 4 → (r 1 4 = 5 ∧ 0 ≤ r 1 6 ∧ r 1 6 < 23 ∧ M 3 (r 1 6) = M 1 7) ∨ (r 1 4 = 4 ∧ ∀ w, 0 ≤ w → w < 23 → M 3 w ≠ M 1 7))) (fun s => (23 - s.1).toNat) ?_ _ ?_
  · rintro ⟨w, q⟩ ⟨w0, w1, fr, q3, q5, q7, ha, hb⟩
    dsimp only at w0 w1 fr q3 q5 q7 ha hb
    unfold fX8_readWord_b2
    dsimp only
    by_cases hw : 23 ≤ w
    · rw [if_pos hw]
      have : w = 23 := by omega
      subst this
      exact Or.inr ⟨q, rfl, fr, q3, q5, q7, ha, hb⟩
    · rw [if_neg hw]
      by_cases h4 : q 1 4 = 4
      · have m4 : M 1 4 = 4 := by
          rcases h with z | z
          · have := ha z; omega
          · exact z.1
        have hv : 0 ≤ M 1 7 ∧ M 1 7 ≤ 34359738368 := by
          rcases h with z | z
          · omega
          · exact z.2
        have no : ∀ v, 0 ≤ v → v < w → M 3 v ≠ M 1 7 := by
          rcases hb m4 with z | z
          · omega
          · exact z.2
        have rk' := (res_ok w0 (by omega)).2.2.1
        rw [if_pos h4, ld3 _ _ w0 (by omega), ob]
        have key : lc (q 3 w) (q 1 7) = 0 ↔ M 3 w = M 1 7 := by
          rw [q7, fr.1 3 (by omega)]
          exact lc_eq (a := M 3 w) (b := M 1 7) ⟨by rw [hC w w0 (by omega)]; omega, by rw [hC w w0 (by omega)]; omega⟩ ⟨by omega, by omega⟩
        by_cases he : M 3 w = M 1 7
        · rw [if_pos (key.mpr he), pI_ok, ob, pI_ok, ob, ob, w32_id (by omega) (by omega)]
          refine Or.inl ⟨_, rfl, ⟨by dsimp only; omega, by dsimp only; omega, F1_trans fr (F1_trans (F1_wr q (by omega)) (F1_wr _ (by omega))), ?_, ?_, ?_, fun z => by omega, fun _ => Or.inl ?_⟩, by dsimp only; omega⟩
          · dsimp only; rw [wr_at, if_neg (by omega), wr_at, if_neg (by omega), q3]
          · dsimp only; rw [wr_at, if_neg (by omega), wr_at, if_neg (by omega), q5]
          · dsimp only; rw [wr_at, if_neg (by omega), wr_at, if_neg (by omega), q7]
          · dsimp only
            rw [wr_at, if_neg (by omega), wr_at, if_pos rfl, wr_at, if_pos rfl]
            exact ⟨rfl, w0, by omega, he⟩
        · rw [if_neg (fun z => he (key.mp z)), ob, w32_id (by omega) (by omega)]
          refine Or.inl ⟨_, rfl, ⟨by dsimp only; omega, by dsimp only; omega, fr, q3, q5, q7, ha, fun _ => Or.inr ⟨h4, fun v v0 v1 => ?_⟩⟩, by dsimp only; omega⟩
          dsimp only at v1
          by_cases e : v = w
          · rw [e]; exact he
          · exact no v v0 (by omega)
      · rw [if_neg h4]
        refine Or.inr ⟨q, rfl, fr, q3, q5, q7, ha, fun z => ?_⟩
        rcases hb z with y | y
        · exact Or.inl y
        · omega
  · exact ⟨Int.le_refl _, by dsimp only; omega, ⟨fun _ _ => rfl, rfl⟩, rfl, rfl, rfl, fun z => z, fun z => Or.inr ⟨z, fun w a b => by dsimp only at b; omega⟩⟩
set_option maxHeartbeats 4000000 in
set_option maxRecDepth 20000 in
theorem s_X8_advance {M : Mem} {T : Int → Int} {n : Int} (hT : CTp M T n) (hC : ∀ w, 0 ≤ w → w < 23 → M 3 w = cdS 32 (ra w) (rl w)) (p0 : 0 ≤ M 1 3) (p1 : M 1 3 ≤ n) : ∃ r, fX8_advance M = some r ∧ F1 M r ∧ CAt r T n (sk T n (M 1 3)) := by
  obtain ⟨t1, t2, t3, t4⟩ := id hT
  have sb := sk_bd T n (n - M 1 3).toNat (M 1 3) (Nat.le_refl _) p1
  obtain ⟨q, f, fr, q3⟩ := s_X8_skip hT p0 p1
  generalize hp : sk T n (M 1 3) = p at *
  unfold fX8_advance
  rw [f, ob, pI_ok, ob, q3]
  have fr7 : F1 M (wr q 1 5 p) := F1_trans fr (F1_wr q (by omega))
  generalize hM7 : wr q 1 5 p = M7 at *
  have a2 : M7 1 2 = n := by rw [fr7.2, t1]
  have a3 : M7 1 3 = p := by rw [← hM7, wr_at, if_neg (by omega), q3]
  have a5 : M7 1 5 = p := by rw [← hM7, wr_at, if_pos rfl]
  have hT7 := CTp_fr hT fr7
  simp only [a2, a3]
  by_cases hpn : n ≤ p
  · rw [if_pos hpn, ob, if_neg (by omega), pI_ok, ob, ob]
    refine ⟨_, rfl, F1_trans fr7 (F1_wr M7 (by omega)), ?_⟩
    have e0 : ty T n p = 0 := by unfold ty; rw [if_pos hpn]
    have e1 : te T n p = p := by unfold te; rw [if_pos hpn]
    unfold CAt
    rw [e0, e1]
    refine ⟨by rw [wr_at, if_neg (by omega), a5], by rw [wr_at, if_neg (by omega), a3], fun _ => by rw [wr_at, if_pos rfl], fun z => by omega, fun z => by omega, fun z => by omega, fun z => by omega⟩
  · rw [if_neg hpn, ld2 _ _ (by omega) (by omega), ob, ob, if_pos (by omega), hT7.2.2.2 p (by omega) (by omega)]
    by_cases hl : 97 ≤ T p ∧ T p ≤ 122
    · have ec : ((if T p < 97 then some true else if 122 < T p then some true else some false : Option Bool)) = some false := by rw [if_neg (by omega), if_neg (by omega)]
      have e1 : te T n p = run T n 97 122 p := by unfold te; rw [if_neg hpn, if_pos hl]
      have rb := run_bd T n 97 122 (n - p).toNat p (Nat.le_refl _) (by omega)
      rw [ec, ob, if_neg (by decide)]
      unfold fX8_readWord
      rw [pI_ok, ob]
      obtain ⟨u, fu, uf, u5, u3, u7⟩ := s_X8_letters (M := wr M7 1 7 0) (p := p) (CTp_fr hT7 (F1_wr M7 (by omega))) (by omega) (by omega) (by rw [wr_at, if_neg (by omega), a3]) (by rw [wr_at, if_pos rfl])
      rw [wr_at, if_neg (by omega), a5] at u5
      rw [fu, ob, u3, u5, w32_id (show -2147483648 ≤ run T n 97 122 p - p by omega) (by omega)]
      have frU : F1 M u := F1_trans fr7 (F1_trans (F1_wr M7 (by omega)) uf)
      by_cases h7 : 7 < run T n 97 122 p - p
      · have e0 : ty T n p = 4 := by unfold ty; rw [if_neg hpn, if_pos hl, if_neg (by omega)]
        rw [if_pos h7, ob, pI_ok, ob]
        have frV : F1 M (wr u 1 4 1) := F1_trans frU (F1_wr u (by omega))
        obtain ⟨v, fv, vf, v3, v5, v7, va, vb⟩ := s_X8_find (M := wr u 1 4 1) (fun w a b => by rw [frV.1 3 (by omega)]; exact hC w a b) (Or.inl (by rw [wr_at, if_pos rfl]))
        rw [fv, ob, ob, ob]
        refine ⟨_, rfl, F1_trans frV vf, ?_⟩
        unfold CAt
        rw [e0, e1]
        refine ⟨by rw [v5, wr_at, if_neg (by omega), u5], by rw [v3, wr_at, if_neg (by omega), u3], fun z => by omega, fun _ => va (by rw [wr_at, if_pos rfl]), fun z => by omega, fun z => by omega, fun z => by omega⟩
      · have e0 : ty T n p = 1 := by unfold ty; rw [if_neg hpn, if_pos hl, if_pos (by omega)]
        rw [if_neg h7, ob, pI_ok, ob]
        have frV : F1 M (wr u 1 4 4) := F1_trans frU (F1_wr u (by omega))
        have cb := cd32_bd (by omega) e0
        rw [e1] at cb
        have w7 : wr u 1 4 4 1 7 = cdS 32 (let_ T p) (run T n 97 122 p - p).toNat := by rw [wr_at, if_neg (by omega), u7 (by omega)]
        obtain ⟨v, fv, vf, v3, v5, v7, va, vb⟩ := s_X8_find (M := wr u 1 4 4) (fun w a b => by rw [frV.1 3 (by omega)]; exact hC w a b) (Or.inr ⟨by rw [wr_at, if_pos rfl], by rw [w7]; exact cb⟩)
        rw [fv, ob, ob, ob]
        refine ⟨_, rfl, F1_trans frV vf, ?_⟩
        unfold CAt
        rw [e0, e1]
        refine ⟨by rw [v5, wr_at, if_neg (by omega), u5], by rw [v3, wr_at, if_neg (by omega), u3], fun z => by omega, fun z => by omega, fun z => by omega, fun z => by omega, fun _ => ⟨by rw [v7, w7], ?_⟩⟩
        have x3 : v 3 = wr u 1 4 4 3 := vf.1 3 (by omega)
        rw [x3, v7]
        exact vb (by rw [wr_at, if_pos rfl])
    · have ec : ((if T p < 97 then some true else if 122 < T p then some true else some false : Option Bool)) = some true := by
        by_cases z : T p < 97
        · rw [if_pos z]
        · rw [if_neg z, if_pos (by omega)]
      rw [ec, ob, if_pos rfl]
      by_cases hd : 48 ≤ T p ∧ T p ≤ 57
      · have ed : ((if T p < 48 then some true else if 57 < T p then some true else some false : Option Bool)) = some false := by rw [if_neg (by omega), if_neg (by omega)]
        have e1 : te T n p = run T n 48 57 p := by unfold te; rw [if_neg hpn, if_neg hl, if_pos hd]
        have rb := run_bd T n 48 57 (n - p).toNat p (Nat.le_refl _) (by omega)
        rw [ed, ob, if_neg (by decide)]
        unfold fX8_readNumeral
        rw [pI_ok, ob]
        obtain ⟨u, fu, uf, u5, u3, u6⟩ := s_X8_digits (M := wr M7 1 6 0) (p := p) (CTp_fr hT7 (F1_wr M7 (by omega))) (by omega) (by omega) (by rw [wr_at, if_neg (by omega), a3]) (by rw [wr_at, if_pos rfl])
        rw [wr_at, if_neg (by omega), a5] at u5
        rw [fu, ob, u3, u5, w32_id (show -2147483648 ≤ run T n 48 57 p - p by omega) (by omega)]
        have frU : F1 M u := F1_trans fr7 (F1_trans (F1_wr M7 (by omega)) uf)
        by_cases h7 : 3 < run T n 48 57 p - p
        · have e0 : ty T n p = 4 := by unfold ty; rw [if_neg hpn, if_neg hl, if_pos hd, if_neg (by omega)]
          rw [if_pos h7, ob, pI_ok, ob, ob, ob]
          refine ⟨_, rfl, F1_trans frU (F1_wr u (by omega)), ?_⟩
          unfold CAt
          rw [e0, e1]
          exact ⟨by rw [wr_at, if_neg (by omega), u5], by rw [wr_at, if_neg (by omega), u3], fun z => by omega, fun _ => by rw [wr_at, if_pos rfl], fun z => by omega, fun z => by omega, fun z => by omega⟩
        · have e0 : ty T n p = 2 := by unfold ty; rw [if_neg hpn, if_neg hl, if_pos hd, if_pos (by omega)]
          rw [if_neg h7, ob, pI_ok, ob, ob, ob]
          refine ⟨_, rfl, F1_trans frU (F1_wr u (by omega)), ?_⟩
          unfold CAt
          rw [e0, e1]
          exact ⟨by rw [wr_at, if_neg (by omega), u5], by rw [wr_at, if_neg (by omega), u3], fun z => by omega, fun z => by omega, fun _ => ⟨by rw [wr_at, if_pos rfl], by rw [wr_at, if_neg (by omega), u6 (by omega)]⟩, fun z => by omega, fun z => by omega⟩
      · have ed : ((if T p < 48 then some true else if 57 < T p then some true else some false : Option Bool)) = some true := by
          by_cases z : T p < 48
          · rw [if_pos z]
          · rw [if_neg z, if_pos (by omega)]
        have e1 : te T n p = p + 1 := by unfold te; rw [if_neg hpn, if_neg hl, if_neg hd]
        rw [ed, ob, if_pos rfl]
        by_cases h59 : T p = 59
        · have e0 : ty T n p = 3 := by unfold ty; rw [if_neg hpn, if_neg hl, if_neg hd, if_pos h59]
          rw [if_pos h59, ob, pI_ok, ob, pI_ok, ob, ob, wr_at, if_neg (by omega), a3, w32_id (by omega) (by omega)]
          refine ⟨_, rfl, F1_trans fr7 (F1_trans (F1_wr M7 (by omega)) (F1_wr _ (by omega))), ?_⟩
          unfold CAt
          rw [e0, e1]
          exact ⟨by rw [wr_at, if_neg (by omega), wr_at, if_neg (by omega), a5], by rw [wr_at, if_pos rfl], fun z => by omega, fun z => by omega, fun z => by omega, fun _ => by rw [wr_at, if_neg (by omega), wr_at, if_pos rfl], fun z => by omega⟩
        · have e0 : ty T n p = 4 := by unfold ty; rw [if_neg hpn, if_neg hl, if_neg hd, if_neg h59]
          rw [if_neg h59, ob, pI_ok, ob, pI_ok, ob, ob, wr_at, if_neg (by omega), a3, w32_id (by omega) (by omega)]
          refine ⟨_, rfl, F1_trans fr7 (F1_trans (F1_wr M7 (by omega)) (F1_wr _ (by omega))), ?_⟩
          unfold CAt
          rw [e0, e1]
          exact ⟨by rw [wr_at, if_neg (by omega), wr_at, if_neg (by omega), a5], by rw [wr_at, if_pos rfl], fun z => by omega, fun _ => by rw [wr_at, if_neg (by omega), wr_at, if_pos rfl], fun z => by omega, fun z => by omega, fun z => by omega⟩
