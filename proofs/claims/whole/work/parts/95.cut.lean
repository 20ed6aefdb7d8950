/-! the reference cuts all -/
def posN (T : Int → Int) (n : Int) : Nat → Int
  | 0 => sk T n 0
  | j + 1 => sk T n (te T n (posN T n j))
def pos (T : Int → Int) (n j : Int) : Int := posN T n j.toNat
theorem pos_0 (T : Int → Int) (n : Int) : pos T n 0 = sk T n 0 := rfl
theorem pos_s (T : Int → Int) (n : Int) {j : Int} (h : 0 ≤ j) : pos T n (j + 1) = sk T n (te T n (pos T n j)) := by
  unfold pos
  rw [show (j + 1).toNat = j.toNat + 1 by omega]; rfl
theorem pos_bd (T : Int → Int) {n : Int} (hn : 0 ≤ n) : ∀ j : Nat, 0 ≤ posN T n j ∧ posN T n j ≤ n := by
  intro j
  induction j with
  | zero =>
    have := sk_bd T n (n - 0).toNat 0 (Nat.le_refl _) hn
    exact ⟨this.1, this.2.1⟩
  | succ j ih =>
    have t := te_bd (T := T) ih.2
    have := sk_bd T n (n - te T n (posN T n j)).toNat _ (Nat.le_refl _) t.2.1
    exact ⟨by show 0 ≤ sk T n (te T n (posN T n j)); omega, this.2.1⟩
theorem pos_b (T : Int → Int) {n j : Int} (hn : 0 ≤ n) : 0 ≤ pos T n j ∧ pos T n j ≤ n := pos_bd T hn j.toNat
theorem pos_ws (T : Int → Int) {n j : Int} (hn : 0 ≤ n) (h : pos T n j < n) : ¬ (T (pos T n j) = 10 ∨ T (pos T n j) = 32) := by
  unfold pos at *
  cases hj : j.toNat with
  | zero =>
    rw [hj] at h
    exact (sk_bd T n (n - 0).toNat 0 (Nat.le_refl _) hn).2.2 h
  | succ k =>
    rw [hj] at h
    have t := te_bd (T := T) (pos_bd T hn k).2
    exact (sk_bd T n (n - te T n (posN T n k)).toNat _ (Nat.le_refl _) t.2.1).2.2 h
/-- the reference's tape -/
def MTp (M : Mem) (T : Int → Int) (n : Int) : Prop := M 132 3 = n ∧ 0 ≤ n ∧ n ≤ 1000 ∧ (∀ i, 0 ≤ i → i < n → M 133 i = T i) ∧ ∀ i, 0 ≤ i → i < n → 0 ≤ T i ∧ T i ≤ 127
theorem MTp_fr {M M' : Mem} {T : Int → Int} {n : Int} (h : MTp M T n) (e1 : M' 132 = M 132) (e2 : M' 133 = M 133) : MTp M' T n := by
  unfold MTp
  rw [e1, e2]; exact h
theorem s_X12_isLetter {c : Int} {M : Mem} : fX12_isLetter c M = some (if 97 ≤ c ∧ c ≤ 122 then 1 else 0, M) := by
  unfold fX12_isLetter
  by_cases h1 : c < 97
  · rw [if_pos h1, if_neg (by omega), ob, rz0]
  · rw [if_neg h1]
    by_cases h2 : 122 < c
    · rw [if_pos h2, if_neg (by omega), ob, rz0]
    · rw [if_neg h2, if_pos (by omega), ob, rz1]
theorem s_X12_isDigit {c : Int} {M : Mem} : fX12_isDigit c M = some (if 48 ≤ c ∧ c ≤ 57 then 1 else 0, M) := by
  unfold fX12_isDigit
  by_cases h1 : c < 48
  · rw [if_pos h1, if_neg (by omega), ob, rz0]
  · rw [if_neg h1]
    by_cases h2 : 57 < c
    · rw [if_pos h2, if_neg (by omega), ob, rz0]
    · rw [if_neg h2, if_pos (by omega), ob, rz1]
set_option maxHeartbeats 4000000 in
set_option maxRecDepth 20000 in
theorem s_X12_behindRun {M : Mem} {T : Int → Int} {n p l : Int} (hT : MTp M T n) (p0 : 0 ≤ p) (p1 : p ≤ n) (hl : l = 0 ∨ l = 1) : fX12_behindRun p l M = some (if l = 0 then run T n 48 57 p else run T n 97 122 p, M) := by
  obtain ⟨t1, t2, t3, t4, -⟩ := id hT
  unfold fX12_behindRun
  have L : ∃ r, lp (fX12_behindRun_b1 l) (p, M) = some r ∧ r = (if l = 0 then run T n 48 57 p else run T n 97 122 p, M) := by
    refine lp_ind (fun s : Int × Mem => p ≤ s.1 ∧ s.1 ≤ n ∧ s.2 = M ∧ (if l = 0 then run T n 48 57 s.1 else run T n 97 122 s.1) = (if l = 0 then run T n 48 57 p else run T n 97 122 p)) (fun r : Int × Mem => r = (if l = 0 then run T n 48 57 p else run T n 97 122 p, M)) (fun s => (n - s.1).toNat) ?_ _ ?_
    · rintro ⟨k, q⟩ ⟨k0, k1, hq, hk⟩
      dsimp only at k0 k1 hq hk
      subst hq
      unfold fX12_behindRun_b1
      simp only [t1]
      by_cases h1 : n ≤ k
      · rw [if_pos h1]
        refine Or.inr ⟨_, rfl, ?_⟩
        rw [run_eq T n 48 57 k, run_eq T n 97 122 k, if_neg (show ¬ (k < n ∧ 48 ≤ T k ∧ T k ≤ 57) by omega), if_neg (show ¬ (k < n ∧ 97 ≤ T k ∧ T k ≤ 122) by omega)] at hk
        rw [← hk]
        congr 1
        split <;> rfl
      · rw [if_neg h1, ld133 _ _ (by omega) (by omega), ob, ob, t4 k (by omega) (by omega)]
        rcases hl with rfl | rfl
        · rw [if_pos rfl, s_X12_isDigit, ob]
          rw [if_pos rfl, if_pos rfl, run_eq] at hk
          by_cases h2 : 48 ≤ T k ∧ T k ≤ 57
          · rw [if_pos ⟨by omega, h2⟩] at hk
            rw [if_pos h2, if_neg (show ¬ (1 : Int) = 0 by decide), w32_id (by omega) (by omega)]
            exact Or.inl ⟨_, rfl, ⟨by dsimp only; omega, by dsimp only; omega, rfl, by dsimp only; rw [if_pos rfl, if_pos rfl]; exact hk⟩, by dsimp only; omega⟩
          · rw [if_neg (by omega)] at hk
            rw [if_neg h2, if_pos rfl]
            exact Or.inr ⟨_, rfl, by rw [if_pos rfl, hk]⟩
        · rw [if_neg (show ¬ (1 : Int) = 0 by decide), s_X12_isLetter, ob]
          rw [if_neg (show ¬ (1 : Int) = 0 by decide), if_neg (show ¬ (1 : Int) = 0 by decide), run_eq] at hk
          by_cases h2 : 97 ≤ T k ∧ T k ≤ 122
          · rw [if_pos ⟨by omega, h2⟩] at hk
            rw [if_pos h2, if_neg (show ¬ (1 : Int) = 0 by decide), w32_id (by omega) (by omega)]
            exact Or.inl ⟨_, rfl, ⟨by dsimp only; omega, by dsimp only; omega, rfl, by dsimp only; rw [if_neg (show ¬ (1 : Int) = 0 by decide), if_neg (show ¬ (1 : Int) = 0 by decide)]; exact hk⟩, by dsimp only; omega⟩
          · rw [if_neg (by omega)] at hk
            rw [if_neg h2, if_pos rfl]
            exact Or.inr ⟨_, rfl, by rw [if_neg (show ¬ (1 : Int) = 0 by decide), hk]⟩
    · exact ⟨Int.le_refl _, p1, rfl, rfl⟩
  obtain ⟨r, f, hr⟩ := L
  rw [f, ob, hr]
set_option maxHeartbeats 4000000 in
set_option maxRecDepth 20000 in
theorem s_X12_worthOf {M : Mem} {T : Int → Int} {n p e l : Int} (hT : MTp M T n) (p0 : 0 ≤ p) (p1 : p ≤ e) (e1 : e ≤ n) (hl : l = 0 ∨ l = 1) : ∃ x, fX12_worthOf p e l M = some (x, M) ∧ (l = 1 → e - p ≤ 7 → (∀ i, p ≤ i → i < e → 97 ≤ T i ∧ T i ≤ 122) → x = cdS 27 (let_ T p) (e - p).toNat) ∧ (l = 0 → e - p ≤ 7 → (∀ i, p ≤ i → i < e → 48 ≤ T i ∧ T i ≤ 57) → x = cdS 10 (dig_ T p) (e - p).toNat) := by
  obtain ⟨t1, t2, t3, t4, t5⟩ := id hT
  unfold fX12_worthOf
  have L : ∃ x, lp (fX12_worthOf_b1 M p e l) (0, p) = some x ∧ (l = 1 → e - p ≤ 7 → (∀ i, p ≤ i → i < e → 97 ≤ T i ∧ T i ≤ 122) → x = cdS 27 (let_ T p) (e - p).toNat) ∧ (l = 0 → e - p ≤ 7 → (∀ i, p ≤ i → i < e → 48 ≤ T i ∧ T i ≤ 57) → x = cdS 10 (dig_ T p) (e - p).toNat) := by
    refine lp_ind (fun s : Int × Int => p ≤ s.2 ∧ s.2 ≤ e ∧ s.2 - p ≤ 7 ∧ (l = 1 → (∀ i, p ≤ i → i < e → 97 ≤ T i ∧ T i ≤ 122) → s.1 = cdS 27 (let_ T p) (s.2 - p).toNat) ∧ (l = 0 → (∀ i, p ≤ i → i < e → 48 ≤ T i ∧ T i ≤ 57) → s.1 = cdS 10 (dig_ T p) (s.2 - p).toNat)) (fun x : Int => (l = 1 → e - p ≤ 7 → (∀ i, p ≤ i → i < e → 97 ≤ T i ∧ T i ≤ 122) → x = cdS 27 (let_ T p) (e - p).toNat) ∧ (l = 0 → e - p ≤ 7 → (∀ i, p ≤ i → i < e → 48 ≤ T i ∧ T i ≤ 57) → x = cdS 10 (dig_ T p) (e - p).toNat)) (fun s => (e - s.2).toNat) ?_ _ ?_
    · rintro ⟨x, k⟩ ⟨k0, k1, k7, ha, hb⟩
      dsimp only at k0 k1 k7 ha hb
      unfold fX12_worthOf_b1
      dsimp only
      by_cases h1 : e ≤ k
      · rw [if_pos h1]
        have : k = e := by omega
        subst this
        exact Or.inr ⟨x, rfl, fun z _ => ha z, fun z _ => hb z⟩
      · rw [if_neg h1, w32_id (show -2147483648 ≤ p + 7 by omega) (by omega)]
        by_cases h2 : p + 7 ≤ k
        · rw [if_pos h2]
          exact Or.inr ⟨x, rfl, fun _ z => by omega, fun _ z => by omega⟩
        · rw [if_neg h2, ld133 _ _ (by omega) (by omega), ob, ob, t4 k (by omega) (by omega), w32_id (by omega) (by omega)]
          rcases hl with rfl | rfl
          · rw [if_pos rfl, ob]
            refine Or.inl ⟨_, rfl, ⟨by dsimp only; omega, by dsimp only; omega, by dsimp only; omega, fun z => by omega, fun _ hd => ?_⟩, by dsimp only; omega⟩
            dsimp only
            rw [hb rfl hd, show k + 1 - p = (k - p) + 1 by omega, cdS_s 10 _ (by omega)]
            have lt := cd_lt (B := 10) (a := dig_ T p) (by omega) (k - p).toNat (fun i a b => by
              have := hd (p + i) (by omega) (by omega)
              unfold dig_; omega)
            have pw := pw10 (k := (k - p).toNat) (by omega)
            have el : dig_ T p (k - p) = T k - 48 := by unfold dig_; rw [show p + (k - p) = k by omega]
            have tk := t5 k (by omega) (by omega)
            rw [el]
            generalize cdS 10 (dig_ T p) (k - p).toNat = c at *
            rw [w64_id (show -9223372036854775808 ≤ 10 * c by omega) (by omega), w64_id (show -9223372036854775808 ≤ 10 * c + T k by omega) (by omega), w64_id (by omega) (by omega)]
            omega
          · rw [if_neg (show ¬ (1 : Int) = 0 by decide), ob]
            refine Or.inl ⟨_, rfl, ⟨by dsimp only; omega, by dsimp only; omega, by dsimp only; omega, fun _ hd => ?_, fun z => by omega⟩, by dsimp only; omega⟩
            dsimp only
            rw [ha rfl hd, show k + 1 - p = (k - p) + 1 by omega, cdS_s 27 _ (by omega)]
            have lt := cd_lt (B := 27) (a := let_ T p) (by omega) (k - p).toNat (fun i a b => by
              have := hd (p + i) (by omega) (by omega)
              unfold let_; omega)
            have pw := pw27 (k := (k - p).toNat) (by omega)
            have el : let_ T p (k - p) = T k - 96 := by unfold let_; rw [show p + (k - p) = k by omega]
            have tk := t5 k (by omega) (by omega)
            rw [el]
            generalize cdS 27 (let_ T p) (k - p).toNat = c at *
            rw [w64_id (show -9223372036854775808 ≤ 27 * c by omega) (by omega), w64_id (show -9223372036854775808 ≤ 27 * c + T k by omega) (by omega), w64_id (by omega) (by omega)]
            omega
    · refine ⟨Int.le_refl _, p1, by dsimp only; omega, fun _ _ => ?_, fun _ _ => ?_⟩
      · dsimp only; rw [show (p - p).toNat = 0 by omega]; rfl
      · dsimp only; rw [show (p - p).toNat = 0 by omega]; rfl
  obtain ⟨x, f, hx⟩ := L
  exact ⟨x, by rw [f, ob], hx⟩
/-- a token as the reference keeps it -/
def MTk (M : Mem) (T : Int → Int) (n j : Int) : Prop := M 135 j = pos T n j ∧ M 134 j = ty T n (pos T n j) ∧ (ty T n (pos T n j) = 1 → M 136 j = cdS 27 (let_ T (pos T n j)) (te T n (pos T n j) - pos T n j).toNat) ∧ (ty T n (pos T n j) = 2 → M 136 j = cdS 10 (dig_ T (pos T n j)) (te T n (pos T n j) - pos T n j).toNat)
theorem MTk_wr {M M' : Mem} {T : Int → Int} {n j : Int} (h : MTk M T n j) (e4 : M' 134 j = M 134 j) (e5 : M' 135 j = M 135 j) (e6 : M' 136 j = M 136 j) : MTk M' T n j := by
  unfold MTk
  rw [e4, e5, e6]; exact h
