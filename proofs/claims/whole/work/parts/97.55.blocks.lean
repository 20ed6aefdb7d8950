/-! blocks: what lies between a when and its end -/
set_option maxHeartbeats 4000000 in
set_option maxRecDepth 20000 in
theorem blk_in {A B : Mem} {t : Nat} {off c w : Int} {G : Nat → Int → Int → Int} (hL : LnS A B t off G c) (w0 : 0 ≤ w) (w1 : w < c) (hk : A (t + 1) w = 5 ∨ A (t + 1) w = 7) : ∀ (m : Nat) (j : Int), j = w + 1 + m → j ≤ c → (w < G 5 w 0 ∧ G 5 w 0 < j) ∨ (G 0 w 0 < G 0 j 0 ∧ G 2 j (G 0 w 0) = w) := by
  have o := hL.2.1 w w0 (by omega)
  obtain ⟨-, wT, -⟩ := hL.1 w w0 w1
  have hp : pshG G w := by
    rcases hk with z | z
    · exact (wT.2.2.2.2.2.1 z).2.2.2
    · exact (wT.2.2.2.2.2.2.1 z).2
  have d0 := o.1.1
  intro m
  induction m with
  | zero =>
    intro j hj jc
    have : j = w + 1 := by omega
    subst this
    exact Or.inr ⟨by rw [hp.1]; omega, hp.2.1⟩
  | succ m ih =>
    intro j hj jc
    obtain ⟨i, hi⟩ : ∃ i, i = w + 1 + (m : Int) := ⟨_, rfl⟩
    have ji : j = i + 1 := by omega
    subst ji
    rcases ih i hi (by omega) with ⟨a, b⟩ | ⟨a, b⟩
    · exact Or.inl ⟨a, by omega⟩
    · obtain ⟨-, lT, lP⟩ := hL.1 i (by omega) (by omega)
      have sam : samG G i → (w < G 5 w 0 ∧ G 5 w 0 < i + 1) ∨ (G 0 w 0 < G 0 (i + 1) 0 ∧ G 2 (i + 1) (G 0 w 0) = w) := fun hs => Or.inr ⟨by rw [hs.1]; exact a, by rw [(hs.2 _ d0 a).1]; exact b⟩
      have psh : pshG G i → (w < G 5 w 0 ∧ G 5 w 0 < i + 1) ∨ (G 0 w 0 < G 0 (i + 1) 0 ∧ G 2 (i + 1) (G 0 w 0) = w) := fun hs => Or.inr ⟨by rw [hs.1]; omega, by rw [(hs.2.2.2 _ d0 a).1]; exact b⟩
      rcases lT.1 with k | k | k | k | k | k | k
      · exact sam (lT.2.2.1 k).2.2.2.2
      · exact sam (lT.2.2.2.1 k).2.2.2
      · exact psh (lT.2.2.2.2.2.1 k).2.2.2
      · obtain ⟨t1, t2, t3, t4, t5, t6, t7, t8⟩ := lT.2.2.2.2.2.2.2.1 k
        exact Or.inr ⟨by rw [t4]; exact a, by rw [t5 _ d0 a]; exact b⟩
      · exact psh (lT.2.2.2.2.2.2.1 k).2
      · obtain ⟨t1, t2, t3, t4, t5⟩ := lT.2.2.2.2.2.2.2.2 k
        by_cases e : G 0 i 0 - 1 = G 0 w 0
        · have q := (lP.2.2 k).1
          rw [e, b] at q
          exact Or.inl ⟨by omega, by omega⟩
        · exact Or.inr ⟨by omega, by rw [(t4 _ d0 (by omega)).1]; exact b⟩
      · exact sam (lT.2.2.2.2.1 k).2.2.1
theorem blk_end {A B : Mem} {t : Nat} {off c w : Int} {G : Nat → Int → Int → Int} (hL : LnS A B t off G c) (g0 : G 0 c 0 = 0) (w0 : 0 ≤ w) (w1 : w < c) (hk : A (t + 1) w = 5 ∨ A (t + 1) w = 7) : w < G 5 w 0 ∧ G 5 w 0 < c := by
  have d0 := (hL.2.1 w w0 (by omega)).1.1
  rcases blk_in hL w0 w1 hk (c - w - 1).toNat c (by omega) (Int.le_refl _) with h | h
  · exact h
  · omega
theorem blk_reg {A B : Mem} {t : Nat} {off c w j : Int} {G : Nat → Int → Int → Int} (hL : LnS A B t off G c) (w0 : 0 ≤ w) (w1 : w < c) (hk : A (t + 1) w = 5 ∨ A (t + 1) w = 7) (j0 : w < j) (j1 : j ≤ G 5 w 0) (j2 : j ≤ c) : G 0 w 0 < G 0 j 0 ∧ G 2 j (G 0 w 0) = w := by
  rcases blk_in hL w0 w1 hk (j - w - 1).toNat j (by omega) j2 with h | h
  · omega
  · exact h
set_option maxHeartbeats 4000000 in
set_option maxRecDepth 20000 in
theorem els_in {A B : Mem} {t : Nat} {off c w : Int} {G : Nat → Int → Int → Int} (hL : LnS A B t off G c) (w0 : 0 ≤ w) (w1 : w < c) (hk : A (t + 1) w = 5) (hc : G 5 w 0 ≤ c) : ∀ (m : Nat) (j : Int), j = w + 1 + m → j ≤ G 5 w 0 → G 3 j (G 0 w 0) = 1 → w < G 6 w 0 ∧ G 6 w 0 < j := by
  have o := hL.2.1 w w0 (by omega)
  obtain ⟨-, wT, -⟩ := hL.1 w w0 w1
  have hp : pshG G w := (wT.2.2.2.2.2.1 hk).2.2.2
  have d0 := o.1.1
  intro m
  induction m with
  | zero =>
    intro j hj jc h3
    have : j = w + 1 := by omega
    subst this
    rw [hp.2.2.1] at h3
    omega
  | succ m ih =>
    intro j hj jc h3
    obtain ⟨i, hi⟩ : ∃ i, i = w + 1 + (m : Int) := ⟨_, rfl⟩
    have ji : j = i + 1 := by omega
    subst ji
    have reg := blk_reg hL w0 w1 (Or.inl hk) (show w < i by omega) (by omega) (by omega)
    obtain ⟨a, b⟩ := reg
    obtain ⟨-, lT, lP⟩ := hL.1 i (by omega) (by omega)
    have up : G 3 i (G 0 w 0) = 1 → w < G 6 w 0 ∧ G 6 w 0 < i + 1 := fun q => by
      have := ih i hi (by omega) q
      omega
    rcases lT.1 with k | k | k | k | k | k | k
    · exact up (by rw [← ((lT.2.2.1 k).2.2.2.2.2 _ d0 a).2]; exact h3)
    · exact up (by rw [← ((lT.2.2.2.1 k).2.2.2.2 _ d0 a).2]; exact h3)
    · exact up (by rw [← ((lT.2.2.2.2.2.1 k).2.2.2.2.2.2 _ d0 a).2]; exact h3)
    · obtain ⟨t1, t2, t3, t4, t5, t6, t7, t8⟩ := lT.2.2.2.2.2.2.2.1 k
      by_cases e : G 0 i 0 - 1 = G 0 w 0
      · have q := (lP.2.1 k).2.1
        rw [e, b] at q
        omega
      · exact up (by rw [← t6 _ d0 (by omega)]; exact h3)
    · exact up (by rw [← ((lT.2.2.2.2.2.2.1 k).2.2.2.2 _ d0 a).2]; exact h3)
    · obtain ⟨t1, t2, t3, t4, t5⟩ := lT.2.2.2.2.2.2.2.2 k
      by_cases e : G 0 i 0 - 1 = G 0 w 0
      · have q := (lP.2.2 k).1
        rw [e, b] at q
        omega
      · exact up (by rw [← (t4 _ d0 (by omega)).2]; exact h3)
    · exact up (by rw [← ((lT.2.2.2.2.1 k).2.2.1.2 _ d0 a).2]; exact h3)
theorem els_lt {A B : Mem} {t : Nat} {off c w : Int} {G : Nat → Int → Int → Int} (hL : LnS A B t off G c) (g0 : G 0 c 0 = 0) (w0 : 0 ≤ w) (w1 : w < c) (hk : A (t + 1) w = 5) (h6 : G 6 w 0 ≠ -1) : w < G 6 w 0 ∧ G 6 w 0 < G 5 w 0 := by
  have be := blk_end hL g0 w0 w1 (Or.inl hk)
  obtain ⟨-, -, wP⟩ := hL.1 w w0 w1
  rcases (wP.1 hk).2.1 with y | ⟨y1, y2, y3, y4, y5, y6, y7⟩
  · omega
  · rw [if_neg h6] at y6
    exact els_in hL w0 w1 hk (by omega) (G 5 w 0 - w - 1).toNat (G 5 w 0) (by omega) (Int.le_refl _) y6
/-! working goes through the whole of a when and shows nothing there -/
set_option maxHeartbeats 4000000 in
set_option maxRecDepth 20000 in
theorem tr_skip {A B : Mem} {t : Nat} {off c w b : Int} {G : Nat → Int → Int → Int} (hL : LnS A B t off G c) (g0 : G 0 c 0 = 0) (w0 : 0 ≤ w) (w1 : w < c) (hk : A (t + 1) w = 5) (b1 : b ≤ G 5 w 0) {L : Nat} (hE : (trS A t G L).1 = c) (hI : ∀ k : Nat, k < L → 0 ≤ (trS A t G k).1 ∧ (trS A t G k).1 < c) : ∀ (m k : Nat), k + m = L → w < (trS A t G k).1 → (trS A t G k).1 ≤ b → ∃ k' : Nat, k < k' ∧ k' ≤ L ∧ (trS A t G k').1 = b + 1 ∧ trC A t G k' = trC A t G k ∧ ∀ l, 0 ≤ l → l < G 0 w 0 → (trS A t G k').2 l = (trS A t G k).2 l := by
  have be := blk_end hL g0 w0 w1 (Or.inl hk)
  have d0 := (hL.2.1 w w0 (by omega)).1.1
  intro m
  induction m with
  | zero =>
    intro k hkL h1 h2
    have : k = L := by omega
    subst this
    omega
  | succ m ih =>
    intro k hkL h1 h2
    obtain ⟨i, hi⟩ : ∃ i, i = (trS A t G k).1 := ⟨_, rfl⟩
    obtain ⟨K, hK⟩ : ∃ K, K = (trS A t G k).2 := ⟨_, rfl⟩
    have hb := hI k (by omega)
    rw [← hi] at h1 h2 hb
    have ts : trS A t G (k + 1) = (nxL A t G i K, nxK A t G i K) := by rw [hi, hK]; rfl
    have tc : trC A t G (k + 1) = trC A t G k + (if A (t + 1) i = 9 then 1 else 0) := by rw [hi]; rfl
    obtain ⟨r1, r2⟩ := blk_reg hL w0 w1 (Or.inl hk) h1 (by omega) (by omega)
    obtain ⟨-, lT, -⟩ := hL.1 i hb.1 hb.2
    have o := hL.2.1 i hb.1 (by omega)
    have n9 : A (t + 1) i ≠ 9 := fun z => by
      have := (lT.2.2.2.2.1 z).2.2.2 (G 0 w 0) d0 r1
      rw [r2] at this
      exact this hk
    rw [if_neg n9, Int.add_zero] at tc
    have kl : ∀ l, 0 ≤ l → l < G 0 w 0 → nxK A t G i K l = K l := fun l l0 l1 => by
      unfold nxK
      rw [if_neg (fun z => by omega)]
      by_cases z : A (t + 1) i = 8 ∧ A (t + 1) (G 2 i (G 0 i 0 - 1)) = 7 ∧ l = G 0 i 0 - 1
      · omega
      · rw [if_neg z]
    have nb : w < nxL A t G i K ∧ nxL A t G i K ≤ b + 1 := by
      unfold nxL
      by_cases z : A (t + 1) i = 8 ∧ A (t + 1) (G 2 i (G 0 i 0 - 1)) = 7 ∧ 1 < K (G 0 i 0 - 1)
      · rw [if_pos z]
        have t1 := (lT.2.2.2.2.2.2.2.2 z.1).1
        have ne : G 0 i 0 - 1 ≠ G 0 w 0 := fun e => by
          have := z.2.1
          rw [e, r2] at this
          omega
        have ol := o.2.2.2 (G 0 i 0 - 1) (by omega) (by omega)
        have e2 := (ol.2.2.2.2.2.2.2 (G 0 w 0) d0 (by omega)).1
        have op := hL.2.1 (G 2 i (G 0 i 0 - 1)) ol.1.1 (by omega)
        have := (op.2.2.2 (G 0 w 0) d0 (by rw [ol.2.1]; omega)).1
        rw [← e2, r2] at this
        omega
      · rw [if_neg z]; omega
    by_cases e : nxL A t G i K = b + 1
    · refine ⟨k + 1, by omega, by omega, by rw [ts]; exact e, tc, fun l l0 l1 => ?_⟩
      rw [ts, ← hK]
      exact kl l l0 l1
    · obtain ⟨k', q1, q2, q3, q4, q5⟩ := ih (k + 1) (by omega) (by rw [ts]; exact nb.1) (by rw [ts]; dsimp only; omega)
      refine ⟨k', by omega, q2, q3, by rw [q4, tc], fun l l0 l1 => ?_⟩
      rw [q5 l l0 l1, ts, ← hK]
      exact kl l l0 l1
