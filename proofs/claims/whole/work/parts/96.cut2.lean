def MTks (M : Mem) (T : Int → Int) (n N : Int) : Prop := 0 ≤ N ∧ N ≤ n ∧ pos T n N = n ∧ (∀ j, 0 ≤ j → j < N → pos T n j < n) ∧ ∀ j, 0 ≤ j → j ≤ N → MTk M T n j
set_option maxHeartbeats 4000000 in
set_option maxRecDepth 20000 in
theorem m_cut {M : Mem} {T : Int → Int} {n : Int} (hT : MTp M T n) : ∃ r, lp fX12_cutAll_b1 (0, 0, M) = some r ∧ (∀ b, b ≠ 134 → b ≠ 135 → b ≠ 136 → r.2 b = M b) ∧ 0 ≤ r.1 ∧ r.1 ≤ n ∧ pos T n r.1 = n ∧ ∀ j, 0 ≤ j → j < r.1 → pos T n j < n ∧ MTk r.2 T n j := by
  obtain ⟨t1, t2, t3, t4, t5⟩ := id hT
  refine lp_ind (fun s : Int × Int × Mem => 0 ≤ s.1 ∧ s.1 ≤ s.2.1 ∧ s.2.1 ≤ n ∧ (∀ b, b ≠ 134 → b ≠ 135 → b ≠ 136 → s.2.2 b = M b) ∧ pos T n s.1 = sk T n s.2.1 ∧ ∀ j, 0 ≤ j → j < s.1 → pos T n j < n ∧ MTk s.2.2 T n j) (fun r : Int × Mem => (∀ b, b ≠ 134 → b ≠ 135 → b ≠ 136 → r.2 b = M b) ∧ 0 ≤ r.1 ∧ r.1 ≤ n ∧ pos T n r.1 = n ∧ ∀ j, 0 ≤ j → j < r.1 → pos T n j < n ∧ MTk r.2 T n j) (fun s => (n - s.2.1).toNat) ?_ _ ?_
  · rintro ⟨c, k, q⟩ ⟨c0, c1, k1, hfr, hp, hj⟩
    dsimp only at c0 c1 k1 hfr hp hj
    have hTq := MTp_fr hT (hfr 132 (by omega) (by omega) (by omega)) (hfr 133 (by omega) (by omega) (by omega))
    obtain ⟨u1, u2, u3, u4, u5⟩ := id hTq
    unfold fX12_cutAll_b1
    simp only [u1]
    have eq := sk_eq T n k
    by_cases h1 : n ≤ k
    · rw [if_pos h1]
      rw [if_neg (by omega)] at eq
      exact Or.inr ⟨_, rfl, hfr, c0, by dsimp only; omega, by dsimp only; rw [hp, eq]; omega, hj⟩
    · rw [if_neg h1, ld133 _ _ (by omega) (by omega), ob, u4 k (by omega) (by omega)]
      by_cases hw : T k = 10 ∨ T k = 32
      · rw [if_pos ⟨by omega, hw⟩] at eq
        have go : ∃ s', (some (Sum.inl (c, w32 (k + 1), q)) : Option ((Int × Int × Mem) ⊕ (Int × Mem))) = some (Sum.inl s') ∧ (0 ≤ s'.1 ∧ s'.1 ≤ s'.2.1 ∧ s'.2.1 ≤ n ∧ (∀ b, b ≠ 134 → b ≠ 135 → b ≠ 136 → s'.2.2 b = M b) ∧ pos T n s'.1 = sk T n s'.2.1 ∧ ∀ j, 0 ≤ j → j < s'.1 → pos T n j < n ∧ MTk s'.2.2 T n j) ∧ (n - s'.2.1).toNat < (n - k).toNat := by
          rw [w32_id (by omega) (by omega)]
          exact ⟨_, rfl, ⟨c0, by dsimp only; omega, by dsimp only; omega, hfr, by dsimp only; rw [hp, eq], hj⟩, by dsimp only; omega⟩
        by_cases h10 : T k = 10
        · rw [if_pos h10]; exact Or.inl go
        · rw [if_neg h10, if_pos (by omega)]; exact Or.inl go
      · rw [if_neg (fun z => hw z.2)] at eq
        rw [eq] at hp
        rw [if_neg (fun z => hw (Or.inl z)), if_neg (fun z => hw (Or.inr z)), st135 _ _ _ c0 (by omega), ob, s_X12_isLetter, ob]
        have tb := te_bd (T := T) (show k ≤ n by omega)
        generalize hq1 : wr q 135 c k = q1
        have fr1 : ∀ b, b ≠ 135 → q1 b = q b := fun b hb => by rw [← hq1, wr_ne hb]
        have hT1 := MTp_fr hTq (fr1 132 (by omega)) (fr1 133 (by omega))
        -- what is put down of it
        have put : ∀ x l : Int, (l = 0 ∨ l = 1) → x = ty T n k → (x = 1 → l = 1) → (x = 2 → l = 0) → ∃ s', (((stI q1 134 c x).bind fun M14 => (fX12_worthOf k (te T n k) l M14).bind fun q15 => (stJ q15.2 136 c q15.1).bind fun M16 => some (Sum.inl (w32 (c + 1), te T n k, M16))) : Option ((Int × Int × Mem) ⊕ (Int × Mem))) = some (Sum.inl s') ∧ (0 ≤ s'.1 ∧ s'.1 ≤ s'.2.1 ∧ s'.2.1 ≤ n ∧ (∀ b, b ≠ 134 → b ≠ 135 → b ≠ 136 → s'.2.2 b = M b) ∧ pos T n s'.1 = sk T n s'.2.1 ∧ ∀ j, 0 ≤ j → j < s'.1 → pos T n j < n ∧ MTk s'.2.2 T n j) ∧ (n - s'.2.1).toNat < (n - k).toNat := by
          intro x l hl hx hx1 hx2
          rw [st134 _ _ _ c0 (by omega), ob]
          obtain ⟨v, f, v1, v2⟩ := s_X12_worthOf (M := wr q1 134 c x) (p := k) (e := te T n k) (l := l) (MTp_fr hT1 (wr_ne (by omega)) (wr_ne (by omega))) (by omega) tb.1 tb.2.1 hl
          rw [f, ob]
          dsimp only
          rw [st136 _ _ _ c0 (by omega), ob, w32_id (by omega) (by omega)]
          refine ⟨_, rfl, ⟨by dsimp only; omega, by dsimp only; omega, tb.2.1, fun b b1 b2 b3 => by dsimp only; rw [wr_ne b3, wr_ne b1, fr1 b b2, hfr b b1 b2 b3], by dsimp only; rw [pos_s T n c0, hp], fun j j0 j1 => ?_⟩, by dsimp only; omega⟩
          dsimp only at j1 ⊢
          have e5 : ∀ i, wr (wr q1 134 c x) 136 c v 135 i = if i = c then k else q 135 i := fun i => by rw [wr_ne (by omega), wr_ne (by omega), ← hq1, wr_at]
          have e4 : ∀ i, wr (wr q1 134 c x) 136 c v 134 i = if i = c then x else q 134 i := fun i => by rw [wr_ne (by omega), wr_at, fr1 134 (by omega)]
          have e6 : ∀ i, wr (wr q1 134 c x) 136 c v 136 i = if i = c then v else q 136 i := fun i => by rw [wr_at, wr_ne (by omega), fr1 136 (by omega)]
          by_cases e : j = c
          · rw [e]
            unfold MTk
            rw [hp, e4, e5, e6, if_pos rfl, if_pos rfl, if_pos rfl]
            refine ⟨by omega, rfl, hx, fun z => ?_, fun z => ?_⟩
            · obtain ⟨y1, y2, y3, y4⟩ := ty_1 z
              have rb := run_bd T n 97 122 (n - k).toNat k (Nat.le_refl _) (by omega)
              exact v1 (hx1 (by omega)) y4 (fun i a b => rb.2.2 i a (by omega))
            · obtain ⟨y1, y2, y3⟩ := ty_2 z
              have rb := run_bd T n 48 57 (n - k).toNat k (Nat.le_refl _) (by omega)
              exact v2 (hx2 (by omega)) (by omega) (fun i a b => rb.2.2 i a (by omega))
          · have := hj j j0 (by omega)
            exact ⟨this.1, MTk_wr this.2 (by rw [e4, if_neg e]) (by rw [e5, if_neg e]) (by rw [e6, if_neg e])⟩
        left
        by_cases hl : 97 ≤ T k ∧ T k ≤ 122
        · have et : te T n k = run T n 97 122 k := by unfold te; rw [if_neg h1, if_pos hl]
          have rb := run_bd T n 97 122 (n - k).toNat k (Nat.le_refl _) (by omega)
          simp only [hl, and_self, if_true]
          rw [if_neg (show ¬ (1 : Int) = 0 by decide), s_X12_behindRun hT1 (by omega) (by omega) (Or.inr rfl), ob]
          dsimp only
          rw [if_neg (show ¬ (1 : Int) = 0 by decide), ob, if_neg (show ¬ (1 : Int) = 0 by decide), ob, if_neg (show ¬ (1 : Int) = 0 by decide)]
          dsimp only
          rw [w32_id (show -2147483648 ≤ run T n 97 122 k - k by omega) (by omega), ← et]
          by_cases h7 : te T n k - k ≤ 7
          · rw [if_pos h7, if_neg (show ¬ (1 : Int) = 0 by decide), ob]
            exact put 1 1 (Or.inr rfl) (by unfold ty; rw [if_neg h1, if_pos hl, if_pos (by rw [← et]; exact h7)]) (fun _ => rfl) (fun z => by omega)
          · rw [if_neg h7, ob]
            exact put 4 1 (Or.inr rfl) (by unfold ty; rw [if_neg h1, if_pos hl, if_neg (by rw [← et]; exact h7)]) (fun _ => rfl) (fun z => by omega)
        · rw [if_neg hl, if_pos rfl, s_X12_isDigit, ob]
          dsimp only
          by_cases hd : 48 ≤ T k ∧ T k ≤ 57
          · have et : te T n k = run T n 48 57 k := by unfold te; rw [if_neg h1, if_neg hl, if_pos hd]
            have rb := run_bd T n 48 57 (n - k).toNat k (Nat.le_refl _) (by omega)
            rw [if_pos hd, if_neg (show ¬ (1 : Int) = 0 by decide), s_X12_behindRun hT1 (by omega) (by omega) (Or.inl rfl), ob]
            dsimp only
            rw [if_pos rfl, ob, if_pos rfl, ob, if_pos rfl, s_X12_isDigit, ob]
            dsimp only
            rw [if_pos hd, if_neg (show ¬ (1 : Int) = 0 by decide), w32_id (show -2147483648 ≤ run T n 48 57 k - k by omega) (by omega), ← et]
            by_cases h7 : te T n k - k ≤ 3
            · rw [if_pos h7, if_pos rfl, ob]
              exact put 2 0 (Or.inl rfl) (by unfold ty; rw [if_neg h1, if_neg hl, if_pos hd, if_pos (by rw [← et]; exact h7)]) (fun z => by omega) (fun _ => rfl)
            · rw [if_neg h7, ob]
              exact put 4 0 (Or.inl rfl) (by unfold ty; rw [if_neg h1, if_neg hl, if_pos hd, if_neg (by rw [← et]; exact h7)]) (fun z => by omega) (fun _ => rfl)
          · have et : te T n k = k + 1 := by unfold te; rw [if_neg h1, if_neg hl, if_neg hd]
            rw [if_neg hd, if_pos rfl, ob]
            dsimp only
            rw [if_pos rfl, ob, if_pos rfl, s_X12_isDigit, ob]
            dsimp only
            rw [if_neg hd, if_pos rfl, w32_id (show -2147483648 ≤ k + 1 by omega) (by omega), ← et]
            by_cases h59 : T k = 59
            · rw [if_pos h59, ob]
              exact put 3 0 (Or.inl rfl) (by unfold ty; rw [if_neg h1, if_neg hl, if_neg hd, if_pos h59]) (fun z => by omega) (fun _ => rfl)
            · rw [if_neg h59, ob]
              exact put 4 0 (Or.inl rfl) (by unfold ty; rw [if_neg h1, if_neg hl, if_neg hd, if_neg h59]) (fun z => by omega) (fun _ => rfl)
  · exact ⟨Int.le_refl _, Int.le_refl _, t2, fun _ _ _ _ => rfl, pos_0 T n, fun j a b => by dsimp only at b; omega⟩
set_option maxHeartbeats 4000000 in
set_option maxRecDepth 20000 in
theorem s_X12_cutAll {M : Mem} {T : Int → Int} {n : Int} (h2 : M 132 2 = n) (n0 : 0 ≤ n) (n1 : n ≤ 1000) (h133 : ∀ i, 0 ≤ i → i < n → M 133 i = T i) (hs : ∀ i, 0 ≤ i → i < n → 0 ≤ T i ∧ T i ≤ 127) : ∃ r N, fX12_cutAll M = some r ∧ (∀ b, b ≠ 132 → b ≠ 134 → b ≠ 135 → b ≠ 136 → r b = M b) ∧ (∀ k, k ≠ 2 → k ≠ 3 → k ≠ 7 → k ≠ 8 → r 132 k = M 132 k) ∧ r 132 2 = 0 ∧ r 132 3 = n ∧ r 132 7 = 0 ∧ r 132 8 = 0 ∧ MTks r T n N := by
  unfold fX12_cutAll
  rw [pI_ok, ob, pI_ok, ob, h2]
  generalize hM2 : wr (wr M 132 3 n) 132 2 0 = M2
  have m2 : ∀ k, M2 132 k = if k = 2 then 0 else if k = 3 then n else M 132 k := fun k => by rw [← hM2, wr_at, wr_at]
  have mb : ∀ b, b ≠ 132 → M2 b = M b := fun b hb => by rw [← hM2, wr_ne hb, wr_ne hb]
  obtain ⟨⟨N, q⟩, f, fr, N0, N1, pN, hj⟩ := m_cut (M := M2) (T := T) (n := n) ⟨by rw [m2, if_neg (by omega), if_pos rfl], n0, n1, fun i a b => by rw [mb 133 (by omega)]; exact h133 i a b, hs⟩
  dsimp only at fr N0 N1 pN hj
  rw [f, ob]
  dsimp only
  rw [st134 _ _ _ N0 (by omega), ob]
  have e3 : wr q 134 N 0 132 3 = n := by rw [wr_ne (by omega), fr 132 (by omega) (by omega) (by omega), m2, if_neg (by omega), if_pos rfl]
  rw [st135 _ _ _ N0 (by omega), ob, e3, pI_ok, ob, pI_ok, ob]
  generalize hR : wr (wr (wr (wr q 134 N 0) 135 N n) 132 7 0) 132 8 0 = R
  have r132 : ∀ k, R 132 k = if k = 8 then 0 else if k = 7 then 0 else M2 132 k := fun k => by rw [← hR, wr_at, wr_at, wr_ne (by omega), wr_ne (by omega), fr 132 (by omega) (by omega) (by omega)]
  have r134 : ∀ i, R 134 i = if i = N then 0 else q 134 i := fun i => by rw [← hR, wr_ne (by omega), wr_ne (by omega), wr_ne (by omega), wr_at]
  have r135 : ∀ i, R 135 i = if i = N then n else q 135 i := fun i => by rw [← hR, wr_ne (by omega), wr_ne (by omega), wr_at, wr_ne (by omega)]
  have r136 : R 136 = q 136 := by rw [← hR, wr_ne (by omega), wr_ne (by omega), wr_ne (by omega), wr_ne (by omega)]
  refine ⟨R, N, rfl, fun b b1 b2 b3 b4 => ?_, fun k k2 k3 k7 k8 => ?_, ?_, ?_, ?_, ?_, N0, N1, pN, fun j a b => (hj j a b).1, fun j a b => ?_⟩
  · rw [← hR, wr_ne b1, wr_ne b1, wr_ne b3, wr_ne b2, fr b b2 b3 b4, mb b b1]
  · rw [r132, if_neg k8, if_neg k7, m2, if_neg k2, if_neg k3]
  · rw [r132, if_neg (by omega), if_neg (by omega), m2, if_pos rfl]
  · rw [r132, if_neg (by omega), if_neg (by omega), m2, if_neg (by omega), if_pos rfl]
  · rw [r132, if_neg (by omega), if_pos rfl]
  · rw [r132, if_pos rfl]
  · by_cases e : j = N
    · rw [e]
      unfold MTk
      have t0 : ty T n (pos T n N) = 0 := by unfold ty; rw [pN, if_pos (Int.le_refl _)]
      rw [t0, r134, r135, if_pos rfl, if_pos rfl, pN]
      exact ⟨rfl, rfl, fun z => by omega, fun z => by omega⟩
    · exact MTk_wr (hj j a (by omega)).2 (by rw [r134, if_neg e]) (by rw [r135, if_neg e]) (by rw [r136])
