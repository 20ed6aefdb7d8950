/-! walking: one line -/
def WkW (M N : Mem) (t : Nat) (G : Nat → Int → Int → Int) (c : Int) (L : Nat) (i seen st : Int) (a b : Mem) : Prop := (∀ d, d ≠ 56 → d ≠ 58 → d ≠ 59 → d ≠ 61 → a d = M d) ∧ (∀ d, d ≠ 145 → d ≠ 149 → b d = N d) ∧ (0 ≤ i ∧ i ≤ c) ∧ wNm G i a b ∧ (0 ≤ seen ∧ seen ≤ 5000) ∧ 0 ≤ st ∧ ∃ k : Nat, k ≤ L ∧ (trS M t G k).1 = i ∧ trC M t G k = seen ∧ st ≤ k ∧ wLp M t G i (trS M t G k).2 a b
/-- what the walk has at hand -/
def WkC (M N : Mem) (t : Nat) (G : Nat → Int → Int → Int) (c : Int) (L : Nat) (lane : Int) : Prop := (t = 5 ∨ t = 119) ∧ LnS M M t 0 G c ∧ (0 ≤ c ∧ c ≤ 200) ∧ G 0 c 0 = 0 ∧ L ≤ 5000 ∧ (trS M t G L).1 = c ∧ (∀ k : Nat, k < L → 0 ≤ (trS M t G k).1 ∧ (trS M t G k).1 < c) ∧ N 139 = M 139 ∧ N 151 = M 151 ∧ N 152 = M 152 ∧ (0 ≤ lane ∧ lane < 4) ∧ M t 10 ≤ 6 ∧ (∀ i, 0 ≤ i → i < M t 10 → M 151 (4 * i + lane) = M 54 (4 * i + lane) ∧ 0 ≤ M 54 (4 * i + lane) ∧ M 54 (4 * i + lane) ≤ 999) ∧ ∀ i, 0 ≤ i → i < 16 → M 55 i = M 152 i ∧ 0 ≤ M 55 i ∧ M 55 i ≤ 999
noncomputable def mWk (i lane seen : Int) (b : Mem) : Option ((Int × Int × Mem) ⊕ ((Mem) ⊕ (Int × Mem))) :=
    if b 139 (12 * i) = 6 then
      (ldI b 139 (w32 (12 * i + 1))).bind fun v14 =>
      (ldI b 139 (w32 (12 * i + 2))).bind fun v15 =>
      (ldI b 151 (w32 ((w32 (4 * v15)) + lane))).bind fun v16 =>
      (stI b 145 v14 v16).bind fun M17 =>
      some (.inl (i + 1, seen, M17))
    else
      if b 139 (12 * i) = 0 then
        (ldI b 139 (w32 (12 * i + 1))).bind fun v11 =>
        (fX12_opNumber (12 * i) b).bind fun q12 =>
        (stI q12.2 145 v11 q12.1).bind fun M13 =>
        some (.inl (i + 1, seen, M13))
      else
        if b 139 (12 * i) = 3 then
          (ldI b 139 (w32 (12 * i + 11))).bind fun v8 =>
          (ldI b 139 (w32 (12 * i + 1))).bind fun v9 =>
          (stI b 149 v8 v9).bind fun M10 =>
          some (.inl (i + 1, seen, M10))
        else
          (fX12_nextLine i b).bind fun q6 =>
          some (.inl (q6.1, seen, q6.2))
theorem WkW_in {M N : Mem} {t : Nat} {G : Nat → Int → Int → Int} {c lane : Int} {L : Nat} {i seen st : Int} {a b : Mem} (hC : WkC M N t G c L lane) (ic : i < c) {k : Nat} (kL : k ≤ L) (hk : (trS M t G k).1 = i) : k < L := by
  have := hC.2.2.2.2.2.1
  by_cases e : k = L
  · rw [e] at hk; omega
  · omega
/-- a step that walking and working take alike -/
theorem WkW_nx {M N : Mem} {t : Nat} {G : Nat → Int → Int → Int} {c lane : Int} {L k : Nat} {i i' seen st : Int} {a b a' b' : Mem} {K : Int → Int} (hC : WkC M N t G c L lane) (i0 : 0 ≤ i) (ic : i < c) (kL : k ≤ L) (hk : trS M t G k = (i, K)) (hs : trC M t G k = seen) (sk : st ≤ k) (st0 : 0 ≤ st) (s0 : 0 ≤ seen) (n9 : M (t + 1) i ≠ 9) (fa : ∀ d, d ≠ 56 → d ≠ 58 → d ≠ 59 → d ≠ 61 → a' d = M d) (fb : ∀ d, d ≠ 145 → d ≠ 149 → b' d = N d) (hi : nxL M t G i K = i') (hN : wNm G i' a' b') (hP : wLp M t G i' (nxK M t G i K) a' b') : WkW M N t G c L i' seen (st + 1) a' b' := by
  have kl := WkW_in (i := i) (seen := seen) (st := st) (a := a) (b := b) hC ic kL (by rw [hk])
  have ts : trS M t G (k + 1) = (i', nxK M t G i K) := by
    show (nxL M t G (trS M t G k).1 (trS M t G k).2, nxK M t G (trS M t G k).1 (trS M t G k).2) = _
    rw [hk, ← hi]
  have tc : trC M t G (k + 1) = seen := by
    show trC M t G k + (if M (t + 1) (trS M t G k).1 = 9 then 1 else 0) = seen
    rw [hk, if_neg n9, hs, Int.add_zero]
  have sb : seen ≤ 5000 := by
    have h : ∀ j : Nat, trC M t G j ≤ j := fun j => by
      induction j with
      | zero => exact Int.le_refl _
      | succ j ih =>
        show trC M t G j + (if M (t + 1) (trS M t G j).1 = 9 then 1 else 0) ≤ _
        split <;> omega
    have := h k
    have := hC.2.2.2.2.1
    omega
  have nb := (nx_stk hC.2.1 i0 ic K).1
  rw [hi] at nb
  refine ⟨fa, fb, nb, hN, ⟨s0, sb⟩, by omega, k + 1, by omega, by rw [ts], tc, by omega, ?_⟩
  rw [ts]
  exact hP
/-- a step over a part that is left out -/
theorem WkW_sk {M N : Mem} {t : Nat} {G : Nat → Int → Int → Int} {c lane w e : Int} {L k : Nat} {i seen st : Int} {a b a' b' : Mem} {K : Int → Int} (hC : WkC M N t G c L lane) (i0 : 0 ≤ i) (ic : i < c) (kL : k ≤ L) (hk : trS M t G k = (i, K)) (hs : trC M t G k = seen) (sk : st ≤ k) (st0 : 0 ≤ st) (s0 : 0 ≤ seen ∧ seen ≤ 5000) (w0 : 0 ≤ w) (w1 : w < c) (hw : M (t + 1) w = 5) (we : w < i ∨ w = i) (ie : i ≤ e) (iw : w = i → i < e) (e5 : e ≤ G 5 w 0) (fa : ∀ d, d ≠ 56 → d ≠ 58 → d ≠ 59 → d ≠ 61 → a' d = M d) (fb : ∀ d, d ≠ 145 → d ≠ 149 → b' d = N d) (hN : wNm G (e + 1) a' b') (hP : ∀ K', (∀ l, 0 ≤ l → l < G 0 w 0 → K' l = K l) → wLp M t G (e + 1) K' a' b') : WkW M N t G c L (e + 1) seen (st + 1) a' b' := by
  have kl := WkW_in (i := i) (seen := seen) (st := st) (a := a) (b := b) hC ic kL (by rw [hk])
  have be := blk_end hC.2.1 hC.2.2.2.1 w0 w1 (Or.inl hw)
  have fin : ∀ j : Nat, k ≤ j → j ≤ L → w < (trS M t G j).1 → (trS M t G j).1 ≤ e → trC M t G j = seen → (∀ l, 0 ≤ l → l < G 0 w 0 → (trS M t G j).2 l = K l) → WkW M N t G c L (e + 1) seen (st + 1) a' b' := by
    intro j kj jL j1 j2 j3 j4
    obtain ⟨k', q1, q2, q3, q4, q5⟩ := tr_skip hC.2.1 hC.2.2.2.1 w0 w1 hw e5 hC.2.2.2.2.2.1 hC.2.2.2.2.2.2.1 (L - j) j (by omega) j1 j2
    exact ⟨fa, fb, by omega, hN, s0, by omega, k', q2, q3, by rw [q4]; exact j3, by omega, hP _ (fun l l0 l1 => by rw [q5 l l0 l1]; exact j4 l l0 l1)⟩
  rcases we with z | z
  · exact fin k (by omega) kL (by rw [hk]; exact z) (by rw [hk]; exact ie) hs (fun l _ _ => by rw [hk])
  · have n8 : M (t + 1) i ≠ 8 := by rw [← z]; omega
    have n7 : M (t + 1) i ≠ 7 := by rw [← z]; omega
    have n9 : M (t + 1) i ≠ 9 := by rw [← z]; omega
    have ts : trS M t G (k + 1) = (i + 1, K) := by
      show (nxL M t G (trS M t G k).1 (trS M t G k).2, nxK M t G (trS M t G k).1 (trS M t G k).2) = _
      rw [hk]
      have x1 : nxL M t G i K = i + 1 := by unfold nxL; rw [if_neg (fun y => n8 y.1)]
      have x2 : nxK M t G i K = K := by funext l; unfold nxK; rw [if_neg (fun y => n7 y.1), if_neg (fun y => n8 y.1)]
      dsimp only
      rw [x1, x2]
    have tc : trC M t G (k + 1) = seen := by
      show trC M t G k + (if M (t + 1) (trS M t G k).1 = 9 then 1 else 0) = seen
      rw [hk, if_neg n9, hs, Int.add_zero]
    have := iw z
    exact fin (k + 1) (by omega) (by omega) (by rw [ts]; dsimp only; omega) (by rw [ts]; dsimp only; omega) tc (fun l _ _ => by rw [ts])
