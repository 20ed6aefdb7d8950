/-! the way of working through the lines: which line is worked when -/
def trS (A : Mem) (t : Nat) (G : Nat → Int → Int → Int) : Nat → Int × (Int → Int)
  | 0 => (0, fun _ => 0)
  | k + 1 => (nxL A t G (trS A t G k).1 (trS A t G k).2, nxK A t G (trS A t G k).1 (trS A t G k).2)
def trC (A : Mem) (t : Nat) (G : Nat → Int → Int → Int) : Nat → Int
  | 0 => 0
  | k + 1 => trC A t G k + (if A (t + 1) (trS A t G k).1 = 9 then 1 else 0)
/-- the way ends behind the last line, and so many lines of it show -/
def TrF (A : Mem) (t : Nat) (G : Nat → Int → Int → Int) (c S : Int) : Prop := ∃ L : Nat, L ≤ 5000 ∧ (trS A t G L).1 = c ∧ (∀ k : Nat, k < L → 0 ≤ (trS A t G k).1 ∧ (trS A t G k).1 < c) ∧ trC A t G L = S
theorem nxL_cg {A A' : Mem} {t : Nat} {G : Nat → Int → Int → Int} (e1 : A' (t + 1) = A (t + 1)) (i : Int) (K : Int → Int) : nxL A' t G i K = nxL A t G i K := by
  unfold nxL; rw [e1]
theorem nxK_cg {A A' : Mem} {t : Nat} {G : Nat → Int → Int → Int} (e1 : A' (t + 1) = A (t + 1)) (e9 : A' (t + 9) = A (t + 9)) (i : Int) (K : Int → Int) : nxK A' t G i K = nxK A t G i K := by
  funext l; unfold nxK; rw [e1, e9]
theorem trS_cg {A A' : Mem} {t : Nat} {G : Nat → Int → Int → Int} (e1 : A' (t + 1) = A (t + 1)) (e9 : A' (t + 9) = A (t + 9)) (k : Nat) : trS A' t G k = trS A t G k := by
  induction k with
  | zero => rfl
  | succ k ih =>
    show (nxL A' t G (trS A' t G k).1 (trS A' t G k).2, nxK A' t G (trS A' t G k).1 (trS A' t G k).2) = _
    rw [ih, nxL_cg e1, nxK_cg e1 e9]
    rfl
theorem trC_cg {A A' : Mem} {t : Nat} {G : Nat → Int → Int → Int} (e1 : A' (t + 1) = A (t + 1)) (e9 : A' (t + 9) = A (t + 9)) (k : Nat) : trC A' t G k = trC A t G k := by
  induction k with
  | zero => rfl
  | succ k ih =>
    show trC A' t G k + (if A' (t + 1) (trS A' t G k).1 = 9 then 1 else 0) = trC A t G k + (if A (t + 1) (trS A t G k).1 = 9 then 1 else 0)
    rw [ih, trS_cg e1 e9, e1]
theorem TrF_cg {A A' : Mem} {t : Nat} {G : Nat → Int → Int → Int} {c S : Int} (h : TrF A t G c S) (e1 : A' (t + 1) = A (t + 1)) (e9 : A' (t + 9) = A (t + 9)) : TrF A' t G c S := by
  obtain ⟨L, h1, h2, h3, h4⟩ := h
  exact ⟨L, h1, by rw [trS_cg e1 e9]; exact h2, fun k hk => by rw [trS_cg e1 e9]; exact h3 k hk, by rw [trC_cg e1 e9]; exact h4⟩
/-! the open blocks at the next line -/
set_option maxHeartbeats 4000000 in
set_option maxRecDepth 20000 in
theorem nx_stk {A B : Mem} {t : Nat} {off c i : Int} {G : Nat → Int → Int → Int} (hL : LnS A B t off G c) (i0 : 0 ≤ i) (i1 : i < c) (K : Int → Int) : (0 ≤ nxL A t G i K ∧ nxL A t G i K ≤ c) ∧ ∀ l, 0 ≤ l → l < G 0 (nxL A t G i K) 0 → (l < G 0 i 0 ∧ G 2 (nxL A t G i K) l = G 2 i l) ∨ (l = G 0 i 0 ∧ (A (t + 1) i = 5 ∨ A (t + 1) i = 7) ∧ G 2 (nxL A t G i K) l = i) := by
  obtain ⟨lR, lT, lP⟩ := hL.1 i i0 i1
  have o0 := hL.2.1 i i0 (by omega)
  have sam : samG G i → ∀ l, 0 ≤ l → l < G 0 (i + 1) 0 → (l < G 0 i 0 ∧ G 2 (i + 1) l = G 2 i l) ∨ (l = G 0 i 0 ∧ (A (t + 1) i = 5 ∨ A (t + 1) i = 7) ∧ G 2 (i + 1) l = i) := fun hs l l0 l1 => by
    rw [hs.1] at l1
    exact Or.inl ⟨l1, (hs.2 l l0 l1).1⟩
  have psh : (A (t + 1) i = 5 ∨ A (t + 1) i = 7) → pshG G i → ∀ l, 0 ≤ l → l < G 0 (i + 1) 0 → (l < G 0 i 0 ∧ G 2 (i + 1) l = G 2 i l) ∨ (l = G 0 i 0 ∧ (A (t + 1) i = 5 ∨ A (t + 1) i = 7) ∧ G 2 (i + 1) l = i) := fun hk hs l l0 l1 => by
    rw [hs.1] at l1
    by_cases e : l = G 0 i 0
    · exact Or.inr ⟨e, hk, by rw [e]; exact hs.2.1⟩
    · exact Or.inl ⟨by omega, (hs.2.2.2 l l0 (by omega)).1⟩
  by_cases h8 : A (t + 1) i = 8
  · obtain ⟨t1, t2, t3, t4, t5⟩ := lT.2.2.2.2.2.2.2.2 h8
    have ow := o0.2.2.2 (G 0 i 0 - 1) (by omega) (by omega)
    by_cases z : A (t + 1) (G 2 i (G 0 i 0 - 1)) = 7 ∧ 1 < K (G 0 i 0 - 1)
    · have e : nxL A t G i K = G 2 i (G 0 i 0 - 1) + 1 := by unfold nxL; rw [if_pos ⟨h8, z⟩]
      rw [e]
      refine ⟨by omega, fun l l0 l1 => ?_⟩
      obtain ⟨-, pT, -⟩ := hL.1 _ ow.1.1 (by omega)
      have hs := (pT.2.2.2.2.2.2.1 z.1).2
      rw [hs.1, ow.2.1] at l1
      refine Or.inl ⟨by omega, ?_⟩
      by_cases q : l = G 0 i 0 - 1
      · have := hs.2.1
        rw [ow.2.1] at this
        rw [q, this]
      · rw [(hs.2.2.2 l l0 (by rw [ow.2.1]; omega)).1]
        exact (ow.2.2.2.2.2.2.2 l l0 (by omega)).1.symm
    · have e : nxL A t G i K = i + 1 := by unfold nxL; rw [if_neg (fun y => z y.2)]
      rw [e]
      refine ⟨by omega, fun l l0 l1 => ?_⟩
      rw [t3] at l1
      exact Or.inl ⟨by omega, (t4 l l0 l1).1⟩
  · have e : nxL A t G i K = i + 1 := by unfold nxL; rw [if_neg (fun y => h8 y.1)]
    rw [e]
    refine ⟨by omega, ?_⟩
    rcases lT.1 with k | k | k | k | k | k | k
    · exact sam (lT.2.2.1 k).2.2.2.2
    · exact sam (lT.2.2.2.1 k).2.2.2
    · exact psh (Or.inl k) (lT.2.2.2.2.2.1 k).2.2.2
    · intro l l0 l1
      obtain ⟨t1, t2, t3, t4, t5, t6, t7, t8⟩ := lT.2.2.2.2.2.2.2.1 k
      rw [t4] at l1
      exact Or.inl ⟨l1, t5 l l0 l1⟩
    · exact psh (Or.inr k) (lT.2.2.2.2.2.2.1 k).2
    · exact absurd k h8
    · exact sam (lT.2.2.2.2.1 k).2.2.1
/-- what is left of the open loops -/
def KOK (A : Mem) (t : Nat) (G : Nat → Int → Int → Int) (i : Int) (F K : Int → Int) : Prop := ∀ l, 0 ≤ l → l < G 0 i 0 → A (t + 1) (G 2 i l) = 7 → F l = K l
theorem KOK_nx {A B : Mem} {t : Nat} {off c i i' : Int} {G : Nat → Int → Int → Int} {F F' K : Int → Int} (hL : LnS A B t off G c) (i0 : 0 ≤ i) (i1 : i < c) (h : KOK A t G i F K) (hi : i' = nxL A t G i F) (hF : ∀ l, 0 ≤ l → l < G 0 i' 0 → A (t + 1) (G 2 i' l) = 7 → F' l = nxK A t G i F l) : nxL A t G i K = i' ∧ KOK A t G i' F' (nxK A t G i K) := by
  obtain ⟨lR, lT, lP⟩ := hL.1 i i0 i1
  have top : A (t + 1) i = 8 → A (t + 1) (G 2 i (G 0 i 0 - 1)) = 7 → F (G 0 i 0 - 1) = K (G 0 i 0 - 1) := fun h8 h7 => by
    have := (lT.2.2.2.2.2.2.2.2 h8).1
    exact h _ (by omega) (by omega) h7
  have e1 : nxL A t G i K = nxL A t G i F := by
    unfold nxL
    by_cases z : A (t + 1) i = 8 ∧ A (t + 1) (G 2 i (G 0 i 0 - 1)) = 7
    · rw [top z.1 z.2]
    · rw [if_neg (fun y => z ⟨y.1, y.2.1⟩), if_neg (fun y => z ⟨y.1, y.2.1⟩)]
  refine ⟨by rw [e1, hi], fun l l0 l1 l7 => ?_⟩
  rw [hF l l0 l1 l7]
  have st := (nx_stk hL i0 i1 F).2 l l0 (by rw [← hi]; exact l1)
  rw [← hi] at st
  unfold nxK
  by_cases z : A (t + 1) i = 7 ∧ l = G 0 i 0
  · rw [if_pos z, if_pos z]
  · rw [if_neg z, if_neg z]
    have : F l = K l := by
      rcases st with ⟨s1, s2⟩ | ⟨s1, s2, s3⟩
      · exact h l l0 s1 (by rw [← s2]; exact l7)
      · rw [s3] at l7
        exact absurd ⟨l7, s1⟩ z
    rw [this]
