/-! an `is` line that both have read -/
def IsF (A B A' B' : Mem) (t : Nat) (c s' v P P2 : Int) : Prop := A' t 0 = c + 1 ∧ (∀ k, k ≠ 0 → A' t k = A t k) ∧ (∀ k, k ≠ 5 → k ≠ 11 → A' 4 k = A 4 k) ∧ A' 21 = A 21 ∧ (∀ i, i ≠ c → A' (t + 1) i = A (t + 1) i ∧ A' (t + 2) i = A (t + 2) i ∧ A' (t + 3) i = A (t + 3) i ∧ A' (t + 4) i = A (t + 4) i ∧ A' (t + 5) i = A (t + 5) i ∧ A' (t + 8) i = A (t + 8) i) ∧ (A' (t + 9) = A (t + 9) ∧ A' (t + 10) = A (t + 10) ∧ A' (t + 11) = A (t + 11) ∧ A' (t + 12) = A (t + 12)) ∧ (∀ y, y < 3 * c ∨ 3 * c + 3 ≤ y → A' (t + 6) y = A (t + 6) y ∧ A' (t + 7) y = A (t + 7) y) ∧ (A' (t + 1) c = 4 ∧ A' (t + 2) c = P ∧ A' (t + 3) c = s' ∧ A' (t + 4) c = v ∧ A' (t + 5) c = P2) ∧ B' 138 412 = c + 1 ∧ (∀ k, k ≠ 412 → B' 138 k = B 138 k) ∧ (∀ y, y < 12 * (210 + c) ∨ 12 * (210 + c) + 12 ≤ y → B' 139 y = B 139 y) ∧ (B' 139 (12 * (210 + c)) = 0 ∧ B' 139 (12 * (210 + c) + 1) = s' ∧ B' 139 (12 * (210 + c) + 2) = v ∧ B' 139 (12 * (210 + c) + 3) = P ∧ B' 139 (12 * (210 + c) + 4) = P2 ∧ B' 139 (12 * (210 + c) + 11) = B 132 18) ∧ B' 132 18 = B 132 18 ∧ B' 142 = B 142 ∧ B' 143 = B 143 ∧ B' 144 = B 144
set_option maxHeartbeats 4000000 in
set_option maxRecDepth 20000 in
theorem is_fin {A A' B B' : Mem} {t : Nat} {T : Int → Int} {n N c m' s' v P P2 md : Int} {G : Nat → Int → Int → Int} (hP : PC A B t T n N G c) (c200 : c < 200) (f : IsF A B A' B' t c s' v P P2) (cf : CFr t A A') (mf : MFr B B') (nm : NmR A' B' m') (s0 : 0 ≤ s') (s1 : s' ≤ G 1 c 0) (hm : m' = if s' = G 1 c 0 then G 1 c 0 + 1 else G 1 c 0) (ho : ∀ s, 0 ≤ s → s < G 1 c 0 → A' 19 s = A 19 s) (hmd : A' 19 s' = md) (P0 : 0 ≤ P) (P1 : P ≤ 1000) (Q0 : 0 ≤ P2) (Q1 : P2 ≤ 1000) (v2 : 2 ≤ v) (v14 : v ≤ 14) (ar : ∀ k, 0 ≤ k → k < argc v → ArR A' B' t 210 c k (G 1 c 0)) (ot : OpTr A' A t c v md) : PC A' B' t T n N (upG G c (G 0 c 0) m' (G 2 c) (G 3 c) (A' 19)) (c + 1) := by
  obtain ⟨p1, p2, p3, p4, p5, p6, p7, p8, p9, p10, p11, p12, p13, p14, p15, p16⟩ := id hP
  obtain ⟨f1, f2, f3, f4, f5, f6, f7, f8, f9, f10, f11, f12, f13, f14, f15, f16⟩ := f
  obtain ⟨k1, k2, k3, k4, k5⟩ := f8
  obtain ⟨b0, b1, b2, b3, b4, b11⟩ := f12
  have c0 := p4.2.2
  have a3 := argc3 v
  have mm : G 1 c 0 ≤ m' := by rw [hm]; split <;> omega
  obtain ⟨w0, w1, w2, w3, w4⟩ := upG_n (G := G) (c := c) (d := G 0 c 0) (m := m') (op := G 2 c) (el := G 3 c) (ts := A' 19)
  have ue := upG_eq (G := G) (c := c) (d := G 0 c 0) (m := m') (op := G 2 c) (el := G 3 c) (ts := A' 19)
  have lf : LnF A A' B B' t 210 c := ⟨fun i i0 i1 => by
    obtain ⟨x1, x2, x3, x4, x5, x8⟩ := f5 i (by omega)
    rw [f6.1]
    exact ⟨x1, x2, x3, x4, x5, rfl⟩, fun y y0 y1 => f7 y (by omega), by rw [f2 10 (by omega)]; exact Int.le_refl _, by rw [f2 16 (by omega)]; exact Int.le_refl _, fun i k i0 i1 k0 k1 _ => f11 _ (by omega)⟩
  refine PC_same hP cf mf nm mm (fun s x0 x1 => by rw [ho s x0 x1]; exact (p14 s x0 x1).symm) (fun _ _ _ => rfl) f1 f9 ?_ ?_ (fun k k0 _ => f2 k k0) (fun k k0 k1 => f10 k (by omega)) f3 f13 f4 f14 f15 f16 lf (fun y y0 y1 => (f5 y (by omega)).2.2.2.2.2) (fun y y0 y1 => ⟨f11 _ (by omega), f11 _ (by omega)⟩) ?_ ?_ (Or.inr (Or.inl k1))
  · rw [f2 10 (by omega), f10 413 (by omega)]; exact p5
  · intro i i0 i1
    rw [f2 10 (by omega)] at i1
    rw [f6.2.1, f6.2.2.1, f6.2.2.2, f10 _ (by omega), f10 _ (by omega), f10 _ (by omega)]
    exact p13 i i0 i1
  · have g0 := ue 0 c 0 (by omega) (Int.le_refl _)
    have g1 := ue 1 c 0 (by omega) (Int.le_refl _)
    unfold LnR
    rw [k1, k2, k3, k4, k5, g0, g1, b0, b1, b2, b3, b4, b11]
    refine ⟨by decide, rfl, ⟨P0, P1⟩, fun z => by omega, fun _ => ⟨rfl, rfl, rfl, ⟨v2, v14⟩, ⟨Q0, Q1⟩, ar⟩, fun z => by omega, fun z => by omega, fun z => by omega, ?_⟩
    rw [if_neg (by omega)]; exact p11.2
  · have at' : ∀ k, 0 ≤ k → k < argc v → aTy A' t (upG G c (G 0 c 0) m' (G 2 c) (G 3 c) (A' 19)) c k = tyA A' A t c k := fun k x0 x1 => by
      have r := ar k x0 x1
      unfold aTy tyA
      by_cases z : 0 ≤ A' (t + 6) (3 * c + k)
      · rw [if_pos z, if_pos z, ue 4 c _ (by omega) (Int.le_refl _)]
        exact p14 _ z r.2.2.2.1
      · rw [if_neg z, if_neg z]
    unfold LnT samG
    rw [k1, k3]
    refine ⟨by omega, fun s x0 x1 x2 => ?_, fun z => by omega, fun _ => ⟨?_, ?_, ?_, by rw [w0, ue 0 c 0 (by omega) (Int.le_refl _)], fun l l0 l1 => by rw [w2, w3, ue 2 c l (by omega) (Int.le_refl _), ue 3 c l (by omega) (Int.le_refl _)]; exact ⟨rfl, rfl⟩⟩, fun z => by omega, fun z => by omega, fun z => by omega, fun z => by omega, fun z => by omega⟩
    · rw [ue 1 c 0 (by omega) (Int.le_refl _)] at x1
      rw [w4, ue 4 c s (by omega) (Int.le_refl _), ho s x0 x1]
      exact (p14 s x0 x1).symm
    · rw [ue 1 c 0 (by omega) (Int.le_refl _)]; exact ⟨s0, s1⟩
    · rw [w1, ue 1 c 0 (by omega) (Int.le_refl _)]; exact hm
    · rw [w4, hmd]
      obtain ⟨o1, o2, o3, o4, o5, o6⟩ := ot
      unfold OpT
      rw [k4]
      refine ⟨fun z k x0 x1 => by rw [at' k x0 x1]; exact o1 z k x0 x1, fun z z' k x0 x1 => by rw [at' k x0 x1]; exact o2 z z' k x0 x1, fun z => ?_, fun z => ?_, o5, o6⟩
      · have ac : argc v = 3 := by rw [z]; decide
        rw [at' 0 (by omega) (by omega), at' 1 (by omega) (by omega), at' 2 (by omega) (by omega)]
        exact o3 z
      · have ac : argc v = 1 := by rw [z]; decide
        rw [at' 0 (by omega) (by omega)]
        exact o4 z
