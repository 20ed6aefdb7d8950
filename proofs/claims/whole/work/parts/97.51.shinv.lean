/-! what holds between calls, carried over a shader -/
theorem Val_cg {n nI : Int} {mk ag F mk' ag' F' : Int → Int} (h : Val n mk ag F nI) (hm : ∀ v, 0 ≤ v → v < n → mk' v = mk v) (ha : ∀ y, 0 ≤ y → y < 3 * n → ag' y = ag y) (hf : ∀ v, 0 ≤ v → v < n → F' v = F v) : Val n mk' ag' F' nI := by
  obtain ⟨h1, h2, h3, h4, h5⟩ := h
  refine ⟨h1, h2, h3, h4, fun v v0 v1 => ?_⟩
  have q := h5 v v0 v1
  rw [hm v v0 v1, ha (3 * v) (by omega) (by omega), ha (3 * v + 1) (by omega) (by omega), ha (3 * v + 2) (by omega) (by omega), hf v v0 v1]
  obtain ⟨q1, q2, q3, q4, q5, q6, q7, q8, q9, q10, q11, q12, q13⟩ := q
  refine ⟨q1, q2, q3, q4, q5, q6, q7, q8, q9, ?_, fun z => ?_, fun z => ?_, fun z => ?_⟩
  · by_cases z : mk v = 13
    · rw [if_pos z] at q10 ⊢
      have := q6 (by omega) (by omega) (by omega)
      rw [hf _ (by omega) (by omega)]; exact q10
    · rw [if_neg z] at q10 ⊢; exact q10
  · have := q5 (by omega)
    rw [hf _ (by omega) (by omega)]; exact q11 z
  · have := q6 (by omega) (by omega) (by omega)
    rw [hf _ (by omega) (by omega)]; exact q12 z
  · have a := q6 (by omega) (by omega) (by omega)
    have b := q7 z
    rw [hf _ (by omega) (by omega), hf _ (by omega) (by omega)]; exact q13 z
theorem u1_cg {U U' : Int → Int} {q a : Int} (h : 0 ≤ a → U' a = U a) : u1 U' q a = u1 U q a := by
  unfold u1
  by_cases z : q = 0
  · rw [if_pos z, if_pos z]
  · rw [if_neg z, if_neg z]
    by_cases y : a < 0
    · rw [if_pos y, if_pos y]
    · rw [if_neg y, if_neg y, h (by omega)]
theorem UnOK_cg {n nI : Int} {mk ag F U giv mk' ag' U' giv' : Int → Int} (h : UnOK n mk ag giv U) (hV : Val n mk ag F nI) (hm : ∀ v, 0 ≤ v → v < n → mk' v = mk v) (ha : ∀ y, 0 ≤ y → y < 3 * n → ag' y = ag y) (hu : ∀ v, 0 ≤ v → v < n → U' v = U v) (hg : ∀ i, 0 ≤ i → i < nI → giv' i = giv i) : UnOK n mk' ag' giv' U' := by
  intro v v0 v1
  rw [hu v v0 v1, h v v0 v1]
  obtain ⟨q1, q2, q3, q4, q5, q6, q7, q8, q9, -⟩ := hV.2.2.2.2 v v0 v1
  unfold uF
  rw [hm v v0 v1, ha (3 * v) (by omega) (by omega), ha (3 * v + 1) (by omega) (by omega), ha (3 * v + 2) (by omega) (by omega)]
  by_cases z0 : mk v = 0
  · have := q3 z0
    rw [if_pos z0, if_pos z0, hg _ this.1 this.2]
  · rw [if_neg z0, if_neg z0]
    by_cases z1 : mk v = 1
    · rw [if_pos z1, if_pos z1]
    · have a := q5 (by omega)
      have b : ag (3 * v + 1) < n := by
        by_cases y : mk v = 7 ∨ mk v = 12
        · have := q8 (by omega); omega
        · have := q6 (by omega) (by omega) (by omega); omega
      have c : ag (3 * v + 2) < n := by
        by_cases y : mk v = 13
        · have := q7 y; omega
        · have := q9 y; omega
      rw [if_neg z1, if_neg z1, u1_cg (U := U) (U' := U') (a := ag (3 * v)) (fun y => hu _ y (by omega)), u1_cg (U := U) (U' := U') (a := ag (3 * v + 1)) (fun y => hu _ y b), u1_cg (U := U) (U' := U') (a := ag (3 * v + 2)) (fun y => hu _ y c)]
theorem Cch_cls {M M' : Mem} {t : Nat} {n nS : Int} {D : Mem} (ht : t = 5 ∨ t = 119) (h : Cch M t n nS D) (e : ∀ b, b = 0 ∨ b = t ∨ (44 ≤ b ∧ b ≤ 53) ∨ (62 ≤ b ∧ b ≤ 87) → M' b = M b) : Cch M' t n nS D := by
  have hs : ∀ b : Nat, b = 0 ∨ b = t ∨ (44 ≤ b ∧ b ≤ 53) ∨ (62 ≤ b ∧ b ≤ 87) → M' b = M b := e
  unfold Cch CV CX Sch CL CC
  simp only [Nat.reduceAdd]
  rw [hs 0 (by omega), hs 44 (by omega), hs 45 (by omega), hs 46 (by omega), hs 47 (by omega), hs 48 (by omega), hs 49 (by omega), hs 52 (by omega), hs 53 (by omega), hs t (by omega)]
  rw [hs 63 (by omega), hs 64 (by omega), hs 65 (by omega), hs 66 (by omega), hs 67 (by omega), hs 68 (by omega), hs 69 (by omega), hs 70 (by omega), hs 71 (by omega), hs 72 (by omega), hs 73 (by omega), hs 74 (by omega), hs 75 (by omega), hs 76 (by omega), hs 77 (by omega), hs 78 (by omega), hs 79 (by omega), hs 80 (by omega), hs 81 (by omega), hs 83 (by omega), hs 84 (by omega), hs 85 (by omega), hs 86 (by omega), hs 87 (by omega)]
  exact h
/-! a shader that was refused leaves what stood -/
set_option maxHeartbeats 4000000 in
set_option maxRecDepth 20000 in
theorem InvQ_up {M M' : Mem} {t : Nat} {n nI nS : Int} (h : InvQ M t n nI nS) (e : ∀ b, b = 0 ∨ b = t ∨ b = t + 10 ∨ (44 ≤ b ∧ b ≤ 55) ∨ (150 ≤ b ∧ b ≤ 152) → M' b = M b) (e8 : ∀ k, k < 412 → M' 138 k = M 138 k) (e28 : M' 132 28 = M 132 28) (e1 : M' 1 2 = M' 132 2) : InvQ M' t n nI nS := by
  obtain ⟨h1, h2, h3, h4, h5, h6, h7, h8, h9, h10, h11, h12, h13, h14, h15, h16, h17, h18, h19, h20⟩ := h
  have n64 := h4.2.1
  have i6 := h4.2.2.2.1
  unfold InvQ MV MS
  rw [e 0 (by omega), e t (by omega), e (t + 10) (by omega), e 44 (by omega), e 45 (by omega), e 46 (by omega), e 47 (by omega), e 48 (by omega), e 49 (by omega), e 50 (by omega), e 52 (by omega), e 53 (by omega), e 54 (by omega), e 55 (by omega), e 150 (by omega), e 151 (by omega), e 152 (by omega), e28]
  refine ⟨h1, h2, h3, h4, ⟨by rw [e8 8 (by omega)]; exact h5.1, fun v v0 v1 => ?_⟩, h6, ⟨by rw [e8 9 (by omega)]; exact h7.1, fun i i0 i1 => by rw [e8 _ (by have := h8.2.1; omega)]; exact h7.2 i i0 i1⟩, h8, h9, ⟨h10.1, by rw [e8 1 (by omega)]; exact h10.2⟩, fun i i0 i1 => ?_, ?_, h13, by rw [e8 3 (by omega)]; exact h14, by rw [e8 4 (by omega)]; exact h15, by rw [e8 5 (by omega)]; exact h16, by rw [e8 2 (by omega)]; exact h17, fun k k0 k1 => by rw [e8 _ (by have := h17.2.2; omega)]; exact h18 k k0 k1, e1, h20⟩
  · rw [e8 _ (by omega), e8 _ (by omega), e8 _ (by omega), e8 _ (by omega)]; exact h5.2 v v0 v1
  · rw [e8 _ (by omega)]; exact h11 i i0 i1
  · exact UnOK_cg h12 h4 (fun _ _ _ => rfl) (fun _ _ _ => rfl) (fun _ _ _ => rfl) (fun i i0 i1 => by rw [e8 _ (by omega)])
/-! the lines where they are kept -/
set_option maxHeartbeats 4000000 in
set_option maxRecDepth 20000 in
theorem LnS_off {A A' B B' : Mem} {t : Nat} {o o' c : Int} {G : Nat → Int → Int → Int} (h : LnS A B t o G c) (e1 : A' (t + 1) = A (t + 1)) (e2 : A' (t + 2) = A (t + 2)) (e3 : A' (t + 3) = A (t + 3)) (e4 : A' (t + 4) = A (t + 4)) (e5 : A' (t + 5) = A (t + 5)) (e6 : A' (t + 6) = A (t + 6)) (e7 : A' (t + 7) = A (t + 7)) (e8 : A' (t + 8) = A (t + 8)) (e9 : A' (t + 9) = A (t + 9)) (e10 : A' t 10 = A t 10) (e16 : A' t 16 = A t 16) (b : ∀ i k, 0 ≤ i → i < c → 0 ≤ k → k < 12 → B' 139 (12 * (o' + i) + k) = B 139 (12 * (o + i) + k)) : LnS A' B' t o' G c := by
  obtain ⟨h1, h2, h3⟩ := h
  refine ⟨fun i i0 i1 => ?_, fun i i0 i1 => ?_, ?_⟩
  · obtain ⟨x1, x2, x3⟩ := h1 i i0 i1
    have b' : ∀ k, 0 ≤ k → k < 12 → B' 139 (12 * (o' + i) + k) = B 139 (12 * (o + i) + k) := fun k k0 k1 => b i k i0 i1 k0 k1
    have b0 := b' 0 (by omega) (by omega)
    rw [Int.add_zero, Int.add_zero] at b0
    have ar : ∀ k m, 0 ≤ k → k < 3 → ArR A B t o i k m → ArR A' B' t o' i k m := fun k m k0 k1 q => by
      unfold ArR at q ⊢
      rw [e6, e7, show 12 * (o' + i) + 5 + 2 * k = 12 * (o' + i) + (5 + 2 * k) by omega, show 12 * (o' + i) + 6 + 2 * k = 12 * (o' + i) + (6 + 2 * k) by omega, b' _ (by omega) (by omega), b' _ (by omega) (by omega), show 12 * (o + i) + (5 + 2 * k) = 12 * (o + i) + 5 + 2 * k by omega, show 12 * (o + i) + (6 + 2 * k) = 12 * (o + i) + 6 + 2 * k by omega]
      exact q
    refine ⟨?_, ?_, ?_⟩
    · obtain ⟨q1, q2, q3, q4, q5, q6, q7, q8, q9⟩ := x1
      unfold LnR
      rw [e1, e2, e3, e4, e5, e9, e10, e16, b0, b' 1 (by omega) (by omega), b' 2 (by omega) (by omega), b' 3 (by omega) (by omega), b' 4 (by omega) (by omega), b' 11 (by omega) (by omega)]
      refine ⟨q1, q2, q3, q4, fun z => ?_, fun z => ?_, q7, fun z => ar 0 _ (by omega) (by omega) (q8 z), q9⟩
      · obtain ⟨y1, y2, y3, y4, y5, y6⟩ := q5 z
        exact ⟨y1, y2, y3, y4, y5, fun k k0 k1 => ar k _ k0 (by have := argc3 (A (t + 4) i); omega) (y6 k k0 k1)⟩
      · obtain ⟨y1, y2, y3, y4⟩ := q6 z
        exact ⟨y1, y2, y3, ar 0 _ (by omega) (by omega) y4⟩
    · unfold LnT OpT aTy at *
      rw [e1, e3, e4, e6, e8]
      exact x2
    · unfold LnP at *
      rw [e1, e8, b' 1 (by omega) (by omega), b' 7 (by omega) (by omega), b' 9 (by omega) (by omega)]
      exact x3
  · have := h2 i i0 i1
    unfold LnO at *
    rw [e1]
    exact this
  · rw [e1]; exact h3
