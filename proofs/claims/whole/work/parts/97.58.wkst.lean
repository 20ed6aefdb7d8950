/-! walking: names and loops at the next line -/
def ctF (A : Mem) (t : Nat) (G : Nat → Int → Int → Int) (i l : Int) : Int := sm (fun j => if A (t + 1) (G 2 i j) = 7 then 1 else 0) l.toNat
theorem ct_s {A : Mem} {t : Nat} {G : Nat → Int → Int → Int} {i l : Int} (h : 0 ≤ l) : ctF A t G i (l + 1) = ctF A t G i l + (if A (t + 1) (G 2 i l) = 7 then 1 else 0) := by
  unfold ctF
  exact sm_s h
theorem ct_cg {A : Mem} {t : Nat} {G : Nat → Int → Int → Int} {i i' l : Int} (h : ∀ j, 0 ≤ j → j < l → G 2 i' j = G 2 i j) : ctF A t G i' l = ctF A t G i l := by
  unfold ctF
  apply sm_congr
  intro j j0 j1
  rw [h j j0 (by omega)]
theorem ct_le {A : Mem} {t : Nat} {G : Nat → Int → Int → Int} {i : Int} : ∀ (m : Nat), 0 ≤ ctF A t G i m ∧ ctF A t G i m ≤ m := by
  intro m
  induction m with
  | zero => exact ⟨Int.le_refl _, Int.le_refl _⟩
  | succ m ih =>
    have := ct_s (A := A) (t := t) (G := G) (i := i) (l := (m : Int)) (by omega)
    rw [show ((m : Int) + 1) = ((m + 1 : Nat) : Int) by omega] at this
    rw [this]
    split <;> omega
theorem ct_bd {A : Mem} {t : Nat} {G : Nat → Int → Int → Int} {i l : Int} (h : 0 ≤ l) : 0 ≤ ctF A t G i l ∧ ctF A t G i l ≤ l := by
  have := ct_le (A := A) (t := t) (G := G) (i := i) l.toNat
  rw [show ((l.toNat : Nat) : Int) = l by omega] at this
  exact this
theorem ct_mono {A : Mem} {t : Nat} {G : Nat → Int → Int → Int} {i l : Int} (l0 : 0 ≤ l) (h7 : A (t + 1) (G 2 i l) = 7) : ∀ (m : Nat), ctF A t G i l < ctF A t G i (l + 1 + m) := by
  intro m
  induction m with
  | zero =>
    have := ct_s (A := A) (t := t) (G := G) (i := i) l0
    rw [if_pos h7] at this
    rw [show l + 1 + ((0 : Nat) : Int) = l + 1 by omega]
    omega
  | succ m ih =>
    have := ct_s (A := A) (t := t) (G := G) (i := i) (l := l + 1 + m) (by omega)
    rw [show l + 1 + ((m + 1 : Nat) : Int) = l + 1 + m + 1 by omega, this]
    split <;> omega
theorem ct_lt {A : Mem} {t : Nat} {G : Nat → Int → Int → Int} {i l d : Int} (l0 : 0 ≤ l) (h7 : A (t + 1) (G 2 i l) = 7) (ld : l < d) : ctF A t G i l < ctF A t G i d := by
  have := ct_mono (A := A) (t := t) (G := G) l0 h7 (d - l - 1).toNat
  rw [show l + 1 + ((d - l - 1).toNat : Int) = d by omega] at this
  exact this
def wLp (A : Mem) (t : Nat) (G : Nat → Int → Int → Int) (i : Int) (K : Int → Int) (a b : Mem) : Prop := a 56 6 = ctF A t G i (G 0 i 0) ∧ ∀ l, 0 ≤ l → l < G 0 i 0 → A (t + 1) (G 2 i l) = 7 → a 59 (ctF A t G i l) = K l ∧ b 149 l = K l ∧ 1 ≤ K l ∧ K l ≤ 9
theorem wLp_go {A : Mem} {t : Nat} {G : Nat → Int → Int → Int} {i i' : Int} {K K' : Int → Int} {a b a' b' : Mem} (h : wLp A t G i K a b) (d0 : 0 ≤ G 0 i 0) (d0' : 0 ≤ G 0 i' 0) (hs : ∀ l, 0 ≤ l → l < G 0 i 0 → l < G 0 i' 0 → G 2 i' l = G 2 i l) (hd : G 0 i' 0 = G 0 i 0 ∨ (G 0 i' 0 = G 0 i 0 - 1 ∧ A (t + 1) (G 2 i (G 0 i' 0)) ≠ 7) ∨ (G 0 i' 0 = G 0 i 0 + 1 ∧ A (t + 1) (G 2 i' (G 0 i 0)) ≠ 7)) (hK : ∀ l, 0 ≤ l → l < G 0 i' 0 → A (t + 1) (G 2 i' l) = 7 → K' l = K l) (e56 : a' 56 6 = a 56 6) (e59 : a' 59 = a 59) (e149 : b' 149 = b 149) : wLp A t G i' K' a' b' := by
  obtain ⟨h1, h2⟩ := h
  unfold wLp
  rw [e56, e59, e149, h1]
  refine ⟨?_, fun l l0 l1 l7 => ?_⟩
  · rcases hd with z | ⟨z, z7⟩ | ⟨z, z7⟩
    · rw [z]
      exact (ct_cg (fun j j0 j1 => hs j j0 j1 (by omega))).symm
    · have q := ct_s (A := A) (t := t) (G := G) (i := i) d0'
      rw [if_neg z7, Int.add_zero] at q
      rw [show G 0 i 0 = G 0 i' 0 + 1 by omega, q]
      exact (ct_cg (fun j j0 j1 => hs j j0 (by omega) j1)).symm
    · have q := ct_s (A := A) (t := t) (G := G) (i := i') d0
      rw [if_neg z7, Int.add_zero] at q
      rw [z, q]
      exact (ct_cg (fun j j0 j1 => hs j j0 j1 (by omega))).symm
  · have l2 : l < G 0 i 0 := by
      rcases hd with z | ⟨z, z7⟩ | ⟨z, z7⟩
      · omega
      · omega
      · by_cases e : l = G 0 i 0
        · rw [e] at l7; exact absurd l7 z7
        · omega
    have e2 := hs l l0 l2 l1
    rw [hK l l0 l1 l7, ct_cg (i := i) (fun j j0 j1 => hs j j0 (by omega) (by omega))]
    rw [e2] at l7
    exact h2 l l0 l2 l7
theorem wNm_go {G : Nat → Int → Int → Int} {i i' : Int} {a b a' b' : Mem} (h : wNm G i a b) (hg : ∀ s, 0 ≤ s → s < G 1 i' 0 → s < G 1 i 0 ∧ G 4 i' s = G 4 i s) (e58 : a' 58 = a 58) (e145 : b' 145 = b 145) : wNm G i' a' b' := by
  intro s s0 s1
  obtain ⟨q1, q2⟩ := hg s s0 s1
  rw [e58, e145, q2]
  exact h s s0 q1
/-- behind a when -/
theorem w_end {A B : Mem} {t : Nat} {off c w : Int} {G : Nat → Int → Int → Int} (hL : LnS A B t off G c) (g0 : G 0 c 0 = 0) (w0 : 0 ≤ w) (w1 : w < c) (hk : A (t + 1) w = 5) : G 0 (G 5 w 0 + 1) 0 = G 0 w 0 ∧ (∀ l, 0 ≤ l → l < G 0 w 0 → G 2 (G 5 w 0 + 1) l = G 2 w l) ∧ G 1 (G 5 w 0 + 1) 0 = G 1 w 0 ∧ (∀ s, 0 ≤ s → s < G 1 w 0 → G 4 (G 5 w 0 + 1) s = G 4 w s) ∧ B 139 (12 * (off + w) + 9) = G 5 w 0 := by
  have be := blk_end hL g0 w0 w1 (Or.inl hk)
  have d0 := (hL.2.1 w w0 (by omega)).1.1
  obtain ⟨-, -, wP⟩ := hL.1 w w0 w1
  rcases (wP.1 hk).2.1 with y | ⟨y1, y2, y3, y4, y5, y6, y7⟩
  · omega
  · obtain ⟨-, eT, -⟩ := hL.1 (G 5 w 0) (by omega) y2
    obtain ⟨t1, t2, t3, t4, t5⟩ := eT.2.2.2.2.2.2.2.2 y3
    rw [y4, show G 0 w 0 + 1 - 1 = G 0 w 0 by omega] at t2 t3 t4 t5
    rw [y5, if_pos hk] at t5
    have o := (hL.2.1 (G 5 w 0) (by omega) (by omega)).2.2.2 (G 0 w 0) d0 (by omega)
    rw [y5] at o
    refine ⟨t3, fun l l0 l1 => ?_, t5, fun s s0 s1 => ?_, y7⟩
    · rw [(t4 l l0 l1).1, (o.2.2.2.2.2.2.2 l l0 l1).1]
    · have := o.2.2.2.2.2.1
      rw [eT.2.1 s s0 (by omega) (by omega), o.2.2.2.2.2.2.1 s s0 s1]
/-- behind its else -/
theorem w_els {A B : Mem} {t : Nat} {off c w : Int} {G : Nat → Int → Int → Int} (hL : LnS A B t off G c) (w0 : 0 ≤ w) (w1 : w < c) (hk : A (t + 1) w = 5) (h6 : G 6 w 0 ≠ -1) : G 0 (G 6 w 0 + 1) 0 = G 0 w 0 + 1 ∧ (∀ l, 0 ≤ l → l < G 0 w 0 → G 2 (G 6 w 0 + 1) l = G 2 w l) ∧ G 2 (G 6 w 0 + 1) (G 0 w 0) = w ∧ G 1 (G 6 w 0 + 1) 0 = G 1 w 0 ∧ ∀ s, 0 ≤ s → s < G 1 w 0 → G 4 (G 6 w 0 + 1) s = G 4 w s := by
  have d0 := (hL.2.1 w w0 (by omega)).1.1
  obtain ⟨-, -, wP⟩ := hL.1 w w0 w1
  rcases (wP.1 hk).1 with y | ⟨y1, y2, y3, y4, y5⟩
  · exact absurd y h6
  · obtain ⟨-, eT, -⟩ := hL.1 (G 6 w 0) (by omega) y2
    obtain ⟨t1, t2, t3, t4, t5, t6, t7, t8⟩ := eT.2.2.2.2.2.2.2.1 y3
    rw [y4, show G 0 w 0 + 1 - 1 = G 0 w 0 by omega, y5] at t8
    have o := (hL.2.1 (G 6 w 0) (by omega) (by omega)).2.2.2 (G 0 w 0) d0 (by omega)
    rw [y5] at o
    refine ⟨by rw [t4, y4], fun l l0 l1 => ?_, ?_, t8, fun s s0 s1 => ?_⟩
    · rw [t5 l l0 (by omega), (o.2.2.2.2.2.2.2 l l0 l1).1]
    · rw [t5 _ d0 (by omega), y5]
    · have := o.2.2.2.2.2.1
      rw [eT.2.1 s s0 (by omega) (by omega), o.2.2.2.2.2.2.1 s s0 s1]
