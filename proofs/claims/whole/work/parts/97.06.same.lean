theorem rl_v : rl 0 = 5 ∧ rl 1 = 4 ∧ rl 2 = 5 ∧ rl 3 = 3 ∧ rl 4 = 2 ∧ rl 5 = 4 ∧ rl 6 = 4 ∧ rl 7 = 5 ∧ rl 8 = 3 ∧ rl 9 = 4 := by decide
/-- how long a reserved word is -/
theorem tk_len {A : Mem} {t : Nat} {T : Int → Int} {n j w : Int} (hC : CK A t T n) (hA : CAt A T n (pos T n j)) (h5 : A 1 4 = 5) (hw : A 1 6 = w) : (0 ≤ w ∧ w < 23) ∧ te T n (pos T n j) = pos T n j + rl w ∧ pos T n j < n ∧ ty T n (pos T n j) = 1 := by
  have kr := kd_rel hA
  have e1 : ty T n (pos T n j) = 1 := kr.2.2.2.2.1.mp (Or.inr h5)
  have pb := pos_b T (n := n) (j := j) hC.2.2.1.2.1
  obtain ⟨e7, hh⟩ := hA.2.2.2.2.2.2 e1
  rcases hh with ⟨_, x2, x3, x4⟩ | ⟨x1, _⟩
  · rw [hw] at x2 x3 x4
    rw [hC.2.2.2 w x2 x3, e7] at x4
    have := (cd_inj (Or.inr rfl) (rl w) _ (res_let x2 x3) (let_ok pb.2 e1) x4).1
    have tb := te_bd (T := T) pb.2
    exact ⟨⟨x2, x3⟩, by omega, (ty_1 e1).1, e1⟩
  · omega
theorem LnO_same {A A' B B' : Mem} {t : Nat} {off c m' : Int} {G : Nat → Int → Int → Int} {ts' : Int → Int} (h : LnO A t G c) (f : LnF A A' B B' t off c) (m0 : G 1 c 0 ≤ m') (m1 : m' ≤ 20) (hts : ∀ s, 0 ≤ s → s < G 1 c 0 → ts' s = G 4 c s) (ht01 : ∀ s, 0 ≤ s → s < m' → ts' s = 0 ∨ ts' s = 1) : LnO A' t (upG G c (G 0 c 0) m' (G 2 c) (G 3 c) ts') (c + 1) := by
  obtain ⟨h1, h2, h3, h4⟩ := h
  obtain ⟨u0, u1, u2, u3, u4⟩ := upG_n (G := G) (c := c) (d := G 0 c 0) (m := m') (op := G 2 c) (el := G 3 c) (ts := ts')
  have ue := upG_eq (G := G) (c := c) (d := G 0 c 0) (m := m') (op := G 2 c) (el := G 3 c) (ts := ts')
  unfold LnO
  simp only [u0, u1, u2, u3, u4]
  refine ⟨h1, by omega, ht01, fun l l0 l1 => ?_⟩
  obtain ⟨x1, x2, x3, x4, x5, x6, x7, x8⟩ := h4 l l0 l1
  have eo : ∀ a k, a ≤ 4 → upG G c (G 0 c 0) m' (G 2 c) (G 3 c) ts' a (G 2 c l) k = G a (G 2 c l) k := fun a k x => ue a _ k x (by omega)
  rw [(f.1 _ x1.1 x1.2).1, eo 0 _ (by omega), eo 1 _ (by omega)]
  refine ⟨by omega, x2, x3, x4, x5, by omega, fun s s0 s1 => ?_, fun k k0 k1 => ?_⟩
  · rw [eo 4 _ (by omega), hts s s0 (by omega)]; exact x7 s s0 s1
  · rw [eo 2 _ (by omega), eo 3 _ (by omega)]; exact x8 k k0 k1
set_option maxHeartbeats 4000000 in
set_option maxRecDepth 20000 in
theorem PC_same {A A' B B' : Mem} {t : Nat} {T : Int → Int} {n N c m' : Int} {G : Nat → Int → Int → Int} {ts' : Int → Int} (h : PC A B t T n N G c) (cf : CFr t A A') (mf : MFr B B') (hNm : NmR A' B' m') (hm : G 1 c 0 ≤ m') (hts : ∀ s, 0 ≤ s → s < G 1 c 0 → ts' s = G 4 c s) (hts2 : ∀ s, 0 ≤ s → s < m' → ts' s = A' 19 s) (a0 : A' t 0 = c + 1) (b0 : B' 138 412 = c + 1) (hin : A' t 10 = B' 138 413 ∧ 0 ≤ A' t 10 ∧ A' t 10 ≤ 6) (hin2 : ∀ i, 0 ≤ i → i < A' t 10 → A' (t + 10) i = B' 138 (422 + 3 * i + 2) ∧ (A' (t + 10) i = 0 ∨ A' (t + 10) i = 1) ∧ A' (t + 11) i = B' 138 (422 + 3 * i) ∧ A' (t + 12) i = B' 138 (422 + 3 * i + 1) ∧ 0 ≤ A' (t + 11) i ∧ A' (t + 11) i ≤ A' (t + 12) i ∧ A' (t + 12) i ≤ 999) (atk : ∀ k, k ≠ 0 → k ≠ 10 → A' t k = A t k) (bk : ∀ k, 413 < k → k < 422 → B' 138 k = B 138 k) (a4 : ∀ k, k ≠ 5 → k ≠ 11 → A' 4 k = A 4 k) (b18 : B' 132 18 = B 132 18) (a21 : A' 21 = A 21) (b142 : B' 142 = B 142) (b143 : B' 143 = B 143) (b144 : B' 144 = B 144) (lf : LnF A A' B B' t 210 c) (a8 : ∀ x, 0 ≤ x → x < c → A' (t + 8) x = A (t + 8) x) (b79 : ∀ x, 0 ≤ x → x < c → B' 139 (12 * (210 + x) + 7) = B 139 (12 * (210 + x) + 7) ∧ B' 139 (12 * (210 + x) + 9) = B 139 (12 * (210 + x) + 9)) (hR : LnR A' B' t 210 (upG G c (G 0 c 0) m' (G 2 c) (G 3 c) ts') c) (hT : LnT A' t (upG G c (G 0 c 0) m' (G 2 c) (G 3 c) ts') c) (hk : A' (t + 1) c = 0 ∨ A' (t + 1) c = 4 ∨ A' (t + 1) c = 9) : PC A' B' t T n N (upG G c (G 0 c 0) m' (G 2 c) (G 3 c) ts') (c + 1) := by
  obtain ⟨p1, p2, p3, p4, p5, p6, p7, p8, p9, p10, p11, p12, p13, p14, p15, p16⟩ := h
  obtain ⟨u0, u1, u2, u3, u4⟩ := upG_n (G := G) (c := c) (d := G 0 c 0) (m := m') (op := G 2 c) (el := G 3 c) (ts := ts')
  have o := p16.2.1 c p4.2.2 (Int.le_refl _)
  have kk : ∀ l, 0 ≤ l → l < G 0 c 0 → A' (t + 1) (G 2 c l) = A (t + 1) (G 2 c l) := fun l a b => by
    have := (o.2.2.2 l a b).1
    exact (lf.1 _ this.1 this.2).1
  have ue := upG_eq (G := G) (c := c) (d := G 0 c 0) (m := m') (op := G 2 c) (el := G 3 c) (ts := ts')
  unfold PC
  rw [u0, u1]
  refine ⟨CK_CFr p1 cf, MK_MFr p2 mf, hNm, ⟨a0, b0, by omega⟩, hin, ?_, ?_, ?_, ?_, ?_, ?_, ?_, hin2, fun s s0 s1 => by rw [u4]; exact hts2 s s0 s1, fun l l0 l1 => ?_, ?_⟩
  · rw [atk 16 (by omega) (by omega), bk 414 (by omega) (by omega)]; exact ⟨p6.1, p6.2.1, by omega, by rw [a4 8 (by omega) (by omega)]; omega⟩
  · rw [atk 14 (by omega) (by omega), bk 415 (by omega) (by omega)]; exact p7
  · rw [atk 15 (by omega) (by omega), bk 416 (by omega) (by omega)]; exact p8
  · rw [a4 9 (by omega) (by omega), bk 418 (by omega) (by omega)]; exact p9
  · rw [a4 10 (by omega) (by omega), bk 419 (by omega) (by omega)]; exact p10
  · rw [a4 7 (by omega) (by omega), b18]; exact p11
  · rw [a4 8 (by omega) (by omega), p12]
    apply sm_congr
    intro i i0 i1
    unfold whO
    rw [u2, kk i i0 (by omega)]
  · rw [a21, b142, b143, b144, u2, u3, kk l l0 l1]
    have x := p15 l l0 l1
    refine ⟨x.1, x.2.1, x.2.2.1, fun z => ?_⟩
    rw [ue 1 _ _ (by omega) (by have := (o.2.2.2 l l0 l1).1; omega)]
    exact x.2.2.2 z
  · refine LnS_ext p4.2.2 p16 lf ue (fun x x0 x1 => upG_5 x1) a8 b79 hR hT ?_ ?_ (fun l l0 l1 => ?_)
    · exact ⟨fun z => by omega, fun z => by omega, fun z => by omega⟩
    · exact LnO_same o lf hm hNm.2.2.2.1 hts (fun s s0 s1 => by rw [hts2 s s0 s1]; exact (hNm.2.2.2.2.1 s s0 s1).2.2.1)
    · rw [u0] at l1
      have lt := (o.2.2.2 l l0 l1).1
      rw [u2, u3, (upG_5 lt.2).1, (upG_5 lt.2).2, kk l l0 l1]
      exact p16.2.2.1 l l0 l1
