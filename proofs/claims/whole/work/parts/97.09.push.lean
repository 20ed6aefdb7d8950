/-! when, times -/
def psO (G : Nat → Int → Int → Int) (c : Int) : Int → Int := fun l => if l = G 0 c 0 then c else G 2 c l
def psE (G : Nat → Int → Int → Int) (c : Int) : Int → Int := fun l => if l = G 0 c 0 then 0 else G 3 c l
def psG (G : Nat → Int → Int → Int) (c : Int) : Nat → Int → Int → Int := upG G c (G 0 c 0 + 1) (G 1 c 0) (psO G c) (psE G c) (G 4 c)
set_option maxHeartbeats 4000000 in
set_option maxRecDepth 20000 in
theorem PC_push {A A' B B' : Mem} {t : Nat} {T : Int → Int} {n N c : Int} {G : Nat → Int → Int → Int} (h : PC A B t T n N G c) (cf : CFr t A A') (mf : MFr B B') (hd4 : G 0 c 0 < 4) (hNm : NmR A' B' (G 1 c 0)) (a19 : A' 19 = A 19) (a0 : A' t 0 = c + 1) (b0 : B' 138 412 = c + 1) (atk : ∀ k, k ≠ 0 → k ≠ 16 → A' t k = A t k) (bk : ∀ k, 412 < k → k ≠ 414 → B' 138 k = B 138 k) (h16 : A' t 16 = B' 138 414 ∧ 0 ≤ A' t 16 ∧ A' t 16 ≤ c + 1 ∧ 2 * A' t 16 ≤ c + 1 + A' 4 8) (eb : A' (t + 10) = A (t + 10) ∧ A' (t + 11) = A (t + 11) ∧ A' (t + 12) = A (t + 12)) (a4 : ∀ k, k ≠ 5 → k ≠ 7 → k ≠ 8 → k ≠ 11 → A' 4 k = A 4 k) (a47 : A' 4 7 = G 0 c 0 + 1) (a48 : A' 4 8 = A 4 8 + if A' (t + 1) c = 5 then 1 else 0) (b18 : B' 132 18 = G 0 c 0 + 1) (a21 : ∀ l, A' 21 l = if l = G 0 c 0 then c else A 21 l) (b142 : ∀ l, B' 142 l = if l = G 0 c 0 then (if A' (t + 1) c = 7 then 3 else 1) else B 142 l) (b143 : ∀ l, B' 143 l = if l = G 0 c 0 then G 1 c 0 else B 143 l) (b144 : ∀ l, B' 144 l = if l = G 0 c 0 then c else B 144 l) (lf : LnF A A' B B' t 210 c) (a8 : ∀ x, 0 ≤ x → x < c → A' (t + 8) x = A (t + 8) x) (a8c : A' (t + 8) c = -1) (b79 : ∀ x, 0 ≤ x → x < c → B' 139 (12 * (210 + x) + 7) = B 139 (12 * (210 + x) + 7) ∧ B' 139 (12 * (210 + x) + 9) = B 139 (12 * (210 + x) + 9)) (b7c : B' 139 (12 * (210 + c) + 7) = 0) (hR : LnR A' B' t 210 (psG G c) c) (hk : A' (t + 1) c = 5 ∨ A' (t + 1) c = 7) (h5 : A' (t + 1) c = 5 → A' (t + 3) c = G 1 c 0 ∧ aTy A' t (psG G c) c 0 = 1) : PC A' B' t T n N (psG G c) (c + 1) := by
  obtain ⟨p1, p2, p3, p4, p5, p6, p7, p8, p9, p10, p11, p12, p13, p14, p15, p16⟩ := h
  have c0 := p4.2.2
  have o := p16.2.1 c c0 (Int.le_refl _)
  obtain ⟨u0, u1, u2, u3, u4⟩ := upG_n (G := G) (c := c) (d := G 0 c 0 + 1) (m := G 1 c 0) (op := psO G c) (el := psE G c) (ts := G 4 c)
  have ue : GEq G (psG G c) c := upG_eq
  have u5 : ∀ x, x < c → psG G c 5 x 0 = G 5 x 0 ∧ psG G c 6 x 0 = G 6 x 0 := fun x hx => upG_5 hx
  have uc : psG G c 5 c 0 = -1 ∧ psG G c 6 c 0 = -1 := upG_c
  have v0 : psG G c 0 (c + 1) 0 = G 0 c 0 + 1 := u0
  have v1 : psG G c 1 (c + 1) 0 = G 1 c 0 := u1
  have v2 : ∀ l, psG G c 2 (c + 1) l = if l = G 0 c 0 then c else G 2 c l := u2
  have v3 : ∀ l, psG G c 3 (c + 1) l = if l = G 0 c 0 then 0 else G 3 c l := u3
  have v4 : ∀ l, psG G c 4 (c + 1) l = G 4 c l := u4
  have w0 : psG G c 0 c 0 = G 0 c 0 := ue 0 c 0 (by omega) (Int.le_refl _)
  have w1 : psG G c 1 c 0 = G 1 c 0 := ue 1 c 0 (by omega) (Int.le_refl _)
  have w2 : ∀ l, psG G c 2 c l = G 2 c l := fun l => ue 2 c l (by omega) (Int.le_refl _)
  have w3 : ∀ l, psG G c 3 c l = G 3 c l := fun l => ue 3 c l (by omega) (Int.le_refl _)
  have w4 : ∀ l, psG G c 4 c l = G 4 c l := fun l => ue 4 c l (by omega) (Int.le_refl _)
  generalize hG : psG G c = G' at *
  have kk : ∀ l, 0 ≤ l → l < G 0 c 0 → A' (t + 1) (G 2 c l) = A (t + 1) (G 2 c l) := fun l a b => by
    have := (o.2.2.2 l a b).1
    exact (lf.1 _ this.1 this.2).1
  have lt : ∀ l, 0 ≤ l → l < G 0 c 0 → 0 ≤ G 2 c l ∧ G 2 c l < c := fun l a b => (o.2.2.2 l a b).1
  have d0 := o.1
  unfold PC
  rw [v0, v1]
  refine ⟨CK_CFr p1 cf, MK_MFr p2 mf, hNm, ⟨a0, b0, by omega⟩, ?_, h16, ?_, ?_, ?_, ?_, ⟨a47, b18⟩, ?_, fun i i0 i1 => ?_, fun s s0 s1 => by rw [v4, a19]; exact p14 s s0 s1, fun l l0 l1 => ?_, ?_⟩
  · rw [atk 10 (by omega) (by omega), bk 413 (by omega) (by omega)]; exact p5
  · rw [atk 14 (by omega) (by omega), bk 415 (by omega) (by omega)]; exact p7
  · rw [atk 15 (by omega) (by omega), bk 416 (by omega) (by omega)]; exact p8
  · rw [a4 9 (by omega) (by omega) (by omega) (by omega), bk 418 (by omega) (by omega)]; exact p9
  · rw [a4 10 (by omega) (by omega) (by omega) (by omega), bk 419 (by omega) (by omega)]; exact p10
  · rw [a48, p12, sm_s d0.1]
    have e : sm (whO A t G c) (G 0 c 0).toNat = sm (whO A' t G' (c + 1)) (G 0 c 0).toNat := by
      apply sm_congr
      intro i i0 i1
      unfold whO
      rw [v2, if_neg (show ¬ i = G 0 c 0 by omega), kk i i0 (by omega)]
    rw [e]
    unfold whO
    rw [v2, if_pos rfl]
  · rw [atk 10 (by omega) (by omega)] at i1
    rw [eb.1, eb.2.1, eb.2.2, bk _ (by omega) (by omega), bk _ (by omega) (by omega), bk _ (by omega) (by omega)]
    exact p13 i i0 i1
  · rw [a21, b142, b143, b144, v2, v3]
    by_cases e : l = G 0 c 0
    · simp only [e, if_true]
      refine ⟨trivial, trivial, ?_, fun _ => by rw [w1]⟩
      rcases hk with z | z
      · rw [if_neg (by omega), if_neg (by omega), if_neg (by omega)]
      · rw [if_pos z, if_pos z]
    · simp only [e, if_false]
      have x := p15 l l0 (by omega)
      rw [kk l l0 (by omega)]
      refine ⟨x.1, x.2.1, x.2.2.1, fun z => ?_⟩
      rw [ue 1 _ _ (by omega) (by have := lt l l0 (by omega); omega)]
      exact x.2.2.2 z
  · refine LnS_ext c0 p16 lf ue (fun x x0 x1 => u5 x x1) a8 b79 hR ?_ ?_ ?_ (fun l l0 l1 => ?_)
    · have psh : pshG G' c := by
        unfold pshG
        rw [v0, w0, v2, v3, if_pos rfl, if_pos rfl]
        exact ⟨rfl, rfl, rfl, fun l l0 l1 => by rw [v2, v3, if_neg (by omega), if_neg (by omega), w2, w3]; exact ⟨rfl, rfl⟩⟩
      unfold LnT
      rw [v1, w1]
      refine ⟨by omega, fun s s0 s1 s2 => by rw [v4, w4], fun z => by omega, fun z => by omega, fun z => by omega, fun z => ⟨(h5 z).1, (h5 z).2, rfl, psh⟩, fun z => ⟨rfl, psh⟩, fun z => by omega, fun z => by omega⟩
    · unfold LnP
      rw [uc.1, uc.2, a8c, b7c]
      exact ⟨fun _ => ⟨Or.inl rfl, Or.inl rfl, by rw [if_pos rfl], by rw [if_pos rfl]⟩, fun z => by omega, fun z => by omega⟩
    · unfold LnO
      rw [v0, v1]
      refine ⟨by omega, o.2.1, fun s s0 s1 => by rw [v4]; exact o.2.2.1 s s0 s1, fun l l0 l1 => ?_⟩
      rw [v2, v3]
      by_cases e : l = G 0 c 0
      · simp only [e, if_true]
        refine ⟨by omega, w0, hk, Or.inl trivial, fun _ => trivial, by rw [w1]; exact Int.le_refl _, fun s s0 s1 => by rw [v4, w4], fun k k0 k1 => ?_⟩
        rw [v2, v3, if_neg (by omega), if_neg (by omega), w2, w3]
        exact ⟨rfl, rfl⟩
      · simp only [e, if_false]
        obtain ⟨x1, x2, x3, x4, x5, x6, x7, x8⟩ := o.2.2.2 l l0 (by omega)
        have eo : ∀ a k, a ≤ 4 → G' a (G 2 c l) k = G a (G 2 c l) k := fun a k x => ue a _ k x (by omega)
        rw [kk l l0 (by omega), eo 0 _ (by omega), eo 1 _ (by omega)]
        refine ⟨by omega, x2, x3, x4, x5, x6, fun s s0 s1 => ?_, fun k k0 k1 => ?_⟩
        · rw [eo 4 _ (by omega), v4]; exact x7 s s0 s1
        · rw [eo 2 _ (by omega), eo 3 _ (by omega), v2, v3, if_neg (by omega), if_neg (by omega)]; exact x8 k k0 k1
    · rw [v0] at l1
      rw [v2, v3]
      by_cases e : l = G 0 c 0
      · simp only [e, if_true]
        rw [uc.1, uc.2]
        exact ⟨rfl, fun _ => ⟨fun z => by omega, fun z => absurd rfl z⟩⟩
      · simp only [e, if_false]
        have l' := lt l l0 (by omega)
        rw [(u5 _ l'.2).1, (u5 _ l'.2).2, kk l l0 (by omega)]
        exact p16.2.2.1 l l0 (by omega)
theorem idv12 {x : Int} (h0 : 0 ≤ x) (h1 : x < 420) : idv (12 * x) 12 = x := by
  have key : ∀ b : Fin 420, idv (12 * (b.val : Int)) 12 = (b.val : Int) := by decide +kernel
  obtain ⟨b, rfl⟩ : ∃ b : Fin 420, x = (b.val : Int) := ⟨⟨x.toNat, by omega⟩, by simp; omega⟩
  exact key b
set_option maxHeartbeats 4000000 in
set_option maxRecDepth 20000 in
theorem m_opens {B : Mem} {d c kind m : Int} (h18 : B 132 18 = d) (d0 : 0 ≤ d) (d1 : d < 4) (h14 : B 132 14 = m) (c0 : 0 ≤ c) (c1 : c < 200) : ∃ B', fX12_opens kind (12 * (210 + c)) B = some B' ∧ B' 132 18 = d + 1 ∧ (∀ k, k ≠ 18 → B' 132 k = B 132 k) ∧ (∀ l, B' 142 l = if l = d then kind else B 142 l) ∧ (∀ l, B' 143 l = if l = d then m else B 143 l) ∧ (∀ l, B' 144 l = if l = d then c else B 144 l) ∧ ∀ b, b ≠ 132 → b ≠ 142 → b ≠ 143 → b ≠ 144 → B' b = B b := by
  unfold fX12_opens
  have e1 : wr B 142 d kind 132 18 = d := by rw [wr_ne (by omega), h18]
  have e1' : wr B 142 d kind 132 14 = m := by rw [wr_ne (by omega), h14]
  have e2 : wr (wr B 142 d kind) 143 d m 132 18 = d := by rw [wr_ne (by omega), e1]
  have e3 : wr (wr (wr B 142 d kind) 143 d m) 144 d c 132 18 = d := by rw [wr_ne (by omega), e2]
  rw [h18, st142 _ _ _ d0 d1, ob, e1, e1', st143 _ _ _ d0 d1, ob, e2, idv12 (by omega) (by omega), w32_id (by omega) (by omega), show 210 + c - 210 = c by omega, st144 _ _ _ d0 d1, ob, pI_ok, ob, e3, w32_id (by omega) (by omega)]
  exact ⟨_, rfl, by rw [wr_at, if_pos rfl], fun k hk => by rw [wr_at, if_neg hk, wr_ne (by omega), wr_ne (by omega), wr_ne (by omega)], fun l => by rw [wr_ne (by omega), wr_ne (by omega), wr_ne (by omega), wr_at], fun l => by rw [wr_ne (by omega), wr_ne (by omega), wr_at, wr_ne (by omega)], fun l => by rw [wr_ne (by omega), wr_at, wr_ne (by omega), wr_ne (by omega)], fun b b1 b2 b3 b4 => by rw [wr_ne b1, wr_ne b4, wr_ne b3, wr_ne b2]⟩
