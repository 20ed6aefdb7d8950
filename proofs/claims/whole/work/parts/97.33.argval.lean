/-! uniform values of the reference; the value of an argument -/
theorem m_uni_s {q : Mem} {w x j : Int} (w0 : 0 ≤ w) (w1 : w < 64) (j0 : 1 ≤ j) (j1 : j < 4) (h2 : 2 ≤ q 138 (448 + 4 * w)) (ha : q 138 (448 + 4 * w + j) < 64) : lp (fX12_isUniformRead_b2 (448 + 4 * w) q) (x, j) = lp (fX12_isUniformRead_b2 (448 + 4 * w) q) (u1 (q 156) x (q 138 (448 + 4 * w + j)), j + 1) := by
  apply lp_in
  unfold fX12_isUniformRead_b2
  dsimp only
  rw [if_neg (by omega), ld138 _ _ (by omega) (by omega), ob, if_neg (by omega)]
  have e : ((if x = 0 then some 0 else (ldI q 138 (w32 (448 + 4 * w + j))).bind fun v9 => if v9 < 0 then some 1 else (ldI q 138 (w32 (448 + 4 * w + j))).bind fun v10 => (ldZ q 156 v10).bind fun v11 => if v11 = 0 then some 0 else some 1 : Option Int)) = some (u1 (q 156) x (q 138 (448 + 4 * w + j))) := by
    unfold u1
    by_cases z : x = 0
    · rw [if_pos z, if_pos z]
    · rw [if_neg z, if_neg z, w32_id (by omega) (by omega), ld138 _ _ (by omega) (by omega), ob]
      by_cases y : q 138 (448 + 4 * w + j) < 0
      · rw [if_pos y, if_pos y]
      · rw [if_neg y, if_neg y, ob, ld156 _ _ (by omega) ha, ob]
        split <;> rfl
  rw [e, ob, w32_id (by omega) (by omega)]
set_option maxHeartbeats 4000000 in
set_option maxRecDepth 20000 in
theorem m_uni2 {q : Mem} {w x : Int} (w0 : 0 ≤ w) (w1 : w < 64) (ha : 2 ≤ q 138 (448 + 4 * w) → ∀ j, 1 ≤ j → j < 4 → q 138 (448 + 4 * w + j) < 64) : lp (fX12_isUniformRead_b2 (448 + 4 * w) q) (x, 1) = some (if q 138 (448 + 4 * w) ≤ 1 then x else u1 (q 156) (u1 (q 156) (u1 (q 156) x (q 138 (448 + 4 * w + 1))) (q 138 (448 + 4 * w + 2))) (q 138 (448 + 4 * w + 3))) := by
  by_cases z : q 138 (448 + 4 * w) ≤ 1
  · rw [if_pos z]
    apply lp_out
    unfold fX12_isUniformRead_b2
    dsimp only
    rw [if_neg (by omega), ld138 _ _ (by omega) (by omega), ob, if_pos z]
  · have h := ha (by omega)
    rw [if_neg z, m_uni_s w0 w1 (by omega) (by omega) (by omega) (h 1 (by omega) (by omega)), show (1 : Int) + 1 = 2 by decide, m_uni_s w0 w1 (by omega) (by omega) (by omega) (h 2 (by omega) (by omega)), show (2 : Int) + 1 = 3 by decide, m_uni_s w0 w1 (by omega) (by omega) (by omega) (h 3 (by omega) (by omega)), show (3 : Int) + 1 = 4 by decide]
    apply lp_out
    unfold fX12_isUniformRead_b2
    dsimp only
    rw [if_pos (Int.le_refl 4)]
set_option maxHeartbeats 4000000 in
set_option maxRecDepth 20000 in
theorem m_uni {A B : Mem} {n nI v : Int} {giv : Int → Int} (h : VX A B n nI giv) (hg : ∀ i, 0 ≤ i → i < nI → giv i = B 138 (422 + 3 * i + 2)) (v0 : 0 ≤ v) (v1 : v < n) : ∃ B', fX12_isUniformRead v B = some (A 27 v, B') ∧ ∀ d, d ≠ 156 → B' d = B d := by
  obtain ⟨h1, h2, h3, h4, h5⟩ := h
  have n64 := h3.2.1
  have i6 := h3.2.2.2.1
  have U01 : ∀ w, 0 ≤ w → w < n → A 27 w = 0 ∨ A 27 w = 1 := fun w a b => by rw [h5 w a b]; exact uF_01 _ _ _ _ _
  have L : ∃ r, lp (fX12_isUniformRead_b1 v) (0, B) = some r ∧ (∀ d, d ≠ 156 → r d = B d) ∧ ∀ w, 0 ≤ w → w ≤ v → r 156 w = A 27 w := by
    refine lp_ind (fun s : Int × Mem => 0 ≤ s.1 ∧ s.1 ≤ v + 1 ∧ (∀ d, d ≠ 156 → s.2 d = B d) ∧ ∀ w, 0 ≤ w → w < s.1 → s.2 156 w = A 27 w) (fun r : Mem => (∀ d, d ≠ 156 → r d = B d) ∧ ∀ w, 0 ≤ w → w ≤ v → r 156 w = A 27 w) (fun s => (v + 1 - s.1).toNat) ?_ _ ?_
    · rintro ⟨s, q⟩ ⟨s0, s1, hfr, hq⟩
      dsimp only at s0 s1 hfr hq
      unfold fX12_isUniformRead_b1 fX12_new1
      dsimp only
      by_cases z : v < s
      · rw [if_pos z]
        exact Or.inr ⟨q, rfl, hfr, fun w a b => hq w a (by omega)⟩
      · obtain ⟨g0, g1, g2, g3⟩ := h4 s s0 (by omega)
        rw [← hfr 138 (by omega)] at g0 g1 g2 g3
        obtain ⟨k0, k13, kI, kN, ka, kb, kc, kb', kc', -⟩ := h3.2.2.2.2 s s0 (by omega)
        have a64 : 2 ≤ q 138 (448 + 4 * s) → ∀ j, 1 ≤ j → j < 4 → q 138 (448 + 4 * s + j) < 64 := fun y j j0 j1 => by
          rw [g0] at y
          by_cases e1 : j = 1
          · rw [e1, g1]; have := (ka y).2; omega
          · by_cases e2 : j = 2
            · rw [e2, g2]
              by_cases e : A 24 s = 7 ∨ A 24 s = 12
              · have := kb' (Or.inr e); omega
              · have := (kb y (by omega) (by omega)).2; omega
            · rw [show j = 3 by omega, g3]
              by_cases e : A 24 s = 13
              · have := (kc e).2; omega
              · have := kc' e; omega
        have l2 := fun x => m_uni2 (q := q) (w := s) (x := x) s0 (by omega) a64
        rw [if_neg z, ob]
        dsimp only
        rw [w32_id (show -2147483648 ≤ 4 * s by omega) (by omega), w32_id (show -2147483648 ≤ 448 + 4 * s by omega) (by omega), ld138 _ _ (by omega) (by omega), ob]
        have e6 : ((if 0 < q 138 (448 + 4 * s) then some 1 else (ldI q 138 (w32 (448 + 4 * s + 1))).bind fun v4 => (ldI q 138 (w32 ((w32 (422 + (w32 (3 * v4)))) + 2))).bind fun v5 => if v5 = 1 then some 1 else some 0 : Option Int)) = some (if A 24 s = 0 then (if giv (A 25 (3 * s)) = 1 then 1 else 0) else 1) := by
          rw [g0]
          by_cases e : A 24 s = 0
          · have := kI e
            rw [if_neg (by omega), if_pos e, w32_id (show -2147483648 ≤ 448 + 4 * s + 1 by omega) (by omega), ld138 _ _ (by omega) (by omega), ob, g1, w32_id (show -2147483648 ≤ 3 * A 25 (3 * s) by omega) (by omega), w32_id (show -2147483648 ≤ 422 + 3 * A 25 (3 * s) by omega) (by omega), w32_id (show -2147483648 ≤ 422 + 3 * A 25 (3 * s) + 2 by omega) (by omega), ld138 _ _ (by omega) (by omega), ob, hg _ this.1 this.2, hfr 138 (by omega)]
            split <;> rfl
          · rw [if_pos (by omega), if_neg e]
        rw [e6, ob, l2, ob]
        have ev : (if q 138 (448 + 4 * s) ≤ 1 then (if A 24 s = 0 then (if giv (A 25 (3 * s)) = 1 then (1 : Int) else 0) else 1) else u1 (q 156) (u1 (q 156) (u1 (q 156) (if A 24 s = 0 then (if giv (A 25 (3 * s)) = 1 then (1 : Int) else 0) else 1) (q 138 (448 + 4 * s + 1))) (q 138 (448 + 4 * s + 2))) (q 138 (448 + 4 * s + 3))) = A 27 s := by
          rw [h5 s s0 (by omega), g0, g1, g2, g3]
          have cg : uF (A 24) (A 25) giv (A 27) s = uF (A 24) (A 25) giv (q 156) s := (uF_congr h3 s0 (by omega) (fun w a b => hq w a b)).symm
          rw [cg]
          unfold uF
          by_cases e : A 24 s = 0
          · rw [if_pos (by omega), if_pos e, if_pos e]
          · rw [if_neg e, if_neg e]
            by_cases e1 : A 24 s = 1
            · rw [if_pos (by omega), if_pos e1]
            · rw [if_neg (by omega), if_neg e1]
        rw [ev, st156 _ _ _ s0 (by omega), ob, nz_ok (U01 s s0 (by omega)), w32_id (by omega) (by omega)]
        refine Or.inl ⟨_, rfl, ⟨by dsimp only; omega, by dsimp only; omega, fun d hd => by dsimp only; rw [wr_ne hd, hfr d hd], fun w a b => ?_⟩, by dsimp only; omega⟩
        dsimp only at b ⊢
        rw [wr_at]
        by_cases e : w = s
        · rw [if_pos e, e]
        · rw [if_neg e]; exact hq w a (by omega)
    · exact ⟨Int.le_refl _, by dsimp only; omega, fun _ _ => rfl, fun w a b => by dsimp only at b; omega⟩
  obtain ⟨r, f, fr, hr⟩ := L
  unfold fX12_isUniformRead
  rw [f, ob, ld156 _ _ v0 (by omega), ob, hr v v0 (Int.le_refl _)]
  refine ⟨r, ?_, fr⟩
  rcases U01 v v0 v1 with z | z
  · rw [z, rz0]
  · rw [z, rz1]
theorem ixorn {x : Int} (h0 : -1000 ≤ x) (h1 : x < 0) : ixor x (-1) = -1 - x := by
  have key : ∀ b : Fin 1000, ixor (-1 - (b.val : Int)) (-1) = (b.val : Int) := by decide +kernel
  obtain ⟨b, hb⟩ : ∃ b : Fin 1000, x = -1 - (b.val : Int) := ⟨⟨(-1 - x).toNat, by omega⟩, by simp; omega⟩
  rw [hb, key b]; omega
/-- names and what they are -/
def NmV (A B : Mem) (n m : Int) (ts : Int → Int) : Prop := ∀ s, 0 ≤ s → s < m → A 30 s = B 145 s ∧ 0 ≤ A 30 s ∧ A 30 s < n ∧ A 26 (A 30 s) = ts s
theorem NmV_fr {A A' B B' : Mem} {n n' m : Int} {ts : Int → Int} (h : NmV A B n m ts) (f : WFr A A' B B' n) (hn : n ≤ n') : NmV A' B' n' m ts := by
  intro s s0 s1
  obtain ⟨x1, x2, x3, x4⟩ := h s s0 s1
  rw [f.1 30 (by omega) (by omega) (by omega), f.2.2.2.2.1 145 (by omega) (by omega), f.2.2.2.1 _ x3]
  exact ⟨x1, x2, by omega, x4⟩
set_option maxHeartbeats 4000000 in
set_option maxRecDepth 20000 in
theorem r_argV {A B : Mem} {t : Nat} {n nI i k m : Int} {giv ts : Int → Int} (ht : t = 5 ∨ t = 119) (hA : ArR A B t 210 i k m) (i0 : 0 ≤ i) (i1 : i < 200) (k0 : 0 ≤ k) (k1 : k < 3) (m20 : m ≤ 20) (hV : VX A B n nI giv) (hN : NmV A B n m ts) (h9 : A 22 9 = 0) (h8 : B 132 8 = 0) : ∃ x A' y B', fX10_argValue t i k A = some (x, A') ∧ fX12_argValue (12 * (210 + i) + 5 + 2 * k) B = some (y, B') ∧ WR A B A' B' n nI giv x y ∧ (A' 22 9 = 0 → A' 26 x = if 0 ≤ A (t + 6) (3 * i + k) then ts (A (t + 6) (3 * i + k)) else 0) ∧ A' 43 = A 43 := by
  obtain ⟨r1, r2, r3, r4, r5, r6⟩ := hA
  unfold fX10_argValue fX12_argValue
  rw [w32_id (show -2147483648 ≤ 3 * i by omega) (by omega), w32_id (show -2147483648 ≤ 3 * i + k by omega) (by omega), tl6 ht _ _ (by omega) (by omega), ob, ld139 _ _ (by omega) (by omega), ob, r1]
  by_cases z : A (t + 6) (3 * i + k) < 0
  · have nv : NVok n nI (A 26) 1 (-1 - A (t + 6) (3 * i + k)) (-1) (-1) := ⟨by omega, fun y => by omega, fun _ => by omega, fun y => by omega, fun y => by omega, fun y => by omega, fun _ => rfl, fun _ => rfl, fun y => by omega, fun y => by omega, fun y => by omega⟩
    obtain ⟨x, A1, A', y, B', f1, f2, f3, f4, f5, f6, f7, f8⟩ := r_madeF hV nv (Int.le_refl _) h9 h8 r5 r6
    rw [if_pos z, ixorn r3 z, f1, ob, if_pos (show (0 : Int) ≤ -1 - A (t + 6) (3 * i + k) by omega), ob, w32_id (show -2147483648 ≤ 12 * (210 + i) + 5 + 2 * k + 1 by omega) (by omega), ld139 _ _ (by omega) (by omega), ob, show 12 * (210 + i) + 5 + 2 * k + 1 = 12 * (210 + i) + 6 + 2 * k by omega, r2, f4, ob, ob]
    dsimp only
    refine ⟨x, A', y, B', ?_, rfl, f5, fun w => ?_, f8⟩
    · by_cases e : x = -1
      · obtain ⟨n', -, -, wf, -⟩ := f5
        have a7 : A1 (t + 7) (3 * i + k) = A (t + 7) (3 * i + k) := by
          have g := (c_single (nI := nI) (k := 1) (a := -1 - A (t + 6) (3 * i + k)) (b := -1) (c := -1) hV.1 hV.2.2.1.1 hV.2.2.1.2.1 (fun v v0 v1 => F_01 hV.2.2.1 v0 v1) nv)
          obtain ⟨x', A1', g1, g2⟩ := g
          rw [f1] at g1
          injection g1 with g1
          injection g1 with g3 g4
          rcases g2 with ⟨g5, -⟩ | ⟨-, ⟨-, g6, g7⟩ | ⟨-, -, g7⟩⟩
          · omega
          · rw [g4, g7.1 _ (by omega) (by omega) (by omega) (by omega) (by omega)]
          · rw [g4, g7]
        rw [if_pos e, tl7 ht _ _ (by omega) (by omega), ob, a7, f2 e, ob, ob]
      · rw [if_neg e, ob, f3 e]
    · rw [f6 w, if_neg (by decide), if_neg (by omega)]; rfl
  · obtain ⟨x1, x2, x3, x4⟩ := hN _ (show 0 ≤ A (t + 6) (3 * i + k) by omega) r4
    rw [if_neg z, ld30 _ _ (by omega) (by omega), ob, if_neg (show ¬ ((0 : Int) ≤ -1 - A (t + 6) (3 * i + k)) by omega), ob, show -1 - (-1 - A (t + 6) (3 * i + k)) = A (t + 6) (3 * i + k) by omega, w32_id (by omega) (by omega), ld145 _ _ (by omega) (by omega), ob, ob]
    exact ⟨_, A, _, B, rfl, rfl, ⟨n, Int.le_refl _, hV, WFr_refl _ _ _, Or.inl ⟨h9, h8, x1, x2, x3⟩⟩, fun _ => by rw [if_pos (by omega)]; exact x4, rfl⟩
