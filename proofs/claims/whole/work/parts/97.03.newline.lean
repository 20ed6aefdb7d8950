/-! a line more, a name more -/
set_option maxHeartbeats 4000000 in
set_option maxRecDepth 20000 in
theorem c_open {A : Mem} {t : Nat} {c kind start : Int} (ht : t = 5 ∨ t = 119) (h0 : A t 0 = c) (c0 : 0 ≤ c) (c1 : c < 200) : ∃ A', fX3_open t kind start A = some (c, A') ∧ A' t 0 = c + 1 ∧ A' (t + 1) c = kind ∧ A' (t + 2) c = start ∧ A' (t + 8) c = -1 ∧ (∀ k, k ≠ 0 → A' t k = A t k) ∧ (∀ i, i ≠ c → A' (t + 1) i = A (t + 1) i ∧ A' (t + 2) i = A (t + 2) i ∧ A' (t + 8) i = A (t + 8) i) ∧ ∀ b, b ≠ t → b ≠ t + 1 → b ≠ t + 2 → b ≠ t + 8 → A' b = A b := by
  unfold fX3_open
  rw [ob, h0, ts1 ht _ _ _ c0 c1, ob, ts2 ht _ _ _ c0 c1, ob, ts8 ht _ _ _ c0 c1, ob, pI_ok, ob]
  have e : wr (wr (wr A (t + 1) c kind) (t + 2) c start) (t + 8) c (-1) t 0 = c := by rw [wr_ne (by omega), wr_ne (by omega), wr_ne (by omega), h0]
  rw [e, w32_id (by omega) (by omega)]
  refine ⟨_, rfl, by rw [wr_at, if_pos rfl], by rw [wr_ne (by omega), wr_ne (by omega), wr_ne (by omega), wr_at, if_pos rfl], by rw [wr_ne (by omega), wr_ne (by omega), wr_at, if_pos rfl], by rw [wr_ne (by omega), wr_at, if_pos rfl], fun k hk => by rw [wr_at, if_neg hk, wr_ne (by omega), wr_ne (by omega), wr_ne (by omega)], fun i hi => ⟨by rw [wr_ne (by omega), wr_ne (by omega), wr_ne (by omega), wr_at, if_neg hi], by rw [wr_ne (by omega), wr_ne (by omega), wr_at, if_neg hi, wr_ne (by omega)], by rw [wr_ne (by omega), wr_at, if_neg hi, wr_ne (by omega), wr_ne (by omega)]⟩, fun b b0 b1 b2 b8 => by rw [wr_ne b0, wr_ne b8, wr_ne b2, wr_ne b1]⟩
set_option maxHeartbeats 4000000 in
set_option maxRecDepth 20000 in
theorem m_newLine {B : Mem} {T : Int → Int} {n N j c what : Int} (hM : MK B T n N) (h7 : B 132 7 = j) (j0 : 0 ≤ j) (j1 : j ≤ N) (hc : B 138 412 = c) (c0 : 0 ≤ c) (c1 : c < 200) : ∃ B', fX12_newLine what B = some (12 * (210 + c), B') ∧ B' 138 412 = c + 1 ∧ (∀ k, k ≠ 412 → B' 138 k = B 138 k) ∧ (∀ y, y < 12 * (210 + c) ∨ 12 * (210 + c) + 12 ≤ y → B' 139 y = B 139 y) ∧ (∀ k, 0 ≤ k → k < 12 → B' 139 (12 * (210 + c) + k) = if k = 11 then B 132 18 else if k = 3 then pos T n j else if k = 0 then what else 0) ∧ ∀ b, b ≠ 138 → b ≠ 139 → B' b = B b := by
  have nN := hM.1.2.1
  have n1 := hM.2.1
  have mt := hM.1.2.2.2.2 j j0 j1
  unfold fX12_newLine
  rw [ld138 _ _ (by omega) (by omega), ob, ob, hc, w32_id (show -2147483648 ≤ 210 + c by omega) (by omega), w32_id (show -2147483648 ≤ 12 * (210 + c) by omega) (by omega), ob, w32_id (show -2147483648 ≤ c + 1 by omega) (by omega), st138 _ _ _ (by omega) (by omega), ob]
  generalize hB1 : wr B 138 412 (c + 1) = B1
  have L : ∃ r, lp (fX12_newLine_b1 (12 * (210 + c))) (0, B1) = some r ∧ (∀ b, b ≠ 139 → r b = B1 b) ∧ (∀ y, y < 12 * (210 + c) ∨ 12 * (210 + c) + 12 ≤ y → r 139 y = B1 139 y) ∧ ∀ k, 0 ≤ k → k < 12 → r 139 (12 * (210 + c) + k) = 0 := by
    refine lp_ind (fun s : Int × Mem => 0 ≤ s.1 ∧ s.1 ≤ 12 ∧ (∀ b, b ≠ 139 → s.2 b = B1 b) ∧ (∀ y, y < 12 * (210 + c) ∨ 12 * (210 + c) + 12 ≤ y → s.2 139 y = B1 139 y) ∧ ∀ k, 0 ≤ k → k < s.1 → s.2 139 (12 * (210 + c) + k) = 0) (fun r : Mem => (∀ b, b ≠ 139 → r b = B1 b) ∧ (∀ y, y < 12 * (210 + c) ∨ 12 * (210 + c) + 12 ≤ y → r 139 y = B1 139 y) ∧ ∀ k, 0 ≤ k → k < 12 → r 139 (12 * (210 + c) + k) = 0) (fun s => (12 - s.1).toNat) ?_ _ ?_
    · rintro ⟨k, q⟩ ⟨k0, k1, hfr, hy, hk⟩
      dsimp only at k0 k1 hfr hy hk
      unfold fX12_newLine_b1
      dsimp only
      by_cases z : 12 ≤ k
      · rw [if_pos z]
        exact Or.inr ⟨q, rfl, hfr, hy, fun i a b => hk i a (by omega)⟩
      · rw [if_neg z, w32_id (show -2147483648 ≤ 12 * (210 + c) + k by omega) (by omega), st139 _ _ _ (by omega) (by omega), ob, w32_id (by omega) (by omega)]
        refine Or.inl ⟨_, rfl, ⟨by dsimp only; omega, by dsimp only; omega, fun b hb => by dsimp only; rw [wr_ne hb, hfr b hb], fun y h => by dsimp only; rw [wr_at, if_neg (by omega), hy y h], fun i a b => ?_⟩, by dsimp only; omega⟩
        dsimp only at b ⊢
        rw [wr_at]
        by_cases e : i = k
        · rw [if_pos (by omega)]
        · rw [if_neg (by omega)]; exact hk i a (by omega)
    · exact ⟨Int.le_refl _, by dsimp only; omega, fun _ _ => rfl, fun _ _ => rfl, fun i a b => by dsimp only at b; omega⟩
  obtain ⟨q, f, fr, hy, hk⟩ := L
  have b1 : ∀ b, b ≠ 138 → B1 b = B b := fun b hb => by rw [← hB1, wr_ne hb]
  have q7 : wr q 139 (12 * (210 + c)) what 132 7 = j := by rw [wr_ne (by omega), fr 132 (by omega), b1 132 (by omega), h7]
  have q18 : ∀ x, wr (wr q 139 (12 * (210 + c)) what) 139 (12 * (210 + c) + 3) x 132 18 = B 132 18 := fun x => by rw [wr_ne (by omega), wr_ne (by omega), fr 132 (by omega), b1 132 (by omega)]
  have q5 : wr q 139 (12 * (210 + c)) what 135 j = pos T n j := by rw [wr_ne (by omega), fr 135 (by omega), b1 135 (by omega)]; exact mt.1
  rw [f, ob, st139 _ _ _ (by omega) (by omega), ob, q7, ld135 _ _ j0 (by omega), ob, q5, w32_id (show -2147483648 ≤ 12 * (210 + c) + 3 by omega) (by omega), st139 _ _ _ (by omega) (by omega), ob, w32_id (show -2147483648 ≤ 12 * (210 + c) + 11 by omega) (by omega), st139 _ _ _ (by omega) (by omega), ob, q18]
  refine ⟨_, rfl, ?_, fun k hk' => ?_, fun y h => ?_, fun k k0 k1 => ?_, fun b c1 c2 => ?_⟩
  · rw [wr_ne (by omega), wr_ne (by omega), wr_ne (by omega), fr 138 (by omega), ← hB1, wr_at, if_pos rfl]
  · rw [wr_ne (by omega), wr_ne (by omega), wr_ne (by omega), fr 138 (by omega), ← hB1, wr_at, if_neg hk']
  · rw [wr_at, if_neg (by omega), wr_at, if_neg (by omega), wr_at, if_neg (by omega), hy y h, b1 139 (by omega)]
  · rw [wr_at, wr_at, wr_at, hk k k0 k1]
    by_cases e1 : k = 11
    · rw [if_pos (by omega), if_pos e1]
    · rw [if_neg (by omega), if_neg e1]
      by_cases e2 : k = 3
      · rw [if_pos (by omega), if_pos e2]
      · rw [if_neg (by omega), if_neg e2]
        by_cases e3 : k = 0
        · rw [if_pos (by omega), if_pos e3]
        · rw [if_neg (by omega), if_neg e3]
  · rw [wr_ne c2, wr_ne c2, wr_ne c2, fr b c2, b1 b c1]
set_option maxHeartbeats 4000000 in
set_option maxRecDepth 20000 in
theorem c_tell {A : Mem} {m x ty' inp : Int} (h5 : A 4 5 = m) (m0 : 0 ≤ m) (m1 : m < 20) (hi : inp = 0 ∨ inp = 1) : ∃ A', fX6_tell x ty' inp A = some (m, A') ∧ A' 4 5 = m + 1 ∧ (∀ k, k ≠ 5 → A' 4 k = A 4 k) ∧ (∀ k, A' 18 k = if k = m then x else A 18 k) ∧ (∀ k, A' 19 k = if k = m then ty' else A 19 k) ∧ (∀ k, A' 20 k = if k = m then inp else A 20 k) ∧ ∀ b, b ≠ 4 → b ≠ 18 → b ≠ 19 → b ≠ 20 → A' b = A b := by
  unfold fX6_tell
  rw [ob, h5, st18 _ _ _ m0 m1, ob, st19 _ _ _ m0 m1, ob, st20 _ _ _ m0 m1, ob, pI_ok, ob, nz_ok hi]
  have e : wr (wr (wr A 18 m x) 19 m ty') 20 m inp 4 5 = m := by rw [wr_ne (by omega), wr_ne (by omega), wr_ne (by omega), h5]
  rw [e, w32_id (by omega) (by omega)]
  exact ⟨_, rfl, by rw [wr_at, if_pos rfl], fun k hk => by rw [wr_at, if_neg hk, wr_ne (by omega), wr_ne (by omega), wr_ne (by omega)], fun k => by rw [wr_ne (by omega), wr_ne (by omega), wr_ne (by omega), wr_at], fun k => by rw [wr_ne (by omega), wr_ne (by omega), wr_at, wr_ne (by omega)], fun k => by rw [wr_ne (by omega), wr_at, wr_ne (by omega), wr_ne (by omega)], fun b b1 b2 b3 b4 => by rw [wr_ne b1, wr_ne b4, wr_ne b3, wr_ne b2]⟩
set_option maxHeartbeats 4000000 in
set_option maxRecDepth 20000 in
theorem m_tells {B : Mem} {m x kd' : Int} (h14 : B 132 14 = m) (m0 : 0 ≤ m) (m1 : m < 20) : ∃ B', fX12_tells x kd' B = some B' ∧ B' 132 14 = m + 1 ∧ (∀ k, k ≠ 14 → B' 132 k = B 132 k) ∧ (∀ k, B' 140 k = if k = m then x else B 140 k) ∧ (∀ k, B' 141 k = if k = m then kd' else B 141 k) ∧ ∀ b, b ≠ 132 → b ≠ 140 → b ≠ 141 → B' b = B b := by
  unfold fX12_tells
  have e1 : wr B 140 m x 132 14 = m := by rw [wr_ne (by omega), h14]
  rw [h14, st140 _ _ _ m0 m1, ob, e1, st141 _ _ _ m0 m1, ob, pI_ok, ob]
  have e : wr (wr B 140 m x) 141 m kd' 132 14 = m := by rw [wr_ne (by omega), wr_ne (by omega), h14]
  rw [e, w32_id (by omega) (by omega)]
  exact ⟨_, rfl, by rw [wr_at, if_pos rfl], fun k hk => by rw [wr_at, if_neg hk, wr_ne (by omega), wr_ne (by omega)], fun k => by rw [wr_ne (by omega), wr_ne (by omega), wr_at], fun k => by rw [wr_ne (by omega), wr_at, wr_ne (by omega)], fun b b1 b2 b3 => by rw [wr_ne b1, wr_ne b3, wr_ne b2]⟩
/-- one name more -/
theorem NmR_tell {A B A' B' : Mem} {m ty' inp : Int} (h : NmR A B m) (m1 : m < 20) (hi : inp = 0 ∨ inp = 1) (hty : ty' = 0 ∨ ty' = 1) (hit : inp = 1 → ty' = 0) {x y : Int} (hw : wrd x y) (hx : ∀ k, 0 ≤ k → k < m → A 18 k ≠ x) (a5 : A' 4 5 = m + 1) (a18 : ∀ k, A' 18 k = if k = m then x else A 18 k) (a19 : ∀ k, A' 19 k = if k = m then ty' else A 19 k) (a20 : ∀ k, A' 20 k = if k = m then inp else A 20 k) (b14 : B' 132 14 = m + 1) (b140 : ∀ k, B' 140 k = if k = m then y else B 140 k) (b141 : ∀ k, B' 141 k = if k = m then (if inp = 1 then 2 else ty') else B 141 k) : NmR A' B' (m + 1) := by
  obtain ⟨n1, n2, n3, n4, n5, n6⟩ := h
  refine ⟨a5, b14, by omega, by omega, fun k k0 k1 => ?_, fun k l k0 kl l1 => ?_⟩
  · rw [a18, a19, a20, b140, b141]
    by_cases e : k = m
    · rw [if_pos e, if_pos e, if_pos e, if_pos e, if_pos e]
      exact ⟨hw, hi, hty, hit, rfl⟩
    · rw [if_neg e, if_neg e, if_neg e, if_neg e, if_neg e]
      exact n5 k k0 (by omega)
  · rw [a18, a18]
    rw [if_neg (show ¬ k = m by omega)]
    by_cases e : l = m
    · rw [if_pos e]; exact hx k k0 (by omega)
    · rw [if_neg e]; exact n6 k l k0 kl (by omega)
theorem NmR_fr {A B A' B' : Mem} {m : Int} (h : NmR A B m) (a5 : A' 4 5 = A 4 5) (a18 : A' 18 = A 18) (a19 : A' 19 = A 19) (a20 : A' 20 = A 20) (b14 : B' 132 14 = B 132 14) (b140 : B' 140 = B 140) (b141 : B' 141 = B 141) : NmR A' B' m := by
  unfold NmR
  rw [a5, a18, a19, a20, b14, b140, b141]; exact h
/-- fewer names -/
theorem NmR_less {A B A' B' : Mem} {m m' : Int} (h : NmR A B m) (m0 : 0 ≤ m') (m1 : m' ≤ m) (a5 : A' 4 5 = m') (a18 : A' 18 = A 18) (a19 : A' 19 = A 19) (a20 : A' 20 = A 20) (b14 : B' 132 14 = m') (b140 : B' 140 = B 140) (b141 : B' 141 = B 141) : NmR A' B' m' := by
  obtain ⟨n1, n2, n3, n4, n5, n6⟩ := h
  unfold NmR
  rw [a5, a18, a19, a20, b14, b140, b141]
  exact ⟨rfl, rfl, m0, by omega, fun k k0 k1 => n5 k k0 (by omega), fun k l k0 kl l1 => n6 k l k0 kl (by omega)⟩
