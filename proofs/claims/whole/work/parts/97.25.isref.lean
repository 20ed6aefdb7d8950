/-! the reference's `is` line, cut into its parts -/
noncomputable def mIsT (b s ty' v8 v14 : Int) (M : Mem) : Option Mem :=
    ((if s < 0 then
        some (M 132 14)
      else
        some s : Option (Int))).bind fun q20 =>
    (stI M 139 (w32 (b + 1)) q20).bind fun M21 =>
    (stI M21 139 (w32 (b + 2)) v14).bind fun M22 =>
    ((if (M22 132 8) ≤ 0 then
        (ldI M22 135 (M22 132 7)).bind fun v23 =>
        some v23
      else
        some 0 : Option (Int))).bind fun q24 =>
    (stI M22 139 (w32 (b + 4)) q24).bind fun M25 =>
    ((if (M25 132 8) ≤ 0 then
        some 1
      else
        some 0 : Option (Int))).bind fun q26 =>
    (pI M25 132 7 (w32 ((M25 132 7) + q26))).bind fun M27 =>
    (mArgs b v14 ty' M27).bind fun q38 =>
    ((if (q38.2 132 8) = 0 then
        if 0 ≤ s then
          some q38.2
        else
          (fX12_tells v8 q38.1 q38.2).bind fun q39 =>
          some q39
      else
        some q38.2 : Option (Mem))).bind fun q40 =>
    some q40
noncomputable def mChk (ty' v14 : Int) (M : Mem) : Option Mem :=
    ((if 2 ≤ v14 then
        if ty' = 3 then
          some M
        else
          if 13 ≤ v14 then
            some M
          else
            (fX12_makesFlag v14 M).bind fun q15 =>
            ((if q15.1 = 0 then
                some 0
              else
                some 1 : Option (Int))).bind fun q16 =>
            if ty' = q16 then
              some q15.2
            else
              (fX12_wrong 6 q15.2).bind fun q17 =>
              some q17
      else
        (fX12_wrong 1 M).bind fun q18 =>
        some q18 : Option (Mem)))
theorem m_isA {B B1 : Mem} {s b j : Int} (hn : fX12_nameAt B = some (s, B)) (s1 : s < 20) (h1 : s < 0 ∨ ¬ B 141 s = 2) (h2 : 0 ≤ s ∨ B 132 14 ≠ 20) (h8 : B 132 8 = 0) (hl : fX12_newLine 0 B = some (b, B1)) (h7 : B1 132 7 = j) (j0 : 0 ≤ j) (j1 : j ≤ 1000) : fX12_readIs B = (fX12_takeWord 4 (wr B1 132 7 (j + 1))).bind fun q12 => (fX12_wordHere 10 13 q12).bind fun q13 => (some (w32 (q13.1 + 2))).bind fun v14 => (mChk (if s < 0 then 3 else B1 141 s) v14 q13.2).bind fun q19 => mIsT b s (if s < 0 then 3 else B1 141 s) (B1 136 j) v14 q19 := by
  unfold fX12_readIs
  rw [hn, ob]
  dsimp only
  have e3 : ((if s < 0 then some true else (ldI B 141 s).bind fun v2 => if v2 = 2 then some false else some true : Option Bool)) = some true := by
    by_cases z : s < 0
    · rw [if_pos z]
    · rw [if_neg z, ld141 _ _ (by omega) (by omega), ob, if_neg (by omega)]
  rw [e3, ob]
  have e6 : ((if true = true then if 0 ≤ s then some B else if (B 132 14) = 20 then (fX12_wrong 5 B).bind fun q4 => some q4 else some B else (fX12_wrong 3 B).bind fun q5 => some q5 : Option Mem)) = some B := by
    rw [if_pos rfl]
    by_cases z : 0 ≤ s
    · rw [if_pos z]
    · rw [if_neg z, if_neg (by omega)]
  rw [e6, ob, if_pos (by omega), hl, ob]
  dsimp only
  rw [h7, ld136 _ _ j0 (by omega), ob]
  have e10 : ((if s < 0 then some 3 else (ldI B1 141 s).bind fun v9 => some v9 : Option Int)) = some (if s < 0 then 3 else B1 141 s) := by
    by_cases z : s < 0
    · rw [if_pos z, if_pos z]
    · rw [if_neg z, if_neg z, ld141 _ _ (by omega) (by omega), ob]
  rw [e10, ob, pI_ok, ob, w32_id (by omega) (by omega)]
  unfold mIsT mChk mArgs
  simp only [Option.bind_assoc]
/-- the early faults -/
theorem m_isE {B : Mem} {s k : Int} (hn : fX12_nameAt B = some (s, B)) (s1 : s < 20) {B' : Mem} (h : (0 ≤ s ∧ B 141 s = 2 ∧ fX12_wrong 3 B = some B') ∨ (s < 0 ∧ B 132 14 = 20 ∧ fX12_wrong 5 B = some B')) (hk : 0 < B' 132 8) : fX12_readIs B = some B' := by
  unfold fX12_readIs
  rw [hn, ob]
  dsimp only
  rcases h with ⟨x1, x2, x3⟩ | ⟨x1, x2, x3⟩
  · rw [if_neg (by omega), ld141 _ _ x1 (by omega), ob, if_pos x2, ob, if_neg (by decide), x3, ob, ob, if_neg (by omega)]
  · rw [if_pos x1, ob, if_pos rfl, if_neg (by omega), if_pos x2, x3, ob, ob, if_neg (by omega)]
def outB (c : Int) (M M' : Mem) : Prop := (∀ b, b ≠ 132 → b ≠ 139 → M' b = M b) ∧ (∀ f, f ≠ 7 → M' 132 f = M 132 f) ∧ ∀ y, y < 12 * (210 + c) ∨ 12 * (210 + c) + 12 ≤ y → M' 139 y = M 139 y
set_option maxHeartbeats 4000000 in
set_option maxRecDepth 20000 in
theorem m_isT8 {M : Mem} {c s ty' v8 v : Int} (c0 : 0 ≤ c) (c1 : c < 200) (h8 : 0 < M 132 8) : ∃ M', mIsT (12 * (210 + c)) s ty' v8 v M = some M' ∧ outB c M M' := by
  unfold mIsT
  have e20 : ∃ q, ((if s < 0 then some (M 132 14) else some s : Option (Int))) = some q := by
    split
    · exact ⟨_, rfl⟩
    · exact ⟨_, rfl⟩
  obtain ⟨q, hq⟩ := e20
  have w8 : ∀ y z, wr (wr M 139 (12 * (210 + c) + 1) q) 139 y z 132 8 = M 132 8 := fun y z => by rw [wr_ne (by omega), wr_ne (by omega)]
  rw [hq, ob, w32_id (show -2147483648 ≤ 12 * (210 + c) + 1 by omega) (by omega), st139 _ _ _ (by omega) (by omega), ob, w32_id (show -2147483648 ≤ 12 * (210 + c) + 2 by omega) (by omega), st139 _ _ _ (by omega) (by omega), ob]
  simp only [w8]
  rw [if_neg (by omega), ob, w32_id (show -2147483648 ≤ 12 * (210 + c) + 4 by omega) (by omega), st139 _ _ _ (by omega) (by omega), ob]
  have w8' : ∀ a y z, wr (wr (wr M 139 (12 * (210 + c) + 1) q) 139 a y) 139 (12 * (210 + c) + 4) z 132 8 = M 132 8 := fun a y z => by rw [wr_ne (by omega), w8]
  simp only [w8']
  rw [if_neg (by omega), ob, pI_ok, ob]
  generalize hX : wr (wr (wr (wr M 139 (12 * (210 + c) + 1) q) 139 (12 * (210 + c) + 2) v) 139 (12 * (210 + c) + 4) 0) 132 7 (w32 (wr (wr (wr M 139 (12 * (210 + c) + 1) q) 139 (12 * (210 + c) + 2) v) 139 (12 * (210 + c) + 4) 0 132 7 + 0)) = X
  have x8 : X 132 8 = M 132 8 := by rw [← hX, wr_at, if_neg (by omega), w8']
  obtain ⟨y, hy⟩ := mArgs8 (b := 12 * (210 + c)) (v := v) (q := ty') (M := X) (by omega)
  rw [hy, ob]
  dsimp only
  rw [if_neg (by omega), ob]
  refine ⟨X, rfl, fun b b1 b2 => ?_, fun f hf => ?_, fun z hz => ?_⟩
  · rw [← hX, wr_ne b1, wr_ne b2, wr_ne b2, wr_ne b2]
  · rw [← hX, wr_at, if_neg hf, wr_ne (by omega), wr_ne (by omega), wr_ne (by omega)]
  · rw [← hX, wr_ne (by omega), wr_at, if_neg (by omega), wr_at, if_neg (by omega), wr_at, if_neg (by omega)]
set_option maxHeartbeats 4000000 in
set_option maxRecDepth 20000 in
theorem m_isT0 {M : Mem} {T : Int → Int} {n N c s ty' v8 v j : Int} (hM : MK M T n N) (c0 : 0 ≤ c) (c1 : c < 200) (h8 : M 132 8 = 0) (h7 : M 132 7 = j) (j0 : 0 ≤ j) (j1 : j ≤ N) : ∃ M', mIsT (12 * (210 + c)) s ty' v8 v M = ((mArgs (12 * (210 + c)) v ty' M').bind fun q38 => ((if (q38.2 132 8) = 0 then if 0 ≤ s then some q38.2 else (fX12_tells v8 q38.1 q38.2).bind fun q39 => some q39 else some q38.2 : Option (Mem))).bind fun q40 => some q40) ∧ outB c M M' ∧ M' 132 7 = j + 1 ∧ M' 139 (12 * (210 + c) + 1) = (if s < 0 then M 132 14 else s) ∧ M' 139 (12 * (210 + c) + 2) = v ∧ M' 139 (12 * (210 + c) + 4) = pos T n j ∧ ∀ k, k = 0 ∨ k = 3 ∨ k = 11 → M' 139 (12 * (210 + c) + k) = M 139 (12 * (210 + c) + k) := by
  have nN := hM.1.2.1
  have n1 := hM.2.1
  have mt := hM.1.2.2.2.2 j j0 j1
  unfold mIsT
  have hq : ((if s < 0 then some (M 132 14) else some s : Option (Int))) = some (if s < 0 then M 132 14 else s) := by split <;> rfl
  generalize (if s < 0 then M 132 14 else s) = q at hq
  have w8 : ∀ k y z, wr (wr M 139 (12 * (210 + c) + 1) q) 139 y z 132 k = M 132 k := fun k y z => by rw [wr_ne (by omega), wr_ne (by omega)]
  have w5 : ∀ y z, wr (wr M 139 (12 * (210 + c) + 1) q) 139 y z 135 j = pos T n j := fun y z => by rw [wr_ne (by omega), wr_ne (by omega)]; exact mt.1
  rw [hq, ob, w32_id (show -2147483648 ≤ 12 * (210 + c) + 1 by omega) (by omega), st139 _ _ _ (by omega) (by omega), ob, w32_id (show -2147483648 ≤ 12 * (210 + c) + 2 by omega) (by omega), st139 _ _ _ (by omega) (by omega), ob]
  simp only [w8, h8, h7]
  rw [if_pos (Int.le_refl 0), ld135 _ _ j0 (by omega), ob, ob, w5, w32_id (show -2147483648 ≤ 12 * (210 + c) + 4 by omega) (by omega), st139 _ _ _ (by omega) (by omega), ob]
  have w8' : ∀ k a y z, wr (wr (wr M 139 (12 * (210 + c) + 1) q) 139 a y) 139 (12 * (210 + c) + 4) z 132 k = M 132 k := fun k a y z => by rw [wr_ne (by omega), w8]
  simp only [w8', h8, h7]
  rw [if_pos (Int.le_refl 0), ob, pI_ok, ob, w32_id (by omega) (by omega)]
  refine ⟨_, rfl, ⟨fun b b1 b2 => ?_, fun f hf => ?_, fun z hz => ?_⟩, ?_, ?_, ?_, ?_, fun k hk => ?_⟩
  · rw [wr_ne b1, wr_ne b2, wr_ne b2, wr_ne b2]
  · rw [wr_at, if_neg hf, wr_ne (by omega), wr_ne (by omega), wr_ne (by omega)]
  · rw [wr_ne (by omega), wr_at, if_neg (by omega), wr_at, if_neg (by omega), wr_at, if_neg (by omega)]
  · rw [wr_at, if_pos rfl]
  · rw [wr_ne (by omega), wr_at, if_neg (by omega), wr_at, if_neg (by omega), wr_at, if_pos rfl]
  · rw [wr_ne (by omega), wr_at, if_neg (by omega), wr_at, if_pos rfl]
  · rw [wr_ne (by omega), wr_at, if_pos rfl]
  · rw [wr_ne (by omega), wr_at, if_neg (by omega), wr_at, if_neg (by omega), wr_at, if_neg (by omega)]
/-- does the op make what is wanted -/
abbrev okT (v p2 : Int) : Prop := 13 ≤ v ∨ p2 = 2 ∨ p2 = tmF v
theorem m_chk {M M' : Mem} {v p2 : Int} (hv : 2 ≤ v) (hp : p2 = 0 ∨ p2 = 1 ∨ p2 = 2) (h : ¬ okT v p2 → fX12_wrong 6 M = some M') : mChk (if p2 = 2 then 3 else p2) v M = some (if okT v p2 then M else M') := by
  unfold mChk
  rw [if_pos hv]
  unfold okT at *
  by_cases e2 : p2 = 2
  · rw [if_pos (by rw [if_pos e2]), if_pos (Or.inr (Or.inl e2))]
  · rw [if_neg e2, if_neg (by omega)]
    by_cases e1 : 13 ≤ v
    · rw [if_pos e1, if_pos (Or.inl e1)]
    · rw [if_neg e1, s_makesFlag, ob]
      dsimp only
      have : ((if tmF v = 0 then some 0 else some 1 : Option Int)) = some (tmF v) := by
        rcases tmF_01 v with z | z
        · rw [z, if_pos rfl]
        · rw [z, if_neg (by decide)]
      rw [this, ob]
      by_cases e3 : p2 = tmF v
      · rw [if_pos e3, if_pos (Or.inr (Or.inr e3))]
      · rw [if_neg e3, if_neg (by omega), h (by omega), ob]
theorem m_chk1 {M M' : Mem} {v q : Int} (hv : ¬ 2 ≤ v) (h : fX12_wrong 1 M = some M') : mChk q v M = some M' := by
  unfold mChk
  rw [if_neg hv, h, ob]
/-! the class's -/
theorem c_isWord {A : Mem} {w : Int} : fX8_isWord w A = some (if A 1 4 = 5 ∧ A 1 6 = w then 1 else 0, A) := by
  unfold fX8_isWord
  by_cases h1 : A 1 4 = 5
  · by_cases h2 : A 1 6 = w
    · rw [if_pos h1, if_pos h2, if_pos ⟨h1, h2⟩, ob, rz1]
    · rw [if_pos h1, if_neg h2, if_neg (fun z => h2 z.2), ob, rz0]
  · rw [if_neg h1, if_neg (fun z => h1 z.1), ob, rz0]
set_option maxHeartbeats 4000000 in
set_option maxRecDepth 20000 in
theorem c_readOp {A A1 : Mem} {t : Nat} {p1 p2 v x : Int} {A' : Mem} (ht : t = 5 ∨ t = 119) (h41 : A1 4 1 = t) (ha : fX8_advance A = some A1) (h5 : A1 1 4 = 5) (hv : A1 1 6 = v + 8) (v2 : 2 ≤ v) (v14 : v ≤ 14) (ok : okT v p2) (p0 : 0 ≤ p1) (p200 : p1 < 200) (hl : lp (fX6_readOp_b1 p1 p2 v) (0, 0, wr (wr A1 (t + 4) p1 v) (t + 5) p1 (A1 1 5)) = some (x, A')) : fX6_readOp p1 p2 A = some (x, if 13 ≤ v then A' else wr A' 4 11 (tmF v)) := by
  unfold fX6_readOp
  rw [ha, ob, if_pos h5, hv, if_pos (by omega), ob, w32_id (show -2147483648 ≤ v + 8 - 10 by omega) (by omega), w32_id (show -2147483648 ≤ v + 8 - 10 + 2 by omega) (by omega), show v + 8 - 10 + 2 = v by omega]
  have e4 : ((if v = 13 then some 1 else if v = 14 then some 1 else some 0 : Option Int)) = some (if 13 ≤ v then 1 else 0) := by
    by_cases z : v = 13
    · rw [if_pos z, if_pos (by omega)]
    · rw [if_neg z]
      by_cases y : v = 14
      · rw [if_pos y, if_pos (by omega)]
      · rw [if_neg y, if_neg (by omega)]
  rw [e4, ob]
  have e6 : ((if (if 13 ≤ v then (1 : Int) else 0) = 0 then if p2 = 2 then some (true, A1) else (fX11_typeMade v A1).bind fun q5 => if p2 = q5.1 then some (true, q5.2) else some (false, q5.2) else some (true, A1) : Option (Bool × Mem))) = some (true, A1) := by
    unfold okT at ok
    by_cases z : 13 ≤ v
    · rw [if_pos z, if_neg (by decide)]
    · rw [if_neg z, if_pos rfl]
      by_cases y : p2 = 2
      · rw [if_pos y]
      · rw [if_neg y, s_typeMade, ob]
        dsimp only
        rw [if_pos (by omega)]
  have g1 : gm A1 4 1 = some t := gm41 ht h41
  have g2 : gm (wr A1 (t + 4) p1 v) 4 1 = some t := gm41 ht (by rw [wr_ne (by omega)]; exact h41)
  have e15 : wr A1 (t + 4) p1 v 1 5 = A1 1 5 := by rw [wr_ne (by omega)]
  rw [e6, ob]
  dsimp only
  rw [if_pos rfl, g1, ob, ts4 ht _ _ _ p0 p200, ob, g2, ob, e15, ts5 ht _ _ _ p0 p200, ob, hl, ob]
  dsimp only
  by_cases z : 13 ≤ v
  · rw [if_pos z, if_neg (by decide), ob, if_pos z]
  · rw [if_neg z, if_pos rfl, s_typeMade, ob]
    dsimp only
    rw [pI_ok, ob, ob, if_neg z]
theorem c_readOpE {A A1 : Mem} {p1 p2 x : Int} (ha : fX8_advance A = some A1) (h : (¬ (A1 1 4 = 5 ∧ 10 ≤ A1 1 6) ∧ fX6_faultHere 1 A1 = some (x, A1)) ∨ ∃ v, A1 1 4 = 5 ∧ A1 1 6 = v + 8 ∧ 2 ≤ v ∧ v ≤ 14 ∧ ¬ okT v p2 ∧ fX6_faultHere 6 A1 = some (x, A1)) : fX6_readOp p1 p2 A = some (x, A1) := by
  unfold fX6_readOp
  rw [ha, ob]
  rcases h with ⟨h1, h2⟩ | ⟨v, h5, hv, v2, v14, h1, h2⟩
  · by_cases z : A1 1 4 = 5
    · rw [if_pos z, if_neg (fun y => h1 ⟨z, y⟩), h2, ob]
    · rw [if_neg z, h2, ob]
  · unfold okT at h1
    rw [if_pos h5, hv, if_pos (by omega), ob, w32_id (show -2147483648 ≤ v + 8 - 10 by omega) (by omega), w32_id (show -2147483648 ≤ v + 8 - 10 + 2 by omega) (by omega), show v + 8 - 10 + 2 = v by omega]
    rw [if_neg (show ¬ v = 13 by omega), if_neg (show ¬ v = 14 by omega), ob, if_pos rfl, if_neg (by omega), s_typeMade, ob]
    dsimp only
    rw [if_neg (by omega), ob]
    dsimp only
    rw [if_neg (by decide), h2, ob]
