/-! an `is` line worked -/
noncomputable def cArg (t : Nat) (i v k : Int) (A : Mem) : Option (Int × Mem) := if argc v ≤ k then some (-1, A) else if A 22 9 = 0 then fX10_argValue t i k A else some (-1, A)
noncomputable def mArg (b v k : Int) (B : Mem) : Option (Int × Mem) := if argc v ≤ k then some (-1, B) else if B 132 8 = 0 then fX12_argValue (b + 5 + 2 * k) B else some (-1, B)
theorem c_isS {t : Nat} {i v k x : Int} {A A' : Mem} (k0 : 0 ≤ k) (k1 : k < 3) (h : cArg t i v k A = some (x, A')) : lp (fX10_workIs_b1 i t v) (k, A) = lp (fX10_workIs_b1 i t v) (k + 1, wr A' 43 k x) := by
  apply lp_in
  unfold fX10_workIs_b1
  dsimp only
  rw [if_neg (by omega), s_X11_argsOf, ob]
  dsimp only
  simp only [bs2]
  unfold cArg at h
  rw [h, ob]
  dsimp only
  rw [st43 _ _ _ k0 k1, ob, w32_id (by omega) (by omega)]
theorem c_isL {t : Nat} {i v x0 x1 x2 : Int} {A A1 A2 A3 : Mem} (h0 : cArg t i v 0 A = some (x0, A1)) (h1 : cArg t i v 1 (wr A1 43 0 x0) = some (x1, A2)) (h2 : cArg t i v 2 (wr A2 43 1 x1) = some (x2, A3)) : lp (fX10_workIs_b1 i t v) (0, A) = some (wr A3 43 2 x2) := by
  rw [c_isS (by omega) (by omega) h0, show (0 : Int) + 1 = 1 by decide, c_isS (by omega) (by omega) h1, show (1 : Int) + 1 = 2 by decide, c_isS (by omega) (by omega) h2, show (2 : Int) + 1 = 3 by decide]
  apply lp_out
  unfold fX10_workIs_b1
  dsimp only
  rw [if_pos (Int.le_refl 3)]
/-- both at work, with the fault f so far -/
def Sta (A B : Mem) (n nI : Int) (giv : Int → Int) (f : Int) : Prop := VX A B n nI giv ∧ A 22 9 = f ∧ B 132 8 = f ∧ 0 ≤ f
theorem Sta_43 {A B : Mem} {n nI f i x : Int} {giv : Int → Int} (h : Sta A B n nI giv f) : Sta (wr A 43 i x) B n nI giv f := ⟨VX_cg h.1 (by rw [wr_ne (by omega)]) (wr_ne (by omega)) (wr_ne (by omega)) (wr_ne (by omega)) (wr_ne (by omega)) (fun _ _ => rfl), by rw [wr_ne (by omega)]; exact h.2.1, h.2.2.1, h.2.2.2⟩
theorem ArR_W {A A' B B' : Mem} {t : Nat} {n i k m : Int} (ht : t = 5 ∨ t = 119) (h : ArR A B t 210 i k m) (f : WFr A A' B B' n) : ArR A' B' t 210 i k m := by
  unfold ArR
  rw [f.1 (t + 6) (by omega) (by omega) (by omega), f.1 (t + 7) (by omega) (by omega) (by omega), f.2.2.2.2.1 139 (by omega) (by omega)]
  exact h
set_option maxHeartbeats 4000000 in
set_option maxRecDepth 20000 in
theorem is_step {A B : Mem} {t : Nat} {n nI i k m v f : Int} {giv ts : Int → Int} (ht : t = 5 ∨ t = 119) (hA : k < argc v → ArR A B t 210 i k m) (i0 : 0 ≤ i) (i1 : i < 200) (k0 : 0 ≤ k) (k1 : k < 3) (m20 : m ≤ 20) (hV : Sta A B n nI giv f) (hN : NmV A B n m ts) : ∃ x A' y B' n' f', cArg t i v k A = some (x, A') ∧ mArg (12 * (210 + i)) v k B = some (y, B') ∧ n ≤ n' ∧ Sta A' B' n' nI giv f' ∧ WFr A A' B B' n ∧ A' 43 = A 43 ∧ (f' = 0 → f = 0 ∧ x = y ∧ (argc v ≤ k → x = -1) ∧ (k < argc v → 0 ≤ x ∧ x < n' ∧ A' 26 x = if 0 ≤ A (t + 6) (3 * i + k) then ts (A (t + 6) (3 * i + k)) else 0)) ∧ (f' ≠ 0 → f = 0 → 0 < n') := by
  obtain ⟨hx, h9, h8, f0⟩ := id hV
  unfold cArg mArg
  by_cases z : argc v ≤ k
  · rw [if_pos z, if_pos z]
    exact ⟨-1, A, -1, B, n, f, rfl, rfl, Int.le_refl _, hV, WFr_refl _ _ _, rfl, fun w => ⟨w, rfl, fun _ => rfl, fun y => by omega⟩, fun w w' => absurd w' w⟩
  · rw [if_neg z, if_neg z]
    by_cases e : f = 0
    · obtain ⟨x, A', y, B', g1, g2, ⟨n', w1, w2, w3, w4⟩, g4, g5⟩ := r_argV ht (hA (by omega)) i0 i1 k0 k1 m20 hx hN (by omega) (by omega)
      rw [if_pos (by omega), if_pos (by omega), g1, g2]
      rcases w4 with ⟨u1, u2, u3, u4, u5⟩ | ⟨f', u1, u2, u3, u4, u5, u6⟩
      · exact ⟨x, A', y, B', n', 0, rfl, rfl, w1, ⟨w2, u1, u2, Int.le_refl _⟩, w3, g5, fun _ => ⟨e, u3, fun w => absurd w z, fun _ => ⟨u4, u5, g4 u1⟩⟩, fun w => absurd rfl w⟩
      · exact ⟨x, A', y, B', n', f', rfl, rfl, w1, ⟨w2, u2, u3, by omega⟩, w3, g5, fun w => by omega, fun _ _ => u6⟩
    · rw [if_neg (by omega), if_neg (by omega)]
      exact ⟨-1, A, -1, B, n, f, rfl, rfl, Int.le_refl _, hV, WFr_refl _ _ _, rfl, fun w => absurd w e, fun w w' => absurd w' e⟩
def gew (k : Int) : Int := if k = 2 ∨ k = 4 ∨ k = 5 ∨ k = 6 ∨ k = 9 ∨ k = 10 ∨ k = 11 then 1 else 0
theorem c_gew {k : Int} {M : Mem} : fX11_goesEitherWay k M = some (gew k, M) := by
  unfold fX11_goesEitherWay gew
  by_cases h2 : k = 2
  · rw [if_pos h2, if_pos (by omega), ob, rz1]
  · rw [if_neg h2]
    by_cases h4 : k = 4
    · rw [if_pos h4, if_pos (by omega), ob, rz1]
    · rw [if_neg h4]
      by_cases h5 : k = 5
      · rw [if_pos h5, if_pos (by omega), ob, rz1]
      · rw [if_neg h5]
        by_cases h6 : k = 6
        · rw [if_pos h6, if_pos (by omega), ob, rz1]
        · rw [if_neg h6]
          by_cases h9 : k = 9
          · rw [if_pos h9, if_pos (by omega), ob, rz1]
          · rw [if_neg h9]
            by_cases h10 : k = 10
            · rw [if_pos h10, if_pos (by omega), ob, rz1]
            · rw [if_neg h10]
              by_cases h11 : k = 11
              · rw [if_pos h11, if_pos (by omega), ob, rz1]
              · rw [if_neg h11, if_neg (by omega), ob, rz0]
theorem m_gew {k : Int} {M : Mem} : fX12_goesEitherWay k M = some (gew k, M) := by
  unfold fX12_goesEitherWay gew
  by_cases h2 : k = 2
  · rw [if_pos h2, if_pos (by omega), ob, rz1]
  · rw [if_neg h2]
    by_cases h4 : k = 4
    · rw [if_pos h4, if_pos (by omega), ob, rz1]
    · rw [if_neg h4]
      by_cases h5 : k = 5
      · rw [if_pos h5, if_pos (by omega), ob, rz1]
      · rw [if_neg h5]
        by_cases h6 : k = 6
        · rw [if_pos h6, if_pos (by omega), ob, rz1]
        · rw [if_neg h6]
          by_cases h9 : k < 9
          · rw [if_pos h9, if_neg (by omega), ob, rz0]
          · rw [if_neg h9]
            by_cases h11 : 11 < k
            · rw [if_pos h11, if_neg (by omega), ob, rz0]
            · rw [if_neg h11, if_pos (by omega), ob, rz1]
/-- what an op makes of its arguments, as both look for it -/
def swp' (v a b : Int) : Prop := gew v = 1 ∧ ¬ a ≤ b
theorem c_ofOp {A : Mem} {v a b c : Int} (h1 : v ≠ 14) (h2 : ¬ (v = 13 ∧ b = c)) : fX9_ofOp v a b c A = if gew v = 1 ∧ ¬ a ≤ b then fX9_single v b a c A else fX9_single v a b c A := by
  unfold fX9_ofOp
  rw [if_neg h1]
  have e : ((if v = 13 then if b = c then some false else some true else some true : Option Bool)) = some true := by
    by_cases z : v = 13
    · rw [if_pos z, if_neg (fun y => h2 ⟨z, y⟩)]
    · rw [if_neg z]
  rw [e, ob, if_pos rfl, c_gew, ob]
  simp only [bs2]
  by_cases g : gew v = 0
  · rw [if_pos g, if_neg (by omega)]
  · have g1 : gew v = 1 := by unfold gew at *; split at g <;> simp_all
    rw [if_neg g]
    by_cases z : a ≤ b
    · rw [if_pos z, if_neg (fun y => y.2 z)]
    · rw [if_neg z, if_pos ⟨g1, z⟩]
theorem c_ofOpC {A : Mem} {v a b c : Int} : (v = 14 → fX9_ofOp v a b c A = some (a, A)) ∧ (v = 13 ∧ b = c → fX9_ofOp v a b c A = some (b, A)) := by
  unfold fX9_ofOp
  refine ⟨fun h => by rw [if_pos h], fun h => ?_⟩
  rw [if_neg (by omega), if_pos h.1, if_pos h.2, ob, if_neg (by decide)]
/-- types of an op's arguments -/
def OpA (F : Int → Int) (n v a b c md : Int) : Prop := (2 ≤ v ∧ v ≤ 14) ∧ (0 ≤ a ∧ a < n) ∧ (v ≠ 7 → v ≠ 12 → v ≠ 14 → 0 ≤ b ∧ b < n) ∧ (v = 13 → 0 ≤ c ∧ c < n) ∧ (v = 7 ∨ v = 12 → b = -1) ∧ (v ≠ 13 → c = -1) ∧ (10 ≤ v → v ≤ 13 → F a = 1) ∧ (v = 10 ∨ v = 11 → F b = 1) ∧ (v = 13 → F b = md ∧ F c = md) ∧ (v = 14 → F a = md) ∧ (v ≤ 12 → tmF v = md)
theorem OpA_NV {F : Int → Int} {n nI v a b c md : Int} (h : OpA F n v a b c md) (hv : v ≠ 14) : NVok n nI F v a b c ∧ (gew v = 1 → NVok n nI F v b a c) := by
  obtain ⟨h1, h2, h3, h4, h5, h6, h7, h8, h9, h10, h11⟩ := h
  constructor
  · exact ⟨by omega, fun y => by omega, fun y => by omega, fun _ => h2, fun _ y z => h3 y z hv, h4, fun y => h5 (by omega), h6, fun y => h7 y (by omega), h8, fun y => by rw [(h9 y).1, (h9 y).2]⟩
  · intro g
    have gv : v = 2 ∨ v = 4 ∨ v = 5 ∨ v = 6 ∨ v = 9 ∨ v = 10 ∨ v = 11 := by
      unfold gew at g
      by_cases z : v = 2 ∨ v = 4 ∨ v = 5 ∨ v = 6 ∨ v = 9 ∨ v = 10 ∨ v = 11
      · exact z
      · rw [if_neg z] at g; omega
    exact ⟨by omega, fun y => by omega, fun y => by omega, fun _ => h3 (by omega) (by omega) (by omega), fun _ _ _ => h2, fun y => by omega, fun y => by omega, h6, fun y => h8 (by omega), fun y => h7 (by omega) (by omega), fun y => by omega⟩
/-- the reference's rest of opValue -/
noncomputable def mOpR (b v a0 a1 a2 : Int) (M : Mem) : Option (Int × Mem) :=
  if (M 132 8) ≤ 0 then
    ((if v = 14 then
        some true
      else
        if v = 13 then
          if a1 = a2 then
            some true
          else
            some false
        else
          some false : Option (Bool))).bind fun q8 =>
    if q8 = true then
      ((if v = 14 then
          some a0
        else
          some a1 : Option (Int))).bind fun q9 =>
      some (q9, M)
    else
      (fX12_goesEitherWay v M).bind fun q10 =>
      ((if q10.1 = 0 then
          some 0
        else
          if a0 ≤ a1 then
            some 0
          else
            some 1 : Option (Int))).bind fun q11 =>
      ((if q11 = 0 then
          some a0
        else
          some a1 : Option (Int))).bind fun q12 =>
      ((if q11 = 0 then
          some a1
        else
          some a0 : Option (Int))).bind fun q13 =>
      (ldI q10.2 139 (w32 (b + 4))).bind fun v14 =>
      (fX12_made v q12 q13 a2 v14 q10.2).bind fun q15 =>
      some (q15.1, q15.2)
  else
    some (0, M)
theorem m_opV {B B1 B2 B3 : Mem} {b v y0 y1 y2 : Int} (v2 : 2 ≤ v) (b0 : 0 ≤ b) (b1 : b + 11 < 5040) (h8 : B 132 8 = 0) (hv : B 139 (b + 2) = v) (h0 : mArg b v 0 B = some (y0, B1)) (h1 : mArg b v 1 B1 = some (y1, B2)) (h2 : mArg b v 2 B2 = some (y2, B3)) : fX12_opValue b B = mOpR b v y0 y1 y2 B3 := by
  have a1 := argc1 v2
  unfold fX12_opValue
  rw [w32_id (show -2147483648 ≤ b + 2 by omega) (by omega), ld139 _ _ (by omega) (by omega), ob, hv, s_argsOf12 v2, ob]
  dsimp only
  unfold mArg at h0 h1 h2
  rw [if_neg (by omega), if_pos h8, Int.mul_zero, Int.add_zero] at h0
  rw [show b + 5 + 2 * 1 = b + 7 by omega] at h1
  rw [show b + 5 + 2 * 2 = b + 9 by omega] at h2
  rw [w32_id (show -2147483648 ≤ b + 5 by omega) (by omega), h0, ob]
  dsimp only
  simp only [bs2]
  rw [w32_id (show -2147483648 ≤ b + 7 by omega) (by omega), h1, ob]
  dsimp only
  rw [w32_id (show -2147483648 ≤ b + 9 by omega) (by omega), h2, ob]
  dsimp only
  unfold mOpR
  simp only [bs2]
set_option maxHeartbeats 4000000 in
set_option maxRecDepth 20000 in
theorem r_opR {A B : Mem} {n nI v a b c md p st : Int} {giv : Int → Int} (hx : VX A B n nI giv) (h9 : A 22 9 = 0) (h8 : B 132 8 = 0) (ho : OpA (A 26) n v a b c md) (p0 : 0 ≤ p) (p1 : p + 11 < 5040) (hst : B 139 (p + 4) = st) (s0 : 0 ≤ st) (s1 : st ≤ 1000) : ∃ x A1 A' y B', fX9_ofOp v a b c A = some (x, A1) ∧ (x = -1 → fX10_tooMany st A1 = some A') ∧ (x ≠ -1 → A' = A1) ∧ mOpR p v a b c B = some (y, B') ∧ WR A B A' B' n nI giv x y ∧ (A' 22 9 = 0 → A' 26 x = md) ∧ (x = -1 → A' 22 9 ≠ 0) ∧ A1 30 = A 30 := by
  have ho' := ho
  obtain ⟨h1, h2, h3, h4, h5, h6, h7, h8', h9', h10, h11⟩ := ho'
  unfold mOpR
  rw [if_pos (by omega)]
  have keep : ∀ x, 0 ≤ x → x < n → A 26 x = md → ∃ x' A1 A' y B', (some (x, A) : Option (Int × Mem)) = some (x', A1) ∧ (x' = -1 → fX10_tooMany st A1 = some A') ∧ (x' ≠ -1 → A' = A1) ∧ (some (x, B) : Option (Int × Mem)) = some (y, B') ∧ WR A B A' B' n nI giv x' y ∧ (A' 22 9 = 0 → A' 26 x' = md) ∧ (x' = -1 → A' 22 9 ≠ 0) ∧ A1 30 = A 30 := fun x x0 x1 x2 => ⟨x, A, A, x, B, rfl, fun z => by omega, fun _ => rfl, rfl, ⟨n, Int.le_refl _, hx, WFr_refl _ _ _, Or.inl ⟨h9, h8, rfl, x0, x1⟩⟩, fun _ => x2, fun z => by omega, rfl⟩
  by_cases e14 : v = 14
  · rw [(c_ofOpC (b := b) (c := c)).1 e14, if_pos e14, ob, if_pos rfl, if_pos e14, ob]
    exact keep a h2.1 h2.2 (h10 e14)
  · by_cases e13 : v = 13 ∧ b = c
    · have hb := h3 (by omega) (by omega) (by omega)
      rw [c_ofOpC.2 e13, if_neg e14, if_pos e13.1, if_pos e13.2, ob, if_pos rfl, if_neg e14, ob]
      exact keep b hb.1 hb.2 (h9' e13.1).1
    · have eq8 : ((if v = 14 then some true else if v = 13 then if b = c then some true else some false else some false : Option Bool)) = some false := by
        rw [if_neg e14]
        by_cases z : v = 13
        · rw [if_pos z, if_neg (fun y => e13 ⟨z, y⟩)]
        · rw [if_neg z]
      rw [c_ofOp e14 e13, eq8, ob, if_neg (show ¬ (false = true) by decide), m_gew, ob]
      dsimp only
      simp only [bs2]
      have nv := OpA_NV (nI := nI) ho e14
      have tyb : ∀ b' : Int, (v ≠ 13 ∨ b' = b) → (if v = 13 then A 26 b' else tmF v) = md := fun b' hb => by
        by_cases z : v = 13
        · rw [if_pos z, hb.resolve_left (fun y => y z)]; exact (h9' z).1
        · rw [if_neg z]; exact h11 (by omega)
      have fin : ∀ a' b', NVok n nI (A 26) v a' b' c → (v ≠ 13 ∨ b' = b) → ∃ x A1 A' y B', fX9_single v a' b' c A = some (x, A1) ∧ (x = -1 → fX10_tooMany st A1 = some A') ∧ (x ≠ -1 → A' = A1) ∧ fX12_made v a' b' c st B = some (y, B') ∧ WR A B A' B' n nI giv x y ∧ (A' 22 9 = 0 → A' 26 x = md) ∧ (x = -1 → A' 22 9 ≠ 0) ∧ A1 30 = A 30 := fun a' b' hn hb => by
        obtain ⟨x, A1, A', y, B', f1, f2, f3, f4, f5, f6, f7, f8⟩ := r_madeF (p := st) hx hn (by omega) h9 h8 s0 s1
        refine ⟨x, A1, A', y, B', f1, f2, f3, f4, f5, fun z => by rw [f6 z]; exact tyb b' hb, f7, ?_⟩
        obtain ⟨x', A1', g1, g2⟩ := c_single (nI := nI) (k := v) (a := a') (b := b') (c := c) hx.1 hx.2.2.1.1 hx.2.2.1.2.1 (fun v v0 v1 => F_01 hx.2.2.1 v0 v1) hn
        rw [f1] at g1
        injection g1 with g1
        injection g1 with g3 g4
        rcases g2 with ⟨-, -, g5, -⟩ | ⟨-, ⟨-, -, g7⟩ | ⟨-, -, g7⟩⟩
        · rw [g4, g5]
        · rw [g4, g7.1 30 (by omega) (by omega) (by omega) (by omega) (by omega)]
        · rw [g4, g7]
      by_cases sw : gew v = 1 ∧ ¬ a ≤ b
      · have e11 : ((if gew v = 0 then some 0 else if a ≤ b then some 0 else some 1 : Option Int)) = some 1 := by rw [if_neg (by omega), if_neg sw.2]
        rw [if_pos sw, e11, ob, if_neg (by decide), ob, if_neg (by decide), ob, w32_id (show -2147483648 ≤ p + 4 by omega) (by omega), ld139 _ _ (by omega) (by omega), ob, hst]
        refine fin b a (nv.2 sw.1) (Or.inl (fun z => ?_))
        have := sw.1
        rw [z] at this
        exact absurd this (by decide)
      · have e11 : ((if gew v = 0 then some 0 else if a ≤ b then some 0 else some 1 : Option Int)) = some 0 := by
          by_cases g : gew v = 0
          · rw [if_pos g]
          · have g1 : gew v = 1 := by unfold gew at *; split at g <;> simp_all
            rw [if_neg g, if_pos (by
              by_cases y : a ≤ b
              · exact y
              · exact absurd ⟨g1, y⟩ sw)]
        rw [if_neg sw, e11, ob, if_pos rfl, ob, if_pos rfl, ob, w32_id (show -2147483648 ≤ p + 4 by omega) (by omega), ld139 _ _ (by omega) (by omega), ob, hst]
        exact fin a b nv.1 (Or.inr rfl)
