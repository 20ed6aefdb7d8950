/-! the arguments of an `is` line, of both -/
def tyA (A A0 : Mem) (t : Nat) (c k : Int) : Int := if 0 ≤ A (t + 6) (3 * c + k) then A0 19 (A (t + 6) (3 * c + k)) else 0
def ArS (A0 B0 A B : Mem) (t : Nat) (T : Int → Int) (n N c m j k x : Int) : Prop :=
  (∀ b, b ≠ 1 → b ≠ 4 → b ≠ t + 6 → b ≠ t + 7 → A b = A0 b) ∧ A 1 2 = A0 1 2 ∧ (∀ f, f ≠ 11 → A 4 f = A0 4 f) ∧ (∀ y, y < 3 * c ∨ 3 * c + 3 ≤ y → A (t + 6) y = A0 (t + 6) y ∧ A (t + 7) y = A0 (t + 7) y) ∧ (∀ b, b ≠ 132 → b ≠ 139 → B b = B0 b) ∧ (∀ f, f ≠ 7 → f ≠ 8 → f ≠ 19 → B 132 f = B0 132 f) ∧ (∀ y, y < 12 * (210 + c) + 5 ∨ 12 * (210 + c) + 11 ≤ y → B 139 y = B0 139 y) ∧
  ((x = 0 ∧ A 1 3 = te T n (pos T n (j + k)) ∧ B 132 7 = j + k + 1 ∧ B 132 8 = 0 ∧ j + k + 1 ≤ N ∧ te T n (pos T n j) + k ≤ te T n (pos T n (j + k)) ∧ (∀ k', 0 ≤ k' → k' < k → ArR A B t 210 c k' m) ∧ (0 < k → A 4 11 = B 132 19 ∧ (A 4 11 = 0 ∨ A 4 11 = 1) ∧ A 4 11 = tyA A A0 t c (k - 1))) ∨ (0 < x ∧ B 132 8 = x))
theorem ArS_0 {A B : Mem} {t : Nat} {T : Int → Int} {n N c m j : Int} (hA : A 1 3 = te T n (pos T n j)) (h7 : B 132 7 = j + 1) (h8 : B 132 8 = 0) (jN : j + 1 ≤ N) : ArS A B A B t T n N c m j 0 0 := by
  refine ⟨fun _ _ _ _ _ => rfl, rfl, fun _ _ => rfl, fun _ _ => ⟨rfl, rfl⟩, fun _ _ _ => rfl, fun _ _ _ _ => rfl, fun _ _ => rfl, Or.inl ⟨rfl, by rw [Int.add_zero]; exact hA, by omega, h8, by omega, by rw [Int.add_zero, Int.add_zero]; exact Int.le_refl _, fun k' a b => by omega, fun z => by omega⟩⟩
set_option maxHeartbeats 4000000 in
set_option maxRecDepth 20000 in
theorem ArS_s {A0 B0 A B : Mem} {t : Nat} {T : Int → Int} {n N c m j k ty' : Int} (hC : CK A0 t T n) (hM : MK B0 T n N) (hN : NmR A0 B0 m) (j0 : 0 ≤ j) (c0 : 0 ≤ c) (c1 : c < 200) (h : ArS A0 B0 A B t T n N c m j k 0) (k0 : 0 ≤ k) (k1 : k < 3) (ht : ty' = 0 ∨ ty' = 1 ∨ ty' = 2) : ∃ A1 x A' B', fX8_advance A = some A1 ∧ A1 4 11 = A 4 11 ∧ fX6_takeArg c k ty' A1 = some (x, A') ∧ fX12_takeArg (12 * (210 + c) + 5 + 2 * k) (if ty' = 2 then 3 else ty') B = some B' ∧ ArS A0 B0 A' B' t T n N c m j (k + 1) x ∧ (x = 0 → (A' 4 11 = B' 132 19 ∧ (A' 4 11 = 0 ∨ A' 4 11 = 1) ∧ A' 4 11 = tyA A' A0 t c k) ∧ (ty' ≠ 2 → A' 4 11 = ty')) ∧ ∀ k', 0 ≤ k' → k' < k → tyA A' A0 t c k' = tyA A A0 t c k' := by
  obtain ⟨a1, a2, a3, a4, b1, b2, b3, hx⟩ := h
  have ht5 := hC.1
  have n0 := hC.2.2.1.2.1
  have hx' : A 1 3 = te T n (pos T n (j + k)) ∧ B 132 7 = j + k + 1 ∧ B 132 8 = 0 ∧ j + k + 1 ≤ N ∧ te T n (pos T n j) + k ≤ te T n (pos T n (j + k)) ∧ (∀ k', 0 ≤ k' → k' < k → ArR A B t 210 c k' m) := by
    rcases hx with ⟨-, y1, y2, y3, y4, y5, y6, -⟩ | ⟨z, -⟩
    · exact ⟨y1, y2, y3, y4, y5, y6⟩
    · omega
  obtain ⟨y1, y2, y3, y4, y5, y6⟩ := hx'
  have hC' : CK A t T n := CK_fr hC a2 (a1 2 (by omega) (by omega) (by omega) (by omega)) (a1 3 (by omega) (by omega) (by omega) (by omega)) (a3 1 (by omega))
  have hM' : MK B T n N := MK_fr hM (b1 _ (by omega) (by omega)) (b1 _ (by omega) (by omega)) (b1 _ (by omega) (by omega)) (b1 _ (by omega) (by omega))
  have a19 : A 19 = A0 19 := a1 19 (by omega) (by omega) (by omega) (by omega)
  have hN' : NmR A B m := NmR_fr hN (a3 5 (by omega)) (a1 18 (by omega) (by omega) (by omega) (by omega)) a19 (a1 20 (by omega) (by omega) (by omega) (by omega)) (b2 14 (by omega) (by omega) (by omega)) (b1 140 (by omega) (by omega)) (b1 141 (by omega) (by omega))
  obtain ⟨A1, x, A', B', e1, fr1, e2, e3, u1, u2, u3, u4, v1, v2, v3, res⟩ := r_argN (i := c) (k := k) (ty' := ty') hC' hM' hN' y1 (by omega) y4 y2 y3 c0 c1 k0 k1 ht
  have tk : ∀ k', 0 ≤ k' → k' < k → tyA A' A0 t c k' = tyA A A0 t c k' := fun k' x0 x1 => by
    unfold tyA
    rw [(u4 (3 * c + k') (by omega)).1]
  refine ⟨A1, x, A', B', e1, by rw [fr1.1 4 (by omega)], e2, e3, ⟨fun b c1 c2 c3 c4 => by rw [u1 b c1 c2 c3 c4, a1 b c1 c2 c3 c4], by rw [u2, a2], fun f hf => by rw [u3 f hf, a3 f hf], fun y hy => by rw [(u4 y (by omega)).1, (u4 y (by omega)).2]; exact a4 y hy, fun b c1 c2 => by rw [v1 b c1 c2, b1 b c1 c2], fun f c1 c2 c3 => by rw [v2 f c1 c2 c3, b2 f c1 c2 c3], fun y hy => by rw [v3 y (by omega) (by omega), b3 y hy], ?_⟩, ?_, tk⟩
  · rcases res with ⟨r0, r1, r2, r3, r4, r5, r6, r7, r8, r9, r10⟩ | r
    · have q1 := pos_nx (T := T) (j := j + k) n0 (by omega)
      have q2 := pos_te (T := T) (j := j + k + 1) n0 r5
      rw [show j + (k + 1) = j + k + 1 by omega]
      refine Or.inl ⟨r0, r1, r2, r3, r4, by omega, fun k' x0 x1 => ?_, fun _ => ⟨r7, r8, ?_⟩⟩
      · by_cases e : k' = k
        · rw [e]; exact r6
        · have := y6 k' x0 (by omega)
          unfold ArR at this ⊢
          rw [v3 _ (by omega) (by omega), v3 _ (by omega) (by omega), (u4 _ (by omega)).1, (u4 _ (by omega)).2]
          exact this
      · rw [r10, a19, show k + 1 - 1 = k by omega]; rfl
    · exact Or.inr r
  · intro z
    rcases res with ⟨r0, r1, r2, r3, r4, r5, r6, r7, r8, r9, r10⟩ | r
    · exact ⟨⟨r7, r8, by rw [r10, a19]; rfl⟩, r9⟩
    · omega
theorem op_step {p1 p2 v k w x : Int} {A A1 A' : Mem} (hk : k < argc v) (k0 : 0 ≤ k) (hw : fX6_typeWanted v k p2 A1 = some (w, A1)) (h1 : fX8_advance A = some A1) (h2 : fX6_takeArg p1 k w A1 = some (x, A')) : lp (fX6_readOp_b1 p1 p2 v) (0, k, A) = lp (fX6_readOp_b1 p1 p2 v) (x, k + 1, A') := by
  have a3 := argc3 v
  apply lp_in
  unfold fX6_readOp_b1
  rw [s_X11_argsOf, ob]
  dsimp only
  rw [if_neg (by omega), if_pos rfl, h1, ob, hw, ob]
  dsimp only
  rw [h2, ob, w32_id (by omega) (by omega)]
theorem op_stop {p1 p2 v k x : Int} {A : Mem} (h : argc v ≤ k ∨ x ≠ 0) : lp (fX6_readOp_b1 p1 p2 v) (x, k, A) = some (x, A) := by
  apply lp_out
  unfold fX6_readOp_b1
  rw [s_X11_argsOf, ob]
  dsimp only
  by_cases z : argc v ≤ k
  · rw [if_pos z]
  · rw [if_neg z, if_neg (by omega)]
noncomputable def mArgs (b v q : Int) (M : Mem) : Option (Int × Mem) :=
    ((if v < 10 then
        if v = 14 then
          some q
        else
          some 0
      else
        if 13 < v then
          if v = 14 then
            some q
          else
            some 0
        else
          some 1 : Option (Int))).bind fun q28 =>
    (fX12_takeArg (w32 (b + 5)) q28 M).bind fun q29 =>
    ((if v = 14 then
        some (q29 132 19, q29)
      else
        (fX12_makesFlag v q29).bind fun q30 =>
        if q30.1 = 0 then
          some (0, q30.2)
        else
          some (1, q30.2) : Option (Int × Mem))).bind fun q31 =>
    (fX12_argsOf v q31.2).bind fun q32 =>
    ((if q32.1 ≤ 1 then
        some q32.2
      else
        ((if v = 13 then
            some q
          else
            some q28 : Option (Int))).bind fun q33 =>
        (fX12_takeArg (w32 (b + 7)) q33 q32.2).bind fun q34 =>
        some q34 : Option (Mem))).bind fun q35 =>
    ((if v = 13 then
        (some (q35 132 19)).bind fun v36 =>
        (fX12_takeArg (w32 (b + 9)) v36 q35).bind fun q37 =>
        some (v36, q37)
      else
        some (q31.1, q35) : Option (Int × Mem)))
/-- behind a fault nothing is taken -/
theorem mArgs8 {b v q : Int} {M : Mem} (h8 : 0 < M 132 8) : ∃ x, mArgs b v q M = some (x, M) := by
  have e : ∀ p r, fX12_takeArg p r M = some M := fun p r => m_takeArg8 h8
  unfold mArgs
  have hq : ∃ z, ((if v < 10 then if v = 14 then some q else some 0 else if 13 < v then if v = 14 then some q else some 0 else some 1 : Option (Int))) = some z := by
    repeat' split
    all_goals exact ⟨_, rfl⟩
  obtain ⟨z, hz⟩ := hq
  rw [hz, ob, e, ob]
  have h31 : ∃ y, ((if v = 14 then some (M 132 19, M) else (fX12_makesFlag v M).bind fun q30 => if q30.1 = 0 then some (0, q30.2) else some (1, q30.2) : Option (Int × Mem))) = some (y, M) := by
    rw [s_makesFlag, ob]
    repeat' split
    all_goals exact ⟨_, rfl⟩
  obtain ⟨y, hy⟩ := h31
  rw [hy, ob]
  have h32 : ∃ a, fX12_argsOf v M = some (a, M) := by
    unfold fX12_argsOf
    repeat' split
    all_goals exact ⟨_, rfl⟩
  obtain ⟨a, ha⟩ := h32
  dsimp only
  rw [ha, ob]
  dsimp only
  have h35 : ((if a ≤ 1 then some M else ((if v = 13 then some q else some z : Option (Int))).bind fun q33 => (fX12_takeArg (w32 (b + 7)) q33 M).bind fun q34 => some q34 : Option (Mem))) = some M := by
    by_cases c : a ≤ 1
    · rw [if_pos c]
    · rw [if_neg c]
      by_cases d : v = 13
      · rw [if_pos d, ob, e, ob]
      · rw [if_neg d, ob, e, ob]
  rw [h35, ob]
  by_cases d : v = 13
  · rw [if_pos d, ob, e, ob]; exact ⟨_, rfl⟩
  · rw [if_neg d]; exact ⟨_, rfl⟩
