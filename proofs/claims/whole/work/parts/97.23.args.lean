/-! the arguments of an `is` line, of both -/
def tyA (A A0 : Mem) (t : Nat) (c k : Int) : Int := if 0 ≤ A (t + 6) (3 * c + k) then A0 19 (A (t + 6) (3 * c + k)) else 0
def ArS (A0 B0 A B : Mem) (t : Nat) (T : Int → Int) (n N c m j k x : Int) : Prop :=
  (∀ b, b ≠ 1 → b ≠ 4 → b ≠ t + 6 → b ≠ t + 7 → A b = A0 b) ∧ A 1 2 = A0 1 2 ∧ (∀ f, f ≠ 11 → A 4 f = A0 4 f) ∧ (∀ y, y < 3 * c ∨ 3 * c + 3 ≤ y → A (t + 6) y = A0 (t + 6) y ∧ A (t + 7) y = A0 (t + 7) y) ∧ (∀ b, b ≠ 132 → b ≠ 139 → B b = B0 b) ∧ (∀ f, f ≠ 7 → f ≠ 8 → f ≠ 19 → B 132 f = B0 132 f) ∧ (∀ y, y < 12 * (210 + c) + 5 ∨ 12 * (210 + c) + 11 ≤ y → B 139 y = B0 139 y) ∧
  ((x = 0 ∧ A 1 3 = te T n (pos T n (j + k)) ∧ B 132 7 = j + k + 1 ∧ B 132 8 = 0 ∧ j + k + 1 ≤ N ∧ te T n (pos T n j) + k ≤ te T n (pos T n (j + k)) ∧ (∀ k', 0 ≤ k' → k' < k → ArR A B t 210 c k' m) ∧ (0 < k → A 4 11 = B 132 19 ∧ (A 4 11 = 0 ∨ A 4 11 = 1) ∧ A 4 11 = tyA A A0 t c (k - 1))) ∨ (0 < x ∧ B 132 8 = x))
theorem ArS_0 {A B : Mem} {t : Nat} {T : Int → Int} {n N c m j : Int} (hA : A 1 3 = te T n (pos T n j)) (h7 : B 132 7 = j + 1) (h8 : B 132 8 = 0) (jN : j + 1 ≤ N) : ArS A B A B t T n N c m j 0 0 := by
  refine ⟨fun _ _ _ _ _ => rfl, rfl, fun _ _ => rfl, fun _ _ => ⟨rfl, rfl⟩, fun _ _ _ => rfl, fun _ _ _ _ => rfl, fun _ _ => rfl, Or.inl ⟨rfl, by rw [Int.add_zero]; exact hA, by omega, h8, by omega, by rw [Int.add_zero, Int.add_zero]; exact Int.le_refl _, fun k' a b => by omega, fun z => by omega⟩⟩
set_option maxHeartbeats 4000000 in
set_option maxRecDepth 20000 in
theorem ArS_s {A0 B0 A B : Mem} {t : Nat} {T : Int → Int} {n N c m j k ty' : Int} (hC : CK A0 t T n) (hM : MK B0 T n N) (hN : NmR A0 B0 m) (j0 : 0 ≤ j) (c0 : 0 ≤ c) (c1 : c < 200) (h : ArS A0 B0 A B t T n N c m j k 0) (k0 : 0 ≤ k) (k1 : k < 3) (ht : ty' = 0 ∨ ty' = 1 ∨ ty' = 2) : ∃ A1 x A' B', fX8_advance A = some A1 ∧ A1 4 11 = A 4 11 ∧ fX6_takeArg c k ty' A1 = some (x, A') ∧ fX12_takeArg (12 * (210 + c) + 5 + 2 * k) (if ty' = 2 then 3 else ty') B = some B' ∧ ArS A0 B0 A' B' t T n N c m j (k + 1) x ∧ (x = 0 → (A' 4 11 = B' 132 19 ∧ (A' 4 11 = 0 ∨ A' 4 11 = 1) ∧ A' 4 11 = tyA A' A0 t c k) ∧ (ty' ≠ 2 → A' 4 11 = ty')) ∧ ∀ k', 0 ≤ k' → k' < k → tyA A' A0 t c k' = tyA A A0 t c k' := by
  obtain ⟨a1, a2, a3, a4, b1, b2, b3, hx⟩ := h
  have ht5 := hC.1
  have n0 := hC.2.2.1.2.1
  have hx' : A 1 3 = te T n (pos T n (j + k)) ∧ B 132 7 = j + k + 1 ∧ B 132 8 = 0 ∧ j + k + 1 ≤ N ∧ te T n (pos T n j) + k ≤ te T n (pos T n (j + k)) ∧ (∀ k', 0 ≤ k' → k' < k → ArR A B t 210 c k' m) := by
    rcases hx with ⟨-, y1, y2, y3, y4, y5, y6, -⟩ | ⟨z, -⟩
    · exact ⟨y1, y2, y3, y4, y5, y6⟩
    · omega
  obtain ⟨y1, y2, y3, y4, y5, y6⟩ := hx'
  have hC' : CK A t T n := CK_fr hC a2 (a1 2 (by omega) (by omega) (by omega) (by omega)) (a1 3 (by omega) (by omega) (by omega) (by omega)) (a3 1 (by omega))
  have hM' : MK B T n N := MK_fr hM (b1 _ (by omega) (by omega)) (b1 _ (by omega) (by omega)) (b1 _ (by omega) (by omega)) (b1 _ (by omega) (by omega))
  have a19 : A 19 = A0 19 := a1 19 (by omega) (by omega) (by omega) (by omega)
  have hN' : NmR A B m := NmR_fr hN (a3 5 (by omega)) (a1 18 (by omega) (by omega) (by omega) (by omega)) a19 (a1 20 (by omega) (by omega) (by omega) (by omega)) (b2 14 (by omega) (by omega) (by omega)) (b1 140 (by omega) (by omega)) (b1 141 (by omega) (by omega))
  obtain ⟨A1, x, A', B', e1, fr1, e2, e3, u1, u2, u3, u4, v1, v2, v3, res⟩ := r_argN (i := c) (k := k) (ty' := ty') hC' hM' hN' y1 (by omega) y4 y2 y3 c0 c1 k0 k1 ht
  have tk : ∀ k', 0 ≤ k' → k' < k → tyA A' A0 t c k' = tyA A A0 t c k' := fun k' x0 x1 => by
    unfold tyA
    rw [(u4 (3 * c + k') (by omega)).1]
  refine ⟨A1, x, A', B', e1, by rw [fr1.1 4 (by omega)], e2, e3, ⟨fun b c1 c2 c3 c4 => by rw [u1 b c1 c2 c3 c4, a1 b c1 c2 c3 c4], by rw [u2, a2], fun f hf => by rw [u3 f hf, a3 f hf], fun y hy => by rw [(u4 y (by omega)).1, (u4 y (by omega)).2]; exact a4 y hy, fun b c1 c2 => by rw [v1 b c1 c2, b1 b c1 c2], fun f c1 c2 c3 => by rw [v2 f c1 c2 c3, b2 f c1 c2 c3], fun y hy => by rw [v3 y (by omega) (by omega), b3 y hy], ?_⟩, ?_, tk⟩
  · rcases res with ⟨r0, r1, r2, r3, r4, r5, r6, r7, r8, r9, r10⟩ | r
    · have q1 := pos_nx (T := T) (j := j + k) n0 (by omega)
      have q2 := pos_te (T := T) (j := j + k + 1) n0 r5
      rw [show j + (k + 1) = j + k + 1 by omega]
      refine Or.inl ⟨r0, r1, r2, r3, r4, by omega, fun k' x0 x1 => ?_, fun _ => ⟨r7, r8, ?_⟩⟩
      · by_cases e : k' = k
        · rw [e]; exact r6
        · have := y6 k' x0 (by omega)
          unfold ArR at this ⊢
          rw [v3 _ (by omega) (by omega), v3 _ (by omega) (by omega), (u4 _ (by omega)).1, (u4 _ (by omega)).2]
          exact this
      · rw [r10, a19, show k + 1 - 1 = k by omega]; rfl
    · exact Or.inr r
  · intro z
    rcases res with ⟨r0, r1, r2, r3, r4, r5, r6, r7, r8, r9, r10⟩ | r
    · exact ⟨⟨r7, r8, by rw [r10, a19]; rfl⟩, r9⟩
    · omega
theorem op_step {p1 p2 v k w x : Int} {A A1 A' : Mem} (hk : k < argc v) (k0 : 0 ≤ k) (hw : fX6_typeWanted v k p2 A1 = some (w, A1)) (h1 : fX8_advance A = some A1) (h2 : fX6_takeArg p1 k w A1 = some (x, A')) : lp (fX6_readOp_b1 p1 p2 v) (0, k, A) = lp (fX6_readOp_b1 p1 p2 v) (x, k + 1, A') := by
  have a3 := argc3 v
  apply lp_in
  unfold fX6_readOp_b1
  rw [s_X11_argsOf, ob]
  dsimp only
  rw [if_neg (by omega), if_pos rfl, h1, ob, hw, ob]
  dsimp only
  rw [h2, ob, w32_id (by omega) (by omega)]
theorem op_stop {p1 p2 v k x : Int} {A : Mem} (h : argc v ≤ k ∨ x ≠ 0) : lp (fX6_readOp_b1 p1 p2 v) (x, k, A) = some (x, A) := by
  apply lp_out
  unfold fX6_readOp_b1
  rw [s_X11_argsOf, ob]
  dsimp only
  by_cases z : argc v ≤ k
  · rw [if_pos z]
  · rw [if_neg z, if_neg (by omega)]
noncomputable def mArgs (b v q : Int) (M : Mem) : Option (Int × Mem) :=
    ((if v < 10 then
        if v = 14 then
          some q
        else
          some 0
      else
        if 13 < v then
          if v = 14 then
            some q
          else
            some 0
        else
          some 1 : Option (Int))).bind fun q28 =>
    (fX12_takeArg (w32 (b + 5)) q28 M).bind fun q29 =>
    ((if v = 14 then
        some (q29 132 19, q29)
      else
        (fX12_makesFlag v q29).bind fun q30 =>
        if q30.1 = 0 then
          some (0, q30.2)
        else
          some (1, q30.2) : Option (Int × Mem))).bind fun q31 =>
    (fX12_argsOf v q31.2).bind fun q32 =>
    ((if q32.1 ≤ 1 then
        some q32.2
      else
        ((if v = 13 then
            some q
          else
            some q28 : Option (Int))).bind fun q33 =>
        (fX12_takeArg (w32 (b + 7)) q33 q32.2).bind fun q34 =>
        some q34 : Option (Mem))).bind fun q35 =>
    ((if v = 13 then
        (some (q35 132 19)).bind fun v36 =>
        (fX12_takeArg (w32 (b + 9)) v36 q35).bind fun q37 =>
        some (v36, q37)
      else
        some (q31.1, q35) : Option (Int × Mem)))
def q28F (v q : Int) : Int := if v = 14 then q else if 10 ≤ v ∧ v ≤ 13 then 1 else 0
noncomputable def mRest (b v q : Int) (M : Mem) : Option (Int × Mem) :=
    (fX12_argsOf v M).bind fun q32 =>
    ((if q32.1 ≤ 1 then
        some q32.2
      else
        (fX12_takeArg (w32 (b + 7)) (if v = 13 then q else q28F v q) q32.2).bind fun q34 =>
        some q34 : Option (Mem))).bind fun q35 =>
    ((if v = 13 then
        (some (q35 132 19)).bind fun v36 =>
        (fX12_takeArg (w32 (b + 9)) v36 q35).bind fun q37 =>
        some (v36, q37)
      else
        some (if v = 14 then M 132 19 else tmF v, q35) : Option (Int × Mem)))
theorem mArgs_eq {b v q : Int} {M M1 : Mem} (h : fX12_takeArg (w32 (b + 5)) (q28F v q) M = some M1) : mArgs b v q M = mRest b v q M1 := by
  unfold mArgs mRest
  have hq : ((if v < 10 then if v = 14 then some q else some 0 else if 13 < v then if v = 14 then some q else some 0 else some 1 : Option (Int))) = some (q28F v q) := by
    unfold q28F
    by_cases c1 : v = 14
    · rw [if_pos c1, if_pos c1, if_neg (by omega), if_pos (by omega)]
    · rw [if_neg c1, if_neg c1]
      by_cases c2 : v < 10
      · rw [if_pos c2, if_neg (by omega)]
      · rw [if_neg c2]
        by_cases c3 : 13 < v
        · rw [if_pos c3, if_neg (by omega)]
        · rw [if_neg c3, if_pos (by omega)]
  rw [hq, ob, h, ob]
  have h31 : ((if v = 14 then some (M1 132 19, M1) else (fX12_makesFlag v M1).bind fun q30 => if q30.1 = 0 then some (0, q30.2) else some (1, q30.2) : Option (Int × Mem))) = some (if v = 14 then M1 132 19 else tmF v, M1) := by
    rw [s_makesFlag, ob]
    dsimp only
    by_cases c1 : v = 14
    · rw [if_pos c1, if_pos c1]
    · rw [if_neg c1, if_neg c1]
      rcases tmF_01 v with z | z
      · rw [z, if_pos rfl]
      · rw [z, if_neg (by decide)]
  rw [h31, ob]
  dsimp only
  have h33 : ((if v = 13 then some q else some (q28F v q) : Option (Int))) = some (if v = 13 then q else q28F v q) := by split <;> rfl
  rw [h33]
  simp only [ob]
/-- behind a fault nothing is taken -/
theorem mRest8 {b v q : Int} {M : Mem} (h8 : 0 < M 132 8) : ∃ x, mRest b v q M = some (x, M) := by
  have e : ∀ p r, fX12_takeArg p r M = some M := fun p r => m_takeArg8 h8
  have h32 : ∃ a, fX12_argsOf v M = some (a, M) := by
    unfold fX12_argsOf
    repeat' split
    all_goals exact ⟨_, rfl⟩
  obtain ⟨a, ha⟩ := h32
  unfold mRest
  rw [ha, ob]
  dsimp only
  have h35 : ((if a ≤ 1 then some M else (fX12_takeArg (w32 (b + 7)) (if v = 13 then q else q28F v q) M).bind fun q34 => some q34 : Option (Mem))) = some M := by
    by_cases c : a ≤ 1
    · rw [if_pos c]
    · rw [if_neg c, e, ob]
  rw [h35, ob]
  by_cases d : v = 13
  · rw [if_pos d, ob, e, ob]; exact ⟨_, rfl⟩
  · rw [if_neg d]; exact ⟨_, rfl⟩
theorem mArgs8 {b v q : Int} {M : Mem} (h8 : 0 < M 132 8) : ∃ x, mArgs b v q M = some (x, M) := by
  rw [mArgs_eq (m_takeArg8 h8)]
  exact mRest8 h8
theorem ArS_f {A0 B0 A B : Mem} {t : Nat} {T : Int → Int} {n N c m j k k' x : Int} (h : ArS A0 B0 A B t T n N c m j k x) (hx : x ≠ 0) : ArS A0 B0 A B t T n N c m j k' x ∧ 0 < x ∧ B 132 8 = x := by
  obtain ⟨a1, a2, a3, a4, b1, b2, b3, h⟩ := h
  rcases h with z | z
  · exact absurd z.1 hx
  · exact ⟨⟨a1, a2, a3, a4, b1, b2, b3, Or.inr z⟩, z⟩
def OpTr (A A0 : Mem) (t : Nat) (c v md : Int) : Prop := (v ≤ 9 → ∀ k, 0 ≤ k → k < argc v → tyA A A0 t c k = 0) ∧ (10 ≤ v → v ≤ 12 → ∀ k, 0 ≤ k → k < argc v → tyA A A0 t c k = 1) ∧ (v = 13 → tyA A A0 t c 0 = 1 ∧ tyA A A0 t c 1 = md ∧ tyA A A0 t c 2 = md) ∧ (v = 14 → tyA A A0 t c 0 = md) ∧ (v ≤ 7 → md = 0) ∧ (8 ≤ v → v ≤ 12 → md = 1)
def ArE (A0 A : Mem) (t : Nat) (c v p2 md : Int) : Prop := OpTr A A0 t c v md ∧ (md = 0 ∨ md = 1) ∧ (13 ≤ v → p2 ≠ 2 → md = p2) ∧ (13 ≤ v → A 4 11 = md) ∧ (v ≤ 12 → md = tmF v)
theorem tw_ne {v k p2 : Int} {M : Mem} (h1 : v ≠ 13) (h2 : v ≠ 14) : fX6_typeWanted v k p2 M = some (ttF v, M) := by
  unfold fX6_typeWanted
  rw [if_neg h2, if_neg h1, s_typeTaken, ob]
theorem tmF_v {v : Int} : (v ≤ 7 → tmF v = 0) ∧ (8 ≤ v → v ≤ 12 → tmF v = 1) := by
  unfold tmF
  exact ⟨fun h => if_neg (by omega), fun h h' => if_pos (by omega)⟩
theorem ttF_v {v : Int} : (v ≤ 9 → ttF v = 0) ∧ (10 ≤ v → v ≤ 12 → ttF v = 1) := by
  unfold ttF
  exact ⟨fun h => if_neg (by omega), fun h h' => if_pos (by omega)⟩
theorem q28F_v {v q : Int} (h1 : v ≠ 13) (h2 : v ≠ 14) : q28F v q = ttF v := by
  unfold q28F ttF
  rw [if_neg h2]
  by_cases z : 10 ≤ v ∧ v ≤ 12
  · rw [if_pos z, if_pos (by omega)]
  · rw [if_neg z, if_neg (by omega)]
set_option maxHeartbeats 4000000 in
set_option maxRecDepth 20000 in
theorem r_args1 {A0 B0 : Mem} {t : Nat} {T : Int → Int} {n N c m j v p2 : Int} (hC : CK A0 t T n) (hM : MK B0 T n N) (hN : NmR A0 B0 m) (j0 : 0 ≤ j) (c0 : 0 ≤ c) (c1 : c < 200) (hA : A0 1 3 = te T n (pos T n j)) (h7 : B0 132 7 = j + 1) (h8 : B0 132 8 = 0) (jN : j + 1 ≤ N) (hp : p2 = 0 ∨ p2 = 1 ∨ p2 = 2) (hv : v = 7 ∨ v = 12 ∨ v = 14) : ∃ x A' B' md, lp (fX6_readOp_b1 c p2 v) (0, 0, A0) = some (x, A') ∧ mArgs (12 * (210 + c)) v (if p2 = 2 then 3 else p2) B0 = some (md, B') ∧ ArS A0 B0 A' B' t T n N c m j (argc v) x ∧ (x = 0 → ArE A0 A' t c v p2 md) := by
  have ac : argc v = 1 := by unfold argc; rw [if_neg (by omega), if_pos hv]
  obtain ⟨w, hw⟩ : ∃ w, w = if v = 14 then p2 else ttF v := ⟨_, rfl⟩
  have w3 : w = 0 ∨ w = 1 ∨ w = 2 := by
    rw [hw]
    have := ttF_01 v
    split <;> omega
  have wt : ∀ M, fX6_typeWanted v 0 p2 M = some (w, M) := fun M => by
    by_cases e : v = 14
    · unfold fX6_typeWanted
      rw [if_pos e, hw, if_pos e]
    · rw [tw_ne (by omega) e, hw, if_neg e]
  have wq : (if w = 2 then 3 else w) = q28F v (if p2 = 2 then 3 else p2) := by
    by_cases e : v = 14
    · unfold q28F
      rw [if_pos e, hw, if_pos e]
    · rw [q28F_v (by omega) e, hw, if_neg e, if_neg (by have := ttF_01 v; omega)]
  obtain ⟨A1, x, A', B', e1, e2, e3, e4, e5, e6, e7⟩ := ArS_s hC hM hN j0 c0 c1 (ArS_0 (c := c) (m := m) hA h7 h8 jN) (Int.le_refl 0) (by omega) w3
  rw [wq, show 12 * (210 + c) + 5 + 2 * 0 = 12 * (210 + c) + 5 by omega] at e4
  have cl : lp (fX6_readOp_b1 c p2 v) (0, 0, A0) = some (x, A') := by
    rw [op_step (by omega) (Int.le_refl 0) (wt A1) e1 e3]
    exact op_stop (Or.inl (by omega))
  have ml : mArgs (12 * (210 + c)) v (if p2 = 2 then 3 else p2) B0 = some (if v = 14 then B' 132 19 else tmF v, B') := by
    rw [mArgs_eq (by rw [w32_id (by omega) (by omega)]; exact e4)]
    unfold mRest
    rw [s_argsOf12 (by omega), ob]
    dsimp only
    rw [if_pos (by omega), ob, if_neg (by omega)]
  refine ⟨x, A', B', _, cl, ml, by rw [ac]; exact e5, fun z => ?_⟩
  obtain ⟨⟨y1, y2, y3⟩, y4⟩ := e6 z
  unfold ArE OpTr
  rw [ac]
  by_cases e : v = 14
  · rw [if_pos e]
    refine ⟨⟨fun _ => by omega, fun _ _ => by omega, fun _ => by omega, fun _ => by omega, fun _ => by omega, fun _ _ => by omega⟩, by omega, fun _ h => ?_, fun _ => y1, fun _ => by omega⟩
    rw [hw, if_pos e] at y4
    rw [← y1]; exact y4 h
  · rw [if_neg e]
    have w2 : w = ttF v := by rw [hw, if_neg e]
    have q := y4 (by have := ttF_01 v; omega)
    rw [w2] at q
    have tm := tmF_v (v := v)
    have tt := ttF_v (v := v)
    refine ⟨⟨fun z k a b => ?_, fun z z' k a b => ?_, fun _ => by omega, fun _ => by omega, tm.1, tm.2⟩, tmF_01 v, fun _ => by omega, fun _ => by omega, fun _ => rfl⟩
    · rw [show k = 0 by omega, ← y3, q]; exact tt.1 z
    · rw [show k = 0 by omega, ← y3, q]; exact tt.2 z z'
set_option maxHeartbeats 4000000 in
set_option maxRecDepth 20000 in
theorem r_args2 {A0 B0 : Mem} {t : Nat} {T : Int → Int} {n N c m j v p2 : Int} (hC : CK A0 t T n) (hM : MK B0 T n N) (hN : NmR A0 B0 m) (j0 : 0 ≤ j) (c0 : 0 ≤ c) (c1 : c < 200) (hA : A0 1 3 = te T n (pos T n j)) (h7 : B0 132 7 = j + 1) (h8 : B0 132 8 = 0) (jN : j + 1 ≤ N) (v2 : 2 ≤ v) (v12 : v < 12) (hv : v ≠ 7) : ∃ x A' B' md, lp (fX6_readOp_b1 c p2 v) (0, 0, A0) = some (x, A') ∧ mArgs (12 * (210 + c)) v (if p2 = 2 then 3 else p2) B0 = some (md, B') ∧ ArS A0 B0 A' B' t T n N c m j (argc v) x ∧ (x = 0 → ArE A0 A' t c v p2 md) := by
  have ac : argc v = 2 := by unfold argc; rw [if_neg (by omega), if_neg (by omega), if_neg (by omega)]
  have tt01 := ttF_01 v
  have wq : (if ttF v = 2 then 3 else ttF v) = q28F v (if p2 = 2 then 3 else p2) := by rw [q28F_v (by omega) (by omega), if_neg (by omega)]
  obtain ⟨A1, x, A', B', e1, e2, e3, e4, e5, e6, e7⟩ := ArS_s (ty' := ttF v) hC hM hN j0 c0 c1 (ArS_0 (c := c) (m := m) hA h7 h8 jN) (Int.le_refl 0) (by omega) (by omega)
  rw [wq, show 12 * (210 + c) + 5 + 2 * 0 = 12 * (210 + c) + 5 by omega] at e4
  have cl : lp (fX6_readOp_b1 c p2 v) (0, 0, A0) = lp (fX6_readOp_b1 c p2 v) (x, 0 + 1, A') := op_step (by omega) (Int.le_refl 0) (tw_ne (by omega) (by omega)) e1 e3
  have ml : mArgs (12 * (210 + c)) v (if p2 = 2 then 3 else p2) B0 = mRest (12 * (210 + c)) v (if p2 = 2 then 3 else p2) B' := mArgs_eq (by rw [w32_id (by omega) (by omega)]; exact e4)
  by_cases x0 : x = 0
  · subst x0
    obtain ⟨A1', x', A2, B2, f1, f2, f3, f4, f5, f6, f7⟩ := ArS_s (ty' := ttF v) hC hM hN j0 c0 c1 e5 (by omega) (by omega) (by omega)
    rw [wq, show 12 * (210 + c) + 5 + 2 * (0 + 1) = 12 * (210 + c) + 7 by omega] at f4
    rw [op_step (by omega) (by omega) (tw_ne (by omega) (by omega)) f1 f3, op_stop (x := x') (k := 0 + 1 + 1) (Or.inl (by omega))] at cl
    have mr : mRest (12 * (210 + c)) v (if p2 = 2 then 3 else p2) B' = some (tmF v, B2) := by
      unfold mRest
      rw [s_argsOf12 (by omega), ob]
      dsimp only
      rw [if_neg (by omega), if_neg (by omega), w32_id (show -2147483648 ≤ 12 * (210 + c) + 7 by omega) (by omega), f4, ob, ob, if_neg (by omega), if_neg (by omega)]
    rw [mr] at ml
    refine ⟨x', A2, B2, _, cl, ml, by rw [ac]; exact f5, fun z => ?_⟩
    obtain ⟨⟨y1, y2, y3⟩, y4⟩ := e6 rfl
    obtain ⟨⟨z1, z2, z3⟩, z4⟩ := f6 z
    have g0 := f7 0 (by omega) (by omega)
    have q0 := y4 (by omega)
    have q1 := z4 (by omega)
    have tm := tmF_v (v := v)
    have tt := ttF_v (v := v)
    have key : ∀ k, 0 ≤ k → k < 2 → tyA A2 A0 t c k = ttF v := fun k a b => by
      by_cases e : k = 0
      · rw [e, g0, ← y3, q0]
      · rw [show k = 0 + 1 by omega, ← z3, q1]
    unfold ArE OpTr
    rw [ac]
    exact ⟨⟨fun z k a b => by rw [key k a b]; exact tt.1 z, fun z z' k a b => by rw [key k a b]; exact tt.2 z z', fun _ => by omega, fun _ => by omega, tm.1, tm.2⟩, tmF_01 v, fun _ => by omega, fun _ => by omega, fun _ => rfl⟩
  · obtain ⟨g1, g2, g3⟩ := ArS_f (k' := argc v) e5 x0
    rw [op_stop (Or.inr x0)] at cl
    obtain ⟨md, hm⟩ := mRest8 (b := 12 * (210 + c)) (v := v) (q := if p2 = 2 then 3 else p2) (M := B') (by omega)
    rw [hm] at ml
    exact ⟨x, A', B', md, cl, ml, g1, fun z => absurd z x0⟩
set_option maxHeartbeats 4000000 in
set_option maxRecDepth 20000 in
theorem r_args3 {A0 B0 : Mem} {t : Nat} {T : Int → Int} {n N c m j p2 : Int} (hC : CK A0 t T n) (hM : MK B0 T n N) (hN : NmR A0 B0 m) (j0 : 0 ≤ j) (c0 : 0 ≤ c) (c1 : c < 200) (hA : A0 1 3 = te T n (pos T n j)) (h7 : B0 132 7 = j + 1) (h8 : B0 132 8 = 0) (jN : j + 1 ≤ N) (hp : p2 = 0 ∨ p2 = 1 ∨ p2 = 2) : ∃ x A' B' md, lp (fX6_readOp_b1 c p2 13) (0, 0, A0) = some (x, A') ∧ mArgs (12 * (210 + c)) 13 (if p2 = 2 then 3 else p2) B0 = some (md, B') ∧ ArS A0 B0 A' B' t T n N c m j (argc 13) x ∧ (x = 0 → ArE A0 A' t c 13 p2 md) := by
  have ac : argc 13 = 3 := by decide
  have w0 : ∀ M, fX6_typeWanted 13 0 p2 M = some (1, M) := fun M => rfl
  have w1 : ∀ M, fX6_typeWanted 13 (0 + 1) p2 M = some (p2, M) := fun M => rfl
  have w2 : ∀ M, fX6_typeWanted 13 (0 + 1 + 1) p2 M = some (M 4 11, M) := fun M => rfl
  obtain ⟨A1, x, A', B', e1, e2, e3, e4, e5, e6, e7⟩ := ArS_s (ty' := 1) hC hM hN j0 c0 c1 (ArS_0 (c := c) (m := m) hA h7 h8 jN) (Int.le_refl 0) (by omega) (by omega)
  rw [if_neg (show ¬ (1 : Int) = 2 by decide), show 12 * (210 + c) + 5 + 2 * 0 = 12 * (210 + c) + 5 by omega] at e4
  have cl : lp (fX6_readOp_b1 c p2 13) (0, 0, A0) = lp (fX6_readOp_b1 c p2 13) (x, 0 + 1, A') := op_step (by omega) (Int.le_refl 0) (w0 _) e1 e3
  have ml : mArgs (12 * (210 + c)) 13 (if p2 = 2 then 3 else p2) B0 = mRest (12 * (210 + c)) 13 (if p2 = 2 then 3 else p2) B' := mArgs_eq (by rw [w32_id (by omega) (by omega)]; exact e4)
  by_cases x0 : x = 0
  · subst x0
    obtain ⟨A1', x', A2, B2, f1, f2, f3, f4, f5, f6, f7⟩ := ArS_s (ty' := p2) hC hM hN j0 c0 c1 e5 (by omega) (by omega) hp
    rw [show 12 * (210 + c) + 5 + 2 * (0 + 1) = 12 * (210 + c) + 7 by omega] at f4
    rw [op_step (by omega) (by omega) (w1 _) f1 f3] at cl
    have mr : mRest (12 * (210 + c)) 13 (if p2 = 2 then 3 else p2) B' = (fX12_takeArg (12 * (210 + c) + 9) (B2 132 19) B2).bind fun q37 => some (B2 132 19, q37) := by
      unfold mRest
      rw [s_argsOf12 (by omega), ob]
      dsimp only
      rw [if_neg (by omega), if_pos rfl, w32_id (show -2147483648 ≤ 12 * (210 + c) + 7 by omega) (by omega), f4, ob, ob, if_pos rfl, ob, w32_id (show -2147483648 ≤ 12 * (210 + c) + 9 by omega) (by omega)]
    rw [mr] at ml
    by_cases x1 : x' = 0
    · subst x1
      obtain ⟨⟨z1, z2, z3⟩, z4⟩ := f6 rfl
      obtain ⟨A1'', x'', A3, B3, g1, g2, g3, g4, g5, g6, g7⟩ := ArS_s (ty' := A2 4 11) hC hM hN j0 c0 c1 f5 (by omega) (by omega) (by omega)
      rw [show 12 * (210 + c) + 5 + 2 * (0 + 1 + 1) = 12 * (210 + c) + 9 by omega, if_neg (by omega), z1] at g4
      rw [g4, ob] at ml
      rw [op_step (by omega) (by omega) (w2 _) g1 (by rw [g2]; exact g3), op_stop (x := x'') (k := 0 + 1 + 1 + 1) (Or.inl (by omega))] at cl
      refine ⟨x'', A3, B3, _, cl, ml, by rw [ac]; exact g5, fun z => ?_⟩
      obtain ⟨⟨y1, y2, y3⟩, y4⟩ := e6 rfl
      obtain ⟨⟨s1, s2, s3⟩, s4⟩ := g6 z
      have s5 := s4 (by omega)
      have q0 := y4 (by omega)
      have h0 := f7 0 (by omega) (by omega)
      have h0' := g7 0 (by omega) (by omega)
      have h1' := g7 (0 + 1) (by omega) (by omega)
      unfold ArE OpTr
      refine ⟨⟨fun _ => by omega, fun _ _ => by omega, fun _ => ⟨by rw [h0', h0, ← y3, q0], ?_, ?_⟩, fun _ => by omega, fun _ => by omega, fun _ _ => by omega⟩, by omega, fun _ h => by rw [← z1]; exact z4 h, fun _ => by omega, fun _ => by omega⟩
      · rw [show (1 : Int) = 0 + 1 by decide, h1', ← z3, z1]
      · rw [show (2 : Int) = 0 + 1 + 1 by decide, ← s3, s5, z1]
    · obtain ⟨g1, g2, g3⟩ := ArS_f (k' := argc 13) f5 x1
      rw [op_stop (Or.inr x1)] at cl
      rw [m_takeArg8 (by omega), ob] at ml
      exact ⟨x', A2, B2, _, cl, ml, g1, fun z => absurd z x1⟩
  · obtain ⟨g1, g2, g3⟩ := ArS_f (k' := argc 13) e5 x0
    rw [op_stop (Or.inr x0)] at cl
    obtain ⟨md, hm⟩ := mRest8 (b := 12 * (210 + c)) (v := 13) (q := if p2 = 2 then 3 else p2) (M := B') (by omega)
    rw [hm] at ml
    exact ⟨x, A', B', md, cl, ml, g1, fun z => absurd z x0⟩
theorem r_args {A0 B0 : Mem} {t : Nat} {T : Int → Int} {n N c m j v p2 : Int} (hC : CK A0 t T n) (hM : MK B0 T n N) (hN : NmR A0 B0 m) (j0 : 0 ≤ j) (c0 : 0 ≤ c) (c1 : c < 200) (hA : A0 1 3 = te T n (pos T n j)) (h7 : B0 132 7 = j + 1) (h8 : B0 132 8 = 0) (jN : j + 1 ≤ N) (hp : p2 = 0 ∨ p2 = 1 ∨ p2 = 2) (v2 : 2 ≤ v) (v14 : v ≤ 14) : ∃ x A' B' md, lp (fX6_readOp_b1 c p2 v) (0, 0, A0) = some (x, A') ∧ mArgs (12 * (210 + c)) v (if p2 = 2 then 3 else p2) B0 = some (md, B') ∧ ArS A0 B0 A' B' t T n N c m j (argc v) x ∧ (x = 0 → ArE A0 A' t c v p2 md) := by
  by_cases h1 : v = 7 ∨ v = 12 ∨ v = 14
  · exact r_args1 hC hM hN j0 c0 c1 hA h7 h8 jN hp h1
  · by_cases h2 : v = 13
    · subst h2
      exact r_args3 hC hM hN j0 c0 c1 hA h7 h8 jN hp
    · exact r_args2 hC hM hN j0 c0 c1 hA h7 h8 jN v2 (by omega) (by omega)
