set_option maxHeartbeats 4000000 in
set_option maxRecDepth 20000 in
theorem m_gather {M D : Mem} (hD : DW D) (md : MD M D) (hp : pc (D 0 1) ≤ 12) : ∃ r, lp fX12_best_b1 (0, 0, M) = some r ∧ (∀ b, b ≠ 171 → r b = M b) ∧ Gat (D 0 1) 64 (r 171) := by
  have n0 := hD.1
  have n1 := hD.2.1
  have hN := hD.2.2.2.2.1
  refine lp_ind (fun s : Int × Int × Mem => 0 ≤ s.2.1 ∧ s.2.1 ≤ D 0 0 ∧ (∀ b, b ≠ 171 → s.2.2 b = M b) ∧ s.1 = rk (D 0 1) s.2.1 ∧ Gat (D 0 1) s.2.1 (s.2.2 171)) (fun r : Mem => (∀ b, b ≠ 171 → r b = M b) ∧ Gat (D 0 1) 64 (r 171)) (fun s => (D 0 0 - s.2.1).toNat) ?_ _ ?_
  · rintro ⟨x, v, q⟩ ⟨v0, v1, hfr, hx, hG⟩
    dsimp only at v0 v1 hfr hx hG
    unfold fX12_best_b1
    dsimp only
    rw [s_X12_values, ob]
    dsimp only
    have e8 : q 138 8 = D 0 0 := by rw [hfr 138 (by omega)]; exact md.1
    simp only [e8]
    by_cases hv : D 0 0 ≤ v
    · rw [if_pos hv]
      refine Or.inr ⟨q, rfl, hfr, (Gat_all v0 (by omega) hG (fun u a b => ?_)).1⟩
      by_cases z : tb (D 0 1) u = true
      · have := hN u (by omega) b z; omega
      · simpa using z
    · rw [if_neg hv, hfr 132 (by omega), md.2.1, s_X12_has v0 (by omega), ob]
      dsimp only
      have rp := rk_pos (D 0 1) v v0
      by_cases z : tb (D 0 1) v = true
      · have lt := rk_lt v0 (by omega) z
        rw [if_pos z, if_neg (show ¬ (1 : Int) = 0 by decide), hx, st171 _ _ _ rp (by omega), ob, ob]
        dsimp only
        rw [w32_id (by omega) (by omega), w32_id (by omega) (by omega)]
        refine Or.inl ⟨_, rfl, ⟨by dsimp only; omega, by dsimp only; omega, fun b b1 => by dsimp only; rw [wr_ne b1, hfr b b1], ?_, Gat_s v0 z hG (fun k => ?_)⟩, by dsimp only; omega⟩
        · dsimp only; rw [rk_s v0, if_pos z]
        · dsimp only; rw [wr_at]
      · rw [if_neg z, if_pos rfl, ob]
        dsimp only
        rw [w32_id (by omega) (by omega)]
        refine Or.inl ⟨_, rfl, ⟨by dsimp only; omega, by dsimp only; omega, hfr, ?_, Gat_n v0 z hG⟩, by dsimp only; omega⟩
        dsimp only; rw [hx, rk_s v0, if_neg z]; omega
  · exact ⟨Int.le_refl _, n0, fun b _ => rfl, (rk_0 _).symm, Gat_0 _ _⟩
/-- a set of few as one of values -/
def DnS (mem : Int → Int) (m S d : Int) : Prop := ∀ i, 0 ≤ i → i < 64 → (tb d i = true ↔ ∃ j, 0 ≤ j ∧ j < m ∧ t3 S j = true ∧ mem j = i)
set_option maxHeartbeats 4000000 in
set_option maxRecDepth 20000 in
theorem m_done {M : Mem} {m S : Int} (m0 : 0 ≤ m) (m1 : m ≤ 12) (hm : ∀ k, 0 ≤ k → k < m → 0 ≤ M 171 k ∧ M 171 k < 64) : ∃ d, lp (fX12_comesBehind_b1 M S m) (0, 0) = some d ∧ DnS (M 171) m S d := by
  refine lp_ind (fun s : Int × Int => 0 ≤ s.2 ∧ s.2 ≤ m ∧ DnS (M 171) s.2 S s.1) (fun r : Int => DnS (M 171) m S r) (fun s => (m - s.2).toNat) ?_ _ ?_
  · rintro ⟨d, k⟩ ⟨k0, k1, hd⟩
    dsimp only at k0 k1 hd
    unfold fX12_comesBehind_b1
    dsimp only
    by_cases hkm : m ≤ k
    · rw [if_pos hkm]
      have : k = m := by omega
      subst this
      exact Or.inr ⟨d, rfl, hd⟩
    · have q := hm k k0 (by omega)
      rw [if_neg hkm, bitS k0 (by omega)]
      by_cases hb : t3 S k = true
      · rw [if_pos hb, if_pos rfl, ld171 _ _ k0 (by omega), ob, ob, ob, w32_id (by omega) (by omega)]
        refine Or.inl ⟨_, rfl, ⟨by dsimp only; omega, by dsimp only; omega, fun i i0 i1 => ?_⟩, by dsimp only; omega⟩
        dsimp only
        rw [tb_ins q.1 q.2 i0 i1, hd i i0 i1]
        constructor
        · rintro (⟨j, j0, j1, j2, j3⟩ | z)
          · exact ⟨j, j0, by omega, j2, j3⟩
          · exact ⟨k, k0, by omega, hb, z.symm⟩
        · rintro ⟨j, j0, j1, j2, j3⟩
          by_cases e : j = k
          · right; rw [← j3, e]
          · exact Or.inl ⟨j, j0, by omega, j2, j3⟩
      · rw [if_neg hb, if_neg (show ¬ (0 : Int) = 1 by decide), ob, ob, w32_id (by omega) (by omega)]
        refine Or.inl ⟨_, rfl, ⟨by dsimp only; omega, by dsimp only; omega, fun i i0 i1 => ?_⟩, by dsimp only; omega⟩
        dsimp only
        rw [tb_lor, tb_0, Bool.or_false, hd i i0 i1]
        constructor
        · rintro ⟨j, j0, j1, j2, j3⟩
          exact ⟨j, j0, by omega, j2, j3⟩
        · rintro ⟨j, j0, j1, j2, j3⟩
          by_cases e : j = k
          · rw [e] at j2; exact absurd j2 hb
          · exact ⟨j, j0, by omega, j2, j3⟩
  · exact ⟨Int.le_refl _, m0, fun i i0 i1 => by
      dsimp only
      rw [tb_0]
      constructor
      · intro z; cases z
      · rintro ⟨j, j0, j1, -⟩; omega⟩
theorem done_sub {D : Mem} {mem : Int → Int} {m S d x s : Int} (hG : Gat (D 0 1) 64 mem) (hm : m = pc (D 0 1)) (m1 : m ≤ 12) (hd : DnS mem m S d) (hs : AsS m mem x s) (hx : ∀ i, 0 ≤ i → i < 64 → tb x i = true → tb (D 0 1) i = true) : lc (land x (lxor d (-1))) 0 = 0 ↔ iand s (ixor S (-1)) = 0 := by
  rw [subS, sub3]
  constructor
  · intro h j j0 j1 hj
    obtain ⟨a, b⟩ := (hs.2 j j0 j1).mp hj
    obtain ⟨x1, x2, x3, x4⟩ := hG.2 j j0 (by rw [rk_pc, ← hm]; exact a)
    obtain ⟨i, i0, i1, i2, i3⟩ := (hd _ x1 x2).mp (h _ x1 x2 b)
    obtain ⟨y1, y2, y3, y4⟩ := hG.2 i i0 (by rw [rk_pc, ← hm]; exact i1)
    rw [i3] at y4
    have : i = j := by omega
    rw [← this]; exact i2
  · intro h i i0 i1 hi
    have hN := hx i i0 i1 hi
    have lt := rk_lt i0 i1 hN
    have rp := rk_pos (D 0 1) i i0
    have e := hG.1 i i0 i1 hN
    have := h (rk (D 0 1) i) rp (by omega) ((hs.2 _ rp (by omega)).mpr ⟨by omega, by rw [e]; exact hi⟩)
    exact (hd i i0 i1).mpr ⟨_, rp, by omega, this, e⟩
/-- what the model has in hand for it -/
def MFew (M D : Mem) (mem us ss : Int → Int) (m : Int) : Prop := MD M D ∧ m = pc (D 0 1) ∧ m ≤ 12 ∧ Gat (D 0 1) 64 mem ∧ (∀ k, 0 ≤ k → k < m → M 171 k = mem k) ∧ ∀ k, 0 ≤ k → k < m → AsS m mem (D 4 (mem k)) (ss k) ∧ AsS m mem (D 5 (mem k)) (us k)
theorem MFew_b {M D : Mem} {mem us ss : Int → Int} {m : Int} (hD : DW D) (h : MFew M D mem us ss m) : (∀ k, 0 ≤ k → k < m → 0 ≤ mem k ∧ mem k < D 0 0) ∧ (∀ k, 0 ≤ k → k < m → ∀ i, 0 ≤ i → i < 64 → tb (D 4 (mem k)) i = true → tb (D 0 1) i = true) ∧ ∀ k, 0 ≤ k → k < m → ∀ i, 0 ≤ i → i < 64 → tb (D 5 (mem k)) i = true → tb (D 0 1) i = true := by
  obtain ⟨-, hm, m1, hG, -⟩ := h
  have mb : ∀ k, 0 ≤ k → k < m → 0 ≤ mem k ∧ mem k < D 0 0 := fun k a b => by
    obtain ⟨x, y, z, -⟩ := hG.2 k a (by rw [rk_pc, ← hm]; exact b)
    exact ⟨x, hD.2.2.2.2.1 _ x y z⟩
  refine ⟨mb, fun k a b i i0 i1 hi => ?_, fun k a b i i0 i1 hi => ?_⟩
  · obtain ⟨x, y, z, -⟩ := hG.2 k a (by rw [rk_pc, ← hm]; exact b)
    exact ((hD.2.2.2.2.2.2.2.2 _ (mb k a b).1 (mb k a b).2).2.2.2.1.2 i i0 i1 hi).2 z
  · exact (((hD.2.2.2.2.2.2.2.2 _ (mb k a b).1 (mb k a b).2).2.2.2.2.1.2 i i0 i1).mp hi).2.1
theorem DnS_cg {mem mem' : Int → Int} {m S d : Int} (h : DnS mem' m S d) (e : ∀ k, 0 ≤ k → k < m → mem' k = mem k) : DnS mem m S d := by
  intro i i0 i1
  rw [h i i0 i1]
  constructor
  · rintro ⟨j, a, b, c, d⟩; exact ⟨j, a, b, c, by rw [← e j a b]; exact d⟩
  · rintro ⟨j, a, b, c, d⟩; exact ⟨j, a, b, c, by rw [e j a b]; exact d⟩
set_option maxHeartbeats 4000000 in
set_option maxRecDepth 20000 in
theorem s_X12_comesBehind {M D : Mem} {mem us ss : Int → Int} {m S k : Int} (hD : DW D) (h : MFew M D mem us ss m) (k0 : 0 ≤ k) (k1 : k < m) : fX12_comesBehind S k m M = some (if iand (ss k) (ixor S (-1)) = 0 then 1 else 0, M) := by
  obtain ⟨mb, h4, h5⟩ := MFew_b hD h
  obtain ⟨md, hm, m1, hG, h171, hA⟩ := h
  have n1 := hD.2.1
  obtain ⟨d, f, hd⟩ := m_done (M := M) (S := S) (m := m) (by omega) m1 (fun j a b => by rw [h171 j a b]; have := mb j a b; omega)
  have hd' := DnS_cg hd h171
  have b := mb k k0 k1
  unfold fX12_comesBehind
  rw [f, ob, ld171 _ _ k0 (by omega), ob, h171 k k0 k1, ld159 _ _ b.1 (by omega), ob, (md.2.2.2.2.2 _ b.1 b.2).2.2.2.1]
  have key := done_sub hG hm m1 hd' (hA k k0 k1).1 (h4 k k0 k1)
  by_cases z : iand (ss k) (ixor S (-1)) = 0
  · rw [if_pos (key.mpr z), if_pos z, ob, rz1]
  · rw [if_neg (fun y => z (key.mp y)), if_neg z, ob, rz0]
theorem lvIn_b1 : fX12_livesIn_b1 = fX12_comesBehind_b1 := by
  funext M p1 p2 s
  unfold fX12_livesIn_b1 fX12_comesBehind_b1
  rfl
set_option maxHeartbeats 4000000 in
set_option maxRecDepth 20000 in
theorem s_X12_livesIn {M D : Mem} {mem us ss : Int → Int} {m S : Int} (hD : DW D) (h : MFew M D mem us ss m) : fX12_livesIn S m M = some (lv D mem us m S, M) := by
  obtain ⟨mb, h4, h5⟩ := MFew_b hD h
  obtain ⟨md, hm, m1, hG, h171, hA⟩ := h
  have n1 := hD.2.1
  have m0 : 0 ≤ m := by rw [hm]; exact (pc_bd _).1
  obtain ⟨d, f, hd⟩ := m_done (M := M) (S := S) (m := m) (by omega) m1 (fun j a b => by rw [h171 j a b]; have := mb j a b; omega)
  have hd' := DnS_cg hd h171
  unfold fX12_livesIn
  rw [lvIn_b1, f, ob]
  have L : ∃ r, lp (fX12_livesIn_b2 m d) (0, 0, M) = some r ∧ r = (lv D mem us m S, M) := by
    refine lp_ind (fun s : Int × Int × Mem => 0 ≤ s.2.1 ∧ s.2.1 ≤ m ∧ s.2.2 = M ∧ s.1 = sm (lvT D mem us S) s.2.1.toNat) (fun r : Int × Mem => r = (lv D mem us m S, M)) (fun s => (m - s.2.1).toNat) ?_ _ ?_
    · rintro ⟨x, k, q⟩ ⟨k0, k1, hq, hx⟩
      dsimp only at k0 k1 hq hx
      subst hq
      unfold fX12_livesIn_b2
      dsimp only
      by_cases hkm : m ≤ k
      · rw [if_pos hkm]
        have : k = m := by omega
        subst this
        exact Or.inr ⟨_, rfl, by rw [hx]; rfl⟩
      · rw [if_neg hkm]
        have b := mb k k0 (by omega)
        have bd := lv_bd (us := us) (S := S) hD m0 m1 mb (k := k.toNat) (by omega)
        have bd1 := lv_bd (us := us) (S := S) hD m0 m1 mb (k := (k + 1).toNat) (by omega)
        have go : ∀ y, y = lvT D mem us S k → ∃ s', (some (Sum.inl (w32 (x + y), w32 (k + 1), q)) : Option ((Int × Int × Mem) ⊕ (Int × Mem))) = some (Sum.inl s') ∧ (0 ≤ s'.2.1 ∧ s'.2.1 ≤ m ∧ s'.2.2 = q ∧ s'.1 = sm (lvT D mem us S) s'.2.1.toNat) ∧ (m - s'.2.1).toNat < (m - k).toNat := by
          intro y hy
          have e : x + y = sm (lvT D mem us S) (k + 1).toNat := by rw [sm_s k0, hx, hy]
          rw [w32_id (show -2147483648 ≤ k + 1 by omega) (by omega), e, w32_id (by omega) (by omega)]
          exact ⟨_, rfl, ⟨by dsimp only; omega, by dsimp only; omega, rfl, rfl⟩, by dsimp only; omega⟩
        left
        have hin : tb d (mem k) = true ↔ t3 S k = true := by
          rw [hd' _ b.1 (by omega)]
          constructor
          · rintro ⟨j, j0, j1, j2, j3⟩
            obtain ⟨-, -, -, y4⟩ := hG.2 j j0 (by rw [rk_pc, ← hm]; exact j1)
            obtain ⟨-, -, -, z4⟩ := hG.2 k k0 (by rw [rk_pc, ← hm]; omega)
            rw [j3, z4] at y4
            rw [y4]; exact j2
          · exact fun z => ⟨k, k0, by omega, z, rfl⟩
        rw [ld171 _ _ k0 (by omega), ob, h171 k k0 (by omega), s_X12_has b.1 (by omega), ob]
        dsimp only
        by_cases hb : t3 S k = true
        · rw [if_pos (hin.mpr hb), if_neg (show ¬ (1 : Int) = 0 by decide), md.2.2.1, s_X12_has b.1 (by omega), ob]
          dsimp only
          by_cases hk : tb (D 0 2) (mem k) = true
          · rw [if_pos hk, if_neg (show ¬ (1 : Int) = 0 by decide), s_X12_width hD md b.1 b.2, ob, ob, ob]
            exact go _ (by unfold lvT; rw [if_pos ⟨hb, Or.inl hk⟩])
          · rw [if_neg hk, if_pos rfl, ld160 _ _ b.1 (by omega), ob, (md.2.2.2.2.2 _ b.1 b.2).2.2.2.2.1]
            have key := done_sub hG hm m1 hd' (hA k k0 (by omega)).2 (h5 k k0 (by omega))
            by_cases hu : iand (us k) (ixor S (-1)) = 0
            · rw [if_pos (key.mpr hu), ob, ob]
              exact go 0 (by unfold lvT; rw [if_neg (fun z => z.2.elim hk (fun y => y hu))])
            · rw [if_neg (fun z => hu (key.mp z)), s_X12_width hD md b.1 b.2, ob, ob, ob]
              exact go _ (by unfold lvT; rw [if_pos ⟨hb, Or.inr hu⟩])
        · rw [if_neg (fun z => hb (hin.mp z)), if_pos rfl, ob, ob]
          exact go 0 (by unfold lvT; rw [if_neg (fun z => hb z.1)])
    · exact ⟨Int.le_refl _, m0, rfl, rfl⟩
  obtain ⟨r, f2, hr⟩ := L
  rw [f2, ob, hr]
