/-! BOTH AT A TOKEN -/
def wrd (x y : Int) : Prop := ∃ (a : Int → Int) (l : Nat), l ≤ 7 ∧ (∀ i : Int, 0 ≤ i → i < l → 1 ≤ a i ∧ a i ≤ 26) ∧ x = cdS 32 a l ∧ y = cdS 27 a l
theorem wrd_iff {x y x' y' : Int} (h : wrd x y) (h' : wrd x' y') : x = x' ↔ y = y' := by
  obtain ⟨a, l, l7, ha, rfl, rfl⟩ := h
  obtain ⟨b, k, k7, hb, rfl, rfl⟩ := h'
  exact (cd_iff ha hb).symm
theorem wrd_bd {x y : Int} (h : wrd x y) : (0 ≤ x ∧ x ≤ 34359738368) ∧ 0 ≤ y ∧ y ≤ 34359738368 := by
  obtain ⟨a, l, l7, ha, rfl, rfl⟩ := h
  have h1 := cd_lt (B := 32) (a := a) (by omega) l (fun i x y => by have := ha i x y; omega)
  have h2 := cd_lt (B := 27) (a := a) (by omega) l (fun i x y => by have := ha i x y; omega)
  have p1 := pw32 l7
  have p2 := pw27 l7
  omega
theorem wrd_i {x y : Int} (h : wrd x y) : i64 x ∧ i64 y := by
  have := wrd_bd h
  exact ⟨⟨by omega, by omega⟩, ⟨by omega, by omega⟩⟩
theorem wrd_res {w : Int} (h0 : 0 ≤ w) (h1 : w < 23) : wrd (cdS 32 (ra w) (rl w)) (cdS 27 (ra w) (rl w)) := ⟨ra w, rl w, (res_ok h0 h1).2.1, res_let h0 h1, rfl, rfl⟩
/-- what is fixed while a text is read; the class's part, the reference's part -/
def CK (A : Mem) (t : Nat) (T : Int → Int) (n : Int) : Prop := (t = 5 ∨ t = 119) ∧ A 4 1 = t ∧ CTp A T n ∧ ∀ w, 0 ≤ w → w < 23 → A 3 w = cdS 32 (ra w) (rl w)
def MK (B : Mem) (T : Int → Int) (n N : Int) : Prop := MTks B T n N ∧ n ≤ 1000 ∧ ∀ w, 0 ≤ w → w < 23 → B 137 w = cdS 27 (ra w) (rl w)
theorem CK_fr {A A' : Mem} {t : Nat} {T : Int → Int} {n : Int} (h : CK A t T n) (e1 : A' 1 2 = A 1 2) (e2 : A' 2 = A 2) (e3 : A' 3 = A 3) (e4 : A' 4 1 = A 4 1) : CK A' t T n := by
  unfold CK CTp
  rw [e1, e2, e3, e4]; exact h
theorem MK_fr {B B' : Mem} {T : Int → Int} {n N : Int} (h : MK B T n N) (e1 : B' 134 = B 134) (e2 : B' 135 = B 135) (e3 : B' 136 = B 136) (e4 : B' 137 = B 137) : MK B' T n N := by
  unfold MK MTks MTk
  rw [e1, e2, e3, e4]; exact h
theorem ty_cases (T : Int → Int) (n p : Int) : ty T n p = 0 ∨ ty T n p = 1 ∨ ty T n p = 2 ∨ ty T n p = 3 ∨ ty T n p = 4 := by
  unfold ty
  repeat' split
  all_goals omega
theorem ty_0 {T : Int → Int} {n p : Int} (h : ty T n p = 0) : n ≤ p := by
  unfold ty at h
  by_cases h1 : n ≤ p
  · exact h1
  · rw [if_neg h1] at h
    exfalso
    revert h
    repeat' split
    all_goals omega
/-- kinds of the class against sorts of the reference -/
theorem kd_rel {A : Mem} {T : Int → Int} {n p : Int} (h : CAt A T n p) : (A 1 4 = 0 ↔ ty T n p = 0) ∧ (A 1 4 = 1 ↔ ty T n p = 4) ∧ (A 1 4 = 2 ↔ ty T n p = 2) ∧ (A 1 4 = 3 ↔ ty T n p = 3) ∧ (A 1 4 = 4 ∨ A 1 4 = 5 ↔ ty T n p = 1) ∧ 0 ≤ A 1 4 ∧ A 1 4 ≤ 5 := by
  obtain ⟨-, -, h0, h4, h2, h3, h1⟩ := h
  rcases ty_cases T n p with e | e | e | e | e
  · have := h0 e; omega
  · rcases (h1 e).2 with z | z
    · have := z.1; omega
    · have := z.1; omega
  · have := (h2 e).1; omega
  · have := h3 e; omega
  · have := h4 e; omega
/-- both stand at token j -/
def AtB (A B : Mem) (T : Int → Int) (n N j : Int) : Prop := CAt A T n (pos T n j) ∧ B 132 7 = j ∧ 0 ≤ j ∧ j ≤ N ∧ B 132 8 = 0
theorem tk_wrd {A B : Mem} {T : Int → Int} {n N j : Int} (hM : MK B T n N) (h : AtB A B T n N j) (h1 : ty T n (pos T n j) = 1) : wrd (A 1 7) (B 136 j) := by
  obtain ⟨hA, -, j0, j1, -⟩ := h
  have n0 : 0 ≤ n := by have := hM.1.1; have := hM.1.2.1; omega
  have pb := pos_b T (n := n) (j := j) n0
  refine ⟨let_ T (pos T n j), (te T n (pos T n j) - pos T n j).toNat, ?_, let_ok pb.2 h1, (hA.2.2.2.2.2.2 h1).1, (hM.1.2.2.2.2 j j0 j1).2.2.1 h1⟩
  have := (ty_1 h1).2.2.2
  omega
theorem c_advance {A : Mem} {t : Nat} {T : Int → Int} {n j : Int} (hC : CK A t T n) (j0 : 0 ≤ j) (h : A 1 3 = te T n (pos T n j)) : ∃ A', fX8_advance A = some A' ∧ F1 A A' ∧ CAt A' T n (pos T n (j + 1)) := by
  obtain ⟨-, -, hT, h3⟩ := hC
  have pb := pos_b T (n := n) (j := j) hT.2.1
  have tb := te_bd (T := T) pb.2
  obtain ⟨r, f, fr, a⟩ := s_X8_advance hT h3 (by rw [h]; omega) (by rw [h]; exact tb.2.1)
  refine ⟨r, f, fr, ?_⟩
  rw [pos_s T n j0, ← h]; exact a
theorem CK_F1 {A A' : Mem} {t : Nat} {T : Int → Int} {n : Int} (h : CK A t T n) (f : F1 A A') : CK A' t T n := CK_fr h f.2 (f.1 2 (by omega)) (f.1 3 (by omega)) (by rw [f.1 4 (by omega)])
/-- a fault here -/
theorem c_fault {A : Mem} {T : Int → Int} {n j k : Int} (hA : CAt A T n (pos T n j)) (n0 : 0 ≤ n) (n1 : n ≤ 1000) (k0 : 1 ≤ k) (k1 : k ≤ 6) : fX6_faultHere k A = some (k + 16 * pos T n j, A) := by
  have pb := pos_b T (n := n) (j := j) n0
  unfold fX6_faultHere
  rw [hA.1, w32_id (show -2147483648 ≤ 16 * pos T n j by omega) (by omega), w32_id (by omega) (by omega)]
theorem m_wrong {B : Mem} {T : Int → Int} {n N j k : Int} (hM : MK B T n N) (h7 : B 132 7 = j) (j0 : 0 ≤ j) (j1 : j ≤ N) (h8 : B 132 8 = 0) (k0 : 1 ≤ k) (k1 : k ≤ 6) : fX12_wrong k B = some (wr B 132 8 (k + 16 * pos T n j)) := by
  have n0 : 0 ≤ n := by have := hM.1.1; have := hM.1.2.1; omega
  have nN := hM.1.2.1
  have n1 := hM.2.1
  have pb := pos_b T (n := n) (j := j) n0
  unfold fX12_wrong
  simp only [h8, if_true]
  rw [h7, ld135 _ _ j0 (by omega), ob, pI_ok, ob, ob, (hM.1.2.2.2.2 j j0 j1).1, w32_id (show -2147483648 ≤ 16 * pos T n j by omega) (by omega), w32_id (by omega) (by omega)]
theorem m_wrong8 {B : Mem} {k : Int} (h8 : B 132 8 ≠ 0) : fX12_wrong k B = some B := by
  unfold fX12_wrong
  rw [if_neg h8, ob]
theorem flt_pos {T : Int → Int} {n j k : Int} (n0 : 0 ≤ n) (k0 : 1 ≤ k) : 0 < k + 16 * pos T n j := by
  have pb := pos_b T (n := n) (j := j) n0
  omega
theorem m_isWord {A B : Mem} {t : Nat} {T : Int → Int} {n N j w : Int} (hC : CK A t T n) (hM : MK B T n N) (h : AtB A B T n N j) (w0 : 0 ≤ w) (w1 : w < 23) : fX12_isWord w B = some (if A 1 4 = 5 ∧ A 1 6 = w then 1 else 0, B) := by
  have kr := kd_rel h.1
  obtain ⟨hA, h7, j0, j1, h8⟩ := id h
  have nN := hM.1.2.1
  have n1 := hM.2.1
  unfold fX12_isWord
  simp only [h8, if_true]
  rw [h7, ld134 _ _ j0 (by omega), ob, (hM.1.2.2.2.2 j j0 j1).2.1]
  by_cases e1 : ty T n (pos T n j) = 1
  · have wt := tk_wrd hM h e1
    have wr' := wrd_res w0 w1
    rw [if_pos e1, ld136 _ _ j0 (by omega), ob, ld137 _ _ w0 (by omega), ob]
    have key : lc (B 136 j) (B 137 w) = 0 ↔ A 1 4 = 5 ∧ A 1 6 = w := by
      rw [hM.2.2 w w0 w1, lc_eq (wrd_i wt).2 (wrd_i wr').2, ← wrd_iff wt wr']
      constructor
      · intro z
        rcases (hA.2.2.2.2.2.2 e1).2 with ⟨a, b, c, d⟩ | ⟨a, b⟩
        · refine ⟨a, ?_⟩
          rw [hC.2.2.2 _ b c] at d
          exact res_dis b c w0 w1 (by rw [d, z])
        · exact absurd (by rw [hC.2.2.2 w w0 w1, z]) (b w w0 w1)
      · rintro ⟨a, b⟩
        rcases (hA.2.2.2.2.2.2 e1).2 with ⟨x1, x2, x3, x4⟩ | ⟨x1, x2⟩
        · rw [← x4, b, hC.2.2.2 w w0 w1]
        · omega
    by_cases z : A 1 4 = 5 ∧ A 1 6 = w
    · rw [if_pos (key.mpr z), ob, if_pos z, rz1]
    · rw [if_neg (fun y => z (key.mp y)), ob, if_neg z, rz0]
  · rw [if_neg e1, ob, if_neg (fun z => e1 (kr.2.2.2.2.1.mp (Or.inr z.1))), rz0]
theorem m_isWord8 {B : Mem} {w : Int} (h8 : B 132 8 ≠ 0) : fX12_isWord w B = some (0, B) := by
  unfold fX12_isWord
  rw [if_neg h8, ob, rz0]
set_option maxHeartbeats 4000000 in
set_option maxRecDepth 20000 in
theorem m_wordHere {A B : Mem} {t : Nat} {T : Int → Int} {n N j f m : Int} (hC : CK A t T n) (hM : MK B T n N) (h : AtB A B T n N j) (f0 : 0 ≤ f) (m0 : 0 ≤ m) (fm : f + m ≤ 23) : fX12_wordHere f m B = some (if A 1 4 = 5 ∧ f ≤ A 1 6 ∧ A 1 6 < f + m then A 1 6 - f else -1, B) := by
  unfold fX12_wordHere
  have L : ∃ r, lp (fX12_wordHere_b1 f m) (-1, 0, B) = some r ∧ r = (if A 1 4 = 5 ∧ f ≤ A 1 6 ∧ A 1 6 < f + m then A 1 6 - f else -1, B) := by
    refine lp_ind (fun s : Int × Int × Mem => 0 ≤ s.2.1 ∧ s.2.1 ≤ m ∧ s.2.2 = B ∧ s.1 = if A 1 4 = 5 ∧ f ≤ A 1 6 ∧ A 1 6 < f + s.2.1 then A 1 6 - f else -1) (fun r : Int × Mem => r = (if A 1 4 = 5 ∧ f ≤ A 1 6 ∧ A 1 6 < f + m then A 1 6 - f else -1, B)) (fun s => (m - s.2.1).toNat) ?_ _ ?_
    · rintro ⟨x, k, q⟩ ⟨k0, k1, hq, hx⟩
      dsimp only at k0 k1 hq hx
      subst hq
      unfold fX12_wordHere_b1
      dsimp only
      by_cases hk : m ≤ k
      · rw [if_pos hk]
        have : k = m := by omega
        subst this
        exact Or.inr ⟨_, rfl, by rw [hx]⟩
      · rw [if_neg hk, w32_id (show -2147483648 ≤ f + k by omega) (by omega), m_isWord hC hM h (by omega) (by omega), ob, w32_id (by omega) (by omega)]
        by_cases z : A 1 4 = 5 ∧ A 1 6 = f + k
        · rw [if_pos z, if_neg (show ¬ (1 : Int) = 0 by decide), ob]
          refine Or.inl ⟨_, rfl, ⟨by dsimp only; omega, by dsimp only; omega, rfl, ?_⟩, by dsimp only; omega⟩
          dsimp only
          rw [if_pos ⟨z.1, by omega, by omega⟩]; omega
        · rw [if_neg z, if_pos rfl, ob]
          refine Or.inl ⟨_, rfl, ⟨by dsimp only; omega, by dsimp only; omega, rfl, ?_⟩, by dsimp only; omega⟩
          dsimp only
          rw [hx]
          by_cases y : A 1 4 = 5 ∧ f ≤ A 1 6 ∧ A 1 6 < f + k
          · rw [if_pos y, if_pos ⟨y.1, y.2.1, by omega⟩]
          · rw [if_neg y, if_neg (fun u => by
              by_cases v : A 1 6 = f + k
              · exact z ⟨u.1, v⟩
              · exact y ⟨u.1, u.2.1, by omega⟩)]
    · refine ⟨Int.le_refl _, m0, rfl, ?_⟩
      dsimp only
      rw [if_neg (by omega)]
  obtain ⟨r, g, hr⟩ := L
  rw [g, ob, hr]
set_option maxHeartbeats 4000000 in
set_option maxRecDepth 20000 in
theorem m_wordHere8 {B : Mem} {f m : Int} (h8 : B 132 8 ≠ 0) (m0 : 0 ≤ m) (m1 : m ≤ 23) : fX12_wordHere f m B = some (-1, B) := by
  unfold fX12_wordHere
  have L : ∃ r, lp (fX12_wordHere_b1 f m) (-1, 0, B) = some r ∧ r = (-1, B) := by
    refine lp_ind (fun s : Int × Int × Mem => 0 ≤ s.2.1 ∧ s.2.1 ≤ m ∧ s.2.2 = B ∧ s.1 = -1) (fun r : Int × Mem => r = (-1, B)) (fun s => (m - s.2.1).toNat) ?_ _ ?_
    · rintro ⟨x, k, q⟩ ⟨k0, k1, hq, hx⟩
      dsimp only at k0 k1 hq hx
      subst hq
      unfold fX12_wordHere_b1
      dsimp only
      by_cases hk : m ≤ k
      · rw [if_pos hk]
        exact Or.inr ⟨_, rfl, by rw [hx]⟩
      · rw [if_neg hk, m_isWord8 h8, ob, if_pos rfl, ob, w32_id (by omega) (by omega)]
        exact Or.inl ⟨_, rfl, ⟨by dsimp only; omega, by dsimp only; omega, rfl, hx⟩, by dsimp only; omega⟩
    · exact ⟨Int.le_refl _, m0, rfl, rfl⟩
  obtain ⟨r, g, hr⟩ := L
  rw [g, ob, hr]
theorem m_isName {A B : Mem} {t : Nat} {T : Int → Int} {n N j : Int} (hC : CK A t T n) (hM : MK B T n N) (h : AtB A B T n N j) : fX12_isName B = some (if A 1 4 = 4 then 1 else 0, B) := by
  have kr := kd_rel h.1
  obtain ⟨hA, h7, j0, j1, h8⟩ := id h
  have nN := hM.1.2.1
  have n1 := hM.2.1
  unfold fX12_isName
  simp only [h8, if_true]
  rw [h7, ld134 _ _ j0 (by omega), ob, (hM.1.2.2.2.2 j j0 j1).2.1]
  by_cases e1 : ty T n (pos T n j) = 1
  · rw [if_pos e1, m_wordHere hC hM h (by omega) (by omega) (by omega), ob]
    dsimp only
    rcases (hA.2.2.2.2.2.2 e1).2 with ⟨a, b, c, d⟩ | ⟨a, b⟩
    · have e : (if A 1 4 = 5 ∧ 0 ≤ A 1 6 ∧ A 1 6 < 0 + 23 then A 1 6 - 0 else -1) = A 1 6 := by rw [if_pos ⟨a, by omega, by omega⟩]; omega
      simp only [e]
      rw [if_pos b, ob, if_neg (by omega), rz0]
    · have e : (if A 1 4 = 5 ∧ 0 ≤ A 1 6 ∧ A 1 6 < 0 + 23 then A 1 6 - 0 else -1) = -1 := by rw [if_neg (fun z => by have := z.1; omega)]
      simp only [e]
      rw [if_neg (by omega), ob, if_pos a, rz1]
  · rw [if_neg e1, ob, if_neg (fun z => e1 (kr.2.2.2.2.1.mp (Or.inl z))), rz0]
theorem m_isName8 {B : Mem} (h8 : B 132 8 ≠ 0) : fX12_isName B = some (0, B) := by
  unfold fX12_isName
  rw [if_neg h8, ob, rz0]
/-! names told -/
def NmR (A B : Mem) (m : Int) : Prop := A 4 5 = m ∧ B 132 14 = m ∧ 0 ≤ m ∧ m ≤ 20 ∧ (∀ k, 0 ≤ k → k < m → wrd (A 18 k) (B 140 k) ∧ (A 20 k = 0 ∨ A 20 k = 1) ∧ (A 19 k = 0 ∨ A 19 k = 1) ∧ (A 20 k = 1 → A 19 k = 0) ∧ B 141 k = if A 20 k = 1 then 2 else A 19 k) ∧ ∀ k l, 0 ≤ k → k < l → l < m → A 18 k ≠ A 18 l
set_option maxHeartbeats 4000000 in
set_option maxRecDepth 20000 in
theorem c_slotOf {A B : Mem} {m x : Int} (h : NmR A B m) (hx : i64 x) : ∃ s, fX6_slotOf x A = some (s, A) ∧ ((s = -1 ∧ ∀ k, 0 ≤ k → k < m → A 18 k ≠ x) ∨ (0 ≤ s ∧ s < m ∧ A 18 s = x)) := by
  obtain ⟨h5, -, m0, m1, hk, -⟩ := h
  unfold fX6_slotOf
  have L : ∃ r, lp (fX6_slotOf_b1 A x) 0 = some r ∧ ((r = .inl () ∧ ∀ k, 0 ≤ k → k < m → A 18 k ≠ x) ∨ ∃ s, r = .inr (s, A) ∧ 0 ≤ s ∧ s < m ∧ A 18 s = x) := by
    refine lp_ind (fun s : Int => 0 ≤ s ∧ s ≤ m ∧ ∀ k, 0 ≤ k → k < s → A 18 k ≠ x) (fun r : Unit ⊕ (Int × Mem) => (r = .inl () ∧ ∀ k, 0 ≤ k → k < m → A 18 k ≠ x) ∨ ∃ s, r = .inr (s, A) ∧ 0 ≤ s ∧ s < m ∧ A 18 s = x) (fun s => (m - s).toNat) ?_ _ ?_
    · rintro s ⟨s0, s1, hs⟩
      unfold fX6_slotOf_b1
      simp only [h5]
      by_cases z : m ≤ s
      · rw [if_pos z]
        exact Or.inr ⟨_, rfl, Or.inl ⟨rfl, fun k a b => hs k a (by omega)⟩⟩
      · rw [if_neg z, ld18 _ _ s0 (by omega), ob]
        have key := lc_eq (wrd_i (hk s s0 (by omega)).1).1 hx
        by_cases e : A 18 s = x
        · rw [if_pos (key.mpr e)]
          exact Or.inr ⟨_, rfl, Or.inr ⟨s, rfl, s0, by omega, e⟩⟩
        · rw [if_neg (fun y => e (key.mp y)), w32_id (by omega) (by omega)]
          refine Or.inl ⟨_, rfl, ⟨by omega, by omega, fun k a b => ?_⟩, by omega⟩
          by_cases y : k = s
          · rw [y]; exact e
          · exact hs k a (by omega)
    · exact ⟨Int.le_refl _, m0, fun k a b => by omega⟩
  obtain ⟨r, f, hr⟩ := L
  rw [f, ob]
  rcases hr with ⟨rfl, hr⟩ | ⟨s, rfl, s0, s1, s2⟩
  · exact ⟨-1, rfl, Or.inl ⟨rfl, hr⟩⟩
  · exact ⟨s, rfl, Or.inr ⟨s0, s1, s2⟩⟩
set_option maxHeartbeats 4000000 in
set_option maxRecDepth 20000 in
theorem m_nameAt {A B : Mem} {T : Int → Int} {n N j m s x : Int} (h : NmR A B m) (hM : MK B T n N) (h7 : B 132 7 = j) (j0 : 0 ≤ j) (j1 : j ≤ N) (hx : wrd x (B 136 j)) (hs : (s = -1 ∧ ∀ k, 0 ≤ k → k < m → A 18 k ≠ x) ∨ (0 ≤ s ∧ s < m ∧ A 18 s = x)) : fX12_nameAt B = some (s, B) := by
  obtain ⟨-, h14, m0, m1, hk, hd⟩ := h
  have nN := hM.1.2.1
  have n1 := hM.2.1
  unfold fX12_nameAt
  have L : ∃ r, lp (fX12_nameAt_b1 B) (-1, 0) = some r ∧ r = s := by
    refine lp_ind (fun u : Int × Int => 0 ≤ u.2 ∧ u.2 ≤ m ∧ u.1 = if s < u.2 then s else -1) (fun r : Int => r = s) (fun u => (m - u.2).toNat) ?_ _ ?_
    · rintro ⟨y, k⟩ ⟨k0, k1, hy⟩
      dsimp only at k0 k1 hy
      unfold fX12_nameAt_b1
      simp only [h14]
      by_cases z : m ≤ k
      · rw [if_pos z]
        refine Or.inr ⟨_, rfl, ?_⟩
        rw [hy, if_pos (by omega)]
      · rw [if_neg z, ld140 _ _ k0 (by omega), ob, h7, ld136 _ _ j0 (by omega), ob]
        have wk := (hk k k0 (by omega)).1
        have key : lc (B 140 k) (B 136 j) = 0 ↔ A 18 k = x := by rw [lc_eq (wrd_i wk).2 (wrd_i hx).2, wrd_iff wk hx]
        by_cases e : A 18 k = x
        · rw [if_pos (key.mpr e), ob, w32_id (by omega) (by omega)]
          refine Or.inl ⟨_, rfl, ⟨by dsimp only; omega, by dsimp only; omega, ?_⟩, by dsimp only; omega⟩
          dsimp only
          rcases hs with ⟨s1, s2⟩ | ⟨s1, s2, s3⟩
          · exact absurd e (s2 k k0 (by omega))
          · have : s = k := by
              rcases Int.lt_trichotomy s k with y | y | y
              · exact absurd (by rw [s3, e]) (hd s k s1 y (by omega))
              · exact y
              · exact absurd (by rw [s3, e]) (hd k s k0 y s2)
            rw [if_pos (by omega)]; exact this.symm
        · rw [if_neg (fun y => e (key.mp y)), ob, w32_id (by omega) (by omega)]
          refine Or.inl ⟨_, rfl, ⟨by dsimp only; omega, by dsimp only; omega, ?_⟩, by dsimp only; omega⟩
          dsimp only
          rw [hy]
          by_cases y : s < k
          · rw [if_pos y, if_pos (by omega)]
          · rw [if_neg y]
            rcases hs with ⟨s1, s2⟩ | ⟨s1, s2, s3⟩
            · rw [if_pos (by omega)]; exact s1.symm
            · have : s ≠ k := fun u => e (by rw [← u]; exact s3)
              rw [if_neg (by omega)]
    · refine ⟨Int.le_refl _, m0, ?_⟩
      dsimp only
      rcases hs with ⟨s1, -⟩ | ⟨s1, -, -⟩
      · rw [if_pos (by omega), s1]
      · rw [if_neg (by omega)]
  obtain ⟨r, f, hr⟩ := L
  rw [f, ob, hr]
