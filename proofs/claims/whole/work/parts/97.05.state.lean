/-! THE STATE of both between two lines -/
def upG (G : Nat → Int → Int → Int) (c d m : Int) (op el ts : Int → Int) : Nat → Int → Int → Int := fun a i l => if i = c + 1 ∧ a ≤ 4 then (if a = 0 then d else if a = 1 then m else if a = 2 then op l else if a = 3 then el l else ts l) else if i = c ∧ 5 ≤ a then -1 else G a i l
theorem upG_eq {G : Nat → Int → Int → Int} {c d m : Int} {op el ts : Int → Int} : GEq G (upG G c d m op el ts) c := by
  intro a i l ha hi
  unfold upG
  rw [if_neg (by omega), if_neg (by omega)]
theorem upG_n {G : Nat → Int → Int → Int} {c d m : Int} {op el ts : Int → Int} : upG G c d m op el ts 0 (c + 1) 0 = d ∧ upG G c d m op el ts 1 (c + 1) 0 = m ∧ (∀ l, upG G c d m op el ts 2 (c + 1) l = op l) ∧ (∀ l, upG G c d m op el ts 3 (c + 1) l = el l) ∧ ∀ l, upG G c d m op el ts 4 (c + 1) l = ts l := by
  unfold upG
  refine ⟨?_, ?_, fun l => ?_, fun l => ?_, fun l => ?_⟩ <;> simp
theorem upG_5 {G : Nat → Int → Int → Int} {c d m : Int} {op el ts : Int → Int} {x : Int} (h : x < c) : upG G c d m op el ts 5 x 0 = G 5 x 0 ∧ upG G c d m op el ts 6 x 0 = G 6 x 0 := by
  unfold upG
  rw [if_neg (by omega), if_neg (by omega), if_neg (by omega), if_neg (by omega)]
  exact ⟨rfl, rfl⟩
theorem upG_c {G : Nat → Int → Int → Int} {c d m : Int} {op el ts : Int → Int} : upG G c d m op el ts 5 c 0 = -1 ∧ upG G c d m op el ts 6 c 0 = -1 := by
  unfold upG
  rw [if_neg (by omega), if_pos (by omega), if_neg (by omega), if_pos (by omega)]
  exact ⟨rfl, rfl⟩
/-- which blocks reading a text may change -/
def CFr (t : Nat) (A A' : Mem) : Prop := (∀ b, b ≠ 1 → b ≠ 4 → ¬ (18 ≤ b ∧ b ≤ 21) → ¬ (t ≤ b ∧ b ≤ t + 12) → A' b = A b) ∧ A' 1 2 = A 1 2 ∧ A' 4 1 = A 4 1
theorem CFr_refl (t : Nat) (A : Mem) : CFr t A A := ⟨fun _ _ _ _ _ => rfl, rfl, rfl⟩
theorem CFr_trans {t : Nat} {A B C : Mem} (h : CFr t A B) (h' : CFr t B C) : CFr t A C := ⟨fun b b1 b2 b3 b4 => by rw [h'.1 b b1 b2 b3 b4, h.1 b b1 b2 b3 b4], by rw [h'.2.1, h.2.1], by rw [h'.2.2, h.2.2]⟩
def MFr (B B' : Mem) : Prop := (∀ b, b ≠ 132 → ¬ (138 ≤ b ∧ b ≤ 144) → B' b = B b) ∧ (∀ k, k < 412 ∨ k = 420 ∨ k = 421 ∨ 440 ≤ k → B' 138 k = B 138 k) ∧ (∀ y, y < 2520 → B' 139 y = B 139 y) ∧ ∀ k, k ≠ 7 → k ≠ 8 → k ≠ 14 → k ≠ 18 → k ≠ 19 → B' 132 k = B 132 k
/-- the same, but for what is wiped -/
def MF0 (B B' : Mem) : Prop := (∀ b, b ≠ 132 → ¬ (138 ≤ b ∧ b ≤ 144) → B' b = B b) ∧ (∀ k, k < 412 → B' 138 k = B 138 k) ∧ (∀ y, y < 2520 → B' 139 y = B 139 y) ∧ ∀ k, k ≠ 7 → k ≠ 8 → k ≠ 14 → k ≠ 18 → k ≠ 19 → B' 132 k = B 132 k
theorem MFr_MF0 {B B' : Mem} (h : MFr B B') : MF0 B B' := ⟨h.1, fun k hk => h.2.1 k (by omega), h.2.2⟩
theorem MF0_trans {A B C : Mem} (h : MF0 A B) (h' : MF0 B C) : MF0 A C := ⟨fun b b1 b2 => by rw [h'.1 b b1 b2, h.1 b b1 b2], fun k hk => by rw [h'.2.1 k hk, h.2.1 k hk], fun k hk => by rw [h'.2.2.1 k hk, h.2.2.1 k hk], fun k a b c d e => by rw [h'.2.2.2 k a b c d e, h.2.2.2 k a b c d e]⟩
theorem MFr_refl (B : Mem) : MFr B B := ⟨fun _ _ _ => rfl, fun _ _ => rfl, fun _ _ => rfl, fun _ _ _ _ _ _ => rfl⟩
theorem MFr_trans {A B C : Mem} (h : MFr A B) (h' : MFr B C) : MFr A C := ⟨fun b b1 b2 => by rw [h'.1 b b1 b2, h.1 b b1 b2], fun k hk => by rw [h'.2.1 k hk, h.2.1 k hk], fun k hk => by rw [h'.2.2.1 k hk, h.2.2.1 k hk], fun k a b c d e => by rw [h'.2.2.2 k a b c d e, h.2.2.2 k a b c d e]⟩
theorem F1_CFr {A A' : Mem} {t : Nat} (ht : t = 5 ∨ t = 119) (h : F1 A A') : CFr t A A' := ⟨fun b b1 _ _ _ => h.1 b b1, h.2, by rw [h.1 4 (by omega)]⟩
theorem F78_MFr {B B' : Mem} (h : F78 B B') : MFr B B' := ⟨fun b b1 _ => h.1 b b1, fun k _ => by rw [h.1 138 (by omega)], fun k _ => by rw [h.1 139 (by omega)], fun k a b _ _ _ => h.2 k a b⟩
theorem CK_CFr {A A' : Mem} {t : Nat} {T : Int → Int} {n : Int} (h : CK A t T n) (f : CFr t A A') : CK A' t T n := by
  have ht := h.1
  exact CK_fr h f.2.1 (f.1 2 (by omega) (by omega) (by omega) (by omega)) (f.1 3 (by omega) (by omega) (by omega) (by omega)) f.2.2
theorem MK_MF0 {B B' : Mem} {T : Int → Int} {n N : Int} (h : MK B T n N) (f : MF0 B B') : MK B' T n N := MK_fr h (f.1 _ (by omega) (by omega)) (f.1 _ (by omega) (by omega)) (f.1 _ (by omega) (by omega)) (f.1 _ (by omega) (by omega))
theorem MK_MFr {B B' : Mem} {T : Int → Int} {n N : Int} (h : MK B T n N) (f : MFr B B') : MK B' T n N := MK_fr h (f.1 _ (by omega) (by omega)) (f.1 _ (by omega) (by omega)) (f.1 _ (by omega) (by omega)) (f.1 _ (by omega) (by omega))
/-- whens that are open -/
def whO (A : Mem) (t : Nat) (G : Nat → Int → Int → Int) (c : Int) (l : Int) : Int := if A (t + 1) (G 2 c l) = 5 then 1 else 0
def PC (A B : Mem) (t : Nat) (T : Int → Int) (n N : Int) (G : Nat → Int → Int → Int) (c : Int) : Prop := CK A t T n ∧ MK B T n N ∧ NmR A B (G 1 c 0) ∧ (A t 0 = c ∧ B 138 412 = c ∧ 0 ≤ c) ∧ (A t 10 = B 138 413 ∧ 0 ≤ A t 10 ∧ A t 10 ≤ 6) ∧ (A t 16 = B 138 414 ∧ 0 ≤ A t 16 ∧ A t 16 ≤ c ∧ 2 * A t 16 ≤ c + A 4 8) ∧ (A t 14 = B 138 415 ∧ 1 ≤ A t 14 ∧ A t 14 ≤ 8) ∧ (A t 15 = B 138 416 ∧ 1 ≤ A t 15 ∧ A t 15 ≤ 16) ∧ (A 4 9 = B 138 418 ∧ (A 4 9 = 0 ∨ A 4 9 = 1)) ∧ (A 4 10 = B 138 419 ∧ (A 4 10 = 0 ∨ A 4 10 = 1)) ∧ (A 4 7 = G 0 c 0 ∧ B 132 18 = G 0 c 0) ∧ A 4 8 = sm (whO A t G c) (G 0 c 0).toNat ∧ (∀ i, 0 ≤ i → i < A t 10 → A (t + 10) i = B 138 (422 + 3 * i + 2) ∧ (A (t + 10) i = 0 ∨ A (t + 10) i = 1) ∧ A (t + 11) i = B 138 (422 + 3 * i) ∧ A (t + 12) i = B 138 (422 + 3 * i + 1) ∧ 0 ≤ A (t + 11) i ∧ A (t + 11) i ≤ A (t + 12) i ∧ A (t + 12) i ≤ 999) ∧ (∀ s, 0 ≤ s → s < G 1 c 0 → G 4 c s = A 19 s) ∧ (∀ l, 0 ≤ l → l < G 0 c 0 → A 21 l = G 2 c l ∧ B 144 l = G 2 c l ∧ B 142 l = (if A (t + 1) (G 2 c l) = 7 then 3 else if G 3 c l = 1 then 2 else 1) ∧ (A (t + 1) (G 2 c l) = 5 → B 143 l = G 1 (G 2 c l) 0)) ∧ LnS A B t 210 G c
/-- what comes of a line that both read: the class's answer, its state, the reference's state -/
def LnRes (t : Nat) (T : Int → Int) (n N j : Int) (A B : Mem) (x : Int) (A' B' : Mem) : Prop := CFr t A A' ∧ MFr B B' ∧ ((x = 0 ∧ ∃ G' c' j', PC A' B' t T n N G' c' ∧ CAt A' T n (pos T n j') ∧ B' 132 7 = j' + 1 ∧ B' 132 8 = 0 ∧ j ≤ j' ∧ j' + 1 ≤ N ∧ 5 * c' + G' 0 c' 0 ≤ te T n (pos T n j') ∧ pos T n j < te T n (pos T n j')) ∨ (0 < x ∧ B' 132 8 = x))
/-- both begin a line -/
def PR (A B : Mem) (t : Nat) (T : Int → Int) (n N : Int) (G : Nat → Int → Int → Int) (c j : Int) : Prop := PC A B t T n N G c ∧ AtB A B T n N j ∧ 5 * c + G 0 c 0 ≤ pos T n j
/-- a fault of both at the token where they stand -/
theorem ln_fault {A B : Mem} {t : Nat} {T : Int → Int} {n N j k : Int} (hC : CK A t T n) (hM : MK B T n N) (h : AtB A B T n N j) (k0 : 1 ≤ k) (k1 : k ≤ 6) : fX6_faultHere k A = some (k + 16 * pos T n j, A) ∧ fX12_wrong k B = some (wr B 132 8 (k + 16 * pos T n j)) ∧ ∃ B', fX12_takeEnd (wr B 132 8 (k + 16 * pos T n j)) = some B' ∧ LnRes t T n N j A B (k + 16 * pos T n j) A B' := by
  have n0 := hC.2.2.1.2.1
  have fp := flt_pos (T := T) (n := n) (j := j) n0 k0
  obtain ⟨hA, h7, j0, j1, h8⟩ := h
  have e8 : wr B 132 8 (k + 16 * pos T n j) 132 8 = k + 16 * pos T n j := by rw [wr_at, if_pos rfl]
  obtain ⟨B', f, fr, b8⟩ := m_takeEnd8 (B := wr B 132 8 (k + 16 * pos T n j)) (by rw [e8]; omega)
  refine ⟨c_fault hA n0 hM.2.1 k0 k1, m_wrong hM h7 j0 j1 h8 k0 k1, B', f, CFr_refl t A, F78_MFr (F78_trans (F78_8 B _) fr), Or.inr ⟨fp, by rw [b8, e8]⟩⟩
theorem sm_pos {f : Int → Int} {k : Nat} (h : ∀ i : Int, 0 ≤ i → i < k → 0 ≤ f i) {a : Int} (a0 : 0 ≤ a) (a1 : a < k) : f a ≤ sm f k := by
  have := sm_le (f := fun i => if i = a then f i else 0) (g := f) (k := k) (fun i x y => by
    by_cases e : i = a
    · rw [if_pos e]; exact Int.le_refl _
    · rw [if_neg e]; exact h i x y)
  rw [sm_one a0 a1] at this
  exact this
set_option maxHeartbeats 4000000 in
set_option maxRecDepth 20000 in
theorem m_within {A B : Mem} {t : Nat} {T : Int → Int} {n N c : Int} {G : Nat → Int → Int → Int} (h : PC A B t T n N G c) : fX12_isWithinWhen B = some (if A 4 8 ≤ 0 then 0 else 1, B) := by
  obtain ⟨-, -, -, hc, -, -, -, -, -, -, hd, hw, -, -, hb, hS⟩ := h
  have o := hS.2.1 c hc.2.2 (Int.le_refl _)
  unfold fX12_isWithinWhen
  generalize hdd : G 0 c 0 = d at *
  have k57 : ∀ l, 0 ≤ l → l < d → (B 142 l = 3 ↔ A (t + 1) (G 2 c l) = 7) ∧ (A (t + 1) (G 2 c l) = 5 ∨ A (t + 1) (G 2 c l) = 7) := fun l a b => by
    have x := (hb l a b).2.2.1
    have y := (o.2.2.2 l a (by omega)).2.2.1
    refine ⟨?_, y⟩
    rw [x]
    by_cases z : A (t + 1) (G 2 c l) = 7
    · rw [if_pos z]; exact ⟨fun _ => z, fun _ => rfl⟩
    · rw [if_neg z]
      constructor
      · intro w; split at w <;> omega
      · intro w; exact absurd w z
  have L : ∃ r, lp (fX12_isWithinWhen_b1 B) (0, 0) = some r ∧ r = if A 4 8 ≤ 0 then 0 else 1 := by
    refine lp_ind (fun s : Int × Int => 0 ≤ s.2 ∧ s.2 ≤ d ∧ (s.1 = 0 ∨ s.1 = 1) ∧ (s.1 = 1 ↔ ∃ l, 0 ≤ l ∧ l < s.2 ∧ A (t + 1) (G 2 c l) = 5)) (fun r : Int => r = if A 4 8 ≤ 0 then 0 else 1) (fun s => (d - s.2).toNat) ?_ _ ?_
    · rintro ⟨x, k⟩ ⟨k0, k1, x01, hx⟩
      dsimp only at k0 k1 x01 hx
      unfold fX12_isWithinWhen_b1
      simp only [hd.2]
      by_cases z : d ≤ k
      · rw [if_pos z]
        have : k = d := by omega
        subst this
        refine Or.inr ⟨_, rfl, ?_⟩
        by_cases y : x = 1
        · obtain ⟨l, l0, l1, l2⟩ := hx.mp y
          have := sm_pos (f := whO A t G c) (k := k.toNat) (fun i _ _ => by unfold whO; split <;> omega) l0 (by omega)
          have e : whO A t G c l = 1 := by unfold whO; rw [if_pos l2]
          rw [if_neg (by omega), y]
        · have : sm (whO A t G c) k.toNat = 0 := sm_z (fun i a b => by
            unfold whO
            rw [if_neg (fun w => y (hx.mpr ⟨i, a, by omega, w⟩))])
          rw [if_pos (by omega)]; omega
      · rw [if_neg z]
        have q := k57 k k0 (by omega)
        have nx : ∀ v, (v = 0 ∨ v = 1) → (v = 1 ↔ x = 1 ∨ A (t + 1) (G 2 c k) = 5) → ∃ s', (some (Sum.inl (v, w32 (k + 1))) : Option ((Int × Int) ⊕ Int)) = some (Sum.inl s') ∧ (0 ≤ s'.2 ∧ s'.2 ≤ d ∧ (s'.1 = 0 ∨ s'.1 = 1) ∧ (s'.1 = 1 ↔ ∃ l, 0 ≤ l ∧ l < s'.2 ∧ A (t + 1) (G 2 c l) = 5)) ∧ (d - s'.2).toNat < (d - k).toNat := by
          intro v v01 hv
          have o1 := o.1
          rw [w32_id (by omega) (by omega)]
          refine ⟨_, rfl, ⟨by dsimp only; omega, by dsimp only; omega, v01, ?_⟩, by dsimp only; omega⟩
          dsimp only
          rw [hv, hx]
          constructor
          · rintro (⟨l, l0, l1, l2⟩ | w)
            · exact ⟨l, l0, by omega, l2⟩
            · exact ⟨k, k0, by omega, w⟩
          · rintro ⟨l, l0, l1, l2⟩
            by_cases e : l = k
            · rw [e] at l2; exact Or.inr l2
            · exact Or.inl ⟨l, l0, by omega, l2⟩
        by_cases y : x = 0
        · have o1 := o.1
          rw [if_pos y, ld142 _ _ k0 (by omega), ob]
          by_cases w : B 142 k = 3
          · rw [if_pos w, ob]
            exact Or.inl (nx 0 (Or.inl rfl) ⟨fun u => by omega, fun u => by have := q.1.mp w; omega⟩)
          · rw [if_neg w, ob]
            exact Or.inl (nx 1 (Or.inr rfl) ⟨fun _ => Or.inr (by
              rcases q.2 with u | u
              · exact u
              · exact absurd (q.1.mpr u) w), fun _ => rfl⟩)
        · rw [if_neg y, ob]
          exact Or.inl (nx 1 (Or.inr rfl) ⟨fun _ => Or.inl (by omega), fun _ => rfl⟩)
    · have o1 := o.1
      refine ⟨Int.le_refl _, by dsimp only; omega, Or.inl rfl, ?_⟩
      dsimp only
      constructor
      · intro w; omega
      · rintro ⟨l, l0, l1, -⟩; omega
  obtain ⟨r, f, hr⟩ := L
  rw [f, ob, hr]
  split
  · exact rz0
  · exact rz1
