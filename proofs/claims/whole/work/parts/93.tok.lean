/-! TOKENS -/
def skN (T : Int → Int) (n : Int) : Nat → Int → Int
  | 0, p => p
  | k + 1, p => if p < n ∧ (T p = 10 ∨ T p = 32) then skN T n k (p + 1) else p
def sk (T : Int → Int) (n p : Int) : Int := skN T n (n - p).toNat p
def runN (T : Int → Int) (n lo hi : Int) : Nat → Int → Int
  | 0, p => p
  | k + 1, p => if p < n ∧ lo ≤ T p ∧ T p ≤ hi then runN T n lo hi k (p + 1) else p
def run (T : Int → Int) (n lo hi p : Int) : Int := runN T n lo hi (n - p).toNat p
theorem sk_eq (T : Int → Int) (n p : Int) : sk T n p = if p < n ∧ (T p = 10 ∨ T p = 32) then sk T n (p + 1) else p := by
  unfold sk
  by_cases h : p < n
  · rw [show (n - p).toNat = (n - (p + 1)).toNat + 1 by omega]; rfl
  · rw [if_neg (fun z => h z.1), show (n - p).toNat = 0 by omega]; rfl
theorem run_eq (T : Int → Int) (n lo hi p : Int) : run T n lo hi p = if p < n ∧ lo ≤ T p ∧ T p ≤ hi then run T n lo hi (p + 1) else p := by
  unfold run
  by_cases h : p < n
  · rw [show (n - p).toNat = (n - (p + 1)).toNat + 1 by omega]; rfl
  · rw [if_neg (fun z => h z.1), show (n - p).toNat = 0 by omega]; rfl
theorem sk_bd (T : Int → Int) (n : Int) : ∀ (k : Nat) (p : Int), (n - p).toNat ≤ k → p ≤ n → p ≤ sk T n p ∧ sk T n p ≤ n ∧ (sk T n p < n → ¬ (T (sk T n p) = 10 ∨ T (sk T n p) = 32)) := by
  intro k
  induction k with
  | zero =>
    intro p h1 h2
    have : p = n := by omega
    rw [sk_eq, if_neg (by omega)]
    exact ⟨Int.le_refl _, by omega, fun z => by omega⟩
  | succ k ih =>
    intro p h1 h2
    rw [sk_eq]
    by_cases h : p < n ∧ (T p = 10 ∨ T p = 32)
    · rw [if_pos h]
      have := ih (p + 1) (by omega) (by omega)
      exact ⟨by omega, this.2⟩
    · rw [if_neg h]
      exact ⟨Int.le_refl _, h2, fun z y => h ⟨z, y⟩⟩
theorem run_bd (T : Int → Int) (n lo hi : Int) : ∀ (k : Nat) (p : Int), (n - p).toNat ≤ k → p ≤ n → p ≤ run T n lo hi p ∧ run T n lo hi p ≤ n ∧ (∀ i, p ≤ i → i < run T n lo hi p → lo ≤ T i ∧ T i ≤ hi) := by
  intro k
  induction k with
  | zero =>
    intro p h1 h2
    rw [run_eq, if_neg (by omega)]
    exact ⟨Int.le_refl _, by omega, fun i a b => by omega⟩
  | succ k ih =>
    intro p h1 h2
    rw [run_eq]
    by_cases h : p < n ∧ lo ≤ T p ∧ T p ≤ hi
    · rw [if_pos h]
      have := ih (p + 1) (by omega) (by omega)
      refine ⟨by omega, this.2.1, fun i a b => ?_⟩
      by_cases e : i = p
      · rw [e]; exact h.2
      · exact this.2.2 i (by omega) b
    · rw [if_neg h]
      exact ⟨Int.le_refl _, h2, fun i a b => by omega⟩
/-- the place behind a token -/
def te (T : Int → Int) (n p : Int) : Int := if n ≤ p then p else if 97 ≤ T p ∧ T p ≤ 122 then run T n 97 122 p else if 48 ≤ T p ∧ T p ≤ 57 then run T n 48 57 p else p + 1
/-- its sort: 0 end, 1 word, 2 number, 3 sign, 4 bad -/
def ty (T : Int → Int) (n p : Int) : Int := if n ≤ p then 0 else if 97 ≤ T p ∧ T p ≤ 122 then (if run T n 97 122 p - p ≤ 7 then 1 else 4) else if 48 ≤ T p ∧ T p ≤ 57 then (if run T n 48 57 p - p ≤ 3 then 2 else 4) else if T p = 59 then 3 else 4
theorem te_bd {T : Int → Int} {n p : Int} (h : p ≤ n) : p ≤ te T n p ∧ te T n p ≤ n ∧ (p < n → p < te T n p) := by
  unfold te
  by_cases h1 : n ≤ p
  · rw [if_pos h1]; omega
  · rw [if_neg h1]
    by_cases h2 : 97 ≤ T p ∧ T p ≤ 122
    · rw [if_pos h2, run_eq, if_pos ⟨by omega, h2⟩]
      have := run_bd T n 97 122 (n - (p + 1)).toNat (p + 1) (Nat.le_refl _) (by omega)
      omega
    · rw [if_neg h2]
      by_cases h3 : 48 ≤ T p ∧ T p ≤ 57
      · rw [if_pos h3, run_eq, if_pos ⟨by omega, h3⟩]
        have := run_bd T n 48 57 (n - (p + 1)).toNat (p + 1) (Nat.le_refl _) (by omega)
        omega
      · rw [if_neg h3]; omega
/-- codes -/
def cdS (B : Int) (a : Int → Int) : Nat → Int
  | 0 => 0
  | k + 1 => B * cdS B a k + a k
theorem cdS_s (B : Int) (a : Int → Int) {x : Int} (h : 0 ≤ x) : cdS B a (x + 1).toNat = B * cdS B a x.toNat + a x := by
  rw [show (x + 1).toNat = x.toNat + 1 by omega]
  show B * cdS B a x.toNat + a ((x.toNat : Nat) : Int) = _
  rw [show ((x.toNat : Nat) : Int) = x by omega]
theorem cd_lt {B : Int} {a : Int → Int} (hB : B = 10 ∨ B = 27 ∨ B = 32) : ∀ k : Nat, (∀ i : Int, 0 ≤ i → i < k → 0 ≤ a i ∧ a i < B) → 0 ≤ cdS B a k ∧ cdS B a k < B ^ k := by
  intro k
  induction k with
  | zero => intro _; exact ⟨Int.le_refl _, by show (0 : Int) < B ^ 0; rw [Int.pow_zero]; omega⟩
  | succ k ih =>
    intro h
    have i := ih (fun i a b => h i a (by omega))
    have q := h (k : Int) (by omega) (by omega)
    show 0 ≤ B * cdS B a k + a (k : Int) ∧ B * cdS B a k + a (k : Int) < B ^ (k + 1)
    rw [Int.pow_succ]
    generalize cdS B a k = c at *
    generalize B ^ k = d at *
    rcases hB with rfl | rfl | rfl <;> omega
theorem pw32 {k : Nat} (h : k ≤ 7) : (32 : Int) ^ k ≤ 34359738368 := by
  have key : ∀ b : Fin 8, (32 : Int) ^ b.val ≤ 34359738368 := by decide +kernel
  exact key ⟨k, by omega⟩
theorem pw27 {k : Nat} (h : k ≤ 7) : (27 : Int) ^ k ≤ 34359738368 := by
  have key : ∀ b : Fin 8, (27 : Int) ^ b.val ≤ 34359738368 := by decide +kernel
  exact key ⟨k, by omega⟩
theorem pw10 {k : Nat} (h : k ≤ 7) : (10 : Int) ^ k ≤ 34359738368 := by
  have key : ∀ b : Fin 8, (10 : Int) ^ b.val ≤ 34359738368 := by decide +kernel
  exact key ⟨k, by omega⟩
theorem pw10' {k : Nat} (h : k ≤ 3) : (10 : Int) ^ k ≤ 1000 := by
  have key : ∀ b : Fin 4, (10 : Int) ^ b.val ≤ 1000 := by decide +kernel
  exact key ⟨k, by omega⟩
/-- unlike words never look alike -/
theorem cd_inj {B : Int} {a b : Int → Int} (hB : B = 27 ∨ B = 32) : ∀ (k l : Nat), (∀ i : Int, 0 ≤ i → i < k → 1 ≤ a i ∧ a i ≤ 26) → (∀ i : Int, 0 ≤ i → i < l → 1 ≤ b i ∧ b i ≤ 26) → cdS B a k = cdS B b l → k = l ∧ ∀ i : Int, 0 ≤ i → i < k → a i = b i := by
  intro k
  induction k with
  | zero =>
    intro l _ hb h
    cases l with
    | zero => exact ⟨rfl, fun i a b => by omega⟩
    | succ l =>
      have q := cd_lt (B := B) (a := b) (by omega) l (fun i x y => by have := hb i x (by omega); omega)
      have r := hb (l : Int) (by omega) (by omega)
      have e : (0 : Int) = B * cdS B b l + b (l : Int) := h
      generalize cdS B b l = c at *
      rcases hB with rfl | rfl <;> omega
  | succ k ih =>
    intro l ha hb h
    cases l with
    | zero =>
      have q := cd_lt (B := B) (a := a) (by omega) k (fun i x y => by have := ha i x (by omega); omega)
      have r := ha (k : Int) (by omega) (by omega)
      have e : B * cdS B a k + a (k : Int) = 0 := h
      generalize cdS B a k = c at *
      rcases hB with rfl | rfl <;> omega
    | succ l =>
      have r := ha (k : Int) (by omega) (by omega)
      have s := hb (l : Int) (by omega) (by omega)
      have e : B * cdS B a k + a (k : Int) = B * cdS B b l + b (l : Int) := h
      have e2 : cdS B a k = cdS B b l ∧ a (k : Int) = b (l : Int) := by
        generalize cdS B a k = c at *
        generalize cdS B b l = d at *
        rcases hB with rfl | rfl <;> omega
      obtain ⟨x, y⟩ := ih l (fun i p q => ha i p (by omega)) (fun i p q => hb i p (by omega)) e2.1
      refine ⟨by omega, fun i p q => ?_⟩
      by_cases z : i = k
      · rw [z, e2.2, x]
      · exact y i p (by omega)
theorem cd_cg {B : Int} {a b : Int → Int} : ∀ k : Nat, (∀ i : Int, 0 ≤ i → i < k → a i = b i) → cdS B a k = cdS B b k := by
  intro k
  induction k with
  | zero => intro _; rfl
  | succ k ih =>
    intro h
    show B * cdS B a k + a (k : Int) = B * cdS B b k + b (k : Int)
    rw [ih (fun i p q => h i p (by omega)), h (k : Int) (by omega) (by omega)]
theorem cd_iff {a b : Int → Int} {k l : Nat} (ha : ∀ i : Int, 0 ≤ i → i < k → 1 ≤ a i ∧ a i ≤ 26) (hb : ∀ i : Int, 0 ≤ i → i < l → 1 ≤ b i ∧ b i ≤ 26) : cdS 27 a k = cdS 27 b l ↔ cdS 32 a k = cdS 32 b l := by
  constructor
  · intro h
    obtain ⟨x, y⟩ := cd_inj (Or.inl rfl) k l ha hb h
    rw [← x]; exact cd_cg k y
  · intro h
    obtain ⟨x, y⟩ := cd_inj (Or.inr rfl) k l ha hb h
    rw [← x]; exact cd_cg k y
/-- letters, digits from a place on -/
def let_ (T : Int → Int) (p : Int) : Int → Int := fun i => T (p + i) - 96
def dig_ (T : Int → Int) (p : Int) : Int → Int := fun i => T (p + i) - 48
/-- the class stands at the token of a place -/
def CAt (M : Mem) (T : Int → Int) (n p : Int) : Prop := M 1 5 = p ∧ M 1 3 = te T n p ∧ (ty T n p = 0 → M 1 4 = 0) ∧ (ty T n p = 4 → M 1 4 = 1) ∧ (ty T n p = 2 → M 1 4 = 2 ∧ M 1 6 = cdS 10 (dig_ T p) (te T n p - p).toNat) ∧ (ty T n p = 3 → M 1 4 = 3) ∧ (ty T n p = 1 → M 1 7 = cdS 32 (let_ T p) (te T n p - p).toNat ∧ ((M 1 4 = 5 ∧ 0 ≤ M 1 6 ∧ M 1 6 < 23 ∧ M 3 (M 1 6) = M 1 7) ∨ (M 1 4 = 4 ∧ ∀ w, 0 ≤ w → w < 23 → M 3 w ≠ M 1 7)))
/-- the class's tape -/
def CTp (M : Mem) (T : Int → Int) (n : Int) : Prop := M 1 2 = n ∧ 0 ≤ n ∧ n ≤ 1000 ∧ ∀ i, 0 ≤ i → i < n → M 2 i = T i
def F1 (M M' : Mem) : Prop := (∀ b, b ≠ 1 → M' b = M b) ∧ M' 1 2 = M 1 2
theorem F1_trans {A B C : Mem} (h : F1 A B) (h' : F1 B C) : F1 A C := ⟨fun b hb => by rw [h'.1 b hb, h.1 b hb], by rw [h'.2, h.2]⟩
theorem F1_wr (M : Mem) {k x : Int} (h : k ≠ 2) : F1 M (wr M 1 k x) := ⟨fun b hb => wr_ne hb, by rw [wr_at, if_neg (fun z => h z.symm)]⟩
theorem CTp_fr {M M' : Mem} {T : Int → Int} {n : Int} (h : CTp M T n) (f : F1 M M') : CTp M' T n := by
  unfold CTp
  rw [f.2, f.1 2 (by omega)]
  exact h
set_option maxHeartbeats 4000000 in
set_option maxRecDepth 20000 in
theorem s_X8_skip {M : Mem} {T : Int → Int} {n : Int} (hT : CTp M T n) (p0 : 0 ≤ M 1 3) (p1 : M 1 3 ≤ n) : ∃ r, lp fX8_advance_b1 M = some r ∧ F1 M r ∧ r 1 3 = sk T n (M 1 3) := by
  refine lp_ind (fun s : Mem => F1 M s ∧ 0 ≤ s 1 3 ∧ s 1 3 ≤ n ∧ sk T n (s 1 3) = sk T n (M 1 3)) (fun r : Mem => F1 M r ∧ r 1 3 = sk T n (M 1 3)) (fun s => (n - s 1 3).toNat) ?_ _ ?_
  · rintro q ⟨fr, q0, q1, hq⟩
    obtain ⟨t1, t2, t3, t4⟩ := CTp_fr hT fr
    unfold fX8_advance_b1
    simp only [t1]
    have eq := sk_eq T n (q 1 3)
    have step : (q 1 3 < n ∧ (T (q 1 3) = 10 ∨ T (q 1 3) = 32)) → ∃ s', ((pI q 1 3 (w32 (q 1 3 + 1))).bind fun M3 => (some (Sum.inl M3) : Option (Mem ⊕ Mem))) = some (Sum.inl s') ∧ (F1 M s' ∧ 0 ≤ s' 1 3 ∧ s' 1 3 ≤ n ∧ sk T n (s' 1 3) = sk T n (M 1 3)) ∧ (n - s' 1 3).toNat < (n - q 1 3).toNat := by
      intro z
      rw [pI_ok, ob, w32_id (by omega) (by omega)]
      rw [if_pos z] at eq
      have e3 : wr q 1 3 (q 1 3 + 1) 1 3 = q 1 3 + 1 := by rw [wr_at, if_pos rfl]
      refine ⟨_, rfl, ⟨F1_trans fr (F1_wr q (by omega)), ?_⟩, ?_⟩
      · rw [e3]; exact ⟨by omega, by omega, by rw [← eq]; exact hq⟩
      · rw [e3]; omega
    by_cases h1 : n ≤ q 1 3
    · rw [if_pos h1]
      rw [if_neg (by omega)] at eq
      exact Or.inr ⟨q, rfl, fr, by rw [← hq, eq]⟩
    · rw [if_neg h1, ld2 _ _ q0 (by omega), ob, t4 _ q0 (by omega)]
      by_cases h2 : T (q 1 3) = 10
      · rw [if_pos h2]
        exact Or.inl (step ⟨by omega, Or.inl h2⟩)
      · rw [if_neg h2, ob]
        by_cases h3 : T (q 1 3) = 32
        · rw [if_pos h3]
          exact Or.inl (step ⟨by omega, Or.inr h3⟩)
        · rw [if_neg h3]
          rw [if_neg (by omega)] at eq
          exact Or.inr ⟨q, rfl, fr, by rw [← hq, eq]⟩
  · exact ⟨⟨fun _ _ => rfl, rfl⟩, p0, p1, rfl⟩
set_option maxHeartbeats 4000000 in
set_option maxRecDepth 20000 in
theorem s_X8_letters {M : Mem} {T : Int → Int} {n p : Int} (hT : CTp M T n) (p0 : 0 ≤ p) (p1 : p ≤ n) (h3 : M 1 3 = p) (h7 : M 1 7 = 0) : ∃ r, lp fX8_readWord_b1 M = some r ∧ F1 M r ∧ r 1 5 = M 1 5 ∧ r 1 3 = run T n 97 122 p ∧ (run T n 97 122 p - p ≤ 7 → r 1 7 = cdS 32 (let_ T p) (run T n 97 122 p - p).toNat) := by
  have rb := run_bd T n 97 122 (n - p).toNat p (Nat.le_refl _) p1
  refine lp_ind (fun s : Mem => F1 M s ∧ s 1 5 = M 1 5 ∧ p ≤ s 1 3 ∧ s 1 3 ≤ n ∧ run T n 97 122 (s 1 3) = run T n 97 122 p ∧ (∀ i, p ≤ i → i < s 1 3 → 97 ≤ T i ∧ T i ≤ 122) ∧ (s 1 3 - p ≤ 7 → s 1 7 = cdS 32 (let_ T p) (s 1 3 - p).toNat)) (fun r : Mem => F1 M r ∧ r 1 5 = M 1 5 ∧ r 1 3 = run T n 97 122 p ∧ (run T n 97 122 p - p ≤ 7 → r 1 7 = cdS 32 (let_ T p) (run T n 97 122 p - p).toNat)) (fun s => (n - s 1 3).toNat) ?_ _ ?_
  · rintro q ⟨fr, q5, q0, q1, hq, hl, h7⟩
    obtain ⟨t1, t2, t3, t4⟩ := CTp_fr hT fr
    unfold fX8_readWord_b1
    simp only [t1]
    have eq := run_eq T n 97 122 (q 1 3)
    have done : ¬ (q 1 3 < n ∧ 97 ≤ T (q 1 3) ∧ T (q 1 3) ≤ 122) → F1 M q ∧ q 1 5 = M 1 5 ∧ q 1 3 = run T n 97 122 p ∧ (run T n 97 122 p - p ≤ 7 → q 1 7 = cdS 32 (let_ T p) (run T n 97 122 p - p).toNat) := by
      intro z
      rw [if_neg z, hq] at eq
      rw [eq]
      exact ⟨fr, q5, rfl, h7⟩
    by_cases h1 : n ≤ q 1 3
    · rw [if_pos h1]
      exact Or.inr ⟨q, rfl, done (by omega)⟩
    · rw [if_neg h1, ld2 _ _ (by omega) (by omega), ob, t4 _ (by omega) (by omega)]
      by_cases h2 : T (q 1 3) < 97
      · rw [if_pos h2]
        exact Or.inr ⟨q, rfl, done (by omega)⟩
      · rw [if_neg h2, ob]
        by_cases h3 : 122 < T (q 1 3)
        · rw [if_pos h3]
          exact Or.inr ⟨q, rfl, done (by omega)⟩
        · rw [if_neg h3, ob, pI_ok, ob, pI_ok, ob]
          rw [if_pos (by omega)] at eq
          generalize hX : w64 (w64 (q 1 7 * 32) + w32 (w32 (T (q 1 3) - 97) + 1)) = X
          have e3 : wr q 1 7 X 1 3 = q 1 3 := by rw [wr_at, if_neg (by omega)]
          rw [e3, w32_id (show -2147483648 ≤ q 1 3 + 1 by omega) (by omega)]
          have e33 : wr (wr q 1 7 X) 1 3 (q 1 3 + 1) 1 3 = q 1 3 + 1 := by rw [wr_at, if_pos rfl]
          refine Or.inl ⟨_, rfl, ⟨F1_trans fr (F1_trans (F1_wr q (by omega)) (F1_wr _ (by omega))), ?_, ?_⟩, ?_⟩
          · rw [wr_at, if_neg (by omega), wr_at, if_neg (by omega), q5]
          · rw [e33]
            refine ⟨by omega, by omega, by rw [← eq]; exact hq, fun i a b => ?_, fun z => ?_⟩
            · by_cases e : i = q 1 3
              · rw [e]; omega
              · exact hl i a (by omega)
            · rw [wr_at, if_neg (by omega), wr_at, if_pos rfl, ← hX, h7 (by omega)]
              have lt := cd_lt (B := 32) (a := let_ T p) (by omega) (q 1 3 - p).toNat (fun i a b => by
                have := hl (p + i) (by omega) (by omega)
                unfold let_; omega)
              have pw := pw32 (k := (q 1 3 - p).toNat) (by omega)
              rw [show q 1 3 + 1 - p = (q 1 3 - p) + 1 by omega, cdS_s 32 _ (by omega)]
              have el : let_ T p (q 1 3 - p) = T (q 1 3) - 96 := by unfold let_; rw [show p + (q 1 3 - p) = q 1 3 by omega]
              rw [el, w32_id (show -2147483648 ≤ T (q 1 3) - 97 by omega) (by omega), w32_id (show -2147483648 ≤ T (q 1 3) - 97 + 1 by omega) (by omega)]
              generalize cdS 32 (let_ T p) (q 1 3 - p).toNat = c at *
              rw [w64_id (show -9223372036854775808 ≤ c * 32 by omega) (by omega), w64_id (by omega) (by omega)]
              omega
          · rw [e33]; omega
  · refine ⟨⟨fun _ _ => rfl, rfl⟩, rfl, by omega, by omega, by rw [h3], fun i a b => by omega, fun _ => ?_⟩
    rw [h3, h7, show (p - p).toNat = 0 by omega]; rfl
set_option maxHeartbeats 4000000 in
set_option maxRecDepth 20000 in
theorem s_X8_digits {M : Mem} {T : Int → Int} {n p : Int} (hT : CTp M T n) (p0 : 0 ≤ p) (p1 : p ≤ n) (h3 : M 1 3 = p) (h7 : M 1 6 = 0) : ∃ r, lp fX8_readNumeral_b1 M = some r ∧ F1 M r ∧ r 1 5 = M 1 5 ∧ r 1 3 = run T n 48 57 p ∧ (run T n 48 57 p - p ≤ 3 → r 1 6 = cdS 10 (dig_ T p) (run T n 48 57 p - p).toNat) := by
  refine lp_ind (fun s : Mem => F1 M s ∧ s 1 5 = M 1 5 ∧ p ≤ s 1 3 ∧ s 1 3 ≤ n ∧ run T n 48 57 (s 1 3) = run T n 48 57 p ∧ (∀ i, p ≤ i → i < s 1 3 → 48 ≤ T i ∧ T i ≤ 57) ∧ (s 1 3 - p ≤ 3 → s 1 6 = cdS 10 (dig_ T p) (s 1 3 - p).toNat)) (fun r : Mem => F1 M r ∧ r 1 5 = M 1 5 ∧ r 1 3 = run T n 48 57 p ∧ (run T n 48 57 p - p ≤ 3 → r 1 6 = cdS 10 (dig_ T p) (run T n 48 57 p - p).toNat)) (fun s => (n - s 1 3).toNat) ?_ _ ?_
  · rintro q ⟨fr, q5, q0, q1, hq, hl, h7⟩
    obtain ⟨t1, t2, t3, t4⟩ := CTp_fr hT fr
    unfold fX8_readNumeral_b1
    simp only [t1]
    have eq := run_eq T n 48 57 (q 1 3)
    have done : ¬ (q 1 3 < n ∧ 48 ≤ T (q 1 3) ∧ T (q 1 3) ≤ 57) → F1 M q ∧ q 1 5 = M 1 5 ∧ q 1 3 = run T n 48 57 p ∧ (run T n 48 57 p - p ≤ 3 → q 1 6 = cdS 10 (dig_ T p) (run T n 48 57 p - p).toNat) := by
      intro z
      rw [if_neg z, hq] at eq
      rw [eq]
      exact ⟨fr, q5, rfl, h7⟩
    by_cases h1 : n ≤ q 1 3
    · rw [if_pos h1]
      exact Or.inr ⟨q, rfl, done (by omega)⟩
    · rw [if_neg h1, ld2 _ _ (by omega) (by omega), ob, t4 _ (by omega) (by omega)]
      by_cases h2 : T (q 1 3) < 48
      · rw [if_pos h2]
        exact Or.inr ⟨q, rfl, done (by omega)⟩
      · rw [if_neg h2, ob]
        by_cases h3 : 57 < T (q 1 3)
        · rw [if_pos h3]
          exact Or.inr ⟨q, rfl, done (by omega)⟩
        · rw [if_neg h3, ob, pI_ok, ob, pI_ok, ob]
          rw [if_pos (by omega)] at eq
          generalize hX : w32 (w32 (q 1 6 * 10) + w32 (T (q 1 3) - 48)) = X
          have e3 : wr q 1 6 X 1 3 = q 1 3 := by rw [wr_at, if_neg (by omega)]
          rw [e3, w32_id (show -2147483648 ≤ q 1 3 + 1 by omega) (by omega)]
          have e33 : wr (wr q 1 6 X) 1 3 (q 1 3 + 1) 1 3 = q 1 3 + 1 := by rw [wr_at, if_pos rfl]
          refine Or.inl ⟨_, rfl, ⟨F1_trans fr (F1_trans (F1_wr q (by omega)) (F1_wr _ (by omega))), ?_, ?_⟩, ?_⟩
          · rw [wr_at, if_neg (by omega), wr_at, if_neg (by omega), q5]
          · rw [e33]
            refine ⟨by omega, by omega, by rw [← eq]; exact hq, fun i a b => ?_, fun z => ?_⟩
            · by_cases e : i = q 1 3
              · rw [e]; omega
              · exact hl i a (by omega)
            · rw [wr_at, if_neg (by omega), wr_at, if_pos rfl, ← hX, h7 (by omega)]
              have lt := cd_lt (B := 10) (a := dig_ T p) (by omega) (q 1 3 - p).toNat (fun i a b => by
                have := hl (p + i) (by omega) (by omega)
                unfold dig_; omega)
              have pw := pw10' (k := (q 1 3 - p).toNat) (by omega)
              rw [show q 1 3 + 1 - p = (q 1 3 - p) + 1 by omega, cdS_s 10 _ (by omega)]
              have el : dig_ T p (q 1 3 - p) = T (q 1 3) - 48 := by unfold dig_; rw [show p + (q 1 3 - p) = q 1 3 by omega]
              rw [el, w32_id (show -2147483648 ≤ T (q 1 3) - 48 by omega) (by omega)]
              generalize cdS 10 (dig_ T p) (q 1 3 - p).toNat = c at *
              rw [w32_id (show -2147483648 ≤ c * 10 by omega) (by omega), w32_id (by omega) (by omega)]
              omega
          · rw [e33]; omega
  · refine ⟨⟨fun _ _ => rfl, rfl⟩, rfl, by omega, by omega, by rw [h3], fun i a b => by omega, fun _ => ?_⟩
    rw [h3, h7, show (p - p).toNat = 0 by omega]; rfl
