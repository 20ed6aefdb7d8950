/-! WORKING: rows that are copied, the state of both -/
def bgB (l : Int) : Nat := 32 + l.toNat
def fsB (l : Int) : Nat := 37 + l.toNat
theorem kd20 {a : Nat} (h : a = 30 ∨ (32 ≤ a ∧ a ≤ 35) ∨ (37 ≤ a ∧ a ≤ 40)) : kd a = (1, 20) := by
  have : a = 30 ∨ a = 32 ∨ a = 33 ∨ a = 34 ∨ a = 35 ∨ a = 37 ∨ a = 38 ∨ a = 39 ∨ a = 40 := by omega
  rcases this with rfl | rfl | rfl | rfl | rfl | rfl | rfl | rfl | rfl <;> decide +kernel
theorem ldA31 {l : Int} (h0 : 0 ≤ l) (h1 : l < 4) : ldA 31 l = some (bgB l) := by
  have : l = 0 ∨ l = 1 ∨ l = 2 ∨ l = 3 := by omega
  rcases this with rfl | rfl | rfl | rfl <;> decide +kernel
theorem ldA36 {l : Int} (h0 : 0 ≤ l) (h1 : l < 4) : ldA 36 l = some (fsB l) := by
  have : l = 0 ∨ l = 1 ∨ l = 2 ∨ l = 3 := by omega
  rcases this with rfl | rfl | rfl | rfl <;> decide +kernel
theorem ld20r {M : Mem} {a : Nat} {i : Int} (h : a = 30 ∨ (32 ≤ a ∧ a ≤ 35) ∨ (37 ≤ a ∧ a ≤ 40)) (h0 : 0 ≤ i) (h1 : i < 20) : ldI M a i = some (M a i) := ldI_ok (kd20 h) (by omega) h0 h1
theorem cp20 {M : Mem} {a b : Nat} (ha : a = 30 ∨ (32 ≤ a ∧ a ≤ 35) ∨ (37 ≤ a ∧ a ≤ 40)) (hb : b = 30 ∨ (32 ≤ b ∧ b ≤ 35) ∨ (37 ≤ b ∧ b ≤ 40)) : ∃ M', cpy M a 0 b 0 20 = some M' ∧ (∀ d, d ≠ b → M' d = M d) ∧ ∀ j, 0 ≤ j → j < 20 → M' b j = M a j := by
  have ka := kd20 ha
  have kb := kd20 hb
  have la : len M a = 20 := by unfold len; rw [if_neg (by omega), ka]; rfl
  have lb : len M b = 20 := by unfold len; rw [if_neg (by omega), kb]; rfl
  unfold cpy
  rw [if_pos ⟨by rw [ka], by rw [kb], by omega, by omega, by omega, by omega, by omega⟩]
  refine ⟨_, rfl, fun d hd => ?_, fun j j0 j1 => ?_⟩
  · funext j
    rw [if_neg hd]
  · rw [if_pos rfl, if_pos (by omega), show (0 : Int) + (j - 0) = j by omega]
theorem kdR {b : Nat} (h : b = 145 ∨ b = 146 ∨ b = 147) : kd b = (1, if b = 145 then 20 else 80) := by
  rcases h with rfl | rfl | rfl <;> decide +kernel
/-! the reference's rows -/
set_option maxHeartbeats 4000000 in
set_option maxRecDepth 20000 in
theorem m_moves {B : Mem} {a b : Nat} {p q : Int} (ha : a = 145 ∨ a = 146 ∨ a = 147) (hb : b = 145 ∨ b = 146 ∨ b = 147) (hab : a ≠ b) (p0 : 0 ≤ p) (p1 : p + 20 ≤ if a = 145 then 20 else 80) (q0 : 0 ≤ q) (q1 : q + 20 ≤ if b = 145 then 20 else 80) : ∃ B', fX12_moves a b p q B = some B' ∧ (∀ d, d ≠ b → B' d = B d) ∧ (∀ j, 0 ≤ j → j < 20 → B' b (q + j) = B a (p + j)) ∧ ∀ y, y < q ∨ q + 20 ≤ y → B' b y = B b y := by
  have hp : p + 20 ≤ 80 := by split at p1 <;> omega
  have hq : q + 20 ≤ 80 := by split at q1 <;> omega
  have la : ∀ (M : Mem) i, 0 ≤ i → i < p + 20 → ldI M a i = some (M a i) := fun M i h0 h1 => ldI_ok (kdR ha) (by omega) h0 (by split <;> simp_all <;> omega)
  have sb : ∀ (M : Mem) i x, 0 ≤ i → i < q + 20 → stI M b i x = some (wr M b i x) := fun M i x h0 h1 => stI_ok (kdR hb) (by omega) h0 (by split <;> simp_all <;> omega)
  have L : ∃ r, lp (fX12_moves_b1 a b p q) (0, B) = some r ∧ (∀ d, d ≠ b → r d = B d) ∧ (∀ j, 0 ≤ j → j < 20 → r b (q + j) = B a (p + j)) ∧ ∀ y, y < q ∨ q + 20 ≤ y → r b y = B b y := by
    refine lp_ind (fun s : Int × Mem => 0 ≤ s.1 ∧ s.1 ≤ 20 ∧ (∀ d, d ≠ b → s.2 d = B d) ∧ (∀ j, 0 ≤ j → j < s.1 → s.2 b (q + j) = B a (p + j)) ∧ ∀ y, y < q ∨ q + 20 ≤ y → s.2 b y = B b y) (fun r : Mem => (∀ d, d ≠ b → r d = B d) ∧ (∀ j, 0 ≤ j → j < 20 → r b (q + j) = B a (p + j)) ∧ ∀ y, y < q ∨ q + 20 ≤ y → r b y = B b y) (fun s => (20 - s.1).toNat) ?_ _ ?_
    · rintro ⟨k, m⟩ ⟨k0, k1, hfr, hj, hy⟩
      dsimp only at k0 k1 hfr hj hy
      unfold fX12_moves_b1
      dsimp only
      by_cases z : 20 ≤ k
      · rw [if_pos z]
        exact Or.inr ⟨m, rfl, hfr, fun j a b => hj j a (by omega), hy⟩
      · rw [if_neg z, w32_id (show -2147483648 ≤ p + k by omega) (by omega), la _ _ (by omega) (by omega), ob, w32_id (show -2147483648 ≤ q + k by omega) (by omega), sb _ _ _ (by omega) (by omega), ob, w32_id (by omega) (by omega), hfr a hab]
        refine Or.inl ⟨_, rfl, ⟨by dsimp only; omega, by dsimp only; omega, fun d hd => by dsimp only; rw [wr_ne hd, hfr d hd], fun j a b => ?_, fun y h => by dsimp only; rw [wr_at, if_neg (by omega), hy y h]⟩, by dsimp only; omega⟩
        dsimp only at b ⊢
        rw [wr_at]
        by_cases e : j = k
        · rw [if_pos (by omega), e]
        · rw [if_neg (by omega)]; exact hj j a (by omega)
    · exact ⟨Int.le_refl _, by dsimp only; omega, fun _ _ => rfl, fun j a b => by dsimp only at b; omega, fun _ _ => rfl⟩
  obtain ⟨r, f, h1, h2, h3⟩ := L
  unfold fX12_moves
  rw [f, ob]
  exact ⟨r, rfl, h1, h2, h3⟩
/-- an open block while working -/
def OpW (A B : Mem) (t : Nat) (n : Int) (G : Nat → Int → Int → Int) (i l : Int) : Prop :=
  (A (t + 1) (G 2 i l) = 5 → (A 41 l = B 148 l ∧ 0 ≤ A 41 l ∧ A 41 l < n ∧ A 26 (A 41 l) = 1) ∧ (∀ s, 0 ≤ s → s < G 1 (G 2 i l) 0 → A (bgB l) s = B 146 (20 * l + s) ∧ 0 ≤ A (bgB l) s ∧ A (bgB l) s < n ∧ A 26 (A (bgB l) s) = G 4 (G 2 i l) s) ∧ (G 3 i l = 1 → ∀ s, 0 ≤ s → s < G 1 (G 2 i l) 0 → A (fsB l) s = B 147 (20 * l + s) ∧ 0 ≤ A (fsB l) s ∧ A (fsB l) s < n ∧ A 26 (A (fsB l) s) = G 4 (G 2 i l) s)) ∧
  (A (t + 1) (G 2 i l) = 7 → A 42 l = B 149 l ∧ 1 ≤ A 42 l ∧ A 42 l ≤ 9)
theorem OpW_fr {A A' B B' : Mem} {t : Nat} {n n' i i' l : Int} {G : Nat → Int → Int → Int} (h : OpW A B t n G i l) (g2 : G 2 i' l = G 2 i l) (g3 : G 3 i' l = 1 → G 3 i l = 1) (e1 : A' (t + 1) = A (t + 1)) (e41 : A' 41 l = A 41 l) (e42 : A' 42 l = A 42 l) (eb : A' (bgB l) = A (bgB l)) (ef : A' (fsB l) = A (fsB l)) (e26 : ∀ v, v < n → A' 26 v = A 26 v) (nn : n ≤ n') (b148 : B' 148 l = B 148 l) (b149 : B' 149 l = B 149 l) (b146 : ∀ s, 0 ≤ s → s < 20 → B' 146 (20 * l + s) = B 146 (20 * l + s)) (b147 : ∀ s, 0 ≤ s → s < 20 → B' 147 (20 * l + s) = B 147 (20 * l + s)) (g20 : G 1 (G 2 i l) 0 ≤ 20) : OpW A' B' t n' G i' l := by
  obtain ⟨h5, h7⟩ := h
  unfold OpW
  rw [g2, e1, e41, e42, eb, ef, b148, b149]
  refine ⟨fun z => ?_, h7⟩
  obtain ⟨⟨x1, x2, x3, x4⟩, y, w⟩ := h5 z
  refine ⟨⟨x1, x2, by omega, by rw [e26 _ x3]; exact x4⟩, fun s s0 s1 => ?_, fun u s s0 s1 => ?_⟩
  · obtain ⟨y1, y2, y3, y4⟩ := y s s0 s1
    rw [b146 s s0 (by omega), e26 _ y3]; exact ⟨y1, y2, by omega, y4⟩
  · obtain ⟨y1, y2, y3, y4⟩ := w (g3 u) s s0 s1
    rw [b147 s s0 (by omega), e26 _ y3]; exact ⟨y1, y2, by omega, y4⟩
def ShW (A B : Mem) (n : Int) : Prop := A 23 5 = B 138 421 ∧ 0 ≤ A 23 5 ∧ A 23 5 ≤ 8 ∧ ∀ k, 0 ≤ k → k < A 23 5 → A 28 k = B 138 (440 + k) ∧ 0 ≤ A 28 k ∧ A 28 k < n
theorem ShW_fr {A A' B B' : Mem} {n n' : Int} (h : ShW A B n) (e5 : A' 23 5 = A 23 5) (e28 : A' 28 = A 28) (b1 : ∀ f, 421 ≤ f → f < 448 → B' 138 f = B 138 f) (nn : n ≤ n') : ShW A' B' n' := by
  obtain ⟨h1, h2, h3, h4⟩ := h
  unfold ShW
  rw [e5, e28, b1 421 (by omega) (by omega)]
  refine ⟨h1, h2, h3, fun k k0 k1 => ?_⟩
  obtain ⟨x1, x2, x3⟩ := h4 k k0 k1
  rw [b1 _ (by omega) (by omega)]
  exact ⟨x1, x2, by omega⟩
/-- what working has made so far, before line i -/
def WD (A B : Mem) (t : Nat) (G : Nat → Int → Int → Int) (n nI : Int) (giv : Int → Int) (i : Int) : Prop := VX A B n nI giv ∧ NmV A B n (G 1 i 0) (G 4 i) ∧ (∀ l, 0 ≤ l → l < G 0 i 0 → OpW A B t n G i l) ∧ (∀ k, 0 ≤ k → k < A t 16 → A 29 k = B 138 (704 + k) ∧ (A 29 k = 0 ∨ A 29 k = 1)) ∧ ShW A B n ∧ A 22 7 = G 0 i 0 ∧ nI ≤ n ∧ ∀ v, 0 ≤ v → v < nI → A 26 v = 0
/-- which blocks working may change -/
def SL (A A' B B' : Mem) : Prop := (∀ d, ¬ (22 ≤ d ∧ d ≤ 43) → A' d = A d) ∧ (∀ d, d ≠ 132 → d ≠ 138 → ¬ (145 ≤ d ∧ d ≤ 149) → d ≠ 156 → B' d = B d) ∧ (∀ k, k ≠ 8 → B' 132 k = B 132 k) ∧ (∀ f, f < 420 ∨ (421 < f ∧ f < 440) → B' 138 f = B 138 f) ∧ A' 22 8 = A 22 8
theorem SL_refl (A B : Mem) : SL A A B B := ⟨fun _ _ => rfl, fun _ _ _ _ _ => rfl, fun _ _ => rfl, fun _ _ => rfl, rfl⟩
theorem SL_trans {A A' A'' B B' B'' : Mem} (h : SL A A' B B') (h' : SL A' A'' B' B'') : SL A A'' B B'' := ⟨fun d a => by rw [h'.1 d a, h.1 d a], fun d a b c e => by rw [h'.2.1 d a b c e, h.2.1 d a b c e], fun k a => by rw [h'.2.2.1 k a, h.2.2.1 k a], fun f a => by rw [h'.2.2.2.1 f a, h.2.2.2.1 f a], by rw [h'.2.2.2.2, h.2.2.2.2]⟩
theorem WFr_SL {A A' B B' : Mem} {n : Int} (h : WFr A A' B B' n) : SL A A' B B' := ⟨fun d a => h.1 d (by omega) (by omega) (by omega), fun d a b _ _ => h.2.2.2.2.1 d a b, h.2.2.2.2.2.1, fun f a => h.2.2.2.2.2.2 f (by omega), h.2.1 8 (by omega)⟩
/-- the fixed things while working -/
def WS (A B : Mem) (t : Nat) (G : Nat → Int → Int → Int) (c nI : Int) (giv : Int → Int) : Prop := (t = 5 ∨ t = 119) ∧ LnS A B t 210 G c ∧ 0 ≤ c ∧ c ≤ 200 ∧ G 0 c 0 = 0 ∧ (A t 16 = B 138 414 ∧ 0 ≤ A t 16 ∧ A t 16 ≤ 100) ∧ A t 10 = nI ∧ A t 0 = c ∧ B 138 412 = c ∧ ∀ i, 0 ≤ i → i < nI → giv i = B 138 (422 + 3 * i + 2)
theorem WS_SL {A A' B B' : Mem} {t : Nat} {G : Nat → Int → Int → Int} {c nI : Int} {giv : Int → Int} (h : WS A B t G c nI giv) (i6 : nI ≤ 6) (f : SL A A' B B') : WS A' B' t G c nI giv := by
  obtain ⟨h1, h2, h3, h4, h5, h6, h7, h8, h9, h10⟩ := h
  have tu : ∀ k, k ≤ 12 → A' (t + k) = A (t + k) := fun k hk => f.1 _ (by omega)
  have t0 : A' t = A t := tu 0 (by omega)
  refine ⟨h1, LnS_cg h2 (tu 1 (by omega)) (tu 2 (by omega)) (tu 3 (by omega)) (tu 4 (by omega)) (tu 5 (by omega)) (tu 6 (by omega)) (tu 7 (by omega)) (tu 8 (by omega)) (tu 9 (by omega)) (by rw [t0]) (by rw [t0]) (f.2.1 139 (by omega) (by omega) (by omega) (by omega)), h3, h4, h5, ?_, by rw [t0]; exact h7, by rw [t0]; exact h8, by rw [f.2.2.2.1 412 (by omega)]; exact h9, fun i i0 i1 => by rw [f.2.2.2.1 _ (by omega)]; exact h10 i i0 i1⟩
  rw [t0, f.2.2.2.1 414 (by omega)]; exact h6
/-- how much work is left in the open blocks -/
def rW (A : Mem) (t : Nat) (G : Nat → Int → Int → Int) (i : Int) : Int → Int := fun l => if A (t + 1) (G 2 i l) = 7 then A 42 l else if G 3 i l = 1 then 1 else 2
def b0W (G : Nat → Int → Int → Int) (i : Int) : Int := if G 0 i 0 = 0 then i else G 2 i 0
/-- which line is worked next, and what is left of the loops then: no value has a say in it -/
def nxL (A : Mem) (t : Nat) (G : Nat → Int → Int → Int) (i : Int) (K : Int → Int) : Int := if A (t + 1) i = 8 ∧ A (t + 1) (G 2 i (G 0 i 0 - 1)) = 7 ∧ 1 < K (G 0 i 0 - 1) then G 2 i (G 0 i 0 - 1) + 1 else i + 1
def nxK (A : Mem) (t : Nat) (G : Nat → Int → Int → Int) (i : Int) (K : Int → Int) (l : Int) : Int := if A (t + 1) i = 7 ∧ l = G 0 i 0 then A (t + 9) i else if A (t + 1) i = 8 ∧ A (t + 1) (G 2 i (G 0 i 0 - 1)) = 7 ∧ l = G 0 i 0 - 1 then K l - 1 else K l
def NX (A A' : Mem) (t : Nat) (G : Nat → Int → Int → Int) (i i' : Int) : Prop := i' = nxL A t G i (A 42) ∧ A' 23 5 = A 23 5 + (if A (t + 1) i = 9 then 1 else 0) ∧ ∀ l, 0 ≤ l → l < G 0 i' 0 → A' 42 l = nxK A t G i (A 42) l
theorem NX_o {A A' : Mem} {t : Nat} {G : Nat → Int → Int → Int} {i : Int} (h7 : A (t + 1) i ≠ 7) (h8 : A (t + 1) i ≠ 8) (e : A' 42 = A 42) (h9 : A (t + 1) i ≠ 9) (e5 : A' 23 5 = A 23 5) : NX A A' t G i (i + 1) := by
  unfold NX nxL nxK
  refine ⟨by rw [if_neg (fun z => h8 z.1)], by rw [if_neg h9, e5, Int.add_zero], fun l _ _ => by rw [if_neg (fun z => h7 z.1), if_neg (fun z => h8 z.1), e]⟩
/-- what comes of a worked line: both go on at i', or stop with one fault -/
def WRes (A B : Mem) (t : Nat) (G : Nat → Int → Int → Int) (c nI : Int) (giv : Int → Int) (i w st : Int) (i' : Int) (A' B' : Mem) : Prop := SL A A' B B' ∧ ((A' 22 9 = 0 ∧ B' 132 8 = 0 ∧ 0 ≤ i' ∧ i' ≤ c ∧ (∃ n', WD A' B' t G n' nI giv i') ∧ st + 1 + sm (rW A' t G i') (G 0 i' 0).toNat ≤ 10 * w + b0W G i' ∧ NX A A' t G i i') ∨ (0 < A' 22 9 ∧ B' 132 8 = A' 22 9))
/-- both before line i -/
def WI (A B : Mem) (t : Nat) (G : Nat → Int → Int → Int) (c nI : Int) (giv : Int → Int) (n i w st : Int) : Prop := WS A B t G c nI giv ∧ (0 ≤ i ∧ i < c) ∧ WD A B t G n nI giv i ∧ A 22 9 = 0 ∧ B 132 8 = 0 ∧ (0 ≤ w ∧ w ≤ 200) ∧ 0 ≤ st ∧ st + sm (rW A t G i) (G 0 i 0).toNat ≤ 10 * (w - (if A (t + 1) i = 4 ∨ A (t + 1) i = 5 ∨ A (t + 1) i = 7 ∨ A (t + 1) i = 9 then 1 else 0)) + b0W G i
theorem b0W_sam {G : Nat → Int → Int → Int} {i : Int} (h : samG G i) (o : 0 ≤ G 0 i 0) : b0W G i ≤ b0W G (i + 1) ∧ (G 0 i 0 = 0 → b0W G (i + 1) = b0W G i + 1) := by
  unfold b0W
  rw [h.1]
  by_cases z : G 0 i 0 = 0
  · rw [if_pos z, if_pos z]; omega
  · rw [if_neg z, if_neg z, (h.2 0 (Int.le_refl _) (by omega)).1]; omega
theorem rW_sam {A A' : Mem} {t : Nat} {G : Nat → Int → Int → Int} {i : Int} (h : samG G i) (o : 0 ≤ G 0 i 0) (e1 : A' (t + 1) = A (t + 1)) (e42 : A' 42 = A 42) : sm (rW A' t G (i + 1)) (G 0 (i + 1) 0).toNat = sm (rW A t G i) (G 0 i 0).toNat := by
  rw [h.1]
  apply sm_congr
  intro l l0 l1
  unfold rW
  rw [(h.2 l l0 (by omega)).1, (h.2 l l0 (by omega)).2, e1, e42]
/-- a line that opens and closes nothing -/
theorem WD_sam {A A' B B' : Mem} {t : Nat} {G : Nat → Int → Int → Int} {n n' nI i c : Int} {giv : Int → Int} (hS : WS A B t G c nI giv) (i0 : 0 ≤ i) (i1 : i < c) (h : WD A B t G n nI giv i) (hs : samG G i) (nn : n ≤ n') (vx : VX A' B' n' nI giv) (nm : NmV A' B' n' (G 1 (i + 1) 0) (G 4 (i + 1))) (f : ∀ d, d ≠ 22 → ¬ (23 ≤ d ∧ d ≤ 28) → d ≠ 30 → d ≠ 43 → A' d = A d) (f22 : A' 22 7 = A 22 7) (f26 : ∀ v, v < n → A' 26 v = A 26 v) (fb : ∀ d, 146 ≤ d → d ≤ 149 → B' d = B d) (sh : ShW A' B' n') (b704 : ∀ f, 704 ≤ f → B' 138 f = B 138 f) : WD A' B' t G n' nI giv (i + 1) := by
  have ht := hS.1
  obtain ⟨h1, h2, h3, h4, h5, h6, h7, h8⟩ := h
  have o := hS.2.1.2.1 i i0 (by omega)
  refine ⟨vx, nm, fun l l0 l1 => ?_, fun k k0 k1 => ?_, sh, by rw [f22, hs.1]; exact h6, by omega, fun v v0 v1 => by rw [f26 v (by omega)]; exact h8 v v0 v1⟩
  · rw [hs.1] at l1
    have ol := o.2.2.2 l l0 l1
    have o2 := hS.2.1.2.1 (G 2 i l) ol.1.1 (by omega)
    have l4 := o.1
    refine OpW_fr (h3 l l0 l1) (hs.2 l l0 l1).1 (fun z => by rw [← (hs.2 l l0 l1).2]; exact z) (f _ (by omega) (by omega) (by omega) (by omega)) (by rw [f 41 (by omega) (by omega) (by omega) (by omega)]) (by rw [f 42 (by omega) (by omega) (by omega) (by omega)]) (f _ (by unfold bgB; omega) (by unfold bgB; omega) (by unfold bgB; omega) (by unfold bgB; omega)) (f _ (by unfold fsB; omega) (by unfold fsB; omega) (by unfold fsB; omega) (by unfold fsB; omega)) f26 nn (by rw [fb 148 (by omega) (by omega)]) (by rw [fb 149 (by omega) (by omega)]) (fun s _ _ => by rw [fb 146 (by omega) (by omega)]) (fun s _ _ => by rw [fb 147 (by omega) (by omega)]) o2.2.1.2
  · rw [f t (by omega) (by omega) (by omega) (by omega)] at k1
    rw [f 29 (by omega) (by omega) (by omega) (by omega), b704 _ (by omega)]
    exact h4 k k0 k1
/-- the amount of work, over such a line -/
theorem WP_sam {A A' : Mem} {t : Nat} {G : Nat → Int → Int → Int} {i w st : Int} (hs : samG G i) (o : 0 ≤ G 0 i 0) (e1 : A' (t + 1) = A (t + 1)) (e42 : A' 42 = A 42) (h : st + sm (rW A t G i) (G 0 i 0).toNat ≤ 10 * (w - (if A (t + 1) i = 4 ∨ A (t + 1) i = 5 ∨ A (t + 1) i = 7 ∨ A (t + 1) i = 9 then 1 else 0)) + b0W G i) (hk : (A (t + 1) i = 4 ∨ A (t + 1) i = 9) ∨ G 0 i 0 = 0) : st + 1 + sm (rW A' t G (i + 1)) (G 0 (i + 1) 0).toNat ≤ 10 * w + b0W G (i + 1) := by
  rw [rW_sam hs o e1 e42]
  have b := b0W_sam hs o
  generalize sm (rW A t G i) (G 0 i 0).toNat = S at *
  rcases hk with z | z
  · rw [if_pos (by omega)] at h; omega
  · have := b.2 z
    split at h <;> omega
