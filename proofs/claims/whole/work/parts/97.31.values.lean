/-! VALUES in single form: the class's and the reference's -/
def NVok (n nI : Int) (F : Int → Int) (k a b c : Int) : Prop := (0 ≤ k ∧ k ≤ 13) ∧ (k = 0 → 0 ≤ a ∧ a < nI) ∧ (k = 1 → 0 ≤ a ∧ a ≤ 999) ∧ (2 ≤ k → 0 ≤ a ∧ a < n) ∧ (2 ≤ k → k ≠ 7 → k ≠ 12 → 0 ≤ b ∧ b < n) ∧ (k = 13 → 0 ≤ c ∧ c < n) ∧ (k ≤ 1 ∨ k = 7 ∨ k = 12 → b = -1) ∧ (k ≠ 13 → c = -1) ∧ (10 ≤ k → F a = 1) ∧ (k = 10 ∨ k = 11 → F b = 1) ∧ (k = 13 → F c = F b)
theorem Val_ext {n nI k a b c : Int} {mk ag F mk' ag' F' : Int → Int} (hV : Val n mk ag F nI) (n64 : n < 64) (hk : NVok n nI F k a b c) (m' : ∀ v, mk' v = if v = n then k else mk v) (a' : ∀ y, ag' y = if y = 3 * n then a else if y = 3 * n + 1 then b else if y = 3 * n + 2 then c else ag y) (f' : ∀ v, F' v = if v = n then (if k = 13 then F b else tmF k) else F v) : Val (n + 1) mk' ag' F' nI := by
  obtain ⟨n0, -, i0, i6, hv⟩ := hV
  refine ⟨by omega, by omega, i0, i6, fun v v0 v1 => ?_⟩
  have fo : ∀ w, w < n → F' w = F w := fun w hw => by rw [f', if_neg (by omega)]
  by_cases e : v = n
  · obtain ⟨h1, h2, h3, h4, h5, h6, h7, h8, h9, h10, h11⟩ := hk
    have em : mk' v = k := by rw [m', if_pos e]
    have e0 : ag' (3 * v) = a := by rw [a', if_pos (by omega)]
    have e1 : ag' (3 * v + 1) = b := by rw [a', if_neg (by omega), if_pos (by omega)]
    have e2 : ag' (3 * v + 2) = c := by rw [a', if_neg (by omega), if_neg (by omega), if_pos (by omega)]
    rw [em, e0, e1, e2]
    refine ⟨h1.1, h1.2, h2, h3, fun z => by have := h4 z; omega, fun z y x => by have := h5 z y x; omega, fun z => by have := h6 z; omega, h7, h8, ?_, fun z => ?_, fun z => ?_, fun z => ?_⟩
    · rw [f', if_pos e]
      by_cases z : k = 13
      · rw [if_pos z, if_pos z, fo b (h5 (by omega) (by omega) (by omega)).2]
      · rw [if_neg z, if_neg z]; rfl
    · rw [fo a (h4 (by omega)).2]; exact h9 z
    · rw [fo b (h5 (by omega) (by omega) (by omega)).2]; exact h10 z
    · rw [fo b (h5 (by omega) (by omega) (by omega)).2, fo c (h6 z).2]; exact h11 z
  · obtain ⟨h1, h2, h3, h4, h5, h6, h7, h8, h9, h10, h11, h12, h13⟩ := hv v v0 (by omega)
    have em : mk' v = mk v := by rw [m', if_neg e]
    have e0 : ag' (3 * v) = ag (3 * v) := by rw [a', if_neg (by omega), if_neg (by omega), if_neg (by omega)]
    have e1 : ag' (3 * v + 1) = ag (3 * v + 1) := by rw [a', if_neg (by omega), if_neg (by omega), if_neg (by omega)]
    have e2 : ag' (3 * v + 2) = ag (3 * v + 2) := by rw [a', if_neg (by omega), if_neg (by omega), if_neg (by omega)]
    rw [em, e0, e1, e2, fo v (by omega)]
    refine ⟨h1, h2, h3, h4, h5, h6, h7, h8, h9, ?_, fun z => ?_, fun z => ?_, fun z => ?_⟩
    · by_cases z : mk v = 13
      · have := h6 (by omega) (by omega) (by omega)
        rw [fo _ (by omega)]; exact h10
      · rw [if_neg z] at h10 ⊢; exact h10
    · have := h5 (by omega)
      rw [fo _ (by omega)]; exact h11 z
    · have := h6 (by omega) (by omega) (by omega)
      rw [fo _ (by omega)]; exact h12 z
    · have := h6 (by omega) (by omega) (by omega)
      have := h7 z
      rw [fo _ (by omega), fo _ (by omega)]; exact h13 z
def uk (U : Int → Int) (a b c j : Int) : Int := if j ≤ 0 then 1 else if j = 1 then u1 U 1 a else if j = 2 then u1 U (u1 U 1 a) b else u1 U (u1 U (u1 U 1 a) b) c
theorem uk_01 (U : Int → Int) (a b c j : Int) : uk U a b c j = 0 ∨ uk U a b c j = 1 := by
  unfold uk
  split
  · exact Or.inr rfl
  · repeat' split
    all_goals exact u1_01 _ _ _
theorem u1_neg {U : Int → Int} {q a : Int} (hq : q = 0 ∨ q = 1) (ha : a < 0) : u1 U q a = q := by
  unfold u1
  rcases hq with z | z
  · rw [z, if_pos rfl]
  · rw [z, if_neg (by decide), if_pos ha]
theorem Un_ext {n nI k a b c : Int} {mk ag F mk' ag' giv U U' : Int → Int} (hV : Val n mk ag F nI) (hk : NVok n nI F k a b c) (m' : ∀ v, mk' v = if v = n then k else mk v) (a' : ∀ y, ag' y = if y = 3 * n then a else if y = 3 * n + 1 then b else if y = 3 * n + 2 then c else ag y) (h : UnOK n mk ag giv U) (hu : ∀ v, v < n → U' v = U v) (hn : (1 ≤ k → U' n = uk U a b c (argc k)) ∧ (k = 0 → U' n = if giv a = 1 then 1 else 0)) : UnOK (n + 1) mk' ag' giv U' := by
  intro v v0 v1
  by_cases e : v = n
  · obtain ⟨h1, h2, h3, h4, h5, h6, h7, h8, h9, h10, h11⟩ := hk
    have em : mk' v = k := by rw [m', if_pos e]
    have e0 : ag' (3 * v) = a := by rw [a', if_pos (by omega)]
    have e1 : ag' (3 * v + 1) = b := by rw [a', if_neg (by omega), if_pos (by omega)]
    have e2 : ag' (3 * v + 2) = c := by rw [a', if_neg (by omega), if_neg (by omega), if_pos (by omega)]
    unfold uF
    rw [em, e0, e1, e2, e]
    by_cases z0 : k = 0
    · rw [if_pos z0]; exact hn.2 z0
    · rw [if_neg z0, hn.1 (by omega)]
      by_cases z1 : k = 1
      · rw [if_pos z1, z1, show argc 1 = 0 by decide]; rfl
      · rw [if_neg z1]
        have ea : u1 U' 1 a = u1 U 1 a := u1_congr (fun _ => hu a (h4 (by omega)).2)
        by_cases z2 : k = 7 ∨ k = 12
        · have hb := h7 (Or.inr z2)
          have hc := h8 (by omega)
          have ac : argc k = 1 := by unfold argc; rw [if_neg (by omega), if_pos (by omega)]
          rw [ac, u1_neg (u1_01 _ _ _) (by omega), u1_neg (u1_01 _ _ _) (by omega), ea]
          unfold uk
          rw [if_neg (by decide), if_pos rfl]
        · have hb := h5 (by omega) (by omega) (by omega)
          have eb : ∀ q, u1 U' q b = u1 U q b := fun q => u1_congr (fun _ => hu b hb.2)
          by_cases z3 : k = 13
          · have hc := h6 z3
            have ec : ∀ q, u1 U' q c = u1 U q c := fun q => u1_congr (fun _ => hu c hc.2)
            rw [ea, eb, ec, z3, show argc 13 = 3 by decide]
            unfold uk
            rw [if_neg (by decide), if_neg (by decide), if_neg (by decide)]
          · have hc := h8 z3
            have ac : argc k = 2 := by unfold argc; rw [if_neg (by omega), if_neg (by omega), if_neg z3]
            rw [ac, u1_neg (u1_01 _ _ _) (show c < 0 by omega), ea, eb]
            unfold uk
            rw [if_neg (by decide), if_neg (by decide), if_pos rfl]
  · have em : mk' v = mk v := by rw [m', if_neg e]
    have e0 : ag' (3 * v) = ag (3 * v) := by rw [a', if_neg (by omega), if_neg (by omega), if_neg (by omega)]
    have e1 : ag' (3 * v + 1) = ag (3 * v + 1) := by rw [a', if_neg (by omega), if_neg (by omega), if_neg (by omega)]
    have e2 : ag' (3 * v + 2) = ag (3 * v + 2) := by rw [a', if_neg (by omega), if_neg (by omega), if_neg (by omega)]
    have q : uF mk' ag' giv U' v = uF mk ag giv U' v := by unfold uF; rw [em, e0, e1, e2]
    rw [q, uF_congr hV v0 (by omega) (fun w _ w1 => hu w (by omega)), hu v (by omega)]
    exact h v v0 (by omega)
def SmV (A : Mem) (k a b c w : Int) : Prop := A 24 w = k ∧ A 25 (3 * w) = a ∧ A 25 (3 * w + 1) = b ∧ A 25 (3 * w + 2) = c
/-- a value more -/
def NewV (A A' : Mem) (n k a b c : Int) : Prop := (∀ d, d ≠ 23 → d ≠ 24 → d ≠ 25 → d ≠ 26 → d ≠ 27 → A' d = A d) ∧ A' 23 0 = n + 1 ∧ (∀ f, f ≠ 0 → A' 23 f = A 23 f) ∧ (∀ v, A' 24 v = if v = n then k else A 24 v) ∧ (∀ y, A' 25 y = if y = 3 * n then a else if y = 3 * n + 1 then b else if y = 3 * n + 2 then c else A 25 y) ∧ (∀ v, A' 26 v = if v = n then (if k = 13 then A 26 b else tmF k) else A 26 v) ∧ ∀ v, A' 27 v = if v = n then uk (A 27) a b c (argc k) else A 27 v
set_option maxHeartbeats 4000000 in
set_option maxRecDepth 20000 in
theorem c_sing1 {A : Mem} {n k a b c : Int} (h0 : A 23 0 = n) (n0 : 0 ≤ n) (n64 : n ≤ 64) : ∃ r, lp (fX9_single_b1 A k a b c) 0 = some r ∧ ((r = .inl () ∧ ∀ w, 0 ≤ w → w < n → ¬ SmV A k a b c w) ∨ ∃ x, r = .inr (x, A) ∧ 0 ≤ x ∧ x < n ∧ SmV A k a b c x ∧ ∀ w, 0 ≤ w → w < x → ¬ SmV A k a b c w) := by
  refine lp_ind (fun s : Int => 0 ≤ s ∧ s ≤ n ∧ ∀ w, 0 ≤ w → w < s → ¬ SmV A k a b c w) (fun r : Unit ⊕ (Int × Mem) => (r = .inl () ∧ ∀ w, 0 ≤ w → w < n → ¬ SmV A k a b c w) ∨ ∃ x, r = .inr (x, A) ∧ 0 ≤ x ∧ x < n ∧ SmV A k a b c x ∧ ∀ w, 0 ≤ w → w < x → ¬ SmV A k a b c w) (fun s => (n - s).toNat) ?_ _ ?_
  · rintro s ⟨s0, s1, hs⟩
    unfold fX9_single_b1
    simp only [h0]
    by_cases z : n ≤ s
    · rw [if_pos z]
      exact Or.inr ⟨_, rfl, Or.inl ⟨rfl, fun w a b => hs w a (by omega)⟩⟩
    · have nx : ¬ SmV A k a b c s → ∃ s', (some (Sum.inl (w32 (s + 1))) : Option (Int ⊕ (Unit ⊕ (Int × Mem)))) = some (Sum.inl s') ∧ (0 ≤ s' ∧ s' ≤ n ∧ ∀ w, 0 ≤ w → w < s' → ¬ SmV A k a b c w) ∧ (n - s').toNat < (n - s).toNat := fun hn => by
        rw [w32_id (by omega) (by omega)]
        refine ⟨_, rfl, ⟨by omega, by omega, fun w w0 w1 => ?_⟩, by omega⟩
        by_cases e : w = s
        · rw [e]; exact hn
        · exact hs w w0 (by omega)
      rw [if_neg z, w32_id (show -2147483648 ≤ 3 * s by omega) (by omega), ob, ld24 _ _ s0 (by omega), ob]
      by_cases e1 : A 24 s = k
      · rw [if_pos e1, ld25 _ _ (by omega) (by omega), ob]
        by_cases e2 : A 25 (3 * s) = a
        · rw [if_pos e2, w32_id (show -2147483648 ≤ 3 * s + 1 by omega) (by omega), ld25 _ _ (by omega) (by omega), ob]
          by_cases e3 : A 25 (3 * s + 1) = b
          · rw [if_pos e3, w32_id (show -2147483648 ≤ 3 * s + 2 by omega) (by omega), ld25 _ _ (by omega) (by omega), ob]
            by_cases e4 : A 25 (3 * s + 2) = c
            · rw [if_pos e4]
              exact Or.inr ⟨_, rfl, Or.inr ⟨s, rfl, s0, by omega, ⟨e1, e2, e3, e4⟩, hs⟩⟩
            · rw [if_neg e4]; exact Or.inl (nx (fun y => e4 y.2.2.2))
          · rw [if_neg e3]; exact Or.inl (nx (fun y => e3 y.2.2.1))
        · rw [if_neg e2]; exact Or.inl (nx (fun y => e2 y.2.1))
      · rw [if_neg e1]; exact Or.inl (nx (fun y => e1 y.1))
  · exact ⟨Int.le_refl _, n0, fun w a b => by omega⟩
set_option maxHeartbeats 4000000 in
set_option maxRecDepth 20000 in
theorem c_sing2 {M : Mem} {n nI k a b c : Int} {F : Int → Int} (n0 : 0 ≤ n) (n64 : n < 64) (hk : NVok n nI F k a b c) (h25 : M 25 (3 * n) = a ∧ M 25 (3 * n + 1) = b ∧ M 25 (3 * n + 2) = c) (h27 : M 27 n = 1) : ∃ r, lp (fX9_single_b2 k n) (0, M) = some r ∧ (∀ d, d ≠ 27 → r d = M d) ∧ ∀ v, r 27 v = if v = n then uk (M 27) a b c (argc k) else M 27 v := by
  have ab := argc_bd k
  have key : ∀ j : Int, 0 ≤ j → j < argc k → 0 ≤ M 25 (3 * n + j) ∧ M 25 (3 * n + j) < n ∧ ∀ q, (q = 0 ∨ q = 1) → q = uk (M 27) a b c j → u1 (M 27) q (M 25 (3 * n + j)) = uk (M 27) a b c (j + 1) := by
    obtain ⟨h1, h2, h3, h4, h5, h6, h7, h8, h9, h10, h11⟩ := hk
    intro j j0 j1
    have k2 : 2 ≤ k := by
      by_cases z : k = 0 ∨ k = 1
      · rw [show argc k = 0 by unfold argc; rw [if_pos z]] at j1; omega
      · omega
    by_cases e0 : j = 0
    · rw [e0, Int.add_zero, h25.1]
      refine ⟨(h4 k2).1, (h4 k2).2, fun q _ hq => ?_⟩
      rw [hq]
      unfold uk
      rw [if_pos (Int.le_refl 0), if_neg (by decide), if_pos (by decide)]
    · have k7 : ¬ (k = 7 ∨ k = 12) := fun z => by
        rw [show argc k = 1 by unfold argc; rw [if_neg (by omega), if_pos (by omega)]] at j1; omega
      by_cases e1 : j = 1
      · rw [e1, h25.2.1]
        refine ⟨(h5 k2 (by omega) (by omega)).1, (h5 k2 (by omega) (by omega)).2, fun q _ hq => ?_⟩
        rw [hq]
        unfold uk
        rw [if_neg (by decide), if_pos rfl, if_neg (by decide), if_neg (by decide), if_pos (by decide)]
      · have k13 : k = 13 := by
          unfold argc at j1
          by_cases z : k = 13
          · exact z
          · rw [if_neg (by omega)] at j1
            split at j1
            · omega
            · omega
        rw [show j = 2 by omega, h25.2.2]
        refine ⟨(h6 k13).1, (h6 k13).2, fun q _ hq => ?_⟩
        rw [hq]
        unfold uk
        rw [if_neg (by decide), if_neg (by decide), if_pos rfl, if_neg (by decide), if_neg (by decide), if_neg (by decide)]
  refine lp_ind (fun s : Int × Mem => 0 ≤ s.1 ∧ s.1 ≤ argc k ∧ (∀ d, d ≠ 27 → s.2 d = M d) ∧ ∀ v, s.2 27 v = if v = n then uk (M 27) a b c s.1 else M 27 v) (fun r : Mem => (∀ d, d ≠ 27 → r d = M d) ∧ ∀ v, r 27 v = if v = n then uk (M 27) a b c (argc k) else M 27 v) (fun s => (argc k - s.1).toNat) ?_ _ ?_
  · rintro ⟨j, q⟩ ⟨j0, j1, hfr, h7⟩
    dsimp only at j0 j1 hfr h7
    unfold fX9_single_b2
    rw [s_X11_argsOf, ob]
    dsimp only
    by_cases z : argc k ≤ j
    · rw [if_pos z]
      have : j = argc k := by omega
      subst this
      exact Or.inr ⟨q, rfl, hfr, h7⟩
    · obtain ⟨x0, x1, x2⟩ := key j j0 (by omega)
      have hn := h7 n
      rw [if_pos rfl] at hn
      have h01 := uk_01 (M 27) a b c j
      have ha := h7 (M 25 (3 * n + j))
      rw [if_neg (by omega)] at ha
      rw [if_neg z, ld27 _ _ n0 n64, ob]
      have e : ((if q 27 n = 0 then some 0 else (ldI q 25 (w32 ((w32 (3 * n)) + j))).bind fun v21 => (ldZ q 27 v21).bind fun v22 => if v22 = 0 then some 0 else some 1 : Option Int)) = some (uk (M 27) a b c (j + 1)) := by
        rw [← x2 (q 27 n) (by rw [hn]; exact h01) hn]
        unfold u1
        by_cases y : q 27 n = 0
        · rw [if_pos y, if_pos y]
        · rw [if_neg y, if_neg y, if_neg (by omega), w32_id (show -2147483648 ≤ 3 * n by omega) (by omega), w32_id (show -2147483648 ≤ 3 * n + j by omega) (by omega), ld25 _ _ (by omega) (by omega), ob, hfr 25 (by omega), ld27 _ _ x0 (by omega), ob, ha]
          split <;> rfl
      rw [e, ob, st27 _ _ _ n0 n64, ob, nz_ok (uk_01 _ _ _ _ _), w32_id (by omega) (by omega)]
      refine Or.inl ⟨_, rfl, ⟨by dsimp only; omega, by dsimp only; omega, fun d hd => by dsimp only; rw [wr_ne hd, hfr d hd], fun v => ?_⟩, by dsimp only; omega⟩
      dsimp only
      rw [wr_at]
      by_cases y : v = n
      · rw [if_pos y, if_pos y]
      · rw [if_neg y, if_neg y, h7 v, if_neg y]
  · refine ⟨Int.le_refl _, ab.1, fun _ _ => rfl, fun v => ?_⟩
    dsimp only
    by_cases y : v = n
    · rw [if_pos y, y, h27]; rfl
    · rw [if_neg y]
theorem c_sing3 {A : Mem} {n k a b c : Int} (h0 : A 23 0 = n) {r : Unit ⊕ (Int × Mem)} (hf : lp (fX9_single_b1 A k a b c) 0 = some r) : fX9_single k a b c A = Sum.elim (fun _ => if n < 64 then (stI A 24 n k).bind fun M9 => (stI M9 25 (w32 (3 * n)) a).bind fun M10 => (stI M10 25 (w32 ((w32 (3 * n)) + 1)) b).bind fun M11 => (stI M11 25 (w32 ((w32 (3 * n)) + 2)) c).bind fun M12 => (fX11_typeMade k M12).bind fun q13 => ((if q13.1 = 1 then some 1 else if k = 13 then (ldZ q13.2 26 b).bind fun v14 => if v14 = 0 then some 0 else some 1 else some 0 : Option (Int))).bind fun q15 => (stZ q13.2 26 n q15).bind fun M16 => (stZ M16 27 n 1).bind fun M17 => (lp (fX9_single_b2 k n) (0, M17)).bind fun q25 => (pI q25 23 0 (w32 ((q25 23 0) + 1))).bind fun M26 => some (n, M26) else some ((-1), A)) (fun r => some r) r := by
  unfold fX9_single
  rw [hf, h0]
  rfl
set_option maxHeartbeats 4000000 in
set_option maxRecDepth 20000 in
theorem c_single {A : Mem} {n nI k a b c : Int} (h0 : A 23 0 = n) (n0 : 0 ≤ n) (n64 : n ≤ 64) (F01' : ∀ v, 0 ≤ v → v < n → A 26 v = 0 ∨ A 26 v = 1) (hk : NVok n nI (A 26) k a b c) : ∃ x A', fX9_single k a b c A = some (x, A') ∧ ((0 ≤ x ∧ x < n ∧ A' = A ∧ SmV A k a b c x ∧ ∀ w, 0 ≤ w → w < x → ¬ SmV A k a b c w) ∨ ((∀ w, 0 ≤ w → w < n → ¬ SmV A k a b c w) ∧ ((n < 64 ∧ x = n ∧ NewV A A' n k a b c) ∨ (n = 64 ∧ x = -1 ∧ A' = A)))) := by
  obtain ⟨r, f, hr⟩ := c_sing1 (k := k) (a := a) (b := b) (c := c) h0 n0 n64
  rw [c_sing3 h0 f]
  rcases hr with ⟨rfl, hr⟩ | ⟨x, rfl, x0, x1, x2, x3⟩
  · simp only [Sum.elim_inl]
    by_cases z : n < 64
    · rw [if_pos z, st24 _ _ _ n0 z, ob, w32_id (show -2147483648 ≤ 3 * n by omega) (by omega), st25 _ _ _ (by omega) (by omega), ob, w32_id (show -2147483648 ≤ 3 * n + 1 by omega) (by omega), st25 _ _ _ (by omega) (by omega), ob, w32_id (show -2147483648 ≤ 3 * n + 2 by omega) (by omega), st25 _ _ _ (by omega) (by omega), ob, s_typeMade, ob]
      dsimp only
      obtain ⟨M12, hM⟩ : ∃ M12, M12 = wr (wr (wr (wr A 24 n k) 25 (3 * n) a) 25 (3 * n + 1) b) 25 (3 * n + 2) c := ⟨_, rfl⟩
      rw [← hM]
      have mo : ∀ d, d ≠ 24 → d ≠ 25 → M12 d = A d := fun d h1 h2 => by rw [hM, wr_ne h2, wr_ne h2, wr_ne h2, wr_ne h1]
      have m24 : ∀ v, M12 24 v = if v = n then k else A 24 v := fun v => by rw [hM, wr_ne (by omega), wr_ne (by omega), wr_ne (by omega), wr_at]
      have m25 : ∀ y, M12 25 y = if y = 3 * n then a else if y = 3 * n + 1 then b else if y = 3 * n + 2 then c else A 25 y := fun y => by
        rw [hM, wr_at, wr_at, wr_at, wr_ne (by omega)]
        by_cases y2 : y = 3 * n + 2
        · rw [if_pos y2, if_neg (by omega), if_neg (by omega), if_pos y2]
        · rw [if_neg y2]
          by_cases y1 : y = 3 * n + 1
          · rw [if_pos y1, if_neg (by omega), if_pos y1]
          · rw [if_neg y1, if_neg y1, if_neg y2]
      have e15 : ((if tmF k = 1 then some 1 else if k = 13 then (ldZ M12 26 b).bind fun v14 => if v14 = 0 then some 0 else some 1 else some 0 : Option (Int))) = some (if k = 13 then A 26 b else tmF k) := by
        by_cases y : k = 13
        · have hb := hk.2.2.2.2.1 (by omega) (by omega) (by omega)
          have t0 : tmF k = 0 := by unfold tmF; rw [if_neg (by omega)]
          rw [t0, if_neg (by decide), if_pos y, if_pos y, ld26 _ _ hb.1 (by omega), ob, mo 26 (by omega) (by omega)]
          rcases F01' b hb.1 hb.2 with u | u
          · rw [u, if_pos rfl]
          · rw [u, if_neg (by decide)]
        · rw [if_neg y, if_neg y]
          rcases tmF_01 k with u | u
          · rw [u, if_neg (by decide)]
          · rw [u, if_pos rfl]
      have f01 : (if k = 13 then A 26 b else tmF k) = 0 ∨ (if k = 13 then A 26 b else tmF k) = 1 := by
        by_cases y : k = 13
        · have hb := hk.2.2.2.2.1 (by omega) (by omega) (by omega)
          rw [if_pos y]; exact F01' b hb.1 hb.2
        · rw [if_neg y]; exact tmF_01 k
      rw [e15, ob, st26 _ _ _ n0 z, ob, nz_ok f01, st27 _ _ _ n0 z, ob, nz1]
      obtain ⟨M17, hM7⟩ : ∃ M17, M17 = wr (wr M12 26 n (if k = 13 then A 26 b else tmF k)) 27 n 1 := ⟨_, rfl⟩
      rw [← hM7]
      have no : ∀ d, d ≠ 26 → d ≠ 27 → M17 d = M12 d := fun d h1 h2 => by rw [hM7, wr_ne h2, wr_ne h1]
      have n26 : ∀ v, M17 26 v = if v = n then (if k = 13 then A 26 b else tmF k) else A 26 v := fun v => by rw [hM7, wr_ne (by omega), wr_at, mo 26 (by omega) (by omega)]
      have n27 : ∀ v, M17 27 v = if v = n then 1 else A 27 v := fun v => by rw [hM7, wr_at, wr_ne (by omega), mo 27 (by omega) (by omega)]
      obtain ⟨r, l, ro, r27⟩ := c_sing2 (M := M17) n0 z hk ⟨by rw [no 25 (by omega) (by omega), m25, if_pos rfl], by rw [no 25 (by omega) (by omega), m25, if_neg (by omega), if_pos rfl], by rw [no 25 (by omega) (by omega), m25, if_neg (by omega), if_neg (by omega), if_pos rfl]⟩ (by rw [n27, if_pos rfl])
      have r23 : ∀ f, r 23 f = A 23 f := fun f => by rw [ro 23 (by omega), no 23 (by omega) (by omega), mo 23 (by omega) (by omega)]
      rw [l, ob, pI_ok, ob, r23, h0, w32_id (by omega) (by omega)]
      refine ⟨n, _, rfl, Or.inr ⟨hr, Or.inl ⟨z, rfl, fun d h1 h2 h3 h4 h5 => ?_, ?_, fun f hf => ?_, fun v => ?_, fun y => ?_, fun v => ?_, fun v => ?_⟩⟩⟩
      · rw [wr_ne h1, ro d h5, no d h4 h5, mo d h2 h3]
      · rw [wr_at, if_pos rfl]
      · rw [wr_at, if_neg hf]; exact r23 f
      · rw [wr_ne (by omega), ro 24 (by omega), no 24 (by omega) (by omega)]; exact m24 v
      · rw [wr_ne (by omega), ro 25 (by omega), no 25 (by omega) (by omega)]; exact m25 y
      · rw [wr_ne (by omega), ro 26 (by omega)]; exact n26 v
      · rw [wr_ne (by omega), r27 v]
        by_cases y : v = n
        · rw [if_pos y, if_pos y]
          have cg : ∀ q d, d ≠ n → u1 (M17 27) q d = u1 (A 27) q d := fun q d hd => u1_congr (fun _ => by rw [n27, if_neg hd])
          have ha : 2 ≤ k → a ≠ n := fun w => by have := (hk.2.2.2.1 w).2; omega
          have hb : b ≠ n := fun w => by
            by_cases w1 : k ≤ 1 ∨ k = 7 ∨ k = 12
            · have := hk.2.2.2.2.2.2.1 w1; omega
            · have := (hk.2.2.2.2.1 (by omega) (by omega) (by omega)).2; omega
          have hc : c ≠ n := fun w => by
            by_cases w1 : k = 13
            · have := (hk.2.2.2.2.2.1 w1).2; omega
            · have := hk.2.2.2.2.2.2.2.1 w1; omega
          by_cases w : 2 ≤ k
          · unfold uk
            rw [cg _ a (ha w), cg _ b hb, cg _ c hc]
          · have : argc k = 0 := by unfold argc; rw [if_pos (by have := hk.1; omega)]
            rw [this]; rfl
        · rw [if_neg y, if_neg y, n27, if_neg y]
    · rw [if_neg z]
      exact ⟨-1, A, rfl, Or.inr ⟨hr, Or.inr ⟨by omega, rfl, rfl⟩⟩⟩
  · simp only [Sum.elim_inr]
    exact ⟨x, A, rfl, Or.inl ⟨x0, x1, rfl, x2, x3⟩⟩
