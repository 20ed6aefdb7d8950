/-! THE TAPE -/
theorem nbi : ∀ b : Fin 127, nb (i2b (b.val : Int)) = (b.val : Int) := by decide +kernel
theorem nbi' {b : Int} (h0 : 0 ≤ b) (h1 : b ≤ 126) : nb (i2b b) = b := by
  obtain ⟨k, rfl⟩ : ∃ k : Fin 127, b = (k.val : Int) := ⟨⟨b.toNat, by omega⟩, by show b = ((b.toNat : Nat) : Int); omega⟩
  exact nbi k
theorem iand255 {x : Int} (h0 : -2147483648 ≤ x) (h1 : x < 2147483648) : iand x 255 = x % 256 := by
  unfold iand
  have e15 : (Int32.ofInt 255).toBitVec = 255#32 := by decide
  have e1 : (Int32.ofInt x &&& Int32.ofInt 255).toBitVec = (Int32.ofInt x).toBitVec &&& 255#32 := by rw [Int32.toBitVec_and, e15]
  have e2 : ((Int32.ofInt x).toBitVec &&& 255#32).toNat = (Int32.ofInt x).toBitVec.toNat % 256 := by
    rw [BitVec.toNat_and]
    exact Nat.and_two_pow_sub_one_eq_mod _ 8
  have e3 : ((Int32.ofInt x).toBitVec.toNat : Int) = x % 4294967296 := by
    show ((BitVec.ofInt 32 x).toNat : Int) = _
    rw [BitVec.toNat_ofInt]
    omega
  show (Int32.ofInt x &&& Int32.ofInt 255).toBitVec.toInt = x % 256
  rw [e1, BitVec.toInt_eq_toNat_cond, e2]
  have : (Int32.ofInt x).toBitVec.toNat % 256 < 256 := Nat.mod_lt _ (by decide)
  rw [if_pos (by omega)]
  omega
theorem lshr_div (s : Int) {k : Int} (h0 : 0 ≤ k) (h1 : k < 64) : lshr s k = w64 s / ((2 ^ k.toNat : Nat) : Int) := by
  obtain ⟨b, rfl⟩ := k63 h0 h1
  unfold lshr
  have key : ∀ b : Fin 64, (((Int32.ofInt (b.val : Int)).toInt64 &&& 63).toBitVec.smod 64).toNat = b.val := by decide +kernel
  show (Int64.ofInt s >>> ((Int32.ofInt (b.val : Int)).toInt64 &&& 63)).toBitVec.toInt = _
  rw [Int64.toBitVec_shiftRight, BitVec.sshiftRight_eq', BitVec.toInt_sshiftRight, key b, Int.shiftRight_eq_div_pow]
  rw [show ((b.val : Int)).toNat = b.val by simp]
  rfl
theorem byte_eq (p : Int) {k : Int} (hk : k = 56 ∨ k = 48 ∨ k = 40 ∨ k = 32 ∨ k = 24 ∨ k = 16 ∨ k = 8 ∨ k = 0) : iand (w32 (lshr p k)) 255 = iand (w32 (lushr p k)) 255 := by
  obtain ⟨a1, a2⟩ := w32_mod (lshr p k)
  obtain ⟨b1, b2⟩ := w32_mod (lushr p k)
  rw [iand255 a1.1 a1.2, iand255 b1.1 b1.2]
  have h1 := lshr_div p (k := k) (by omega) (by omega)
  have h2 := U_lushr p (k := k) (by omega) (by omega)
  have h3 := U_int (lushr p k)
  have h4 := U_int (w64 p)
  rw [U_w64] at h4
  rcases hk with rfl | rfl | rfl | rfl | rfl | rfl | rfl | rfl
  · have e : (2 : Nat) ^ (56 : Int).toNat = 72057594037927936 := by decide
    rw [e] at h1 h2; omega
  · have e : (2 : Nat) ^ (48 : Int).toNat = 281474976710656 := by decide
    rw [e] at h1 h2; omega
  · have e : (2 : Nat) ^ (40 : Int).toNat = 1099511627776 := by decide
    rw [e] at h1 h2; omega
  · have e : (2 : Nat) ^ (32 : Int).toNat = 4294967296 := by decide
    rw [e] at h1 h2; omega
  · have e : (2 : Nat) ^ (24 : Int).toNat = 16777216 := by decide
    rw [e] at h1 h2; omega
  · have e : (2 : Nat) ^ (16 : Int).toNat = 65536 := by decide
    rw [e] at h1 h2; omega
  · have e : (2 : Nat) ^ (8 : Int).toNat = 256 := by decide
    rw [e] at h1 h2; omega
  · have e : (2 : Nat) ^ (0 : Int).toNat = 1 := by decide
    rw [e] at h1 h2; omega
def byt (p : Int) (j : Nat) : Int := iand (w32 (lushr p (56 - 8 * (j : Int)))) 255
def putL (n b : Int) : Int := if (b = 10 ∨ 32 ≤ b ∧ b ≤ 126) ∧ n < 1000 then n + 1 else n
def putT (n b : Int) (T : Int → Int) : Int → Int := fun i => if ((b = 10 ∨ 32 ≤ b ∧ b ≤ 126) ∧ n < 1000) ∧ i = n then b else T i
def fdL (p : Int) (n : Int) : Nat → Int
  | 0 => n
  | j + 1 => putL (fdL p n j) (byt p j)
def fdT (p : Int) (n : Int) (T : Int → Int) : Nat → Int → Int
  | 0 => T
  | j + 1 => putT (fdL p n j) (byt p j) (fdT p n T j)
theorem putL_bd {n b : Int} (h : 0 ≤ n ∧ n ≤ 1000) : 0 ≤ putL n b ∧ putL n b ≤ 1000 := by
  unfold putL; split <;> omega
theorem fdL_bd {p n : Int} (h : 0 ≤ n ∧ n ≤ 1000) : ∀ j, 0 ≤ fdL p n j ∧ fdL p n j ≤ 1000 := by
  intro j
  induction j with
  | zero => exact h
  | succ j ih => exact putL_bd ih
theorem s_X8_put {M : Mem} {b : Int} (h : 0 ≤ M 1 2 ∧ M 1 2 ≤ 1000) : ∃ r, fX8_put b M = some r ∧ r 1 2 = putL (M 1 2) b ∧ r 2 = putT (M 1 2) b (M 2) ∧ (∀ k, k ≠ 2 → r 1 k = M 1 k) ∧ ∀ c, c ≠ 1 → c ≠ 2 → r c = M c := by
  unfold fX8_put
  by_cases hb : b = 10 ∨ 32 ≤ b ∧ b ≤ 126
  · have e : ((if b = 10 then some 1 else if b < 32 then some 0 else if 126 < b then some 0 else some 1 : Option Int)) = some 1 := by
      by_cases h1 : b = 10
      · rw [if_pos h1]
      · rw [if_neg h1, if_neg (by omega), if_neg (by omega)]
    rw [e, ob, if_neg (show ¬ (1 : Int) = 0 by decide)]
    by_cases hn : 1000 ≤ M 1 2
    · rw [if_pos hn, ob]
      refine ⟨M, rfl, ?_, ?_, fun _ _ => rfl, fun _ _ _ => rfl⟩
      · unfold putL; rw [if_neg (by omega)]
      · funext i; unfold putT; rw [if_neg (by omega)]
    · rw [if_neg hn, st2 _ _ _ h.1 (by omega), ob, pI_ok, ob, ob]
      have e12 : wr M 2 (M 1 2) (nb (i2b b)) 1 2 = M 1 2 := by rw [wr_ne (by omega)]
      rw [e12, w32_id (by omega) (by omega), nbi' (by omega) (by omega)]
      refine ⟨_, rfl, ?_, ?_, fun k hk => ?_, fun c c1 c2 => by rw [wr_ne c1, wr_ne c2]⟩
      · rw [wr_at, if_pos rfl]; unfold putL; rw [if_pos ⟨hb, by omega⟩]
      · funext i
        rw [wr_ne (by omega), wr_at]
        unfold putT
        by_cases hi : i = M 1 2
        · rw [if_pos hi, if_pos ⟨⟨hb, by omega⟩, hi⟩]
        · rw [if_neg hi, if_neg (fun z => hi z.2)]
      · rw [wr_at, if_neg hk, wr_ne (by omega)]
  · have e : ((if b = 10 then some 1 else if b < 32 then some 0 else if 126 < b then some 0 else some 1 : Option Int)) = some 0 := by
      rw [if_neg (by omega)]
      by_cases h1 : b < 32
      · rw [if_pos h1]
      · rw [if_neg h1, if_pos (by omega)]
    rw [e, ob, if_pos rfl, ob]
    refine ⟨M, rfl, ?_, ?_, fun _ _ => rfl, fun _ _ _ => rfl⟩
    · unfold putL; rw [if_neg (fun z => hb z.1)]
    · funext i; unfold putT; rw [if_neg (fun z => hb z.1.1)]
set_option maxHeartbeats 4000000 in
set_option maxRecDepth 20000 in
theorem s_X11_feedEight {M : Mem} {p : Int} (h : 0 ≤ M 1 2 ∧ M 1 2 ≤ 1000) : ∃ r, fX11_feedEight p M = some r ∧ r 1 2 = fdL p (M 1 2) 8 ∧ r 2 = fdT p (M 1 2) (M 2) 8 ∧ (∀ k, k ≠ 2 → r 1 k = M 1 k) ∧ ∀ c, c ≠ 1 → c ≠ 2 → r c = M c := by
  unfold fX11_feedEight
  refine lp_bind (fun s : Int × Mem => ∃ j : Nat, j ≤ 8 ∧ s.1 = 56 - 8 * (j : Int) ∧ s.2 1 2 = fdL p (M 1 2) j ∧ s.2 2 = fdT p (M 1 2) (M 2) j ∧ (∀ k, k ≠ 2 → s.2 1 k = M 1 k) ∧ ∀ c, c ≠ 1 → c ≠ 2 → s.2 c = M c) (fun r : Mem => r 1 2 = fdL p (M 1 2) 8 ∧ r 2 = fdT p (M 1 2) (M 2) 8 ∧ (∀ k, k ≠ 2 → r 1 k = M 1 k) ∧ ∀ c, c ≠ 1 → c ≠ 2 → r c = M c) (fun s => (s.1 + 8).toNat) ?_ ?_ ?_
  · rintro ⟨x, q⟩ ⟨j, j1, hx, h1, h2, h3, h4⟩
    dsimp only at hx h1 h2 h3 h4
    unfold fX11_feedEight_b1
    dsimp only
    by_cases hs : x < 0
    · rw [if_pos hs]
      have : j = 8 := by omega
      subst this
      exact Or.inr ⟨q, rfl, h1, h2, h3, h4⟩
    · rw [if_neg hs]
      have bd := fdL_bd (p := p) h j
      obtain ⟨r, f, r1, r2, r3, r4⟩ := s_X8_put (M := q) (b := iand (w32 (lushr p x)) 255) (by rw [h1]; exact bd)
      rw [f, ob, w32_id (by omega) (by omega)]
      refine Or.inl ⟨_, rfl, ⟨j + 1, by omega, by dsimp only; omega, ?_, ?_, fun k hk => by dsimp only; rw [r3 k hk, h3 k hk], fun c c1 c2 => by dsimp only; rw [r4 c c1 c2, h4 c c1 c2]⟩, by dsimp only; omega⟩
      · dsimp only; rw [r1, h1, hx]; rfl
      · dsimp only; rw [r2, h1, h2, hx]; rfl
  · exact ⟨0, by omega, by dsimp only; omega, rfl, rfl, fun _ _ => rfl, fun _ _ _ => rfl⟩
  · exact fun r hr => ⟨r, rfl, hr⟩
set_option maxHeartbeats 4000000 in
set_option maxRecDepth 20000 in
theorem s_X12_lay {M : Mem} {p : Int} (h : 0 ≤ M 132 2 ∧ M 132 2 ≤ 1000) : ∃ r, fX12_lay p M = some r ∧ r 132 2 = fdL p (M 132 2) 8 ∧ r 133 = fdT p (M 132 2) (M 133) 8 ∧ (∀ k, k ≠ 2 → r 132 k = M 132 k) ∧ ∀ c, c ≠ 132 → c ≠ 133 → r c = M c := by
  unfold fX12_lay
  refine lp_bind (fun s : Int × Mem => ∃ j : Nat, j ≤ 8 ∧ s.1 = 56 - 8 * (j : Int) ∧ s.2 132 2 = fdL p (M 132 2) j ∧ s.2 133 = fdT p (M 132 2) (M 133) j ∧ (∀ k, k ≠ 2 → s.2 132 k = M 132 k) ∧ ∀ c, c ≠ 132 → c ≠ 133 → s.2 c = M c) (fun r : Mem => r 132 2 = fdL p (M 132 2) 8 ∧ r 133 = fdT p (M 132 2) (M 133) 8 ∧ (∀ k, k ≠ 2 → r 132 k = M 132 k) ∧ ∀ c, c ≠ 132 → c ≠ 133 → r c = M c) (fun s => (s.1 + 8).toNat) ?_ ?_ ?_
  · rintro ⟨x, q⟩ ⟨j, j1, hx, h1, h2, h3, h4⟩
    dsimp only at hx h1 h2 h3 h4
    unfold fX12_lay_b1
    dsimp only
    by_cases hs : x < 0
    · rw [if_pos hs]
      have : j = 8 := by omega
      subst this
      exact Or.inr ⟨q, rfl, h1, h2, h3, h4⟩
    · rw [if_neg hs]
      have bd := fdL_bd (p := p) h j
      have eb : iand (w32 (lshr p x)) 255 = byt p j := by rw [byte_eq p (by omega), hx]; rfl
      rw [ob, eb, w32_id (by omega) (by omega)]
      generalize hb' : byt p j = b at *
      by_cases hb : b = 10 ∨ 32 ≤ b ∧ b ≤ 126
      · have e : ((if b = 10 then some true else if b < 32 then some false else if 126 < b then some false else some true : Option Bool)) = some true := by
          by_cases h1 : b = 10
          · rw [if_pos h1]
          · rw [if_neg h1, if_neg (by omega), if_neg (by omega)]
        rw [e, ob, if_pos rfl]
        by_cases hn : 1000 ≤ q 132 2
        · rw [if_pos hn, ob]
          refine Or.inl ⟨_, rfl, ⟨j + 1, by omega, by dsimp only; omega, ?_, ?_, h3, h4⟩, by dsimp only; omega⟩
          · dsimp only; unfold fdL putL; rw [hb', ← h1, if_neg (by omega)]
          · dsimp only; funext i; unfold fdT putT; rw [hb', ← h1, ← h2, if_neg (by omega)]
        · rw [if_neg hn, st133 _ _ _ (by omega) (by omega), ob, pI_ok, ob, ob]
          have e12 : wr q 133 (q 132 2) b 132 2 = q 132 2 := by rw [wr_ne (by omega)]
          rw [e12, w32_id (by omega) (by omega)]
          refine Or.inl ⟨_, rfl, ⟨j + 1, by omega, by dsimp only; omega, ?_, ?_, fun k hk => ?_, fun c c1 c2 => ?_⟩, by dsimp only; omega⟩
          · dsimp only; rw [wr_at, if_pos rfl]; unfold fdL putL; rw [hb', ← h1, if_pos ⟨hb, by omega⟩]
          · dsimp only
            funext i
            rw [wr_ne (by omega), wr_at]
            unfold fdT putT
            rw [hb', ← h1, ← h2]
            by_cases hi : i = q 132 2
            · rw [if_pos hi, if_pos ⟨⟨hb, by omega⟩, hi⟩]
            · rw [if_neg hi, if_neg (fun z => hi z.2)]
          · dsimp only; rw [wr_at, if_neg hk, wr_ne (by omega), h3 k hk]
          · dsimp only; rw [wr_ne c1, wr_ne c2, h4 c c1 c2]
      · have e : ((if b = 10 then some true else if b < 32 then some false else if 126 < b then some false else some true : Option Bool)) = some false := by
          rw [if_neg (by omega)]
          by_cases h1 : b < 32
          · rw [if_pos h1]
          · rw [if_neg h1, if_pos (by omega)]
        rw [e, ob, if_neg (by decide), ob]
        refine Or.inl ⟨_, rfl, ⟨j + 1, by omega, by dsimp only; omega, ?_, ?_, h3, h4⟩, by dsimp only; omega⟩
        · dsimp only; unfold fdL putL; rw [hb', ← h1, if_neg (fun z => hb z.1)]
        · dsimp only; funext i; unfold fdT putT; rw [hb', ← h1, ← h2, if_neg (fun z => hb z.1.1)]
  · exact ⟨0, by omega, by dsimp only; omega, rfl, rfl, fun _ _ => rfl, fun _ _ _ => rfl⟩
  · exact fun r hr => ⟨r, rfl, hr⟩
def Sgn (T : Int → Int) (n : Int) : Prop := ∀ i, 0 ≤ i → i < n → T i = 10 ∨ (32 ≤ T i ∧ T i ≤ 126)
def TpE (T T' : Int → Int) (n : Int) : Prop := ∀ i, 0 ≤ i → i < n → T' i = T i
theorem fd_rel {p n : Int} {T T' : Int → Int} (hs : Sgn T n) (he : TpE T T' n) : ∀ j, Sgn (fdT p n T j) (fdL p n j) ∧ TpE (fdT p n T j) (fdT p n T' j) (fdL p n j) := by
  intro j
  induction j with
  | zero => exact ⟨hs, he⟩
  | succ j ih =>
    obtain ⟨i1, i2⟩ := ih
    rw [show fdT p n T (j + 1) = putT (fdL p n j) (byt p j) (fdT p n T j) from rfl, show fdT p n T' (j + 1) = putT (fdL p n j) (byt p j) (fdT p n T' j) from rfl, show fdL p n (j + 1) = putL (fdL p n j) (byt p j) from rfl]
    unfold Sgn TpE at *
    generalize byt p j = b
    generalize fdL p n j = m at *
    generalize fdT p n T j = A at *
    generalize fdT p n T' j = B at *
    unfold putT putL
    by_cases h : (b = 10 ∨ 32 ≤ b ∧ b ≤ 126) ∧ m < 1000
    · rw [if_pos h]
      refine ⟨fun i a c => ?_, fun i a c => ?_⟩
      · by_cases hi : i = m
        · rw [if_pos ⟨h, hi⟩]; exact h.1
        · rw [if_neg (fun z => hi z.2)]; exact i1 i a (by omega)
      · by_cases hi : i = m
        · rw [if_pos ⟨h, hi⟩, if_pos ⟨h, hi⟩]
        · rw [if_neg (fun z => hi z.2), if_neg (fun z => hi z.2)]; exact i2 i a (by omega)
    · rw [if_neg h]
      refine ⟨fun i a c => ?_, fun i a c => ?_⟩
      · rw [if_neg (fun z => h z.1)]; exact i1 i a c
      · rw [if_neg (fun z => h z.1), if_neg (fun z => h z.1)]; exact i2 i a c
/-- the tape of both -/
def TpR (M : Mem) : Prop := (0 ≤ M 1 2 ∧ M 1 2 ≤ 1000) ∧ M 132 2 = M 1 2 ∧ Sgn (M 2) (M 1 2) ∧ TpE (M 2) (M 133) (M 1 2)
set_option maxHeartbeats 4000000 in
set_option maxRecDepth 20000 in
theorem q_feed {M : Mem} (h : TpR M) (a b c : Int) : ∃ x M1 M2, fX11_feed a b c M = some (x, M1) ∧ fX12_feed a b c M1 = some (x, M2) ∧ TpR M2 ∧ (∀ k, k ≠ 2 → M2 1 k = M 1 k) ∧ (∀ k, k ≠ 0 → k ≠ 2 → M2 132 k = M 132 k) ∧ ∀ d, d ≠ 1 → d ≠ 2 → d ≠ 132 → d ≠ 133 → M2 d = M d := by
  obtain ⟨h1, h2, h3, h4⟩ := h
  obtain ⟨c1, f1, x1, y1, u1, v1⟩ := s_X11_feedEight (p := a) h1
  have b1 := fdL_bd (p := a) h1 8
  obtain ⟨c2, f2, x2, y2, u2, v2⟩ := s_X11_feedEight (M := c1) (p := b) (by rw [x1]; exact b1)
  have b2 := fdL_bd (p := b) b1 8
  obtain ⟨c3, f3, x3, y3, u3, v3⟩ := s_X11_feedEight (M := c2) (p := c) (by rw [x2, x1]; exact b2)
  have b3 := fdL_bd (p := c) b2 8
  have w132 : ∀ d, d ≠ 1 → d ≠ 2 → c3 d = M d := fun d d1 d2 => by rw [v3 d d1 d2, v2 d d1 d2, v1 d d1 d2]
  have e0 : wr c3 132 0 0 132 2 = M 1 2 := by rw [wr_at, if_neg (by omega), w132 132 (by omega) (by omega), h2]
  have e133 : wr c3 132 0 0 133 = M 133 := by rw [wr_ne (by omega), w132 133 (by omega) (by omega)]
  obtain ⟨d1, g1, p1, q1, s1, t1⟩ := s_X12_lay (M := wr c3 132 0 0) (p := a) (by rw [e0]; exact h1)
  rw [e0] at p1 q1
  rw [e133] at q1
  obtain ⟨d2, g2, p2, q2, s2, t2⟩ := s_X12_lay (M := d1) (p := b) (by rw [p1]; exact b1)
  rw [p1] at p2 q2
  rw [q1] at q2
  obtain ⟨d3, g3, p3, q3, s3, t3⟩ := s_X12_lay (M := d2) (p := c) (by rw [p2]; exact b2)
  rw [p2] at p3 q3
  rw [q2] at q3
  rw [x1] at x2 y2
  rw [y1] at y2
  rw [x2] at x3 y3
  rw [y2] at y3
  obtain ⟨r1, r1'⟩ := fd_rel (p := a) h3 h4 8
  obtain ⟨r2, r2'⟩ := fd_rel (p := b) r1 r1' 8
  obtain ⟨r3, r3'⟩ := fd_rel (p := c) r2 r2' 8
  have o1 : d3 1 = c3 1 := by rw [t3 1 (by omega) (by omega), t2 1 (by omega) (by omega), t1 1 (by omega) (by omega), wr_ne (by omega)]
  have o2 : d3 2 = c3 2 := by rw [t3 2 (by omega) (by omega), t2 2 (by omega) (by omega), t1 2 (by omega) (by omega), wr_ne (by omega)]
  refine ⟨fdL c (fdL b (fdL a (M 1 2) 8) 8) 8, c3, d3, ?_, ?_, ⟨?_, ?_, ?_, ?_⟩, ?_, ?_, ?_⟩
  · unfold fX11_feed
    rw [f1, ob, f2, ob, f3, ob, x3]
  · unfold fX12_feed
    rw [pI_ok, ob, g1, ob, g2, ob, g3, ob, p3]
  · rw [o1, x3]; exact b3
  · rw [o1, x3, p3]
  · rw [o1, o2, x3, y3]; exact r3
  · rw [o1, o2, x3, y3, q3]; exact r3'
  · intro k hk
    rw [o1, u3 k hk, u2 k hk, u1 k hk]
  · intro k k0 k2
    rw [s3 k k2, s2 k k2, s1 k k2, wr_at, if_neg k0, w132 132 (by omega) (by omega)]
  · intro d e1 e2 e3 e4
    rw [t3 d e3 e4, t2 d e3 e4, t1 d e3 e4, wr_ne e3, w132 d e1 e2]
