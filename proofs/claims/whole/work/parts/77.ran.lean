/-! RUN by the code -/
def hdF (D : Mem) (R : Int → Int) (a : Int) : Int := if D 7 (D 9 a) = D 8 (D 9 a) then D 7 (D 9 a) else R (D 9 a)
def rnN (D : Mem) (mk ag num cell : Int → Int) : Nat → Int → Int
  | 0 => fun _ => 0
  | k + 1 => nmF mk ag num cell (hdF D (rnN D mk ag num cell k))
def RnOK (n : Int) (mk ag num cell : Int → Int) (D : Mem) (Rn : Int → Int) : Prop := ∀ v, 0 ≤ v → v < n → Rn v = nmF mk ag num cell (hdF D Rn) v
theorem rn_st {n nI : Int} {mk ag F num cell : Int → Int} {D : Mem} (hV : Val n mk ag F nI) (hS : ∀ v, 0 ≤ v → v < n → 0 ≤ D 9 v ∧ D 9 v ≤ v) : ∀ (j k : Nat) (v : Int), 0 ≤ v → v < n → v < j → v < k → rnN D mk ag num cell j v = rnN D mk ag num cell k v := by
  intro j
  induction j with
  | zero => intro k v a b c; omega
  | succ j ih =>
    intro k v a b c d
    cases k with
    | zero => omega
    | succ k =>
      show nmF mk ag num cell (hdF D (rnN D mk ag num cell j)) v = nmF mk ag num cell (hdF D (rnN D mk ag num cell k)) v
      exact nmF_congr hV a b (fun w w0 w1 => by
        have := hS w w0 (by omega)
        unfold hdF
        rw [ih k (D 9 w) this.1 (by omega) (by omega) (by omega)])
theorem rn_ex {n nI : Int} {mk ag F num cell : Int → Int} {D : Mem} (hV : Val n mk ag F nI) (hS : ∀ v, 0 ≤ v → v < n → 0 ≤ D 9 v ∧ D 9 v ≤ v) : RnOK n mk ag num cell D (rnN D mk ag num cell 64) := by
  intro v a b
  have n1 := hV.2.1
  show nmF mk ag num cell (hdF D (rnN D mk ag num cell 63)) v = _
  exact nmF_congr hV a b (fun w w0 w1 => by
    have := hS w w0 (by omega)
    unfold hdF
    rw [rn_st hV hS 63 64 (D 9 w) this.1 (by omega) (by omega) (by omega)])
set_option maxHeartbeats 4000000 in
set_option maxRecDepth 20000 in
theorem nm_st {n nI : Int} {mk ag F num cell Nm : Int → Int} (hV : Val n mk ag F nI) (hnum : ∀ i, 0 ≤ i → i < nI → 0 ≤ num i ∧ num i ≤ 999) (hcl : ∀ i, 0 ≤ i → i < 16 → 0 ≤ cell i ∧ cell i ≤ 999) {v : Int} (b : 0 ≤ v) (c : v < n) (ih : ∀ w, 0 ≤ w → w < v → (-99999 ≤ Nm w ∧ Nm w ≤ 99999) ∧ (F w = 1 → Nm w = 0 ∨ Nm w = 1)) : (-99999 ≤ nmF mk ag num cell Nm v ∧ nmF mk ag num cell Nm v ≤ 99999) ∧ (F v = 1 → nmF mk ag num cell Nm v = 0 ∨ nmF mk ag num cell Nm v = 1) := by
  obtain ⟨k0, k1, k2, k3, k4, k5, k6, k7, k8, kF, t1, t2, t3⟩ := hV.2.2.2.2 v b c
  unfold nmF
  by_cases e0 : mk v = 0
  · rw [if_pos e0]
    have := hnum _ (k2 e0).1 (k2 e0).2
    rw [if_neg (by omega), if_neg (by omega)] at kF
    exact ⟨by omega, fun z => by omega⟩
  · rw [if_neg e0]
    by_cases e1 : mk v = 1
    · rw [if_pos e1]
      have := k3 e1
      rw [if_neg (by omega), if_neg (by omega)] at kF
      exact ⟨by omega, fun z => by omega⟩
    · rw [if_neg e1]
      have q4 := k4 (by omega)
      have A := ih (ag (3 * v)) q4.1 q4.2
      have B : (-99999 ≤ atA Nm (ag (3 * v + 1)) ∧ atA Nm (ag (3 * v + 1)) ≤ 99999) ∧ (mk v ≠ 7 → mk v ≠ 12 → F (ag (3 * v + 1)) = 1 → atA Nm (ag (3 * v + 1)) = 0 ∨ atA Nm (ag (3 * v + 1)) = 1) := by
        unfold atA
        by_cases hh : mk v = 7 ∨ mk v = 12
        · have := k7 (Or.inr hh)
          rw [if_neg (by omega)]
          exact ⟨by omega, fun z1 z2 => by omega⟩
        · have q := k5 (by omega) (by omega) (by omega)
          rw [if_pos q.1]
          have := ih _ q.1 q.2
          exact ⟨this.1, fun _ _ => this.2⟩
      have C : (-99999 ≤ atA Nm (ag (3 * v + 2)) ∧ atA Nm (ag (3 * v + 2)) ≤ 99999) ∧ (mk v = 13 → F (ag (3 * v + 2)) = 1 → atA Nm (ag (3 * v + 2)) = 0 ∨ atA Nm (ag (3 * v + 2)) = 1) := by
        unfold atA
        by_cases hh : mk v = 13
        · have q := k6 hh
          rw [if_pos q.1]
          have := ih _ q.1 q.2
          exact ⟨this.1, fun _ => this.2⟩
        · have := k8 hh
          rw [if_neg (by omega)]
          exact ⟨by omega, fun z => by omega⟩
      refine ⟨mdF_bd A.1 B.1 C.1 (fun z => A.2 (t1 (by omega))) hcl, fun hf => ?_⟩
      have hk : mk v = 8 ∨ mk v = 9 ∨ mk v = 10 ∨ mk v = 11 ∨ mk v = 12 ∨ mk v = 13 := by
        rw [hf] at kF
        by_cases h13 : mk v = 13
        · omega
        · rw [if_neg h13] at kF
          by_cases h8 : 8 ≤ mk v ∧ mk v ≤ 12
          · omega
          · rw [if_neg h8] at kF; omega
      generalize Nm (ag (3 * v)) = x at *
      generalize atA Nm (ag (3 * v + 1)) = y at *
      generalize atA Nm (ag (3 * v + 2)) = z at *
      rcases hk with e | e | e | e | e | e
      · simp only [mdF, e, Nat.reduceAdd, reduceIte, Int.reduceEq, Int.reduceLT, Int.reduceLE, Int.reduceNeg, Int.reduceAdd, Int.reduceSub, Int.reduceMul, Int.reduceNe, or_true, true_or, or_false, false_or, or_self, and_true, true_and, and_false, false_and, and_self, not_true_eq_false, not_false_eq_true, ne_eq, Bool.false_eq_true, Bool.true_eq_false, decide_true, decide_false]; split <;> omega
      · simp only [mdF, e, Nat.reduceAdd, reduceIte, Int.reduceEq, Int.reduceLT, Int.reduceLE, Int.reduceNeg, Int.reduceAdd, Int.reduceSub, Int.reduceMul, Int.reduceNe, or_true, true_or, or_false, false_or, or_self, and_true, true_and, and_false, false_and, and_self, not_true_eq_false, not_false_eq_true, ne_eq, Bool.false_eq_true, Bool.true_eq_false, decide_true, decide_false]; split <;> omega
      · simp only [mdF, e, Nat.reduceAdd, reduceIte, Int.reduceEq, Int.reduceLT, Int.reduceLE, Int.reduceNeg, Int.reduceAdd, Int.reduceSub, Int.reduceMul, Int.reduceNe, or_true, true_or, or_false, false_or, or_self, and_true, true_and, and_false, false_and, and_self, not_true_eq_false, not_false_eq_true, ne_eq, Bool.false_eq_true, Bool.true_eq_false, decide_true, decide_false]
        have := A.2 (t1 (by omega)); have := B.2 (by omega) (by omega) (t2 (Or.inl e)); omega
      · simp only [mdF, e, Nat.reduceAdd, reduceIte, Int.reduceEq, Int.reduceLT, Int.reduceLE, Int.reduceNeg, Int.reduceAdd, Int.reduceSub, Int.reduceMul, Int.reduceNe, or_true, true_or, or_false, false_or, or_self, and_true, true_and, and_false, false_and, and_self, not_true_eq_false, not_false_eq_true, ne_eq, Bool.false_eq_true, Bool.true_eq_false, decide_true, decide_false]
        have := A.2 (t1 (by omega)); have := B.2 (by omega) (by omega) (t2 (Or.inr e)); omega
      · simp only [mdF, e, Nat.reduceAdd, reduceIte, Int.reduceEq, Int.reduceLT, Int.reduceLE, Int.reduceNeg, Int.reduceAdd, Int.reduceSub, Int.reduceMul, Int.reduceNe, or_true, true_or, or_false, false_or, or_self, and_true, true_and, and_false, false_and, and_self, not_true_eq_false, not_false_eq_true, ne_eq, Bool.false_eq_true, Bool.true_eq_false, decide_true, decide_false]
        have := A.2 (t1 (by omega)); omega
      · simp only [mdF, e, Nat.reduceAdd, reduceIte, Int.reduceEq, Int.reduceLT, Int.reduceLE, Int.reduceNeg, Int.reduceAdd, Int.reduceSub, Int.reduceMul, Int.reduceNe, or_true, true_or, or_false, false_or, or_self, and_true, true_and, and_false, false_and, and_self, not_true_eq_false, not_false_eq_true, ne_eq, Bool.false_eq_true, Bool.true_eq_false, decide_true, decide_false]
        rw [if_pos e, hf] at kF
        have b1 := B.2 (by omega) (by omega) kF.symm
        have c1 := C.2 e (by rw [t3 e]; exact kF.symm)
        split <;> omega
theorem St_F {n nI : Int} {mk ag F L G S : Int → Int} (hV : Val n mk ag F nI) (h : StOK n mk ag L G S) : ∀ (k : Nat) (v : Int), v < k → 0 ≤ v → v < n → F (S v) = F v := by
  intro k
  induction k with
  | zero => intro v a b; omega
  | succ k ih =>
    intro v a b c
    obtain ⟨k0, k1, k2, k3, k4, k5, k6, k7, k8, kF, t1, t2, t3⟩ := hV.2.2.2.2 v b c
    rw [(h v b c).1]
    unfold stF
    by_cases z : mk v = 13 ∧ ¬ L v = G v ∧ L (ag (3 * v)) = G (ag (3 * v))
    · rw [if_pos z]
      have q5 := k5 (by omega) (by omega) (by omega)
      have q6 := k6 z.1
      rw [if_pos z.1] at kF
      by_cases y : L (ag (3 * v)) = 1
      · rw [if_pos y, ih _ (by omega) q5.1 (by omega), kF]
      · rw [if_neg y, ih _ (by omega) q6.1 (by omega), t3 z.1, kF]
    · rw [if_neg z]
theorem rn_bd {n nI nS only : Int} {mk ag F U lo hi sh num cell Rn : Int → Int} {D : Mem} (hV : Val n mk ag F nI) (hI : In9 nI lo hi) (hS : SpD n nS only mk ag F U lo hi sh D) (hnum : ∀ i, 0 ≤ i → i < nI → 0 ≤ num i ∧ num i ≤ 999) (hcl : ∀ i, 0 ≤ i → i < 16 → 0 ≤ cell i ∧ cell i ≤ 999) (hR : RnOK n mk ag num cell D Rn) : ∀ (k : Nat) (v : Int), v < k → 0 ≤ v → v < n → ((-99999 ≤ Rn v ∧ Rn v ≤ 99999) ∧ (F v = 1 → Rn v = 0 ∨ Rn v = 1)) ∧ (-99999 ≤ hdF D Rn v ∧ hdF D Rn v ≤ 99999) ∧ (F v = 1 → hdF D Rn v = 0 ∨ hdF D Rn v = 1) := by
  have St := hS.2.2.2.2.1.1
  have one : ∀ (k : Nat), (∀ w : Int, w < k → 0 ≤ w → w < n → (-99999 ≤ Rn w ∧ Rn w ≤ 99999) ∧ (F w = 1 → Rn w = 0 ∨ Rn w = 1)) → ∀ v : Int, v < k → 0 ≤ v → v < n → (-99999 ≤ hdF D Rn v ∧ hdF D Rn v ≤ 99999) ∧ (F v = 1 → hdF D Rn v = 0 ∨ hdF D Rn v = 1) := by
    intro k ih v a b c
    have q := (St v b c).2
    have rg := rg_ok hV hI hS.2.2.1 (v := D 9 v) q.1 (by omega)
    have eF := St_F hV St (v.toNat + 1) v (by omega) b c
    unfold hdF
    by_cases e : D 7 (D 9 v) = D 8 (D 9 v)
    · rw [if_pos e]
      refine ⟨rg.1.1, fun z => ?_⟩
      have := rg.2.2 (by rw [eF]; exact z)
      omega
    · rw [if_neg e]
      have := ih (D 9 v) (by omega) q.1 (by omega)
      rw [eF] at this
      exact this
  have two : ∀ (k : Nat) (v : Int), v < k → 0 ≤ v → v < n → (-99999 ≤ Rn v ∧ Rn v ≤ 99999) ∧ (F v = 1 → Rn v = 0 ∨ Rn v = 1) := by
    intro k
    induction k with
    | zero => intro v a b; omega
    | succ k ih =>
      intro v a b c
      rw [hR v b c]
      exact nm_st hV hnum hcl b c (fun w w0 w1 => one k ih w (by omega) w0 (by omega))
  exact fun k v a b c => ⟨two k v a b c, one k (two k) v a b c⟩
theorem nd_nk {n nS only : Int} {mk ag F U lo hi sh : Int → Int} {D : Mem} (hS : SpD n nS only mk ag F U lo hi sh D) {v : Int} (v0 : 0 ≤ v) (v1 : v < n) (hN : tb (D 0 1) v = true) : (¬ D 7 v = D 8 v) ∧ mk v ≠ 1 := by
  have nk : ¬ D 7 v = D 8 v := by
    rcases (hS.2.2.2.2.1.2.2.2.1.2.1 v v0 v1).mp hN with y | ⟨u, u0, u1, u2, u3⟩
    · exact y.1
    · exact u3.2.1
  refine ⟨nk, fun e => nk ?_⟩
  have := hS.2.2.1 v v0 v1
  rw [this.1, this.2]
  unfold lF gF
  rw [if_neg (by omega), if_pos e, if_neg (by omega), if_pos e]
theorem reg_ne {D : Mem} {L E R : Int → Int} {c p q x : Int} (hR : RegOK D L c E R) (q0 : 0 ≤ q) (q1 : q < p) (p1 : p < c) (hE : p < E (L q)) (hf : D 3 (L q) = D 3 (L p)) (x0 : R (L q) ≤ x) (x1 : x < R (L q) + D 2 (L q)) : ¬ (R (L p) ≤ x ∧ x < R (L p) + D 2 (L p)) := fun z =>
  (hR p (by omega) p1).2.2.2.1 x z.1 z.2 ⟨q, q0, q1, by rw [hf], hE, x0, x1⟩
theorem end_src {D : Mem} {L E : Int → Int} {c p q : Int} (hO : OrdV D L c) (hE : EndOK D L c E) (p0 : 0 ≤ p) (p1 : p < c) (q0 : 0 ≤ q) (q1 : q < p) (h : tb (D 4 (L p)) (L q) = true) : p ≤ E (L q) := by
  have e := hE q q0 (by omega)
  by_cases k : tb (D 0 2) (L q) = true
  · rw [e.1 k]; omega
  · exact (e.2 (by simpa using k)).2.1 p p0 p1 h
set_option maxHeartbeats 4000000 in
set_option maxRecDepth 20000 in
theorem c_held {q : Mem} {t : Nat} {n nI nS : Int} {D : Mem} (h : InvQ q t n nI nS) (c : Cch q t n nS D) {a : Int} (a0 : 0 ≤ a) (a1 : a < n) (hR : ¬ D 7 (D 9 a) = D 8 (D 9 a) → 0 ≤ q 81 (D 9 a) ∧ q 81 (D 9 a) ≤ 127) : fX4_heldFor a q = some (hdF D (fun s => q 60 (130 * (1 - D 3 s) + q 81 s)) a, q) := by
  have hD := Cch_DW h c
  have n1 := hD.2.1
  have d0 := c.1.1
  have st := (c.1.2.2.2.2.1.1 a a0 a1).2
  have cx := c.2.2.1.1
  simp only [Nat.reduceAdd] at cx
  have x1 := cx a a0 (by rw [d0]; exact a1)
  have x2 := cx (D 9 a) st.1 (by omega)
  have hU := (hD.2.2.2.2.2.2.2.2 (D 9 a) st.1 (by omega)).2.2.1
  unfold fX4_heldFor hdF
  rw [ld67 _ _ a0 (by omega), ob, x1.2.2.1, s_X2_isKnown (Or.inl rfl) st.1 (by omega), ob]
  simp only [Nat.reduceAdd, x2.1, x2.2.1]
  by_cases e : D 7 (D 9 a) = D 8 (D 9 a)
  · rw [if_pos e, if_neg (show ¬ (1 : Int) = 0 by decide), if_pos e, ld63 _ _ st.1 (by omega), ob, x2.1]
  · have hr := hR e
    rw [if_neg e, if_pos rfl, if_neg e]
    unfold fX7_halfOf
    rw [s_X7_fileOf hD c.2.1 st.1 (by omega), ob]
    simp only [Nat.reduceAdd]
    rw [ld81 _ _ st.1 (by omega), ob, ob]
    simp only []
    rw [w32_id (show -2147483648 ≤ 130 * (1 - D 3 (D 9 a)) by omega) (by omega), w32_id (by omega) (by omega), ld60 _ _ (by omega) (by omega), ob]
set_option maxHeartbeats 4000000 in
set_option maxRecDepth 20000 in
theorem s_X4_take2 {q : Mem} {v c : Int} {H : Int → Int} (v0 : 0 ≤ v) (v1 : v < 64) (hc : c = argc (q 45 v)) (ha : ∀ k m, 0 ≤ k → k < c → (∀ b, b ≠ 61 → m b = q b) → fX4_heldFor (q 46 (3 * v + k)) m = some (H k, m)) :
    ∃ r, lp (fX4_run_b2 v) (0, q) = some r ∧ (∀ b, b ≠ 61 → r b = q b) ∧ ∀ k, 0 ≤ k → k < c → r 61 k = H k := by
  have hc3 := argc_bd (q 45 v)
  refine lp_ind (fun s : Int × Mem => 0 ≤ s.1 ∧ s.1 ≤ c ∧ (∀ b, b ≠ 61 → s.2 b = q b) ∧ ∀ k, 0 ≤ k → k < s.1 → s.2 61 k = H k) (fun r : Mem => (∀ b, b ≠ 61 → r b = q b) ∧ ∀ k, 0 ≤ k → k < c → r 61 k = H k) (fun s => (c - s.1).toNat) ?_ _ ?_
  · rintro ⟨k, m⟩ ⟨k0, k1, hfr, hk⟩
    dsimp only at k0 k1 hfr hk
    unfold fX4_run_b2
    have e45 : m 45 = q 45 := hfr 45 (by omega)
    have e46 : m 46 = q 46 := hfr 46 (by omega)
    dsimp only
    rw [ld45 _ _ v0 (by omega), ob, s_X11_argsOf, ob, e45, ← hc]
    dsimp only
    by_cases hkc : c ≤ k
    · rw [if_pos hkc]
      exact Or.inr ⟨m, rfl, hfr, fun j a b => hk j a (by omega)⟩
    · rw [if_neg hkc, w32_id (show -2147483648 ≤ 3 * v by omega) (by omega), w32_id (show -2147483648 ≤ 3 * v + k by omega) (by omega), ld46 _ _ (by omega) (by omega), ob, e46, ha k m k0 (by omega) hfr, ob]
      dsimp only
      rw [st61 _ _ _ k0 (by omega), ob, w32_id (by omega) (by omega)]
      refine Or.inl ⟨_, rfl, ⟨by dsimp only; omega, by dsimp only; omega, fun b hb => by simp (disch := omega) only [wr_ne, hfr], fun j a b => ?_⟩, by dsimp only; omega⟩
      dsimp only at b
      simp only [wr_at]
      by_cases e : j = k
      · rw [if_pos e, e]
      · rw [if_neg e]; exact hk j a (by omega)
  · exact ⟨Int.le_refl _, by dsimp only; omega, fun b _ => rfl, fun k a b => by dsimp only at b; omega⟩
