theorem wr_back {M : Mem} {a : Nat} {i x : Int} {r : Mem} (h : r a = (wr M a i x) a) : (wr r a i (M a i)) a = M a := by
  funext j
  rw [wr_at, h, wr_at]
  split
  · rename_i e; rw [e]
  · rfl
set_option maxHeartbeats 4000000 in
set_option maxRecDepth 20000 in
theorem q_narrowed {M : Mem} {t : Nat} {n nI nS : Int} (h : InvQ M t n nI nS) (p lo hi w : Int) : Ans (fX11_narrowed p lo hi w) (fX12_narrowed p lo hi w) M := by
  obtain ⟨a1, a2, a3, a4, a5, a6, a7, a8, a9, a10, a11, a12, a13, a14, a15, -⟩ := id h
  have n6 := a4.2.2.2.1
  by_cases hp : 0 ≤ p ∧ p < nI
  · by_cases hr : 0 ≤ lo ∧ lo ≤ hi ∧ hi ≤ 999
    · by_cases hw : 0 ≤ w ∧ w ≤ 7
      · generalize hM1 : wr (wr M 52 p lo) 53 p hi = M1
        have m1ne : ∀ b, b ≠ 52 → b ≠ 53 → M1 b = M b := fun b b1 b2 => by rw [← hM1]; simp (disch := omega) only [wr_ne]
        have m152 : M1 52 = (wr M 52 p lo) 52 := by rw [← hM1]; simp (disch := omega) only [wr_ne]
        have m153 : M1 53 = (wr M 53 p hi) 53 := by rw [← hM1]; funext j; simp (disch := omega) only [wr_at, wr_ne]
        have i9 : In9 nI (M1 52) (M1 53) := fun i x y => by
          rw [m152, m153, wr_at, wr_at]
          have := a9 i x y
          by_cases e : i = p
          · rw [if_pos e, if_pos e]; exact hr
          · rw [if_neg e, if_neg e]; exact this
        have hU1 : ∀ v, 0 ≤ v → v < n → M1 48 v = 0 ∨ M1 48 v = 1 := fun v a b => by rw [m1ne 48 (by omega) (by omega)]; exact U_01 h a b
        have v1 : Val n (M1 45) (M1 46) (M1 47) nI := by rw [m1ne 45 (by omega) (by omega), m1ne 46 (by omega) (by omega), m1ne 47 (by omega) (by omega)]; exact a4
        have sh1 : ShOK n nS (M1 49) := by rw [m1ne 49 (by omega) (by omega)]; exact a8
        have c44 : M1 44 = M 44 := m1ne 44 (by omega) (by omega)
        have ct : M1 t = M t := m1ne t (by omega) (by omega)
        obtain ⟨-, -, D, -, -, -, S, -, -, d3, d4⟩ := s_X5_all (g := 88) (M := M1) (only := -1) (Or.inr rfl) (by rw [c44]; exact a3) v1 i9 (by rw [c44]; exact a6) sh1 a14.2 a15.2
        have hD := SpD_DW v1 sh1 hU1 S
        obtain ⟨r, f, fr, cv, cx, sc, -⟩ := c_imagine (M := M1) (rule := M 0 14) a1 (by rw [m1ne 0 (by omega) (by omega)]; exact a2) (by rw [c44]; exact a3) v1 i9 (by rw [c44]; exact a6) sh1 hU1 S (by rw [ct]; exact d3) (by rw [ct]; exact d4)
        generalize hM2 : wr (wr r 52 p (M 52 p)) 53 p (M 53 p) = M2
        have m2ne : ∀ b, b ≠ 52 → b ≠ 53 → M2 b = r b := fun b b1 b2 => by rw [← hM2]; simp (disch := omega) only [wr_ne]
        have m252 : M2 52 = M 52 := by
          have e1 : M2 52 = (wr r 52 p (M 52 p)) 52 := by rw [← hM2]; simp (disch := omega) only [wr_ne]
          rw [e1]
          exact wr_back (by rw [fr 52 (by omega)]; exact m152)
        have m253 : M2 53 = M 53 := by
          have e1 : M2 53 = (wr r 53 p (M 53 p)) 53 := by rw [← hM2]; funext j; simp (disch := omega) only [wr_at, wr_ne]
          rw [e1]
          exact wr_back (by rw [fr 53 (by omega)]; exact m153)
        have k2 : Kp M M2 := by
          refine ⟨fun b hb => ?_, ?_, ?_⟩
          · by_cases b1 : b = 52
            · rw [b1]; exact m252
            · by_cases b2 : b = 53
              · rw [b2]; exact m253
              · rw [m2ne b b1 b2, fr b (by unfold scr at hb; omega), m1ne b b1 b2]
          · rw [m2ne 132 (by omega) (by omega), fr 132 (by omega), m1ne 132 (by omega) (by omega)]
          · rw [m2ne 132 (by omega) (by omega), fr 132 (by omega), m1ne 132 (by omega) (by omega)]
        have k3 : Kp M (wr M2 132 0 0) := Kp_trans k2 (Kp_th M2 0)
        rw [m1ne 45 (by omega) (by omega), m1ne 46 (by omega) (by omega), m1ne 47 (by omega) (by omega), m1ne 48 (by omega) (by omega), m1ne 49 (by omega) (by omega)] at S
        obtain ⟨x, y, f1, f1', kx, md, mx⟩ := m_rn (p1 := p) (p2 := lo) (p3 := hi) (only := -1) (lo := M1 52) (hi := M1 53) h k3 i9 (fun i a b => by rw [m152, wr_at]) (fun i a b => by rw [m153, wr_at]) (by omega) S d3 d4
        obtain ⟨q, s, f2, f3, ks, md2, mx2, ms, mr⟩ := m_plan (rule := M 0 14) hD kx md mx
        have e28 : y 132 28 = M 0 14 := by rw [kx.2.2, a13.1]
        have e1 : (wr M2 132 0 0) 138 1 = nI := by simp (disch := omega) only [wr_ne]; rw [m2ne 138 (by omega) (by omega), fr 138 (by omega), m1ne 138 (by omega) (by omega)]; exact a10.2
        have sc2 : Sch 88 M2 D (odr D (M 0 14)) (pc (D 0 1)) := by
          unfold Sch CL CC at sc ⊢
          simp only [Nat.reduceAdd] at sc ⊢
          rw [m2ne 101 (by omega) (by omega), m2ne 102 (by omega) (by omega), m2ne 104 (by omega) (by omega), m2ne 105 (by omega) (by omega), m2ne 106 (by omega) (by omega), m2ne 107 (by omega) (by omega), m2ne 109 (by omega) (by omega), m2ne 110 (by omega) (by omega), m2ne 111 (by omega) (by omega), m2ne 112 (by omega) (by omega), m2ne 113 (by omega) (by omega)]
          exact sc
        have hx2 : ∀ v, 0 ≤ v → v < D 0 0 → M2 89 v = D 7 v ∧ M2 90 v = D 8 v := fun v a b => by
          rw [m2ne 89 (by omega) (by omega), m2ne 90 (by omega) (by omega)]
          exact ⟨(cx.1 v a b).1, (cx.1 v a b).2.1⟩
        have h44 : M2 44 0 = D 0 0 := by rw [m2ne 44 (by omega) (by omega)]; exact cv.1
        have h47 : M2 47 = M 47 := by rw [m2ne 47 (by omega) (by omega), fr 47 (by omega), m1ne 47 (by omega) (by omega)]
        have low := s_X2_countLow (g := 88) (M := M2) (Or.inr rfl) hD h44 hx2
        have knw := s_X2_countKnown (g := 88) (M := M2) (Or.inr rfl) hD h44 hx2
        rw [h47] at low
        refine ⟨if w = 6 then lowC D (M 47) else if w = 7 then knwC D else costV D (odr D (M 0 14)) (M2 104) (M2 107) (pc (D 0 1)) w, M2, s, ?_, ?_, ks⟩
        · unfold fX11_narrowed
          rw [s_X11_isInput a1 a2, ob, a10.1, if_pos hp, if_neg (show ¬ (1 : Int) = 0 by decide), s_X11_isRange, ob, if_pos hr, if_neg (show ¬ (1 : Int) = 0 by decide), if_neg (by omega), if_pos hw.2, ld52 _ _ (by omega) (by omega), ob, ld53 _ _ (by omega) (by omega), ob, st52 _ _ _ (by omega) (by omega), ob, st53 _ _ _ (by omega) (by omega), ob]
          dsimp only
          rw [hM1, m1ne 0 (by omega) (by omega), f, ob, st52 _ _ _ (by omega) (by omega), ob, st53 _ _ _ (by omega) (by omega), ob, hM2, low, knw, c_cost sc2]
          simp only [ob, oite]
        · unfold fX12_narrowed
          rw [pI_ok, ob, s_X12_isInput, ob, e1, if_pos hp, if_neg (show ¬ (1 : Int) = 0 by decide), s_X12_isRange, ob, if_pos hr, if_neg (show ¬ (1 : Int) = 0 by decide), s_X12_within, ob, if_pos hw, if_neg (show ¬ (1 : Int) = 0 by decide), f1, ob, f1', ob, e28, f2, ob, f3, ob]
          by_cases w5 : 5 ≤ w
          · rw [if_pos w5]
            by_cases e5 : w = 5
            · rw [if_pos e5, s_X12_manyOf, ob, ob, md2.2.1]
              unfold costV
              simp only [e5, Nat.reduceAdd, reduceIte, Int.reduceEq, Int.reduceLT, Int.reduceLE, Int.reduceNeg, Int.reduceAdd, Int.reduceSub, Int.reduceMul, Int.reduceNe, or_true, true_or, or_false, false_or, or_self, and_true, true_and, and_false, false_and, and_self, not_true_eq_false, not_false_eq_true, ne_eq, Bool.false_eq_true, Bool.true_eq_false, decide_true, decide_false]
            · rw [if_neg e5]
              by_cases e6 : w = 6
              · rw [if_pos e6, if_pos e6, ob, s_X12_howMany hD md2.1 mx2 (Or.inr rfl), ob, ob, if_neg (show ¬ (1 : Int) = 0 by decide)]
              · rw [if_neg e6, if_neg e6, if_pos (by omega), ob, s_X12_howMany hD md2.1 mx2 (Or.inl rfl), ob, ob, if_pos rfl]
          · rw [if_neg w5, m_tell hD md2 ms (fun _ => mr) hw.1 (by omega), ob, ob, cost_eq hD sc2 ms (fun _ => mr), if_neg (by omega), if_neg (by omega)]
      · refine ⟨-1, M, wr M 132 0 0, ?_, ?_, Kp_th M 0⟩
        · unfold fX11_narrowed
          rw [s_X11_isInput a1 a2, ob, a10.1, if_pos hp, if_neg (show ¬ (1 : Int) = 0 by decide), s_X11_isRange, ob, if_pos hr, if_neg (show ¬ (1 : Int) = 0 by decide)]
          by_cases e : w < 0
          · rw [if_pos e]
          · rw [if_neg e, if_neg (by omega)]
        · unfold fX12_narrowed
          have e1 : (wr M 132 0 0) 138 1 = nI := by simp (disch := omega) only [wr_ne]; exact a10.2
          rw [pI_ok, ob, s_X12_isInput, ob, e1, if_pos hp, if_neg (show ¬ (1 : Int) = 0 by decide), s_X12_isRange, ob, if_pos hr, if_neg (show ¬ (1 : Int) = 0 by decide), s_X12_within, ob, if_neg hw, if_pos rfl]
    · refine ⟨-1, M, wr M 132 0 0, ?_, ?_, Kp_th M 0⟩
      · unfold fX11_narrowed
        rw [s_X11_isInput a1 a2, ob, a10.1, if_pos hp, if_neg (show ¬ (1 : Int) = 0 by decide), s_X11_isRange, ob, if_neg hr, if_pos rfl]
      · unfold fX12_narrowed
        have e1 : (wr M 132 0 0) 138 1 = nI := by simp (disch := omega) only [wr_ne]; exact a10.2
        rw [pI_ok, ob, s_X12_isInput, ob, e1, if_pos hp, if_neg (show ¬ (1 : Int) = 0 by decide), s_X12_isRange, ob, if_neg hr, if_pos rfl]
  · refine ⟨-1, M, wr M 132 0 0, ?_, ?_, Kp_th M 0⟩
    · unfold fX11_narrowed
      rw [s_X11_isInput a1 a2, ob, a10.1, if_neg hp, if_pos rfl]
    · unfold fX12_narrowed
      have e1 : (wr M 132 0 0) 138 1 = nI := by simp (disch := omega) only [wr_ne]; exact a10.2
      rw [pI_ok, ob, s_X12_isInput, ob, e1, if_neg hp, if_pos rfl]
/-! two that change places -/
def swp (L : Int → Int) (p k : Int) : Int := if k = p then L (p + 1) else if k = p + 1 then L p else L k
set_option maxHeartbeats 4000000 in
set_option maxRecDepth 20000 in
theorem swp_ok {D : Mem} {L : Int → Int} {c p : Int} (hD : DW D) (hO : OrdV D L c) (p0 : 0 ≤ p) (p1 : p + 1 < c) (hns : ¬ tb (D 4 (L (p + 1))) (L p) = true) : OrdV D (swp L p) c := by
  obtain ⟨h1, h2, h3, h4, h5⟩ := id hO
  have n1 := hD.2.1
  let τ : Int → Int := fun k => if k = p then p + 1 else if k = p + 1 then p else k
  have hτ : ∀ k, swp L p k = L (τ k) := fun k => by
    unfold swp
    show _ = L (if k = p then p + 1 else if k = p + 1 then p else k)
    split
    · rfl
    · split <;> rfl
  have hb : ∀ k, 0 ≤ k → k < c → 0 ≤ τ k ∧ τ k < c := fun k a b => by
    show 0 ≤ (if k = p then p + 1 else if k = p + 1 then p else k) ∧ (if k = p then p + 1 else if k = p + 1 then p else k) < c
    repeat' split
    all_goals omega
  have hi : ∀ k, τ (τ k) = k := fun k => by
    show (if (if k = p then p + 1 else if k = p + 1 then p else k) = p then p + 1 else if (if k = p then p + 1 else if k = p + 1 then p else k) = p + 1 then p else (if k = p then p + 1 else if k = p + 1 then p else k)) = k
    repeat' split
    all_goals omega
  refine ⟨h1, fun k a b => ?_, fun k q a b e z => ?_, fun v a b e => ?_, fun k s a b s0 s1 z => ?_⟩
  · rw [hτ]; exact h2 _ (hb k a b).1 (hb k a b).2
  · rw [hτ, hτ] at z
    have x := hb k a (by omega)
    have y := hb q (by omega) e
    have := L_inj hO x.1 x.2 y.1 y.2 z
    have : τ (τ k) = τ (τ q) := by rw [this]
    rw [hi, hi] at this
    omega
  · obtain ⟨q, q0, q1, rfl⟩ := h4 v a b e
    exact ⟨τ q, (hb q q0 q1).1, (hb q q0 q1).2, by rw [hτ, hi]⟩
  · rw [hτ] at z
    have x := hb k a b
    obtain ⟨q, q0, q1, rfl⟩ := h5 (τ k) s x.1 x.2 s0 s1 z
    have y := hb q q0 (by omega)
    refine ⟨τ q, y.1, ?_, by rw [hτ, hi]⟩
    have hkt : τ k = if k = p then p + 1 else if k = p + 1 then p else k := rfl
    have hqt : τ q = if q = p then p + 1 else if q = p + 1 then p else q := rfl
    by_cases e1 : k = p
    · rw [if_pos e1] at hkt
      rw [hkt] at q1 z
      have : q ≠ p := fun e => by rw [e] at z; exact hns z
      rw [hqt, if_neg this, if_neg (by omega)]
      omega
    · rw [if_neg e1] at hkt
      by_cases e2 : k = p + 1
      · rw [if_pos e2] at hkt
        rw [hqt, if_neg (by omega), if_neg (by omega)]
        omega
      · rw [if_neg e2] at hkt
        rw [hqt]
        repeat' split
        all_goals omega
