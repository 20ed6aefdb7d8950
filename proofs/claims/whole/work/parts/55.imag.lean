/-! WHAT ANOTHER CHOICE WOULD CHANGE -/
set_option maxHeartbeats 4000000 in
set_option maxRecDepth 20000 in
theorem SpD_uniq {n nI nS only : Int} {mk ag F U lo hi sh : Int → Int} {D D' : Mem} (hV : Val n mk ag F nI) (hsh : ShOK n nS sh) (h : SpD n nS only mk ag F U lo hi sh D) (h' : SpD n nS only mk ag F U lo hi sh D') : D' 0 0 = D 0 0 ∧ D' 0 1 = D 0 1 ∧ D' 0 2 = D 0 2 ∧ ∀ v, 0 ≤ v → v < n → D' 1 v = D 1 v ∧ D' 2 v = D 2 v ∧ D' 3 v = D 3 v ∧ D' 4 v = D 4 v ∧ D' 5 v = D 5 v ∧ D' 6 v = D 6 v ∧ D' 7 v = D 7 v ∧ D' 8 v = D 8 v ∧ D' 9 v = D 9 v := by
  obtain ⟨a0, a1, a2, a3, a4, -⟩ := h
  obtain ⟨b0, b1, b2, b3, b4, -⟩ := h'
  have eL : ∀ v, 0 ≤ v → v < n → D' 7 v = D 7 v ∧ D' 8 v = D 8 v := fun v x y => Rg_uniq hV a2 b2 (v.toNat + 1) v (by omega) x y
  obtain ⟨u1, u2, u3⟩ := NdC_uniq hV hsh eL a4 b4
  refine ⟨by rw [a0, b0], u1, u2, fun v x y => ?_⟩
  obtain ⟨c1, c2, c3, c4⟩ := u3 v x y
  have l := eL v x y
  exact ⟨by rw [(a1 v x y).1, (b1 v x y).1], by rw [a3 v x y, b3 v x y, l.1, l.2], by rw [(a1 v x y).2, (b1 v x y).2], c2, c3, c4, l.1, l.2, c1⟩
set_option maxHeartbeats 4000000 in
set_option maxRecDepth 20000 in
theorem c_fn {g : Nat} {M : Mem} {n nI nS only fe al : Int} {D : Mem} (hg : g = 62 ∨ g = 88) (hn : M 44 0 = n) (hV : Val n (M 45) (M 46) (M 47) nI) (hI : In9 nI (M 52) (M 53)) (hs : M 44 5 = nS) (hsh : ShOK n nS (M 49)) (hf : 1 ≤ fe ∧ fe ≤ 8) (ha : 1 ≤ al ∧ al ≤ 16) (hS : SpD n nS only (M 45) (M 46) (M 47) (M 48) (M 52) (M 53) (M 49) D) :
    ∃ q r, fX2_reckon g M = some q ∧ fX5_reckon g only q = some r ∧ (∀ b, b < g + 1 ∨ g + 12 < b → r b = M b) ∧ CV g r D ∧ CX g r D := by
  have n1 := hV.2.1
  obtain ⟨q, r, D', f1, f2, fr, S', cv, cx, -, -⟩ := s_X5_all (only := only) (fe := fe) (al := al) hg hn hV hI hs hsh hf ha
  obtain ⟨u0, u1, u2, u3⟩ := SpD_uniq hV hsh hS S'
  have hn' : D 0 0 = n := hS.1
  refine ⟨q, r, f1, f2, fr, ⟨by rw [← u0]; exact cv.1, by rw [← u1]; exact cv.2.1, by rw [← u2]; exact cv.2.2.1, fun v a b => ?_⟩, fun v a b => ?_, fun v a b => ?_⟩
  · obtain ⟨c1, c2, c3, c4, c5, c6, -⟩ := u3 v a (by omega)
    obtain ⟨e1, e2, e3, e4, e5, e6, e7⟩ := cv.2.2.2 v a (by omega)
    exact ⟨by rw [← c1]; exact e1, by rw [← c2]; exact e2, by rw [← c3]; exact e3, by rw [← c4]; exact e4, by rw [← c5]; exact e5, by rw [← c6]; exact e6, e7⟩
  · obtain ⟨c1, c2, c3, c4, c5, c6, c7, c8, c9⟩ := u3 v a (by omega)
    obtain ⟨e1, e2, e3, e4⟩ := cx.1 v a (by omega)
    refine ⟨by rw [← c7]; exact e1, by rw [← c8]; exact e2, by rw [← c9]; exact e3, ?_⟩
    unfold AhB at e4 ⊢
    rw [c4] at e4
    exact e4
  · have e := cx.2 v a (by omega)
    rw [(u3 v a (by omega)).2.2.2.2.1] at e
    exact e
/-- what a plan costs -/
noncomputable def costV (D : Mem) (L E R : Int → Int) (c w : Int) : Int := if w = 0 then top D L E c 2 else if w = 1 then cutS D L c.toNat 0 0 else if w = 2 then cutS D L c.toNat 0 1 else if w = 3 then hi D L R c 0 else if w = 4 then hi D L R c 1 else if w = 5 then c else -1
set_option maxHeartbeats 4000000 in
set_option maxRecDepth 20000 in
theorem c_imagine {M : Mem} {t : Nat} {n nI nS only rule : Int} {D : Mem} (ht : t = 5 ∨ t = 119) (hp : M 0 13 = t) (hn : M 44 0 = n) (hV : Val n (M 45) (M 46) (M 47) nI) (hI : In9 nI (M 52) (M 53)) (hs : M 44 5 = nS) (hsh : ShOK n nS (M 49)) (hU : ∀ v, 0 ≤ v → v < n → M 48 v = 0 ∨ M 48 v = 1) (hS : SpD n nS only (M 45) (M 46) (M 47) (M 48) (M 52) (M 53) (M 49) D) (d3 : D 0 3 = M t 14) (d4 : D 0 4 = M t 15) :
    ∃ r, fX11_imagine only rule M = some r ∧ (∀ b, b < 89 ∨ 113 < b → r b = M b) ∧ CV 88 r D ∧ CX 88 r D ∧ Sch 88 r D (odr D rule) (pc (D 0 1)) ∧ ∀ p, 0 ≤ p → p < pc (D 0 1) → r 103 (odr D rule p) = p := by
  have hD := SpD_DW hV hsh hU hS
  obtain ⟨q, r, f1, f2, fr, cv, cx⟩ := c_fn (g := 88) (M := M) (only := only) (fe := D 0 3) (al := D 0 4) (Or.inr rfl) hn hV hI hs hsh hS.2.2.2.2.2.1 hS.2.2.2.2.2.2 hS
  obtain ⟨q2, r2, f3, fr3, f4, fr4, sc, pl⟩ := s_X7_plan (g := 88) (rule := rule) (Or.inr rfl) hD cv
  simp only [Nat.reduceAdd] at fr fr3 fr4 pl
  have hq0 : q2 0 = M 0 := by rw [fr3 0 (by omega) (by omega) (by omega), fr 0 (by omega)]
  have hqt : q2 t = M t := by rw [fr3 t (by omega) (by omega) (by omega), fr t (by omega)]
  have hk : ∀ b, b < 101 ∨ 113 < b → r2 b = r b := fun b hb => fr4 b (by omega)
  refine ⟨r2, ?_, fun b hb => by rw [fr4 b (by omega), fr b (by omega)], CV_fr (Or.inr rfl) cv (fun b hb => hk b (by omega)), ?_, sc, pl⟩
  · unfold fX11_imagine
    simp only [f1, f2, f3, ob]
    rw [gm_ok ht (by rw [hq0]; exact hp)]
    simp only [ob, hqt, ← d3, ← d4, f4]
  · unfold CX
    simp only [Nat.reduceAdd]
    rw [hk 89 (by omega), hk 90 (by omega), hk 93 (by omega), hk 98 (by omega), hk 99 (by omega)]
    exact cx
set_option maxHeartbeats 4000000 in
set_option maxRecDepth 20000 in
theorem c_cost {M D : Mem} {L : Int → Int} {c w : Int} (h : Sch 88 M D L c) : fX11_cost w M = some (costV D L (M 104) (M 107) c w, M) := by
  obtain ⟨h1, h2, h3, h4, h5, h6, h7⟩ := h
  simp only [CL, CC, Nat.reduceAdd] at h1 h4 h5 h6 h7
  have t2 := (h4 2 (by omega) (by omega)).2
  have u0 := h6 0 (Or.inl rfl)
  have u1 := h6 1 (Or.inr rfl)
  unfold fX11_cost costV
  rw [ld106 _ _ (by omega) (by omega), ld109 _ _ (by omega) (by omega), ld109 _ _ (by omega) (by omega), t2, u0, u1, h7.1, h7.2.1, h1.1]
  simp only [ob, oite]
set_option maxHeartbeats 4000000 in
set_option maxRecDepth 20000 in
theorem m_tell {M D : Mem} {L : Int → Int} {c w : Int} (hD : DW D) (md : MD M D) (ms : MSch M D L c) (mr : 2 < w → MReg M D L c) (w0 : 0 ≤ w) (w1 : w ≤ 4) : fX12_tell w M = some (costV D L (M 164) (M 165) c w, M) := by
  unfold fX12_tell costV
  by_cases e0 : w = 0
  · simp only [e0, Nat.reduceAdd, reduceIte, Int.reduceEq, Int.reduceLT, Int.reduceLE, Int.reduceNeg, Int.reduceAdd, Int.reduceSub, Int.reduceMul, Int.reduceNe, or_true, true_or, or_false, false_or, or_self, and_true, true_and, and_false, false_and, and_self, not_true_eq_false, not_false_eq_true, ne_eq, Bool.false_eq_true, Bool.true_eq_false, decide_true, decide_false, s_X12_most hD md ms.1 ms.2.1, ob]
  · by_cases e1 : w = 1
    · simp only [e1, Nat.reduceAdd, reduceIte, Int.reduceEq, Int.reduceLT, Int.reduceLE, Int.reduceNeg, Int.reduceAdd, Int.reduceSub, Int.reduceMul, Int.reduceNe, or_true, true_or, or_false, false_or, or_self, and_true, true_and, and_false, false_and, and_self, not_true_eq_false, not_false_eq_true, ne_eq, Bool.false_eq_true, Bool.true_eq_false, decide_true, decide_false, ob, ms.2.2.2.2.1]
    · by_cases e2 : w = 2
      · simp only [e2, Nat.reduceAdd, reduceIte, Int.reduceEq, Int.reduceLT, Int.reduceLE, Int.reduceNeg, Int.reduceAdd, Int.reduceSub, Int.reduceMul, Int.reduceNe, or_true, true_or, or_false, false_or, or_self, and_true, true_and, and_false, false_and, and_self, not_true_eq_false, not_false_eq_true, ne_eq, Bool.false_eq_true, Bool.true_eq_false, decide_true, decide_false, ob, ms.2.2.2.2.2.1]
      · have mr := mr (by omega)
        by_cases e3 : w = 3
        · simp (disch := omega) only [e3, Nat.reduceAdd, reduceIte, Int.reduceEq, Int.reduceLT, Int.reduceLE, Int.reduceNeg, Int.reduceAdd, Int.reduceSub, Int.reduceMul, Int.reduceNe, or_true, true_or, or_false, false_or, or_self, and_true, true_and, and_false, false_and, and_self, not_true_eq_false, not_false_eq_true, ne_eq, Bool.false_eq_true, Bool.true_eq_false, decide_true, decide_false, ob, w32_id, LD, mr.2 0 (Or.inl rfl)]
        · have e4 : w = 4 := by omega
          simp (disch := omega) only [e4, Nat.reduceAdd, reduceIte, Int.reduceEq, Int.reduceLT, Int.reduceLE, Int.reduceNeg, Int.reduceAdd, Int.reduceSub, Int.reduceMul, Int.reduceNe, or_true, true_or, or_false, false_or, or_self, and_true, true_and, and_false, false_and, and_self, not_true_eq_false, not_false_eq_true, ne_eq, Bool.false_eq_true, Bool.true_eq_false, decide_true, decide_false, ob, w32_id, LD, mr.2 1 (Or.inr rfl)]
theorem costV_congr {D : Mem} {L E E' R R' : Int → Int} {c w : Int} (he : ∀ k, 0 ≤ k → k < c → E' (L k) = E (L k)) (hr : 2 < w → ∀ k, 0 ≤ k → k < c → R' (L k) = R (L k)) : costV D L E' R' c w = costV D L E R c w := by
  unfold costV
  rw [top_congr (fun _ _ _ => rfl) he]
  by_cases h : 2 < w
  · rw [hi_congr (f := 0) (fun _ _ _ => rfl) (hr h), hi_congr (f := 1) (fun _ _ _ => rfl) (hr h)]
  · have e3 : ¬ w = 3 := by omega
    have e4 : ¬ w = 4 := by omega
    simp only [e3, e4, if_false]
/-- the two plans cost the same -/
theorem cost_eq {M r D : Mem} {L : Int → Int} {c w : Int} (hD : DW D) (h : Sch 88 M D L c) (ms : MSch r D L c) (mr : 2 < w → MReg r D L c) : costV D L (r 164) (r 165) c w = costV D L (M 104) (M 107) c w := by
  have he : ∀ k, 0 ≤ k → k < c → r 164 (L k) = M 104 (L k) := fun k a b => End_uniq hD h.2.1 h.2.2.1 ms.2.2.2.1 a b
  exact costV_congr he (fun hw k a b => Reg_uniq hD h.2.1 he h.2.2.2.2.1 (mr hw).1 (k.toNat + 1) k (by omega) a b)
theorem Kp_im {M r : Mem} (h : ∀ b, b < 89 ∨ 113 < b → r b = M b) : Kp M r := ⟨fun b hb => h b (by unfold scr at hb; omega), by rw [h 132 (by omega)], by rw [h 132 (by omega)]⟩
set_option maxHeartbeats 4000000 in
set_option maxRecDepth 20000 in
theorem q_by {M : Mem} {t : Nat} {n nI nS : Int} {D : Mem} (h : InvQ M t n nI nS) (c : Cch M t n nS D) (p w : Int) : Ans (fX11_by p w) (fX12_by p w) M := by
  obtain ⟨a1, a2, a3, a4, a5, a6, a7, a8, a9, -⟩ := id h
  have hD := Cch_DW h c
  by_cases hp : 0 ≤ p ∧ p ≤ 3
  · by_cases hw : 0 ≤ w ∧ w ≤ 4
    · obtain ⟨r, f, fr, cv, cx, sc, -⟩ := c_imagine (rule := p) a1 a2 a3 a4 a9 a6 a8 (fun v a b => U_01 h a b) c.1 c.2.2.2.2.2.1 c.2.2.2.2.2.2
      have k1 : Kp M (wr r 132 0 0) := Kp_trans (Kp_im fr) (Kp_th r 0)
      obtain ⟨x, f1, kx, md, mx⟩ := m_all0 h c k1
      obtain ⟨q, s, f2, f3, ks, md2, mx2, ms, mr⟩ := m_plan (rule := p) hD kx md mx
      refine ⟨costV D (odr D p) (r 104) (r 107) (pc (D 0 1)) w, r, s, ?_, ?_, ks⟩
      · unfold fX11_by
        rw [if_neg (by omega), if_neg (by omega), if_neg (by omega), if_pos (by omega), f, ob, c_cost sc, ob]
      · unfold fX12_by
        rw [pI_ok, ob, s_X12_within, ob, if_pos hp, if_neg (show ¬ (1 : Int) = 0 by decide), s_X12_within, ob, if_pos hw, if_neg (show ¬ (1 : Int) = 0 by decide), f1, ob, f2, ob, f3, ob, m_tell hD md2 ms (fun _ => mr) hw.1 hw.2, ob, cost_eq hD sc ms (fun _ => mr)]
    · refine ⟨-1, M, wr M 132 0 0, ?_, ?_, Kp_th M 0⟩
      · unfold fX11_by
        rw [if_neg (by omega), if_neg (by omega)]
        by_cases e : w < 0
        · rw [if_pos e]
        · rw [if_neg e, if_neg (by omega)]
      · unfold fX12_by
        rw [pI_ok, ob, s_X12_within, ob, if_pos hp, if_neg (show ¬ (1 : Int) = 0 by decide), s_X12_within, ob, if_neg hw, if_pos rfl]
  · refine ⟨-1, M, wr M 132 0 0, ?_, ?_, Kp_th M 0⟩
    · unfold fX11_by
      by_cases e : p < 0
      · rw [if_pos e]
      · rw [if_neg e, if_pos (by omega)]
    · unfold fX12_by
      rw [pI_ok, ob, s_X12_within, ob, if_neg hp, if_pos rfl]
set_option maxHeartbeats 4000000 in
set_option maxRecDepth 20000 in
theorem q_alone {M : Mem} {t : Nat} {n nI nS : Int} (h : InvQ M t n nI nS) (p w : Int) : Ans (fX11_alone p w) (fX12_alone p w) M := by
  obtain ⟨a1, a2, a3, a4, a5, a6, a7, a8, a9, a10, a11, a12, a13, a14, a15, -⟩ := id h
  by_cases hp : 0 ≤ p ∧ p < nS
  · by_cases hw : 0 ≤ w ∧ w ≤ 5
    · obtain ⟨-, -, D, -, -, -, S, -, -, d3, d4⟩ := s_X5_all (g := 88) (only := p) (Or.inr rfl) a3 a4 a9 a6 a8 a14.2 a15.2
      have hD := SpD_DW a4 a8 (fun v a b => U_01 h a b) S
      obtain ⟨r, f, fr, cv, cx, sc, -⟩ := c_imagine (rule := M 0 14) a1 a2 a3 a4 a9 a6 a8 (fun v a b => U_01 h a b) S d3 d4
      have k1 : Kp M (wr r 132 0 0) := Kp_trans (Kp_im fr) (Kp_th r 0)
      obtain ⟨x, y, f1, f1', kx, md, mx⟩ := m_rn (p1 := -1) (p2 := 0) (p3 := 0) (only := p) (lo := M 52) (hi := M 53) h k1 a9 (fun i a b => by rw [if_neg (by omega)]) (fun i a b => by rw [if_neg (by omega)]) (by omega) S d3 d4
      obtain ⟨q, s, f2, f3, ks, md2, mx2, ms, mr⟩ := m_plan (rule := M 0 14) hD kx md mx
      have e28 : y 132 28 = M 0 14 := by rw [kx.2.2, a13.1]
      have e9 : (wr r 132 0 0) 138 9 = nS := by simp (disch := omega) only [wr_ne]; rw [fr 138 (by omega)]; exact a7.1
      refine ⟨costV D (odr D (M 0 14)) (r 104) (r 107) (pc (D 0 1)) w, r, s, ?_, ?_, ks⟩
      · unfold fX11_alone
        rw [s_X11_isShown, ob, a6, if_pos hp, if_neg (show ¬ (1 : Int) = 0 by decide), if_neg (by omega), if_pos (by omega), f, ob, c_cost sc, ob]
      · unfold fX12_alone
        rw [pI_ok, ob, if_neg (by omega), ld138 _ _ (by omega) (by omega), ob, e9, if_neg (by omega), s_X12_within, ob, if_pos hw, if_neg (show ¬ (1 : Int) = 0 by decide), f1, ob, f1', ob, e28, f2, ob, f3, ob]
        by_cases w5 : w = 5
        · rw [if_pos w5, s_X12_manyOf, ob, ob, md2.2.1]
          unfold costV
          simp only [w5, Nat.reduceAdd, reduceIte, Int.reduceEq, Int.reduceLT, Int.reduceLE, Int.reduceNeg, Int.reduceAdd, Int.reduceSub, Int.reduceMul, Int.reduceNe, or_true, true_or, or_false, false_or, or_self, and_true, true_and, and_false, false_and, and_self, not_true_eq_false, not_false_eq_true, ne_eq, Bool.false_eq_true, Bool.true_eq_false, decide_true, decide_false]
        · rw [if_neg w5, m_tell hD md2 ms (fun _ => mr) hw.1 (by omega), ob, ob, cost_eq hD sc ms (fun _ => mr)]
    · refine ⟨-1, M, wr M 132 0 0, ?_, ?_, Kp_th M 0⟩
      · unfold fX11_alone
        rw [s_X11_isShown, ob, a6, if_pos hp, if_neg (show ¬ (1 : Int) = 0 by decide)]
        by_cases e : w < 0
        · rw [if_pos e]
        · rw [if_neg e, if_neg (by omega)]
      · unfold fX12_alone
        have e9 : (wr M 132 0 0) 138 9 = nS := by simp (disch := omega) only [wr_ne]; exact a7.1
        rw [pI_ok, ob, if_neg (by omega), ld138 _ _ (by omega) (by omega), ob, e9, if_neg (by omega), s_X12_within, ob, if_neg hw, if_pos rfl]
  · refine ⟨-1, M, wr M 132 0 0, ?_, ?_, Kp_th M 0⟩
    · unfold fX11_alone
      rw [s_X11_isShown, ob, a6, if_neg hp, if_pos rfl]
    · unfold fX12_alone
      have e9 : (wr M 132 0 0) 138 9 = nS := by simp (disch := omega) only [wr_ne]; exact a7.1
      rw [pI_ok, ob]
      by_cases e : p < 0
      · rw [if_pos e]
      · rw [if_neg e, ld138 _ _ (by omega) (by omega), ob, e9, if_pos (by omega)]
