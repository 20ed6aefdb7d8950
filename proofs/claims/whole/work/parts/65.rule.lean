theorem Cch_fr' {M M' : Mem} {t : Nat} {n nS : Int} {D : Mem} (ht : t = 5 ∨ t = 119) (h : Cch M t n nS D) (e : ∀ b, ¬ scr b → M' b = M b) : Cch M' t n nS D := by
  have hs : ∀ b : Nat, b < 22 ∨ (44 ≤ b ∧ b ≤ 55) ∨ (62 ≤ b ∧ b ≤ 87) ∨ (119 ≤ b ∧ b ≤ 131) → M' b = M b := fun b hb => e b (by unfold scr; omega)
  unfold Cch CV CX Sch CL CC
  simp only [Nat.reduceAdd]
  rw [hs 0 (by omega), hs 44 (by omega), hs 45 (by omega), hs 46 (by omega), hs 47 (by omega), hs 48 (by omega), hs 49 (by omega), hs 52 (by omega), hs 53 (by omega), hs t (by omega)]
  rw [hs 63 (by omega), hs 64 (by omega), hs 65 (by omega), hs 66 (by omega), hs 67 (by omega), hs 68 (by omega), hs 69 (by omega), hs 70 (by omega), hs 71 (by omega), hs 72 (by omega), hs 73 (by omega), hs 74 (by omega), hs 75 (by omega), hs 76 (by omega), hs 77 (by omega), hs 78 (by omega), hs 79 (by omega), hs 80 (by omega), hs 81 (by omega), hs 83 (by omega), hs 84 (by omega), hs 85 (by omega), hs 86 (by omega), hs 87 (by omega)]
  exact h
set_option maxHeartbeats 4000000 in
set_option maxRecDepth 20000 in
theorem c_refresh {M : Mem} {t : Nat} {n nI nS : Int} (ht : t = 5 ∨ t = 119) (hp : M 0 13 = t) (hn : M 44 0 = n) (hV : Val n (M 45) (M 46) (M 47) nI) (hI : In9 nI (M 52) (M 53)) (hs : M 44 5 = nS) (hsh : ShOK n nS (M 49)) (hU : ∀ v, 0 ≤ v → v < n → M 48 v = 0 ∨ M 48 v = 1) (hf : 1 ≤ M t 14 ∧ M t 14 ≤ 8) (ha : 1 ≤ M t 15 ∧ M t 15 ≤ 16) :
    ∃ r D, fX11_refresh M = some r ∧ (∀ b, b ≠ 0 → b < 63 ∨ 87 < b → r b = M b) ∧ (∀ k, k ≠ 15 → r 0 k = M 0 k) ∧ r 0 15 = -2 ∧ Cch r t n nS D := by
  obtain ⟨q, r, D, f1, f2, fr, hS, cv, cx, d3, d4⟩ := s_X5_all (g := 62) (only := -1) (fe := M t 14) (al := M t 15) (Or.inl rfl) hn hV hI hs hsh hf ha
  have hD := SpD_DW hV hsh hU hS
  have hr0 : r 0 = M 0 := fr 0 (by omega)
  obtain ⟨q2, r2, f3, fr3, f4, fr4, sc, pl⟩ := s_X7_plan (g := 62) (rule := r 0 14) (Or.inl rfl) hD cv
  simp only [Nat.reduceAdd] at fr fr3 fr4 pl
  have hq0 : q2 0 = M 0 := by rw [fr3 0 (by omega) (by omega) (by omega), hr0]
  have hqt : q2 t = M t := by rw [fr3 t (by omega) (by omega) (by omega), fr t (by omega)]
  have hk : ∀ b, b < 75 ∨ 87 < b → r2 b = r b := fun b hb => fr4 b (by omega)
  have fw : ∀ b, b ≠ 0 → wr r2 0 15 (-2) b = r2 b := fun b hb => wr_ne hb
  have f0 : ∀ k, k ≠ 15 → wr r2 0 15 (-2) 0 k = M 0 k := fun k hk' => by rw [wr_at, if_neg hk', hk 0 (by omega), hr0]
  have fa : ∀ b, b ≠ 0 → b < 63 ∨ 87 < b → wr r2 0 15 (-2) b = M b := fun b b0 hb => by rw [fw b b0, hk b (by omega), fr b (by omega)]
  refine ⟨wr r2 0 15 (-2), D, ?_, fa, f0, by rw [wr_at, if_pos rfl], ?_⟩
  · unfold fX11_refresh
    simp only [f1, f2, f3, ob]
    rw [gm_ok ht (by rw [hq0]; exact hp)]
    simp only [ob, hqt, ← d3, ← d4, f4, pI_ok]
  · have cv2 : CV 62 r2 D := CV_fr (Or.inl rfl) cv (fun b hb => hk b (by omega))
    have cx2 : CX 62 r2 D := by
      unfold CX
      simp only [Nat.reduceAdd]
      rw [hk 63 (by omega), hk 64 (by omega), hk 67 (by omega), hk 72 (by omega), hk 73 (by omega)]
      exact cx
    rw [hr0] at sc pl
    unfold Cch
    rw [f0 14 (by omega), fa 45 (by omega) (by omega), fa 46 (by omega) (by omega), fa 47 (by omega) (by omega), fa 48 (by omega) (by omega), fa 49 (by omega) (by omega), fa 52 (by omega) (by omega), fa 53 (by omega) (by omega), fa t (by omega) (by omega), fw 77 (by omega)]
    refine ⟨hS, ?_, ?_, ?_, pl, d3, d4⟩
    · unfold CV at cv2 ⊢
      simp only [Nat.reduceAdd] at cv2 ⊢
      rw [fw 44 (by omega), fw 45 (by omega), fw 48 (by omega), fw 65 (by omega), fw 66 (by omega), fw 68 (by omega), fw 69 (by omega), fw 70 (by omega), fw 71 (by omega), fw 74 (by omega)]
      exact cv2
    · unfold CX at cx2 ⊢
      simp only [Nat.reduceAdd] at cx2 ⊢
      rw [fw 63 (by omega), fw 64 (by omega), fw 67 (by omega), fw 72 (by omega), fw 73 (by omega)]
      exact cx2
    · unfold Sch CL CC at sc ⊢
      simp only [Nat.reduceAdd] at sc ⊢
      rw [fw 75 (by omega), fw 76 (by omega), fw 78 (by omega), fw 79 (by omega), fw 80 (by omega), fw 81 (by omega), fw 83 (by omega), fw 84 (by omega), fw 85 (by omega), fw 86 (by omega), fw 87 (by omega)]
      exact sc
/-- the blocks that a new plan touches -/
def pln (b : Nat) : Prop := b = 0 ∨ (63 ≤ b ∧ b ≤ 87)
set_option maxHeartbeats 4000000 in
set_option maxRecDepth 20000 in
theorem q_rule {M : Mem} {t : Nat} {n nI nS : Int} {D : Mem} (h : InvQ M t n nI nS) (c : Cch M t n nS D) (p : Int) : ∃ x M1 M2, fX11_rule p M = some (x, M1) ∧ fX12_rule p M1 = some (x, M2) ∧ (M2 = wr M 132 0 0 ∨ (InvQ M2 t n nI nS ∧ (∃ D', Cch M2 t n nS D') ∧ M2 0 15 = -2 ∧ (∀ b, ¬ scr b → ¬ pln b → M2 b = M b) ∧ (∀ k, k ≠ 14 → k ≠ 15 → M2 0 k = M 0 k) ∧ M2 132 2 = M 132 2)) := by
  obtain ⟨a1, a2, a3, a4, a5, a6, a7, a8, a9, a10, a11, a12, a13, a14, a15, a16, a17, a18, a19, a20⟩ := id h
  by_cases hp : 0 ≤ p ∧ p ≤ 3
  · have wne : ∀ b, b ≠ 0 → wr M 0 14 p b = M b := fun b hb => wr_ne hb
    obtain ⟨r, D', f, fr, f0, f15, c'⟩ := c_refresh (M := wr M 0 14 p) (t := t) (n := n) (nI := nI) (nS := nS) a1 (by rw [wr_at, if_neg (by omega)]; exact a2) (by rw [wne 44 (by omega)]; exact a3) (by rw [wne 45 (by omega), wne 46 (by omega), wne 47 (by omega)]; exact a4) (by rw [wne 52 (by omega), wne 53 (by omega)]; exact a9) (by rw [wne 44 (by omega)]; exact a6) (by rw [wne 49 (by omega)]; exact a8) (fun v x y => by rw [wne 48 (by omega)]; exact U_01 h x y) (by rw [wne t (by omega)]; exact a14.2) (by rw [wne t (by omega)]; exact a15.2)
    generalize hM2 : wr (wr r 132 0 0) 132 28 p = M2
    have m2ne : ∀ b, b ≠ 132 → M2 b = r b := fun b hb => by rw [← hM2]; simp (disch := omega) only [wr_ne]
    have m132 : ∀ k, M2 132 k = if k = 28 then p else if k = 0 then 0 else M 132 k := fun k => by
      rw [← hM2]; simp only [wr_at]; rw [fr 132 (by omega) (by omega), wne 132 (by omega)]
    have m2M : ∀ b, b ≠ 132 → b ≠ 0 → b < 63 ∨ 87 < b → M2 b = M b := fun b b1 b0 hb => by rw [m2ne b b1, fr b b0 hb, wne b b0]
    have m20 : ∀ k, k ≠ 15 → M2 0 k = if k = 14 then p else M 0 k := fun k hk => by rw [m2ne 0 (by omega), f0 k hk, wr_at]
    refine ⟨M 0 14, r, M2, ?_, ?_, Or.inr ⟨?_, ⟨D', Cch_fr' a1 c' (fun b hb => m2ne b (by unfold scr at hb; omega))⟩, by rw [m2ne 0 (by omega)]; exact f15, fun b hb hP => ?_, fun k k1 k2 => by rw [m20 k k2, if_neg k1], by rw [m132]; rfl⟩⟩
    · unfold fX11_rule
      rw [if_neg (by omega), if_pos (by omega), ob, pI_ok, ob, f, ob]
    · unfold fX12_rule
      have e28 : wr r 132 0 0 132 28 = M 0 14 := by rw [wr_at, if_neg (by decide), fr 132 (by omega) (by omega), wne 132 (by omega)]; exact a13.1.symm
      rw [pI_ok, ob, s_X12_within, ob, if_pos hp, if_neg (show ¬ (1 : Int) = 0 by decide), ob]
      dsimp only
      rw [e28, pI_ok, ob, hM2]
    · unfold InvQ MV MS
      rw [m2M 1 (by omega) (by omega) (by omega), m2M 44 (by omega) (by omega) (by omega), m2M 45 (by omega) (by omega) (by omega), m2M 46 (by omega) (by omega) (by omega), m2M 47 (by omega) (by omega) (by omega), m2M 48 (by omega) (by omega) (by omega), m2M 49 (by omega) (by omega) (by omega), m2M 50 (by omega) (by omega) (by omega), m2M 52 (by omega) (by omega) (by omega), m2M 53 (by omega) (by omega) (by omega), m2M 54 (by omega) (by omega) (by omega), m2M 55 (by omega) (by omega) (by omega), m2M 138 (by omega) (by omega) (by omega), m2M 150 (by omega) (by omega) (by omega), m2M 151 (by omega) (by omega) (by omega), m2M 152 (by omega) (by omega) (by omega), m2M t (by omega) (by omega) (by omega), m2M (t + 10) (by omega) (by omega) (by omega), m20 13 (by omega), m20 14 (by omega), m132 2, m132 28]
      exact ⟨a1, a2, a3, a4, a5, a6, a7, a8, a9, a10, a11, a12, ⟨rfl, hp⟩, a14, a15, a16, a17, a18, a19, a20⟩
    · exact m2M b (by unfold scr at hb; omega) (by unfold pln at hP; omega) (by unfold pln at hP; omega)
  · refine ⟨-1, M, wr M 132 0 0, ?_, ?_, Or.inl rfl⟩
    · unfold fX11_rule
      by_cases e : p < 0
      · rw [if_pos e]
      · rw [if_neg e, if_neg (by omega)]
    · unfold fX12_rule
      rw [pI_ok, ob, s_X12_within, ob, if_neg hp, if_pos rfl]
