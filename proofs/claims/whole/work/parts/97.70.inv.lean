/-! WHAT HOLDS BETWEEN CALLS, whole -/
def Rst (M : Mem) (t : Nat) : Prop := (∃ u : Nat, (u = 5 ∨ u = 119) ∧ u ≠ t ∧ M 4 1 = (u : Int)) ∧ (∀ w, 0 ≤ w → w < 23 → M 3 w = cdS 32 (ra w) (rl w)) ∧ (∀ w, 0 ≤ w → w < 23 → M 137 w = cdS 27 (ra w) (rl w)) ∧ ∃ G c, Wlk M t G c
def Inv (M : Mem) : Prop := ∃ t n nI nS D, InvQ M t n nI nS ∧ Cch M t n nS D ∧ BsC M D ∧ TpR M ∧ Rst M t
theorem Wlk_fr {M M' : Mem} {t : Nat} {G : Nat → Int → Int → Int} {c : Int} (h : Wlk M t G c) (e : ∀ b, t ≤ b → b ≤ t + 12 → M' b = M b) (e9 : M' 139 = M 139) (e8 : M' 138 0 = M 138 0) (e5 : M' 44 5 = M 44 5) : Wlk M' t G c := by
  obtain ⟨h1, h2, h3, h4, h5, h6, h7⟩ := h
  have et : M' t = M t := e t (by omega) (by omega)
  exact ⟨LnS_cg h1 (e _ (by omega) (by omega)) (e _ (by omega) (by omega)) (e _ (by omega) (by omega)) (e _ (by omega) (by omega)) (e _ (by omega) (by omega)) (e _ (by omega) (by omega)) (e _ (by omega) (by omega)) (e _ (by omega) (by omega)) (e _ (by omega) (by omega)) (by rw [et]) (by rw [et]) e9, h2, h3, h4, by rw [et]; exact h5, by rw [e8]; exact h6, by rw [e5]; exact TrF_cg h7 (e _ (by omega) (by omega)) (e _ (by omega) (by omega))⟩
theorem Rst_fr {M M' : Mem} {t : Nat} (ht : t = 5 ∨ t = 119) (h : Rst M t) (e : ∀ b, b = 3 ∨ b = 4 ∨ (t ≤ b ∧ b ≤ t + 12) ∨ b = 44 ∨ (137 ≤ b ∧ b ≤ 139) → M' b = M b) : Rst M' t := by
  obtain ⟨⟨u, u1, u2, u3⟩, h2, h3, G, c, h4⟩ := h
  refine ⟨⟨u, u1, u2, by rw [e 4 (by omega)]; exact u3⟩, by rw [e 3 (by omega)]; exact h2, by rw [e 137 (by omega)]; exact h3, G, c, ?_⟩
  exact Wlk_fr h4 (fun b x y => e b (by omega)) (e 139 (by omega)) (by rw [e 138 (by omega)]) (by rw [e 44 (by omega)])
theorem TpR_fr {M M' : Mem} (h : TpR M) (e1 : M' 1 2 = M 1 2) (e2 : M' 2 = M 2) (e3 : M' 133 = M 133) (e4 : M' 132 2 = M 132 2) : TpR M' := by
  unfold TpR at *
  rw [e1, e2, e3, e4]
  exact h
theorem Inv_kp {M M' : Mem} (h : Inv M) (k : Kp M M') : Inv M' := by
  obtain ⟨t, n, nI, nS, D, h1, h2, h3, h4, h5⟩ := h
  have ht := h1.1
  have ks : ∀ b : Nat, b < 22 ∨ (44 ≤ b ∧ b ≤ 55) ∨ (119 ≤ b ∧ b ≤ 131) ∨ b = 133 ∨ (137 ≤ b ∧ b ≤ 139) → M' b = M b := fun b hb => k.1 b (by unfold scr; omega)
  refine ⟨t, n, nI, nS, D, InvQ_fr h1 k, Cch_fr ht h2 k, ?_, TpR_fr h4 (by rw [ks 1 (by omega)]) (ks 2 (by omega)) (ks 133 (by omega)) k.2.1, Rst_fr ht h5 (fun b hb => ks b (by omega))⟩
  unfold BsC
  rw [ks 0 (by omega)]
  exact h3
theorem Kp_0 {M : Mem} {x : Int} : Kp M (wr M 132 0 x) := ⟨fun b hb => wr_ne (fun e => hb (by unfold scr; omega)), by rw [wr_at, if_neg (by omega)], by rw [wr_at, if_neg (by omega)]⟩
/-- one call of both: they answer alike, and all that must hold holds again -/
def AnsI (f h : Mem → Option (Int × Mem)) (M : Mem) : Prop := ∃ x M1 M2, f M = some (x, M1) ∧ h M1 = some (x, M2) ∧ Inv M2
theorem AnsI_q {f h : Mem → Option (Int × Mem)} {M : Mem} (hI : Inv M) (a : Ans f h M) : AnsI f h M := by
  obtain ⟨x, M1, M2, e1, e2, k⟩ := a
  exact ⟨x, M1, M2, e1, e2, Inv_kp hI k⟩
theorem i_feed {M : Mem} (h : Inv M) (a b c : Int) : AnsI (fX11_feed a b c) (fX12_feed a b c) M := by
  obtain ⟨t, n, nI, nS, D, h1, h2, h3, h4, h5⟩ := h
  have ht := h1.1
  obtain ⟨x, M1, M2, e1, e2, k1, k2, k3, k4⟩ := q_feed h4 a b c
  have ks : ∀ d, d ≠ 1 → d ≠ 2 → d ≠ 132 → d ≠ 133 → M2 d = M d := k4
  refine ⟨x, M1, M2, e1, e2, t, n, nI, nS, D, InvQ_up h1 (fun d hd => ks d (by omega) (by omega) (by omega) (by omega)) (fun k _ => by rw [ks 138 (by omega) (by omega) (by omega) (by omega)]) (k3 28 (by omega) (by omega)) k1.2.1.symm, Cch_cls ht h2 (fun d hd => ks d (by omega) (by omega) (by omega) (by omega)), ?_, k1, Rst_fr ht h5 (fun d hd => ks d (by omega) (by omega) (by omega) (by omega))⟩
  unfold BsC
  rw [ks 0 (by omega) (by omega) (by omega) (by omega)]
  exact h3
theorem Inv_X {M M' : Mem} {P : Nat → Prop} {t : Nat} {n nI nS : Int} {D : Mem} (h1 : InvQ M t n nI nS) (h2 : Cch M t n nS D) (h3 : BsC M D) (h4 : TpR M) (h5 : Rst M t) (q : InvQ M' t n nI nS) (k : KpX P M M') (hP : ∀ b, P b → b = 54 ∨ b = 55 ∨ b = 151 ∨ b = 152) : Inv M' := by
  have ht := h1.1
  have ks : ∀ b : Nat, b < 22 ∨ (44 ≤ b ∧ b ≤ 53) ∨ (62 ≤ b ∧ b ≤ 87) ∨ (119 ≤ b ∧ b ≤ 131) ∨ b = 133 ∨ (137 ≤ b ∧ b ≤ 139) → M' b = M b := fun b hb => k.1 b (by unfold scr; omega) (fun z => by have := hP b z; omega)
  refine ⟨t, n, nI, nS, D, q, Cch_cls ht h2 (fun d hd => ks d (by omega)), ?_, TpR_fr h4 (by rw [ks 1 (by omega)]) (ks 2 (by omega)) (ks 133 (by omega)) k.2.1, Rst_fr ht h5 (fun b hb => ks b (by omega))⟩
  unfold BsC
  rw [ks 0 (by omega)]
  exact h3
theorem i_cell {M : Mem} (h : Inv M) (p w : Int) : AnsI (fX11_cell p w) (fX12_cell p w) M := by
  obtain ⟨t, n, nI, nS, D, h1, h2, h3, h4, h5⟩ := h
  obtain ⟨x, M1, M2, e1, e2, q, k⟩ := q_cell h1 p w
  exact ⟨x, M1, M2, e1, e2, Inv_X h1 h2 h3 h4 h5 q k (fun b z => by omega)⟩
theorem i_set {M : Mem} (h : Inv M) (p l w : Int) : AnsI (fX11_set p l w) (fX12_set p l w) M := by
  obtain ⟨t, n, nI, nS, D, h1, h2, h3, h4, h5⟩ := h
  obtain ⟨x, M1, M2, e1, e2, q, k⟩ := q_set h1 p l w
  exact ⟨x, M1, M2, e1, e2, Inv_X h1 h2 h3 h4 h5 q k (fun b z => by omega)⟩
theorem i_rule {M : Mem} (h : Inv M) (p : Int) : AnsI (fX11_rule p) (fX12_rule p) M := by
  have hI := h
  obtain ⟨t, n, nI, nS, D, h1, h2, h3, h4, h5⟩ := h
  have ht := h1.1
  obtain ⟨x, M1, M2, e1, e2, r⟩ := q_rule h1 h2 p
  refine ⟨x, M1, M2, e1, e2, ?_⟩
  rcases r with r | ⟨r1, ⟨D', r2⟩, r3, r4, r5, r6⟩
  · rw [r]; exact Inv_kp hI Kp_0
  · have ks : ∀ b : Nat, (1 ≤ b ∧ b < 22) ∨ (44 ≤ b ∧ b ≤ 55) ∨ (119 ≤ b ∧ b ≤ 131) ∨ b = 133 ∨ (137 ≤ b ∧ b ≤ 139) → M2 b = M b := fun b hb => r4 b (by unfold scr; omega) (by unfold pln; omega)
    exact ⟨t, n, nI, nS, D', r1, r2, fun _ z => absurd r3 z, TpR_fr h4 (by rw [ks 1 (by omega)]) (ks 2 (by omega)) (ks 133 (by omega)) r6, Rst_fr ht h5 (fun b hb => ks b (by omega))⟩
theorem i_narrow {M : Mem} (h : Inv M) (p lo hi : Int) : AnsI (fX11_narrow p lo hi) (fX12_narrow p lo hi) M := by
  have hI := h
  obtain ⟨t, n, nI, nS, D, h1, h2, h3, h4, h5⟩ := h
  have ht := h1.1
  obtain ⟨x, M1, M2, e1, e2, r⟩ := q_narrow h1 h2 p lo hi
  refine ⟨x, M1, M2, e1, e2, ?_⟩
  rcases r with r | ⟨r1, ⟨D', r2⟩, r3, r4, r5, r6⟩
  · rw [r]; exact Inv_kp hI Kp_0
  · have ks : ∀ b : Nat, (1 ≤ b ∧ b < 22) ∨ (44 ≤ b ∧ b ≤ 51) ∨ (119 ≤ b ∧ b ≤ 131) ∨ b = 133 ∨ (137 ≤ b ∧ b ≤ 139) → M2 b = M b := fun b hb => r4 b (by unfold scr; omega) (by unfold pln; omega) (by omega) (by omega) (by omega)
    exact ⟨t, n, nI, nS, D', r1, r2, fun _ z => absurd r3 z, TpR_fr h4 (by rw [ks 1 (by omega)]) (ks 2 (by omega)) (ks 133 (by omega)) r6, Rst_fr ht h5 (fun b hb => ks b (by omega))⟩
theorem i_best {M : Mem} (h : Inv M) : AnsI fX11_best fX12_best M := by
  obtain ⟨t, n, nI, nS, D, h1, h2, h3, h4, h5⟩ := h
  have ht := h1.1
  obtain ⟨x, M1, M2, e1, e2, r1, r2, r3, r4, r5, r6, r7⟩ := q_best h1 h2 h3
  have ks : ∀ b : Nat, (1 ≤ b ∧ b < 22) ∨ (44 ≤ b ∧ b ≤ 55) ∨ (119 ≤ b ∧ b ≤ 131) ∨ b = 133 ∨ (137 ≤ b ∧ b ≤ 139) → M2 b = M b := fun b hb => r4 b (by unfold scr; omega) (by omega)
  exact ⟨x, M1, M2, e1, e2, t, n, nI, nS, D, r1, r2, r3, TpR_fr h4 (by rw [ks 1 (by omega)]) (ks 2 (by omega)) (ks 133 (by omega)) r6, Rst_fr ht h5 (fun b hb => ks b (by omega))⟩
set_option maxHeartbeats 4000000 in
set_option maxRecDepth 20000 in
theorem i_shader {M : Mem} (h : Inv M) : AnsI fX11_shader fX12_shader M := by
  obtain ⟨t, n, nI, nS, D, h1, h2, h3, h4, h5⟩ := h
  have ht := h1.1
  obtain ⟨⟨u, u1, u2, u3⟩, w1, w2, G, c, hW⟩ := h5
  obtain ⟨x, A', B0, f1, -, r0⟩ := sh_both (N := M) h1 h4 u1 u2 u3 w1 w2 (fun _ _ => rfl)
  obtain ⟨y, A2, B', f2, g2, r⟩ := sh_both (N := A') h1 h4 u1 u2 u3 w1 w2 r0.1
  rw [f1] at f2
  injection f2 with f2
  injection f2 with f3 f4
  subst f3
  subst f4
  obtain ⟨r1, r2, r3, r4, r5, r6, r7⟩ := r
  refine ⟨x, A', B', f1, g2, ?_⟩
  have tp : TpR B' := by
    have e1 : B' 1 2 = 0 := by rw [r2 1 (by omega)]; exact r3
    unfold TpR Sgn TpE
    rw [e1, r5]
    exact ⟨by omega, rfl, fun i a b => by omega, fun i a b => by omega⟩
  have e3 : B' 3 = M 3 := by rw [r2 3 (by omega)]; exact r4
  have e137 : B' 137 = M 137 := by rw [r6, r1 137 (by omega)]
  rcases r7 B' r2 (fun _ _ => rfl) with ⟨x0, k1, k2, k3, k4, k5, k6⟩ | ⟨x0, k1, k2, n', nI', nS', D', G', c', k3, k4, k5⟩
  · have hin : ∀ b, b = 0 ∨ (t ≤ b ∧ b ≤ t + 12) ∨ (44 ≤ b ∧ b ≤ 118) → B' b = M b := fun b hb => k2 b (by omega)
    refine ⟨t, n, nI, nS, D, InvQ_up h1 (fun b hb => ?_) k4 k6 (by rw [tp.2.1]), Cch_cls ht h2 (fun b hb => hin b (by omega)), ?_, tp, ⟨u, u1, u2, k1⟩, by rw [e3]; exact w1, by rw [e137]; exact w2, G, c, ?_⟩
    · by_cases z : 150 ≤ b
      · exact k3 b z (by omega)
      · exact hin b (by omega)
    · unfold BsC
      rw [hin 0 (by omega)]
      exact h3
    · obtain ⟨q1, q2, q3, q4, q5, q6, q7⟩ := hW
      have et : ∀ k, k ≤ 12 → B' (t + k) = M (t + k) := fun k hk => hin _ (by omega)
      have et0 : B' t = M t := et 0 (by omega)
      refine ⟨LnS_off q1 (et 1 (by omega)) (et 2 (by omega)) (et 3 (by omega)) (et 4 (by omega)) (et 5 (by omega)) (et 6 (by omega)) (et 7 (by omega)) (et 8 (by omega)) (et 9 (by omega)) (by rw [et0]) (by rw [et0]) (fun i k i0 i1 q0 q1 => k5 _ (by omega)), q2, q3, q4, by rw [et0]; exact q5, by rw [k4 0 (by omega)]; exact q6, ?_⟩
      rw [hin 44 (by omega)]
      exact TrF_cg q7 (et 1 (by omega)) (et 9 (by omega))
  · exact ⟨u, n', nI', nS', D', k3, k4, fun _ z => absurd k2 z, tp, ⟨t, ht, fun e => u2 e.symm, k1⟩, by rw [e3]; exact w1, by rw [e137]; exact w2, G', c', k5⟩
