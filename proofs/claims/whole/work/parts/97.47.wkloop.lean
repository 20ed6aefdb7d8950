/-! all lines are worked by both -/
def WkF (A a B b : Mem) : Prop := (∀ d, ¬ (22 ≤ d ∧ d ≤ 43) → a d = A d) ∧ (∀ d, d ≠ 132 → d ≠ 138 → ¬ (145 ≤ d ∧ d ≤ 149) → d ≠ 156 → b d = B d) ∧ (∀ k, k ≠ 8 → b 132 k = B 132 k) ∧ ∀ f, f < 420 ∨ (421 < f ∧ f < 440) → b 138 f = B 138 f
theorem WkF_refl (A B : Mem) : WkF A A B B := ⟨fun _ _ => rfl, fun _ _ _ _ _ => rfl, fun _ _ => rfl, fun _ _ => rfl⟩
theorem WkF_SL {A a a' B b b' : Mem} (h : WkF A a B b) (f : SL a a' b b') : WkF A a' B b' := ⟨fun d hd => by rw [f.1 d hd, h.1 d hd], fun d h1 h2 h3 h4 => by rw [f.2.1 d h1 h2 h3 h4, h.2.1 d h1 h2 h3 h4], fun k hk => by rw [f.2.2.1 k hk, h.2.2.1 k hk], fun g hg => by rw [f.2.2.2.1 g hg, h.2.2.2 g hg]⟩
theorem WkF_22 {A a B b : Mem} {k x : Int} (h : WkF A a B b) : WkF A (wr a 22 k x) B b := ⟨fun d hd => by rw [wr_ne (by omega), h.1 d hd], h.2⟩
theorem WkF_8 {A a B b : Mem} {x : Int} (h : WkF A a B b) : WkF A a B (wr b 132 8 x) := ⟨h.1, fun d h1 h2 h3 h4 => by rw [wr_ne h1, h.2.1 d h1 h2 h3 h4], fun k hk => by rw [wr_at, if_neg hk, h.2.2.1 k hk], fun g hg => by rw [wr_ne (by omega), h.2.2.2 g hg]⟩
theorem WS_WkF {A A' B B' : Mem} {t : Nat} {G : Nat → Int → Int → Int} {c nI : Int} {giv : Int → Int} (h : WS A B t G c nI giv) (i6 : nI ≤ 6) (f : WkF A A' B B') : WS A' B' t G c nI giv := by
  obtain ⟨h1, h2, h3, h4, h5, h6, h7, h8, h9, h10⟩ := h
  have tu : ∀ k, k ≤ 12 → A' (t + k) = A (t + k) := fun k hk => f.1 _ (by omega)
  have t0 : A' t = A t := tu 0 (by omega)
  refine ⟨h1, LnS_cg h2 (tu 1 (by omega)) (tu 2 (by omega)) (tu 3 (by omega)) (tu 4 (by omega)) (tu 5 (by omega)) (tu 6 (by omega)) (tu 7 (by omega)) (tu 8 (by omega)) (tu 9 (by omega)) (by rw [t0]) (by rw [t0]) (f.2.1 139 (by omega) (by omega) (by omega) (by omega)), h3, h4, h5, ?_, by rw [t0]; exact h7, by rw [t0]; exact h8, by rw [f.2.2.2 412 (by omega)]; exact h9, fun i i0 i1 => by rw [f.2.2.2 _ (by omega)]; exact h10 i i0 i1⟩
  rw [t0, f.2.2.2 414 (by omega)]; exact h6
theorem WD_22 {A A' B : Mem} {t : Nat} {G : Nat → Int → Int → Int} {n nI i : Int} {giv : Int → Int} (ht : t = 5 ∨ t = 119) (h : WD A B t G n nI giv i) (h7 : A' 22 7 = A 22 7) (f : ∀ d, d ≠ 22 → A' d = A d) : WD A' B t G n nI giv i := by
  have hb : ∀ l, A' (bgB l) = A (bgB l) := fun l => f _ (by unfold bgB; omega)
  have hf : ∀ l, A' (fsB l) = A (fsB l) := fun l => f _ (by unfold fsB; omega)
  unfold WD VX NmV OpW ShW at *
  simp only [hb, hf]
  rw [h7, f 23 (by omega), f 24 (by omega), f 25 (by omega), f 26 (by omega), f 27 (by omega), f 28 (by omega), f 29 (by omega), f 30 (by omega), f 41 (by omega), f 42 (by omega), f t (by omega), f (t + 1) (by omega)]
  exact h
/-- between two worked lines -/
def WkR (A : Mem) (t : Nat) (G : Nat → Int → Int → Int) (c nI : Int) (giv : Int → Int) (i w st : Int) (a b : Mem) : Prop := a 22 9 = 0 ∧ b 132 8 = 0 ∧ (0 ≤ i ∧ i ≤ c) ∧ (∃ n, WD a b t G n nI giv i) ∧ (0 ≤ w ∧ w ≤ 200) ∧ a 22 8 = w ∧ 0 ≤ st ∧ st + sm (rW a t G i) (G 0 i 0).toNat ≤ 10 * w + b0W G i ∧ (trS A t G st.toNat).1 = i ∧ KOK A t G i (a 42) (trS A t G st.toNat).2 ∧ (∀ k : Nat, k < st.toNat → 0 ≤ (trS A t G k).1 ∧ (trS A t G k).1 < c) ∧ trC A t G st.toNat = a 23 5
def WkX (a b : Mem) : Prop := 0 < a 22 9 ∧ b 132 8 = a 22 9
theorem rW_22 {A A' : Mem} {t : Nat} {G : Nat → Int → Int → Int} {i : Int} (e1 : A' (t + 1) = A (t + 1)) (e42 : A' 42 = A 42) : rW A' t G i = rW A t G i := by
  funext l; unfold rW; rw [e1, e42]
theorem rW_pos {A B : Mem} {t : Nat} {G : Nat → Int → Int → Int} {n nI i : Int} {giv : Int → Int} (h : WD A B t G n nI giv i) (l : Int) (l0 : 0 ≤ l) (l1 : l < G 0 i 0) : 0 ≤ rW A t G i l := by
  unfold rW
  by_cases z : A (t + 1) (G 2 i l) = 7
  · rw [if_pos z]
    have := (h.2.2.1 l l0 l1).2 z
    omega
  · rw [if_neg z]; split <;> omega
set_option maxHeartbeats 4000000 in
set_option maxRecDepth 20000 in
theorem wk_one {A B a b : Mem} {t : Nat} {G : Nat → Int → Int → Int} {c nI i w st : Int} {giv : Int → Int} (hS : WS A B t G c nI giv) (i6 : nI ≤ 6) (hF : WkF A a B b) (hR : WkR A t G c nI giv i w st a b) (ic : i < c) : st < 5000 ∧ ∃ ic' a' w' ir' b', fX10_work_b1 t (i, st, a) = some (.inl (ic', st + 1, a')) ∧ fX12_works_b2 (w, i, b) = some (.inl (w', ir', b')) ∧ WkF A a' B b' ∧ ((ic' = ir' ∧ WkR A t G c nI giv ic' w' (st + 1) a' b') ∨ WkX a' b') := by
  obtain ⟨a9, b8, ⟨i0, -⟩, ⟨n, hD⟩, ⟨w0, w1⟩, a8, st0, hp, tr1, tr2, tr3, tr4⟩ := hR
  have hS' := WS_WkF hS i6 hF
  have ht := hS.1
  have hL := hS'.2.1
  have c200 := hS.2.2.2.1
  obtain ⟨lR, lT, lP⟩ := hL.1 i i0 ic
  have o0 := hL.2.1 i i0 (by omega)
  have at1 : a (t + 1) = A (t + 1) := hF.1 _ (by omega)
  have smn : 0 ≤ sm (rW a t G i) (G 0 i 0).toNat := by
    have := sm_le (f := fun _ => 0) (g := rW a t G i) (k := (G 0 i 0).toNat) (fun l l0 l1 => rW_pos hD l l0 (by omega))
    rw [sm_z (fun _ _ _ => rfl)] at this
    exact this
  have b0b : b0W G i ≤ 200 := by
    unfold b0W
    by_cases z : G 0 i 0 = 0
    · rw [if_pos z]; omega
    · rw [if_neg z]
      have o1 := o0.1.1
      have := (o0.2.2.2 0 (by omega) (by omega)).1
      omega
  have stb : st < 5000 := by omega
  refine ⟨stb, ?_⟩
  have ms := m_step (w := w) hS'.2.2.2.2.2.2.2.2.1 i0 ic c200 b8 lR.1 lT.1 w0 w1
  have e0 : a t 0 = c := hS'.2.2.2.2.2.2.2.1
  have st1 : w32 (st + 1) = st + 1 := w32_id (by omega) (by omega)
  have cst : fX10_work_b1 t (i, st, a) = (fX10_countLine t i a).bind fun q6 => ((if (q6 22 9) = 0 then (fX10_workLine t i q6).bind fun q7 => some (q7.1, q7.2) else some (i, q6) : Option (Int × Mem))).bind fun q8 => some (.inl (q8.1, st + 1, q8.2)) := by
    unfold fX10_work_b1
    dsimp only
    rw [if_neg (by omega), if_neg (show ¬ (a t 0 ≤ i) by omega), if_pos a9, st1]
  have rs := lR.2.2.1
  -- the count
  have cnt : ∃ a1, fX10_countLine t i a = some a1 ∧ ((w + cntL (a (t + 1) i) ≤ 200 ∧ a1 22 9 = 0 ∧ a1 22 8 = w + cntL (a (t + 1) i) ∧ a1 22 7 = a 22 7 ∧ (∀ d, d ≠ 22 → a1 d = a d) ∧ WkF A a1 B b) ∨ (200 < w + cntL (a (t + 1) i) ∧ a1 22 9 = 5 + 16 * a (t + 2) i ∧ WkF A a1 B b)) := by
    unfold fX10_countLine
    rw [tl1 ht _ _ i0 (by omega), ob]
    by_cases z : a (t + 1) i = 4 ∨ a (t + 1) i = 5 ∨ a (t + 1) i = 7 ∨ a (t + 1) i = 9
    · have e1 : cntL (a (t + 1) i) = 1 := by unfold cntL; rw [if_pos z]
      have eq2 : ((if a (t + 1) i = 4 then some true else if a (t + 1) i = 5 then some true else if a (t + 1) i = 7 then some true else if a (t + 1) i = 9 then some true else some false : Option (Bool))) = some true := by
        rcases z with z | z | z | z <;> rw [z] <;> decide
      rw [eq2, ob, if_pos rfl, pI_ok, ob, a8, w32_id (show -2147483648 ≤ w + 1 by omega) (by omega), e1]
      have g8 : wr a 22 8 (w + 1) 22 8 = w + 1 := by rw [wr_at, if_pos rfl]
      rw [g8]
      by_cases y : w + 1 ≤ 200
      · rw [if_pos y, ob]
        exact ⟨_, rfl, Or.inl ⟨y, by rw [wr_at, if_neg (by omega)]; exact a9, g8, by rw [wr_at, if_neg (by omega)], fun d hd => wr_ne hd, WkF_22 hF⟩⟩
      · have e2 : wr a 22 8 (w + 1) (t + 2) i = a (t + 2) i := by rw [wr_ne (by omega)]
        rw [if_neg y, tl2 ht _ _ i0 (by omega), ob, e2, c_many (by rw [wr_at, if_neg (by omega)]; exact a9) rs.1 rs.2, ob, ob]
        exact ⟨_, rfl, Or.inr ⟨by omega, by rw [wr_at, if_pos rfl], WkF_22 (WkF_22 hF)⟩⟩
    · have e1 : cntL (a (t + 1) i) = 0 := by unfold cntL; rw [if_neg z]
      have eq2 : ((if a (t + 1) i = 4 then some true else if a (t + 1) i = 5 then some true else if a (t + 1) i = 7 then some true else if a (t + 1) i = 9 then some true else some false : Option (Bool))) = some false := by
        rw [if_neg (fun y => z (Or.inl y)), if_neg (fun y => z (Or.inr (Or.inl y))), if_neg (fun y => z (Or.inr (Or.inr (Or.inl y)))), if_neg (fun y => z (Or.inr (Or.inr (Or.inr y))))]
      rw [eq2, ob, if_neg (by decide), ob, e1]
      exact ⟨a, rfl, Or.inl ⟨by omega, a9, by omega, rfl, fun _ _ => rfl, hF⟩⟩
  obtain ⟨a1, cn, cnt⟩ := cnt
  rw [cn, ob] at cst
  have c01 : 0 ≤ cntL (a (t + 1) i) ∧ cntL (a (t + 1) i) ≤ 1 := by unfold cntL; split <;> omega
  rcases cnt with ⟨k1, k2, k3, k4, k5, k6⟩ | ⟨k1, k2, k3⟩
  · have wi : WI a1 b t G c nI giv n i (w + cntL (a (t + 1) i)) st := by
      refine ⟨WS_WkF hS i6 k6, ⟨i0, ic⟩, WD_22 ht hD k4 k5, k2, b8, by omega, st0, ?_⟩
      rw [rW_22 (k5 _ (by omega)) (k5 42 (by omega)), k5 (t + 1) (by omega)]
      unfold cntL
      split <;> omega
    obtain ⟨i', a', b', f, g, sl, res⟩ := wk_line wi
    rw [if_pos k2, f, ob, ob] at cst
    rw [g, ob] at ms
    refine ⟨i', a', _, i', b', cst, ms, WkF_SL k6 sl, ?_⟩
    rcases res with ⟨r1, r2, r3, r4, ⟨n', hD'⟩, r6, nx1, nx2, nx3⟩ | r
    · left
      have a1t : a1 (t + 1) = A (t + 1) := k6.1 _ (by omega)
      have a142 : a1 42 = a 42 := k5 42 (by omega)
      have hLA := hS.2.1
      rw [nxL_cg a1t, a142] at nx1
      have kn := KOK_nx (F' := a' 42) hLA i0 ic tr2 nx1 (fun l l0 l1 _ => by rw [nx3 l l0 l1, a142]; unfold nxK; rw [a1t, k6.1 (t + 9) (by omega)])
      have ss : (st + 1).toNat = st.toNat + 1 := by omega
      have ts : trS A t G (st.toNat + 1) = (nxL A t G (trS A t G st.toNat).1 (trS A t G st.toNat).2, nxK A t G (trS A t G st.toNat).1 (trS A t G st.toNat).2) := rfl
      have tc : trC A t G (st.toNat + 1) = trC A t G st.toNat + (if A (t + 1) (trS A t G st.toNat).1 = 9 then 1 else 0) := rfl
      refine ⟨rfl, r1, r2, ⟨r3, r4⟩, ⟨n', hD'⟩, by omega, by rw [sl.2.2.2.2]; exact k3, by omega, r6, ?_, ?_, fun k hk => ?_, ?_⟩
      · rw [ss, ts]; dsimp only; rw [tr1]; exact kn.1
      · rw [ss, ts]; dsimp only; rw [tr1]; exact kn.2
      · by_cases e : k = st.toNat
        · rw [e, tr1]; exact ⟨i0, ic⟩
        · exact tr3 k (by omega)
      · rw [ss, tc, tr1, tr4, nx2, a1t, k5 23 (by omega)]
    · exact Or.inr r
  · have mt : mTail i (w + cntL (a (t + 1) i)) b = some (i + 1, wr b 132 8 (5 + 16 * a (t + 2) i)) := by
      unfold mTail
      rw [if_pos k1, ob, if_pos rfl, w32_id (show -2147483648 ≤ 12 * (210 + i) + 3 by omega) (by omega), ld139 _ _ (by omega) (by omega), ob, lR.2.1, m_bad b8 rs.1 rs.2, ob, w32_id (show -2147483648 ≤ i + 1 by omega) (by omega)]
    rw [mt, ob] at ms
    rw [if_neg (by omega), ob] at cst
    dsimp only at cst ms
    refine ⟨i, a1, _, i + 1, wr b 132 8 (5 + 16 * a (t + 2) i), cst, ms, WkF_8 k3, Or.inr ⟨by omega, by rw [wr_at, if_pos rfl]; omega⟩⟩
set_option maxHeartbeats 4000000 in
set_option maxRecDepth 20000 in
theorem wk_loop {A B : Mem} {t : Nat} {G : Nat → Int → Int → Int} {c nI n : Int} {giv : Int → Int} (hS : WS A B t G c nI giv) (i6 : nI ≤ 6) (hD : WD A B t G n nI giv 0) (a9 : A 22 9 = 0) (b8 : B 132 8 = 0) (a8 : A 22 8 = 0) (a5 : A 23 5 = 0) : ∃ A' B', lp (fX10_work_b1 t) (0, 0, A) = some A' ∧ lp fX12_works_b2 (0, 0, B) = some B' ∧ WkF A A' B B' ∧ ((A' 22 9 = 0 ∧ B' 132 8 = 0 ∧ (∃ n', WD A' B' t G n' nI giv c) ∧ TrF A t G c (A' 23 5)) ∨ WkX A' B') := by
  have c0 := hS.2.2.1
  have o0 := hS.2.1.2.1 0 (Int.le_refl _) c0
  have g00 : G 0 0 0 = 0 := by
    by_cases z : G 0 0 0 = 0
    · exact z
    · have o1 := o0.1.1
      have := (o0.2.2.2 0 (Int.le_refl _) (by omega)).1
      omega
  refine lp_rel (fun (u : Int × Int × Mem) (v : Int × Int × Mem) => WkF A u.2.2 B v.2.2 ∧ ((u.1 = v.2.1 ∧ WkR A t G c nI giv u.1 v.1 u.2.1 u.2.2 v.2.2) ∨ WkX u.2.2 v.2.2)) (fun A' B' => WkF A A' B B' ∧ ((A' 22 9 = 0 ∧ B' 132 8 = 0 ∧ (∃ n', WD A' B' t G n' nI giv c) ∧ TrF A t G c (A' 23 5)) ∨ WkX A' B')) (fun u _ => if u.2.2 22 9 = 0 then (10001 - u.2.1).toNat else 0) ?_ 20000 (0, 0, A) (0, 0, B) ?_ ?_
  · rintro ⟨i, st, a⟩ ⟨w, j, b⟩ ⟨hF, hh⟩
    dsimp only at hF hh
    have e412 : b 138 412 = c := by rw [hF.2.2.2 412 (by omega)]; exact hS.2.2.2.2.2.2.2.2.1
    have e0 : a t 0 = c := by rw [hF.1 t (by have := hS.1; omega)]; exact hS.2.2.2.2.2.2.2.1
    rcases hh with ⟨ij, hR⟩ | hX
    · subst ij
      by_cases ic : i < c
      · obtain ⟨stb, ic', a', w', ir', b', f, g, hF', res⟩ := wk_one hS i6 hF hR ic
        have st0 := hR.2.2.2.2.2.2.1
        rw [f, g]
        refine Or.inl ⟨_, _, rfl, rfl, ⟨hF', res⟩, ?_⟩
        dsimp only
        rw [if_pos hR.1]
        split <;> omega
      · obtain ⟨r9, r8, ⟨i0, i1⟩, hD', w01, ra8, st0, hp, tr1, tr2, tr3, tr4⟩ := hR
        have ie : i = c := by omega
        refine Or.inr ⟨a, b, ?_, ?_, hF, Or.inl ⟨r9, r8, by rw [← ie]; exact hD', st.toNat, ?_, by rw [tr1, ie], tr3, tr4⟩⟩
        · unfold fX10_work_b1
          dsimp only
          by_cases z : 10000 ≤ st
          · rw [if_pos z]
          · rw [if_neg z, if_pos (show a t 0 ≤ i by omega)]
        · unfold fX12_works_b2
          dsimp only
          rw [ld138 _ _ (by omega) (by omega), ob, e412, if_pos (by omega)]
        · obtain ⟨n', hD'⟩ := hD'
          have smn : 0 ≤ sm (rW a t G i) (G 0 i 0).toNat := by
            have := sm_le (f := fun _ => 0) (g := rW a t G i) (k := (G 0 i 0).toNat) (fun l l0 l1 => rW_pos hD' l l0 (by omega))
            rw [sm_z (fun _ _ _ => rfl)] at this
            exact this
          have b0b : b0W G i ≤ 200 := by
            have c2 := hS.2.2.2.1
            have oc := hS.2.1.2.1 i i0 (by omega)
            unfold b0W
            by_cases z : G 0 i 0 = 0
            · rw [if_pos z]; omega
            · rw [if_neg z]
              have o1 := oc.1.1
              have := (oc.2.2.2 0 (by omega) (by omega)).1
              omega
          omega
    · refine Or.inr ⟨a, b, ?_, ?_, hF, Or.inr hX⟩
      · unfold fX10_work_b1
        dsimp only
        by_cases z : 10000 ≤ st
        · rw [if_pos z]
        · rw [if_neg z]
          by_cases y : a t 0 ≤ i
          · rw [if_pos y]
          · rw [if_neg y, if_neg (by have := hX.1; omega)]
      · unfold fX12_works_b2
        dsimp only
        rw [ld138 _ _ (by omega) (by omega), ob]
        by_cases y : b 138 412 ≤ j
        · rw [if_pos y]
        · rw [if_neg y, if_neg (by have := hX.1; have := hX.2; omega)]
  · dsimp only
    rw [if_pos a9]
    decide
  · refine ⟨WkF_refl _ _, Or.inl ⟨rfl, a9, b8, ⟨Int.le_refl _, c0⟩, ⟨n, hD⟩, by omega, a8, Int.le_refl _, ?_, rfl, fun l l0 l1 => by dsimp only at l1; omega, fun k hk => by dsimp only at hk; omega, ?_⟩⟩
    · dsimp only
      unfold b0W
      rw [g00, if_pos rfl]
      show (0 : Int) + 0 ≤ 10 * 0 + 0
      decide
    · dsimp only
      rw [a5]; rfl
