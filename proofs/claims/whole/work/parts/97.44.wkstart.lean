/-! working begins: the inputs -/
set_option maxHeartbeats 4000000 in
set_option maxRecDepth 20000 in
theorem wk_in {A B : Mem} {t : Nat} {nI : Int} {giv : Int → Int} (ht : t = 5 ∨ t = 119) (h10 : A t 10 = nI) (b413 : B 138 413 = nI) (i0 : 0 ≤ nI) (i6 : nI ≤ 6) (a0 : A 23 0 = 0) (b420 : B 138 420 = 0) (hg : ∀ i, 0 ≤ i → i < nI → A (t + 10) i = giv i ∧ (giv i = 0 ∨ giv i = 1)) (b8 : B 132 8 = 0) : ∃ A' B', lp (fX9_start_b1 t) (0, A) = some A' ∧ lp fX12_works_b1 (0, B) = some B' ∧ VX A' B' nI nI giv ∧ (∀ v, 0 ≤ v → v < nI → A' 24 v = 0 ∧ A' 25 (3 * v) = v ∧ A' 26 v = 0) ∧ (∀ d, ¬ (23 ≤ d ∧ d ≤ 27) → A' d = A d) ∧ (∀ f, f ≠ 0 → A' 23 f = A 23 f) ∧ (∀ d, d ≠ 138 → B' d = B d) ∧ ∀ f, f ≠ 420 → ¬ (448 ≤ f ∧ f < 704) → B' 138 f = B 138 f := by
  refine lp_rel (fun (u : Int × Mem) (v : Int × Mem) => u.1 = v.1 ∧ 0 ≤ u.1 ∧ u.1 ≤ nI ∧ VX u.2 v.2 u.1 nI giv ∧ (∀ w, 0 ≤ w → w < u.1 → u.2 24 w = 0 ∧ u.2 25 (3 * w) = w ∧ u.2 26 w = 0) ∧ (∀ d, ¬ (23 ≤ d ∧ d ≤ 27) → u.2 d = A d) ∧ (∀ f, f ≠ 0 → u.2 23 f = A 23 f) ∧ (∀ d, d ≠ 138 → v.2 d = B d) ∧ ∀ f, f ≠ 420 → ¬ (448 ≤ f ∧ f < 704) → v.2 138 f = B 138 f) (fun A' B' => VX A' B' nI nI giv ∧ (∀ v, 0 ≤ v → v < nI → A' 24 v = 0 ∧ A' 25 (3 * v) = v ∧ A' 26 v = 0) ∧ (∀ d, ¬ (23 ≤ d ∧ d ≤ 27) → A' d = A d) ∧ (∀ f, f ≠ 0 → A' 23 f = A 23 f) ∧ (∀ d, d ≠ 138 → B' d = B d) ∧ ∀ f, f ≠ 420 → ¬ (448 ≤ f ∧ f < 704) → B' 138 f = B 138 f) (fun u _ => (nI - u.1).toNat) ?_ (nI.toNat + 1) (0, A) (0, B) (by dsimp only; omega) ?_
  · rintro ⟨j, a⟩ ⟨j', b⟩ ⟨hj, j0, j1, vx, hin, fa, f23, fb, f138⟩
    dsimp only at hj j0 j1 vx hin fa f23 fb f138
    subst hj
    have e10 : a t 10 = nI := by rw [fa t (by omega)]; exact h10
    have e413 : b 138 413 = nI := by rw [f138 413 (by omega) (by omega)]; exact b413
    unfold fX9_start_b1 fX12_works_b1
    dsimp only
    simp only [e10]
    rw [ld138 _ _ (by omega) (by omega), ob, e413]
    by_cases z : nI ≤ j
    · rw [if_pos z, if_pos z]
      have : j = nI := by omega
      subst this
      exact Or.inr ⟨a, b, rfl, rfl, vx, hin, fa, f23, fb, f138⟩
    · rw [if_neg z, if_neg z]
      have nv : NVok j nI (a 26) 0 j (-1) (-1) := ⟨by omega, fun _ => by omega, fun y => by omega, fun y => by omega, fun y => by omega, fun y => by omega, fun _ => rfl, fun _ => rfl, fun y => by omega, fun y => by omega, fun y => by omega⟩
      obtain ⟨x, A1, f1, r1⟩ := c_single (nI := nI) vx.1 j0 (by omega) (fun v v0 v1 => F_01 vx.2.2.1 v0 v1) nv
      obtain ⟨y, B1, g1, r2⟩ := m_made (k := 0) (a := j) (b := -1) (c := -1) (p := 0) vx.2.1 j0 (by omega) (by rw [fb 132 (by omega)]; exact b8) (Int.le_refl _) (by omega)
      rcases r1 with ⟨x0, x1, -, sm', -⟩ | ⟨-, r1⟩
      · have := (hin x x0 x1).2.1
        have := sm'.2.1
        omega
      · rcases r1 with ⟨-, xe, nA⟩ | ⟨nn, -⟩
        · rcases r2 with ⟨y0, y1, -, sm', -⟩ | ⟨-, r2⟩
          · have q1 := (hin y y0 y1).2.1
            have q2 := (vx.2.2.2.1 y y0 y1).2.1
            have q3 := sm'.2.1
            omega
          · rcases r2 with ⟨-, ye, nB⟩ | ⟨nn, -⟩
            · obtain ⟨v1, v2, v3, v4, v5, v6, v7⟩ := nA
              obtain ⟨w1, w2⟩ := nB
              have eg := hg j j0 (by omega)
              have e110 : A1 (t + 10) j = giv j := by rw [v1 _ (by omega) (by omega) (by omega) (by omega) (by omega), fa _ (by omega)]; exact eg.1
              rw [f1, ob]
              dsimp only
              rw [if_neg (by omega), tl10 ht _ _ j0 (by omega), ob, e110, xe, st27 _ _ _ j0 (by omega), ob, nz_ok eg.2, ob, g1, ob]
              dsimp only
              rw [w32_id (show -2147483648 ≤ j + 1 by omega) (by omega)]
              refine Or.inl ⟨_, _, rfl, rfl, ⟨rfl, by dsimp only; omega, by dsimp only; omega, ⟨?_, ?_, ?_, ?_, ?_⟩, fun w q0 q1 => ?_, fun d hd => ?_, fun f hf => ?_, fun d hd => ?_, fun f h1 h2 => ?_⟩, by dsimp only; omega⟩
              · dsimp only; rw [wr_ne (by omega)]; exact v2
              · dsimp only; rw [w2, if_pos rfl]
              · dsimp only
                rw [wr_ne (show 24 ≠ 27 by omega), wr_ne (show 25 ≠ 27 by omega), wr_ne (show 26 ≠ 27 by omega)]
                exact Val_ext vx.2.2.1 (by omega) nv v4 v5 v6
              · dsimp only
                intro v q0 q1
                rw [wr_ne (show 24 ≠ 27 by omega), wr_ne (show 25 ≠ 27 by omega)]
                have e0 := w2 (448 + 4 * v)
                have e1 := w2 (448 + 4 * v + 1)
                have e2 := w2 (448 + 4 * v + 2)
                have e3 := w2 (448 + 4 * v + 3)
                have k0 := v4 v
                have k1 := v5 (3 * v)
                have k2 := v5 (3 * v + 1)
                have k3 := v5 (3 * v + 2)
                by_cases e : v = j
                · rw [if_neg (by omega), if_pos (by omega)] at e0
                  rw [if_neg (by omega), if_neg (by omega), if_pos (by omega)] at e1
                  rw [if_neg (by omega), if_neg (by omega), if_neg (by omega), if_pos (by omega)] at e2
                  rw [if_neg (by omega), if_neg (by omega), if_neg (by omega), if_neg (by omega), if_pos (by omega)] at e3
                  rw [if_pos e] at k0
                  rw [if_pos (by omega)] at k1
                  rw [if_neg (by omega), if_pos (by omega)] at k2
                  rw [if_neg (by omega), if_neg (by omega), if_pos (by omega)] at k3
                  rw [e0, e1, e2, e3, k0, k1, k2, k3]
                  exact ⟨rfl, rfl, rfl, rfl⟩
                · rw [if_neg (by omega), if_neg (by omega), if_neg (by omega), if_neg (by omega), if_neg (by omega)] at e0
                  rw [if_neg (by omega), if_neg (by omega), if_neg (by omega), if_neg (by omega), if_neg (by omega)] at e1
                  rw [if_neg (by omega), if_neg (by omega), if_neg (by omega), if_neg (by omega), if_neg (by omega)] at e2
                  rw [if_neg (by omega), if_neg (by omega), if_neg (by omega), if_neg (by omega), if_neg (by omega)] at e3
                  rw [if_neg e] at k0
                  rw [if_neg (by omega), if_neg (by omega), if_neg (by omega)] at k1
                  rw [if_neg (by omega), if_neg (by omega), if_neg (by omega)] at k2
                  rw [if_neg (by omega), if_neg (by omega), if_neg (by omega)] at k3
                  rw [e0, e1, e2, e3, k0, k1, k2, k3]
                  exact vx.2.2.2.1 v q0 (by omega)
              · dsimp only
                rw [wr_ne (show 24 ≠ 27 by omega), wr_ne (show 25 ≠ 27 by omega)]
                refine Un_ext vx.2.2.1 nv v4 v5 vx.2.2.2.2 (fun v hv => by rw [wr_at, if_neg (by omega), v7, if_neg (by omega)]) ⟨fun q => by omega, fun _ => ?_⟩
                rw [wr_at, if_pos rfl]
                rcases eg.2 with q | q <;> rw [q] <;> decide
              · dsimp only at q1 ⊢
                rw [wr_ne (show 24 ≠ 27 by omega), wr_ne (show 25 ≠ 27 by omega), wr_ne (show 26 ≠ 27 by omega), v4, v5, v6]
                by_cases e : w = j
                · rw [if_pos e, if_pos (by omega), if_pos e, if_neg (by decide)]; exact ⟨rfl, e.symm, rfl⟩
                · rw [if_neg e, if_neg (by omega), if_neg (by omega), if_neg (by omega), if_neg e]; exact hin w q0 (by omega)
              · dsimp only
                rw [wr_ne (by omega), v1 d (by omega) (by omega) (by omega) (by omega) (by omega)]; exact fa d hd
              · dsimp only
                rw [wr_ne (by omega), v3 f hf]; exact f23 f hf
              · dsimp only; rw [w1 d hd]; exact fb d hd
              · dsimp only
                rw [w2, if_neg h1, if_neg (by omega), if_neg (by omega), if_neg (by omega), if_neg (by omega)]; exact f138 f h1 h2
            · omega
        · omega
  · refine ⟨rfl, Int.le_refl _, i0, ⟨a0, b420, ⟨Int.le_refl _, by omega, i0, i6, fun v v0 v1 => by omega⟩, fun v v0 v1 => by omega, fun v v0 v1 => by omega⟩, fun w w0 w1 => by dsimp only at w1; omega, fun _ _ => rfl, fun _ _ => rfl, fun _ _ => rfl, fun _ _ _ => rfl⟩
/-- no when has parted lanes yet -/
theorem wk_pt {A : Mem} {t : Nat} (ht : t = 5 ∨ t = 119) (h0 : 0 ≤ A t 16) (h1 : A t 16 ≤ 100) : ∃ A', lp (fX9_start_b2 t) (0, A) = some A' ∧ (∀ d, d ≠ 29 → A' d = A d) ∧ ∀ k, 0 ≤ k → k < A t 16 → A' 29 k = 0 := by
  refine lp_ind (fun s : Int × Mem => 0 ≤ s.1 ∧ s.1 ≤ A t 16 ∧ (∀ d, d ≠ 29 → s.2 d = A d) ∧ ∀ k, 0 ≤ k → k < s.1 → s.2 29 k = 0) (fun r : Mem => (∀ d, d ≠ 29 → r d = A d) ∧ ∀ k, 0 ≤ k → k < A t 16 → r 29 k = 0) (fun s => (A t 16 - s.1).toNat) ?_ _ ?_
  · rintro ⟨j, a⟩ ⟨j0, j1, fa, hz⟩
    dsimp only at j0 j1 fa hz
    unfold fX9_start_b2
    dsimp only
    have e16 : a t 16 = A t 16 := by rw [fa t (by omega)]
    simp only [e16]
    by_cases z : A t 16 ≤ j
    · rw [if_pos z]
      exact Or.inr ⟨a, rfl, fa, fun k k0 k1 => hz k k0 (by omega)⟩
    · rw [if_neg z, if_neg (by omega), st29 _ _ _ j0 (by omega), ob, nz0, w32_id (by omega) (by omega)]
      refine Or.inl ⟨_, rfl, ⟨by dsimp only; omega, by dsimp only; omega, fun d hd => by dsimp only; rw [wr_ne hd]; exact fa d hd, fun k k0 k1 => ?_⟩, by dsimp only; omega⟩
      dsimp only at k1 ⊢
      rw [wr_at]
      by_cases e : k = j
      · rw [if_pos e]
      · rw [if_neg e]; exact hz k k0 (by omega)
  · exact ⟨Int.le_refl _, h0, fun _ _ => rfl, fun k k0 k1 => by dsimp only at k1; omega⟩
