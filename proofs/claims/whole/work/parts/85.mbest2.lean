theorem MFew_172 {M M' D : Mem} {mem us ss : Int → Int} {m : Int} (h : MFew M D mem us ss m) (e : ∀ b, b ≠ 172 → M' b = M b) : MFew M' D mem us ss m := by
  unfold MFew MD at *
  rw [e 138 (by omega), e 132 (by omega), e 153 (by omega), e 154 (by omega), e 155 (by omega), e 156 (by omega), e 159 (by omega), e 160 (by omega), e 161 (by omega), e 171 (by omega)]
  exact h
set_option maxHeartbeats 4000000 in
set_option maxRecDepth 20000 in
theorem m_canBe {M D : Mem} {mem us ss R : Int → Int} {m P : Int} (hD : DW D) (h : MFew M D mem us ss m) (hR : RdI D mem us ss m (W2 m) R) (P0 : 0 ≤ P) (P1 : P < 2147483647) : ∃ r, fX12_canBe P m M = some (if R (W2 m - 1) ≤ P then 1 else 0, r) ∧ ∀ b, b ≠ 172 → r b = M b := by
  have m1 := h.2.2.1
  have m0 : 0 ≤ m := by rw [h.2.1]; exact (pc_bd _).1
  have wm := W_bd m0 m1
  unfold fX12_canBe
  rw [st172 _ _ _ (by omega) (by omega), ob, nz1]
  have L : ∃ r, lp (fX12_canBe_b1 P m) (1, wr M 172 0 1) = some r ∧ (∀ b, b ≠ 172 → r b = M b) ∧ ∀ S, 0 ≤ S → S < W2 m → (r 172 S = 0 ∨ r 172 S = 1) ∧ (r 172 S = 1 ↔ R S ≤ P) := by
    refine lp_ind (fun s : Int × Mem => 1 ≤ s.1 ∧ s.1 ≤ W2 m ∧ (∀ b, b ≠ 172 → s.2 b = M b) ∧ ∀ S, 0 ≤ S → S < s.1 → (s.2 172 S = 0 ∨ s.2 172 S = 1) ∧ (s.2 172 S = 1 ↔ R S ≤ P)) (fun r : Mem => (∀ b, b ≠ 172 → r b = M b) ∧ ∀ S, 0 ≤ S → S < W2 m → (r 172 S = 0 ∨ r 172 S = 1) ∧ (r 172 S = 1 ↔ R S ≤ P)) (fun s => (W2 m - s.1).toNat) ?_ _ ?_
    · rintro ⟨S, q⟩ ⟨S0, S1, hfr, hA⟩
      dsimp only at S0 S1 hfr hA
      unfold fX12_canBe_b1
      dsimp only
      rw [W_shl m0 m1]
      by_cases z : W2 m ≤ S
      · rw [if_pos z]
        have : S = W2 m := by omega
        subst this
        exact Or.inr ⟨q, rfl, hfr, hA⟩
      · rw [if_neg z, st172 _ _ _ (by omega) (by omega), ob, nz0, w32_id (by omega) (by omega)]
        have char := hR.2.2.1 S S0 (by omega) (by omega) P P0 P1
        have L2 : ∃ r, lp (fX12_canBe_b2 P m S) (0, wr q 172 S 0) = some r ∧ (∀ b, b ≠ 172 → r b = M b) ∧ (∀ T, T ≠ S → r 172 T = q 172 T) ∧ (r 172 S = 0 ∨ r 172 S = 1) ∧ (r 172 S = 1 ↔ R S ≤ P) := by
          refine lp_ind (fun s : Int × Mem => 0 ≤ s.1 ∧ s.1 ≤ m ∧ (∀ b, b ≠ 172 → s.2 b = M b) ∧ (∀ T, T ≠ S → s.2 172 T = q 172 T) ∧ (s.2 172 S = 0 ∨ s.2 172 S = 1) ∧ (s.2 172 S = 1 ↔ lv D mem us m S ≤ P ∧ ∃ k, 0 ≤ k ∧ k < s.1 ∧ t3 S k = true ∧ iand (ss k) (ixor (S - W2 k) (-1)) = 0 ∧ R (S - W2 k) ≤ P)) (fun r : Mem => (∀ b, b ≠ 172 → r b = M b) ∧ (∀ T, T ≠ S → r 172 T = q 172 T) ∧ (r 172 S = 0 ∨ r 172 S = 1) ∧ (r 172 S = 1 ↔ R S ≤ P)) (fun s => (m - s.1).toNat) ?_ _ ?_
          · rintro ⟨k, w⟩ ⟨k0, k1, wfr, wT, w01, wS⟩
            dsimp only at k0 k1 wfr wT w01 wS
            unfold fX12_canBe_b2
            dsimp only
            by_cases hkm : m ≤ k
            · rw [if_pos hkm]
              have : k = m := by omega
              subst this
              exact Or.inr ⟨w, rfl, wfr, wT, w01, by rw [char]; exact wS⟩
            · rw [if_neg hkm, ld172 _ _ (by omega) (by omega), ob]
              by_cases w1 : w 172 S = 0
              · rw [if_pos w1]
                have wk := W_bd k0 (by omega)
                have hF := MFew_172 h wfr
                have no : ¬ (lv D mem us m S ≤ P ∧ ∃ j, 0 ≤ j ∧ j < k ∧ t3 S j = true ∧ iand (ss j) (ixor (S - W2 j) (-1)) = 0 ∧ R (S - W2 j) ≤ P) := fun y => by
                  have := wS.mpr y; omega
                -- what is put
                have put : ∀ x : Int, (x = 0 ∨ x = 1) → (x = 1 ↔ lv D mem us m S ≤ P ∧ t3 S k = true ∧ iand (ss k) (ixor (S - W2 k) (-1)) = 0 ∧ R (S - W2 k) ≤ P) → ∃ s', (((some (x, w)).bind fun q10 => (stZ q10.2 172 S q10.1).bind fun M11 => some (Sum.inl (w32 (k + 1), M11))) : Option ((Int × Mem) ⊕ Mem)) = some (Sum.inl s') ∧ (0 ≤ s'.1 ∧ s'.1 ≤ m ∧ (∀ b, b ≠ 172 → s'.2 b = M b) ∧ (∀ T, T ≠ S → s'.2 172 T = q 172 T) ∧ (s'.2 172 S = 0 ∨ s'.2 172 S = 1) ∧ (s'.2 172 S = 1 ↔ lv D mem us m S ≤ P ∧ ∃ k, 0 ≤ k ∧ k < s'.1 ∧ t3 S k = true ∧ iand (ss k) (ixor (S - W2 k) (-1)) = 0 ∧ R (S - W2 k) ≤ P)) ∧ (m - s'.1).toNat < (m - k).toNat := by
                  intro x x01 hx
                  rw [ob]
                  dsimp only
                  rw [st172 _ _ _ (by omega) (by omega), ob, nz_ok x01, w32_id (by omega) (by omega)]
                  refine ⟨_, rfl, ⟨by dsimp only; omega, by dsimp only; omega, fun b hb => by dsimp only; rw [wr_ne hb, wfr b hb], fun T hT => by dsimp only; rw [wr_at, if_neg hT, wT T hT], by dsimp only; rw [wr_at, if_pos rfl]; exact x01, ?_⟩, by dsimp only; omega⟩
                  dsimp only
                  rw [wr_at, if_pos rfl, hx]
                  constructor
                  · rintro ⟨y1, y2, y3, y4⟩
                    exact ⟨y1, k, k0, by omega, y2, y3, y4⟩
                  · rintro ⟨y1, j, j0, j1, j2, j3, j4⟩
                    by_cases e : j = k
                    · rw [e] at j2 j3 j4; exact ⟨y1, j2, j3, j4⟩
                    · exact absurd ⟨y1, j, j0, by omega, j2, j3, j4⟩ no
                left
                rw [bitS k0 (by omega)]
                by_cases hb : t3 S k = true
                · have q2 := set_sub (S := S) (by omega) (by omega) k0 (by omega) hb
                  rw [if_pos hb, if_pos rfl, W_shl k0 (by omega), w32_id (show -2147483648 ≤ S - W2 k by omega) (by omega), ld172 _ _ (by omega) (by omega), ob, wT (S - W2 k) (by omega)]
                  have hAk := hA (S - W2 k) (by omega) (by omega)
                  by_cases hr : q 172 (S - W2 k) = 0
                  · rw [if_pos hr, ob, if_pos rfl]
                    exact put 0 (Or.inl rfl) ⟨fun y => by omega, fun y => by
                      have := hAk.2.mpr y.2.2.2; omega⟩
                  · have hr1 : R (S - W2 k) ≤ P := hAk.2.mp (by omega)
                    rw [if_neg hr, ob, if_neg (show ¬ (1 : Int) = 0 by decide), s_X12_comesBehind hD hF k0 (by omega), ob]
                    dsimp only
                    by_cases hs : iand (ss k) (ixor (S - W2 k) (-1)) = 0
                    · rw [if_pos hs, if_neg (show ¬ (1 : Int) = 0 by decide), s_X12_livesIn hD hF, ob]
                      dsimp only
                      by_cases hl : P < lv D mem us m S
                      · rw [if_pos hl]
                        exact put 0 (Or.inl rfl) ⟨fun y => by omega, fun y => by have := y.1; omega⟩
                      · rw [if_neg hl]
                        exact put 1 (Or.inr rfl) ⟨fun _ => ⟨by omega, hb, hs, hr1⟩, fun _ => rfl⟩
                    · rw [if_neg hs, if_pos rfl]
                      exact put 0 (Or.inl rfl) ⟨fun y => by omega, fun y => absurd y.2.2.1 hs⟩
                · rw [if_neg hb, if_neg (show ¬ (0 : Int) = 1 by decide), ob, if_pos rfl]
                  exact put 0 (Or.inl rfl) ⟨fun y => by omega, fun y => absurd y.2.1 hb⟩
              · rw [if_neg w1]
                have w1' : w 172 S = 1 := by omega
                refine Or.inr ⟨w, rfl, wfr, wT, w01, ?_⟩
                rw [char]
                obtain ⟨y1, j, j0, j1, j2, j3, j4⟩ := wS.mp w1'
                exact ⟨fun _ => ⟨y1, j, j0, by omega, j2, j3, j4⟩, fun _ => w1'⟩
          · refine ⟨Int.le_refl _, m0, fun b hb => by dsimp only; rw [wr_ne hb, hfr b hb], fun T hT => by dsimp only; rw [wr_at, if_neg hT], by dsimp only; rw [wr_at, if_pos rfl]; exact Or.inl rfl, ?_⟩
            dsimp only
            rw [wr_at, if_pos rfl]
            constructor
            · intro y; omega
            · rintro ⟨-, k, k0, k1, -⟩; omega
        obtain ⟨r, f, rfr, rT, r01, rS⟩ := L2
        rw [f, ob]
        refine Or.inl ⟨_, rfl, ⟨by dsimp only; omega, by dsimp only; omega, rfr, fun T a b => ?_⟩, by dsimp only; omega⟩
        dsimp only at b ⊢
        by_cases e : T = S
        · rw [e]; exact ⟨r01, rS⟩
        · rw [rT T e]; exact hA T a (by omega)
    · refine ⟨Int.le_refl _, by dsimp only; omega, fun b hb => by dsimp only; rw [wr_ne hb], fun S a b => ?_⟩
      dsimp only at b ⊢
      have : S = 0 := by omega
      rw [this, wr_at, if_pos rfl, hR.1]
      exact ⟨Or.inr rfl, fun _ => P0, fun _ => rfl⟩
  obtain ⟨r, f, fr, hA⟩ := L
  have q := hA (W2 m - 1) (by omega) (by omega)
  rw [f, ob, W_shl m0 m1, w32_id (show -2147483648 ≤ W2 m - 1 by omega) (by omega), ld172 _ _ (by omega) (by omega), ob]
  refine ⟨r, ?_, fr⟩
  by_cases z : R (W2 m - 1) ≤ P
  · rw [if_pos z, q.2.mpr z, rz1]
  · have : r 172 (W2 m - 1) = 0 := by
      rcases q.1 with y | y
      · exact y
      · exact absurd (q.2.mp y) z
    rw [if_neg z, this, rz0]
theorem W2_0 : W2 0 = 1 := by decide
set_option maxHeartbeats 4000000 in
set_option maxRecDepth 20000 in
theorem m_best {M M0 : Mem} {t : Nat} {n nI nS m : Int} {D : Mem} {mem us ss R : Int → Int} (h : InvQ M t n nI nS) (c : Cch M t n nS D) (k : Kp M M0) (hm : m = pc (D 0 1)) (m1 : m ≤ 12) (hG : Gat (D 0 1) 64 mem) (hA : ∀ k, 0 ≤ k → k < m → AsS m mem (D 4 (mem k)) (ss k) ∧ AsS m mem (D 5 (mem k)) (us k)) (hR : RdI D mem us ss m (W2 m) R) (h24 : R (W2 m - 1) ≤ 24) :
    ∃ r, fX12_best M0 = some (R (W2 m - 1), r) ∧ Kp M r := by
  have hD := Cch_DW h c
  have m0 : 0 ≤ m := by rw [hm]; exact (pc_bd _).1
  have wm := W_bd m0 m1
  have r0 := (hR.2.1 (W2 m - 1) (by omega) (by omega)).1
  obtain ⟨u, fu, ku, md, mx⟩ := m_all0 (M0 := wr M0 132 0 0) h c (Kp_trans k (Kp_th M0 0))
  obtain ⟨q, fq, qf, qG⟩ := m_gather hD md (by omega)
  have mF : MFew q D mem us ss m := ⟨by
    unfold MD at *
    rw [qf 138 (by omega), qf 132 (by omega), qf 153 (by omega), qf 154 (by omega), qf 155 (by omega), qf 156 (by omega), qf 159 (by omega), qf 160 (by omega), qf 161 (by omega)]
    exact md, hm, m1, hG, fun k a b => Gat_uniq hG qG k a (by omega), hA⟩
  have kq : Kp M q := Kp_trans ku (Kp_sc (P := fun b => b = 171) (fun b hb => by unfold scr; omega) (fun b hb => qf b hb))
  unfold fX12_best
  rw [pI_ok, ob, fu, ob, s_X12_manyOf, ob, md.2.1, ← hm]
  dsimp only
  rw [if_pos m1, fq, ob]
  have L : ∃ r, lp (fX12_best_b2 m) (0, q) = some r ∧ r.1 = R (W2 m - 1) ∧ ∀ b, b ≠ 172 → r.2 b = q b := by
    refine lp_ind (fun s : Int × Mem => 0 ≤ s.1 ∧ s.1 ≤ R (W2 m - 1) ∧ ∀ b, b ≠ 172 → s.2 b = q b) (fun r : Int × Mem => r.1 = R (W2 m - 1) ∧ ∀ b, b ≠ 172 → r.2 b = q b) (fun s => (24 - s.1).toNat) ?_ _ ?_
    · rintro ⟨P, w⟩ ⟨P0, P1, wf⟩
      dsimp only at P0 P1 wf
      unfold fX12_best_b2
      dsimp only
      by_cases hz : m ≤ 0
      · rw [if_pos hz]
        have e : m = 0 := by omega
        refine Or.inr ⟨_, rfl, ?_, wf⟩
        dsimp only
        rw [e, W2_0] at P1 ⊢
        have : R (1 - 1) = 0 := hR.1
        omega
      · rw [if_neg hz]
        obtain ⟨r, f, rf⟩ := m_canBe (P := P) hD (MFew_172 mF wf) hR P0 (by omega)
        rw [f, ob]
        dsimp only
        by_cases y : R (W2 m - 1) ≤ P
        · rw [if_pos y, if_neg (show ¬ (1 : Int) = 0 by decide)]
          exact Or.inr ⟨_, rfl, by dsimp only; omega, fun b hb => by dsimp only; rw [rf b hb, wf b hb]⟩
        · rw [if_neg y, if_pos rfl, w32_id (by omega) (by omega)]
          exact Or.inl ⟨_, rfl, ⟨by dsimp only; omega, by dsimp only; omega, fun b hb => by dsimp only; rw [rf b hb, wf b hb]⟩, by dsimp only; omega⟩
    · exact ⟨Int.le_refl _, r0, fun b _ => rfl⟩
  obtain ⟨r, f, e, rf⟩ := L
  rw [f, ob, e]
  exact ⟨r.2, rfl, Kp_trans kq (Kp_sc (P := fun b => b = 172) (fun b hb => by unfold scr; omega) (fun b hb => rf b hb))⟩
/-! THE CLASS'S ANSWER, kept at hand -/
noncomputable def fX11_best (M : Mem) : Option (Int × Mem) :=
  if 12 < M 75 4 then some (-1, M) else
    ((if M 0 15 = -2 then (fX1_reckon M).bind fun q1 => (pI q1.2 0 15 q1.1).bind fun M2 => some M2 else some M : Option Mem)).bind fun q3 =>
    some (q3 0 15, q3)
/-- what is kept of it is right -/
def BsC (M D : Mem) : Prop := pc (D 0 1) ≤ 12 → M 0 15 ≠ -2 → ∃ mem us ss R : Int → Int, Gat (D 0 1) 64 mem ∧ (∀ k, 0 ≤ k → k < pc (D 0 1) → AsS (pc (D 0 1)) mem (D 4 (mem k)) (ss k) ∧ AsS (pc (D 0 1)) mem (D 5 (mem k)) (us k)) ∧ RdI D mem us ss (pc (D 0 1)) (W2 (pc (D 0 1))) R ∧ R (W2 (pc (D 0 1)) - 1) ≤ 24 ∧ M 0 15 = R (W2 (pc (D 0 1)) - 1)
/-- all but the kept answer and the roads' length stay -/
def KpB (M M' : Mem) : Prop := (∀ b, ¬ scr b → b ≠ 0 → M' b = M b) ∧ (∀ k, k ≠ 15 → M' 0 k = M 0 k) ∧ M' 132 2 = M 132 2 ∧ M' 132 28 = M 132 28
theorem InvQ_frB {M M' : Mem} {t : Nat} {n nI nS : Int} (h : InvQ M t n nI nS) (k : KpB M M') : InvQ M' t n nI nS := by
  have ht := h.1
  obtain ⟨e, e0, e2, e28⟩ := k
  have hs : ∀ b : Nat, b ≠ 0 → b < 22 ∨ (44 ≤ b ∧ b ≤ 55) ∨ (119 ≤ b ∧ b ≤ 131) ∨ b = 138 ∨ (150 ≤ b ∧ b ≤ 152) → M' b = M b := fun b b0 hb => e b (by unfold scr; omega) b0
  unfold InvQ MV MS
  rw [e0 13 (by omega), e0 14 (by omega), hs 1 (by omega) (by omega), hs 44 (by omega) (by omega), hs 45 (by omega) (by omega), hs 46 (by omega) (by omega), hs 47 (by omega) (by omega), hs 48 (by omega) (by omega), hs 49 (by omega) (by omega), hs 50 (by omega) (by omega), hs 52 (by omega) (by omega), hs 53 (by omega) (by omega), hs 54 (by omega) (by omega), hs 55 (by omega) (by omega), hs 138 (by omega) (by omega), hs 150 (by omega) (by omega), hs 151 (by omega) (by omega), hs 152 (by omega) (by omega), hs t (by omega) (by omega), hs (t + 10) (by omega) (by omega), e2, e28]
  exact h
theorem Cch_frB {M M' : Mem} {t : Nat} {n nS : Int} {D : Mem} (ht : t = 5 ∨ t = 119) (h : Cch M t n nS D) (k : KpB M M') : Cch M' t n nS D := by
  obtain ⟨e, e0, -, -⟩ := k
  have hs : ∀ b : Nat, b ≠ 0 → b < 22 ∨ (44 ≤ b ∧ b ≤ 55) ∨ (62 ≤ b ∧ b ≤ 87) ∨ (119 ≤ b ∧ b ≤ 131) → M' b = M b := fun b b0 hb => e b (by unfold scr; omega) b0
  unfold Cch CV CX Sch CL CC
  simp only [Nat.reduceAdd]
  rw [e0 14 (by omega), hs 44 (by omega) (by omega), hs 45 (by omega) (by omega), hs 46 (by omega) (by omega), hs 47 (by omega) (by omega), hs 48 (by omega) (by omega), hs 49 (by omega) (by omega), hs 52 (by omega) (by omega), hs 53 (by omega) (by omega), hs t (by omega) (by omega)]
  rw [hs 63 (by omega) (by omega), hs 64 (by omega) (by omega), hs 65 (by omega) (by omega), hs 66 (by omega) (by omega), hs 67 (by omega) (by omega), hs 68 (by omega) (by omega), hs 69 (by omega) (by omega), hs 70 (by omega) (by omega), hs 71 (by omega) (by omega), hs 72 (by omega) (by omega), hs 73 (by omega) (by omega), hs 74 (by omega) (by omega), hs 75 (by omega) (by omega), hs 76 (by omega) (by omega), hs 77 (by omega) (by omega), hs 78 (by omega) (by omega), hs 79 (by omega) (by omega), hs 80 (by omega) (by omega), hs 81 (by omega) (by omega), hs 83 (by omega) (by omega), hs 84 (by omega) (by omega), hs 85 (by omega) (by omega), hs 86 (by omega) (by omega), hs 87 (by omega) (by omega)]
  exact h
set_option maxHeartbeats 4000000 in
set_option maxRecDepth 20000 in
theorem q_best {M : Mem} {t : Nat} {n nI nS : Int} {D : Mem} (h : InvQ M t n nI nS) (c : Cch M t n nS D) (b : BsC M D) : ∃ x M1 M2, fX11_best M = some (x, M1) ∧ fX12_best M1 = some (x, M2) ∧ InvQ M2 t n nI nS ∧ Cch M2 t n nS D ∧ BsC M2 D ∧ KpB M M2 := by
  have hD := Cch_DW h c
  have pb := pc_bd (D 0 1)
  have s4 := c.2.2.2.1.1.1
  simp only [Nat.reduceAdd] at s4
  have kb : ∀ M', Kp M M' → KpB M M' := fun M' k => ⟨fun b hb _ => k.1 b hb, fun j _ => by rw [k.1 0 (by unfold scr; omega)], k.2⟩
  have bf : ∀ M', Kp M M' → BsC M' D := fun M' k => by unfold BsC; rw [k.1 0 (by unfold scr; omega)]; exact b
  by_cases h12 : 12 < pc (D 0 1)
  · obtain ⟨u, fu, ku, md, mx⟩ := m_all0 (M0 := wr M 132 0 0) h c (Kp_th M 0)
    refine ⟨-1, M, u, ?_, ?_, InvQ_fr h ku, Cch_fr h.1 c ku, bf u ku, kb u ku⟩
    · unfold fX11_best
      rw [s4, if_pos h12]
    · unfold fX12_best
      rw [pI_ok, ob, fu, ob, s_X12_manyOf, ob, md.2.1]
      dsimp only
      rw [if_neg (by omega)]
  · by_cases h15 : M 0 15 = -2
    · obtain ⟨r, f, rf, hF, hR⟩ := s_X1_reckon hD c.2.1 rfl (show pc (D 0 1) ≤ 12 by omega)
      have h24 := rd_fin hD hF rfl (by omega) hR (pc (D 0 1)).toNat (by omega)
      rw [show (((pc (D 0 1)).toNat : Nat) : Int) = pc (D 0 1) by omega] at h24
      have k1 : KpB M (wr r 0 15 (r 115 (W2 (pc (D 0 1)) - 1))) := ⟨fun b hb b0 => by rw [wr_ne b0, rf b (by unfold scr at hb; omega) (by unfold scr at hb; omega)], fun j hj => by rw [wr_at, if_neg hj, rf 0 (by omega) (by omega)], by rw [wr_ne (by omega), rf 132 (by omega) (by omega)], by rw [wr_ne (by omega), rf 132 (by omega) (by omega)]⟩
      have h1 := InvQ_frB h k1
      have c1 := Cch_frB h.1 c k1
      obtain ⟨u, fu, ku⟩ := m_best h1 c1 (Kp_refl _) rfl (by omega) hF.2.1 (fun k a b => hF.2.2 k a b) hR h24
      have b1 : BsC (wr r 0 15 (r 115 (W2 (pc (D 0 1)) - 1))) D := fun _ _ => ⟨_, _, _, _, hF.2.1, fun k a b => hF.2.2 k a b, hR, h24, by rw [wr_at, if_pos rfl]⟩
      refine ⟨r 115 (W2 (pc (D 0 1)) - 1), _, u, ?_, fu, InvQ_fr h1 ku, Cch_fr h.1 c1 ku, ?_, ?_⟩
      · unfold fX11_best
        rw [s4, if_neg h12, if_pos h15, f, ob, pI_ok, ob, ob]
        dsimp only
        rw [wr_at, if_pos rfl]
      · unfold BsC
        rw [ku.1 0 (by unfold scr; omega)]
        exact b1
      · exact ⟨fun b hb b0 => by rw [ku.1 b hb, k1.1 b hb b0], fun j hj => by rw [ku.1 0 (by unfold scr; omega), k1.2.1 j hj], by rw [ku.2.1, k1.2.2.1], by rw [ku.2.2, k1.2.2.2]⟩
    · obtain ⟨mem, us, ss, R, b1, b2, b3, b4, b5⟩ := b (by omega) h15
      obtain ⟨u, fu, ku⟩ := m_best h c (Kp_refl M) rfl (by omega) b1 b2 b3 b4
      refine ⟨M 0 15, M, u, ?_, by rw [b5]; exact fu, InvQ_fr h ku, Cch_fr h.1 c ku, bf u ku, kb u ku⟩
      unfold fX11_best
      rw [s4, if_neg h12, if_neg h15, ob]
