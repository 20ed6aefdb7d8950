set_option maxHeartbeats 4000000 in
set_option maxRecDepth 20000 in
theorem ln_input {A B : Mem} {t : Nat} {T : Int → Int} {n N c j giv w : Int} {G : Nat → Int → Int → Int} (h : PR A B t T n N G c j) (h5 : A 1 4 = 5) (h6 : A 1 6 = w) (hw : w = 0 ∨ w = 1) (hg : giv = 0 ∨ giv = 1) : ∃ x A' B', fX6_readInput giv A = some (x, A') ∧ ((fX12_readInput giv B).bind fun q => fX12_takeEnd q) = some B' ∧ LnRes t T n N j A B x A' B' := by
  obtain ⟨hP, hAt, hpos⟩ := h
  obtain ⟨p1, p2, p3, p4, p5, p6, p7, p8, p9, p10, p11, p12, p13, p14, p15, p16⟩ := id hP
  have ht := p1.1
  have n0 := p1.2.2.1.2.1
  have n1 := p2.2.1
  obtain ⟨hA, h7, j0, j1, h8⟩ := id hAt
  obtain ⟨-, tl, pn, t1⟩ := tk_len p1 hA h5 h6
  have tl4 : pos T n j + 4 ≤ te T n (pos T n j) := by
    rcases hw with z | z
    · rw [z, rl_v.1] at tl; omega
    · rw [z, rl_v.2.1] at tl; omega
  clear tl
  have o := p16.2.1 c p4.2.2 (Int.le_refl _)
  have d0 := o.1
  have c0 := p4.2.2
  have jN := (not_end p2 j1 (by omega)).1
  have nN := p2.1.2.1
  have c1 : c < 200 := by omega
  by_cases hd : A 4 7 ≤ 0
  · have d00 : G 0 c 0 = 0 := by have := p11.1; omega
    have hd' : B 132 18 ≤ 0 := by rw [p11.2]; omega
    obtain ⟨u, hu⟩ : ∃ u, A t 10 = u := ⟨_, rfl⟩
    have b413 : B 138 413 = u := by rw [← p5.1]; exact hu
    have ub : 0 ≤ u ∧ u ≤ 6 := by rw [← hu]; exact p5.2
    by_cases hu6 : u < 6
    · obtain ⟨A2, cl, at2, x1, x2, x3, x4, x5, x6, x7, x8, x9, x10⟩ := c_inA (giv := giv) p1 hA j0 hd hu ub.1 hu6 p4.1 c0 c1 hg
      obtain ⟨B1, g1, y1, y2, y3, y4, y5⟩ := m_newLine (what := 6) p2 h7 j0 j1 p4.2.1 c0 c1
      have mf1 : MFr B B1 := ⟨fun b b1 b2 => y5 b (by omega) (by omega), fun k hk => y2 k (by omega), fun y hy => y3 y (by omega), fun k _ _ _ _ _ => by rw [y5 132 (by omega) (by omega)]⟩
      generalize hB2 : wr B1 132 7 (j + 1) = B2
      have fB2 : F78 B1 B2 := by rw [← hB2]; exact F78_7 B1 _
      have mf2 : MFr B B2 := MFr_trans mf1 (F78_MFr fB2)
      have cf2 : CFr t A A2 := ⟨fun b b1 b4 b18 bt => x10 b b1 (by omega) (by omega) (by omega) (by omega) (by omega), x1, by rw [x10 4 (by omega) (by omega) (by omega) (by omega) (by omega) (by omega)]⟩
      have hC2 := CK_CFr p1 cf2
      have hM2 := MK_MFr p2 mf2
      have b27 : B2 132 7 = j + 1 := by rw [← hB2, wr_at, if_pos rfl]
      have b28 : B2 132 8 = 0 := by rw [← hB2, wr_at, if_neg (by decide), y5 132 (by omega) (by omega)]; exact h8
      have at' : AtB A2 B2 T n N (j + 1) := ⟨at2, b27, by omega, by omega, b28⟩
      have E2 := fun b (hb : b = 4 ∨ b = 18 ∨ b = 19 ∨ b = 20 ∨ b = 21) => show A2 b = A b from x10 b (by omega) (by omega) (by omega) (by omega) (by omega) (by omega)
      have nm2 : NmR A2 B2 (G 1 c 0) := NmR_fr p3 (by rw [E2 4 (by omega)]) (E2 18 (by omega)) (E2 19 (by omega)) (E2 20 (by omega)) (by rw [fB2.2 14 (by omega) (by omega), y5 132 (by omega) (by omega)]) (by rw [fB2.1 140 (by omega), y5 140 (by omega) (by omega)]) (by rw [fB2.1 141 (by omega), y5 141 (by omega) (by omega)])
      have e7 : w32 (B1 132 7 + 1) = j + 1 := by rw [y5 132 (by omega) (by omega), h7, w32_id (by omega) (by omega)]
      have e80 : B 132 8 ≤ 0 := by omega
      have mi := m_isName hC2 hM2 at'
      -- a fault at the name
      have flt : ∀ k, 1 ≤ k → k ≤ 6 → fX6_readInput giv A = some (k + 16 * pos T n (j + 1), A2) → fX12_readInput giv B = some (wr B2 132 8 (k + 16 * pos T n (j + 1))) → ∃ x A' B', fX6_readInput giv A = some (x, A') ∧ ((fX12_readInput giv B).bind fun q => fX12_takeEnd q) = some B' ∧ LnRes t T n N j A B x A' B' := by
        intro k k0 k1 e1 e2
        obtain ⟨-, -, B', fe, r1, r2, r3⟩ := ln_fault (k := k) hC2 hM2 at' k0 k1
        refine ⟨_, A2, B', e1, by rw [e2, ob, fe], cf2, MFr_trans mf2 r2, ?_⟩
        have fp := flt_pos (T := T) (n := n) (j := j + 1) n0 k0
        rcases r3 with z | z
        · omega
        · exact Or.inr z
      have mm0 : fX12_readInput giv B = ((if (if A2 1 4 = 4 then (1 : Int) else 0) = 0 then (fX12_wrong 1 B2).bind fun q11 => some q11 else (fX12_nameAt B2).bind fun q8 => if q8.1 < 0 then if (q8.2 132 14) = 20 then (fX12_wrong 5 q8.2).bind fun q9 => some q9 else some q8.2 else (fX12_wrong 3 q8.2).bind fun q10 => some q10 : Option Mem)).bind fun q12 => if (q12 132 8) ≤ 0 then (ldJ q12 136 (q12 132 7)).bind fun v13 => (pI q12 132 7 (w32 ((q12 132 7) + 1))).bind fun M14 => (fX12_takeNumber 0 999 M14).bind fun q15 => (fX12_takeNumber q15.1 999 q15.2).bind fun q16 => (ldI q16.2 138 413).bind fun v17 => (some (w32 (422 + (w32 (3 * v17))))).bind fun v18 => (stI q16.2 138 v18 q15.1).bind fun M19 => (stI M19 138 (w32 (v18 + 1)) q16.1).bind fun M20 => ((if giv = 0 then some 0 else some 1 : Option Int)).bind fun q21 => (stI M20 138 (w32 (v18 + 2)) q21).bind fun M22 => (stI M22 139 (w32 (12 * (210 + c) + 1)) (M22 132 14)).bind fun M23 => (stI M23 139 (w32 (12 * (210 + c) + 2)) v17).bind fun M24 => (ldI M24 138 413).bind fun v25 => (stI M24 138 413 (w32 (v25 + 1))).bind fun M26 => ((if (M26 132 8) = 0 then (fX12_tells v13 2 M26).bind fun q27 => some q27 else some M26 : Option Mem)).bind fun q28 => some q28 else some q12 := by
        unfold fX12_readInput
        rw [if_pos hd', ld138 _ _ (by omega) (by omega), ob, if_neg (show ¬ B 138 413 = 6 by omega), ob, if_pos e80, g1, ob]
        dsimp only
        rw [pI_ok, ob, e7, hB2, mi, ob]
      by_cases k4 : A2 1 4 = 4
      · have ty1 : ty T n (pos T n (j + 1)) = 1 := (kd_rel at2).2.2.2.2.1.mp (Or.inl k4)
        have wt := tk_wrd hM2 at' ty1
        obtain ⟨s, fs, hs⟩ := c_slotOf nm2 (wrd_i wt).1
        have ms := m_nameAt nm2 hM2 b27 (by omega) (by omega) wt hs
        rw [if_pos k4, fs, ob] at cl
        rw [if_pos k4, if_neg (show ¬ (1 : Int) = 0 by decide), ms, ob] at mm0
        dsimp only at cl mm0
        by_cases s0 : s = -1
        · rw [if_pos s0] at cl
          rw [if_pos (show s < 0 by omega)] at mm0
          by_cases m20 : G 1 c 0 < 20
          · have mb := o.2.1
            have ne1 := not_end hM2 (show j + 1 ≤ N by omega) (by omega)
            obtain ⟨A3, ct, z1, z2, z3, z4, z5, z6, z7, z8⟩ := c_inTell (A := A2) (c := c) (u := u) ht hC2.2.1 nm2.1 mb.1 m20 c0 c1
            rw [if_pos (show A2 4 5 < 20 by rw [nm2.1]; exact m20), ct, ob] at cl
            dsimp only at cl
            rw [if_pos rfl] at cl
            rw [if_neg (show ¬ B2 132 14 = 20 by rw [nm2.2.1]; omega), ob, if_pos (show B2 132 8 ≤ 0 by omega), b27, ld136 _ _ (by omega) (by omega), ob, pI_ok, ob, w32_id (show -2147483648 ≤ j + 1 + 1 by omega) (by omega)] at mm0
            generalize hB3 : wr B2 132 7 (j + 1 + 1) = B3 at mm0
            have fB3 : F78 B2 B3 := by rw [← hB3]; exact F78_7 B2 _
            have mf3 : MFr B B3 := MFr_trans mf2 (F78_MFr fB3)
            have a31 : A3 1 = A2 1 := z8 1 (by omega) (by omega) (by omega) (by omega) (by omega) (by omega)
            have cf3 : CFr t A A3 := CFr_trans cf2 ⟨fun b b1 b4 b18 bt => z8 b b4 (by omega) (by omega) (by omega) (by omega) (by omega), by rw [a31], z2 1 (by decide)⟩
            obtain ⟨x4', A4, v4, B4, f4, g4, fr4, mr4, res4⟩ := r_number (A := A3) (B := B3) (j := j + 1) (lo := 0) (hi := 999) (CK_CFr p1 cf3) (MK_MFr p2 mf3) (by rw [a31]; exact at2.2.1) (by omega) (by omega) (by rw [← hB3, wr_at, if_pos rfl]) (by rw [← hB3, wr_at, if_neg (by decide)]; exact b28) (by omega) (by omega)
            have cf4 : CFr t A A4 := CFr_trans cf3 (F1_CFr ht fr4)
            have mf4 : MFr B B4 := MFr_trans mf3 (F78_MFr mr4)
            have b4u : B4 138 413 = u := by rw [mr4.1 138 (by omega), fB3.1 138 (by omega), fB2.1 138 (by omega), y2 413 (by decide)]; exact b413
            have b4m : B4 132 14 = G 1 c 0 := by rw [mr4.2 14 (by decide) (by decide), fB3.2 14 (by decide) (by decide)]; exact nm2.2.1
            rw [f4, ob, ob] at cl
            dsimp only at cl
            rw [g4, ob] at mm0
            dsimp only at mm0
            -- a fault in the numbers: the reference goes on to the line's end
            have ftail : ∀ (x : Int) (A' B5 : Mem) (hi' : Int), 0 < x → B5 132 8 = x → B5 138 413 = u → B5 132 14 = G 1 c 0 → CFr t A A' → MFr B B5 → fX6_readInput giv A = some (x, A') → (fX12_readInput giv B = ((ldI B5 138 413).bind fun v17 => (some (w32 (422 + (w32 (3 * v17))))).bind fun v18 => (stI B5 138 v18 v4).bind fun M19 => (stI M19 138 (w32 (v18 + 1)) hi').bind fun M20 => ((if giv = 0 then some 0 else some 1 : Option Int)).bind fun q21 => (stI M20 138 (w32 (v18 + 2)) q21).bind fun M22 => (stI M22 139 (w32 (12 * (210 + c) + 1)) (M22 132 14)).bind fun M23 => (stI M23 139 (w32 (12 * (210 + c) + 2)) v17).bind fun M24 => (ldI M24 138 413).bind fun v25 => (stI M24 138 413 (w32 (v25 + 1))).bind fun M26 => ((if (M26 132 8) = 0 then (fX12_tells (B2 136 (j + 1)) 2 M26).bind fun q27 => some q27 else some M26 : Option Mem)).bind fun q28 => some q28)) → ∃ x A' B', fX6_readInput giv A = some (x, A') ∧ ((fX12_readInput giv B).bind fun q => fX12_takeEnd q) = some B' ∧ LnRes t T n N j A B x A' B' := by
              intro x A' B5 hi' xp e8 e413 e14 cf mf ecl eml
              obtain ⟨B6, tl6, w1, w2, w3⟩ := m_inTail (B := B5) (c := c) (lo := v4) (hi := hi') (giv := giv) (v13 := B2 136 (j + 1)) e413 ub.1 hu6 e14 c0 c1 hg
              rw [tl6, if_neg (by omega), ob] at eml
              have e68 : B6 132 8 = x := by rw [w3 132 (by omega) (by omega)]; exact e8
              obtain ⟨B7, g7, mr7, b78⟩ := m_takeEnd8 (B := B6) (by omega)
              have mf6 : MFr B5 B6 := ⟨fun b b1 b2 => w3 b (by omega) (by omega), fun k hk => by rw [w1, if_neg (by omega), if_neg (by omega), if_neg (by omega), if_neg (by omega)], fun y hy => by rw [w2, if_neg (by omega), if_neg (by omega)], fun k _ _ _ _ _ => by rw [w3 132 (by omega) (by omega)]⟩
              exact ⟨x, A', B7, ecl, by rw [eml, ob, g7], cf, MFr_trans mf (MFr_trans mf6 (F78_MFr mr7)), Or.inr ⟨xp, by rw [b78, e68]⟩⟩
            rcases res4 with ⟨rfl, at4, v46, v40, v49, b47, b48, jN4, pn4⟩ | ⟨xp, b48⟩
            · have g44 : gm A4 4 1 = some t := gm41 ht (CK_CFr p1 cf4).2.1
              rw [if_pos rfl, g44, ob, v46, ts11 ht _ _ _ ub.1 hu6, ob] at cl
              generalize hA5 : wr A4 (t + 11) u v4 = A5 at cl
              have a5b : ∀ b, b ≠ t + 11 → A5 b = A4 b := fun b hb => by rw [← hA5, wr_ne hb]
              have cf5 : CFr t A A5 := CFr_trans cf4 ⟨fun b b1 b4 b18 bt => a5b b (by omega), by rw [a5b 1 (by omega)], by rw [a5b 4 (by omega)]⟩
              have e516 : A5 1 6 = v4 := by rw [a5b 1 (by omega)]; exact v46
              obtain ⟨x6', A6, v6, B5, f6, g6, fr6, mr6, res6⟩ := r_number (A := A5) (B := B4) (j := j + 1 + 1) (lo := v4) (hi := 999) (CK_CFr p1 cf5) (MK_MFr p2 mf4) (by rw [a5b 1 (by omega)]; exact at4.2.1) (by omega) (by omega) (by omega) b48 (by omega) (by omega)
              rw [e516, f6, ob, ob] at cl
              dsimp only at cl
              rw [g6, ob] at mm0
              dsimp only at mm0
              have cf6 : CFr t A A6 := CFr_trans cf5 (F1_CFr ht fr6)
              have mf5 : MFr B B5 := MFr_trans mf4 (F78_MFr mr6)
              have b5u : B5 138 413 = u := by rw [mr6.1 138 (by omega)]; exact b4u
              have b5m : B5 132 14 = G 1 c 0 := by rw [mr6.2 14 (by decide) (by decide)]; exact b4m
              rcases res6 with ⟨rfl, at6, v66, v60, v69, b57, b58, jN6, pn6⟩ | ⟨xp, b58⟩
              · have g66 : gm A6 4 1 = some t := gm41 ht (CK_CFr p1 cf6).2.1
                rw [if_pos rfl, g66, ob, v66, ts12 ht _ _ _ ub.1 hu6, ob] at cl
                generalize hA7 : wr A6 (t + 12) u v6 = A7 at cl
                have a7b : ∀ b, b ≠ t + 12 → A7 b = A6 b := fun b hb => by rw [← hA7, wr_ne hb]
                have cf7 : CFr t A A7 := CFr_trans cf6 ⟨fun b b1 b4 b18 bt => a7b b (by omega), by rw [a7b 1 (by omega)], by rw [a7b 4 (by omega)]⟩
                obtain ⟨B6, tl6, w1, w2, w3⟩ := m_inTail (B := B5) (c := c) (lo := v4) (hi := v6) (giv := giv) (v13 := B2 136 (j + 1)) b5u ub.1 hu6 b5m c0 c1 hg
                obtain ⟨B7, f7, r1, r2, r3, r4, r5⟩ := m_tells (B := B6) (x := B2 136 (j + 1)) (kd' := 2) (m := G 1 c 0) (by rw [w3 132 (by omega) (by omega)]; exact b5m) mb.1 m20
                rw [tl6, if_pos b58, f7, ob, ob] at mm0
                have mf6 : MFr B5 B6 := ⟨fun b b1 b2 => w3 b (by omega) (by omega), fun k hk => by rw [w1, if_neg (by omega), if_neg (by omega), if_neg (by omega), if_neg (by omega)], fun y hy => by rw [w2, if_neg (by omega), if_neg (by omega)], fun k _ _ _ _ _ => by rw [w3 132 (by omega) (by omega)]⟩
                have mf7 : MFr B B7 := MFr_trans mf5 (MFr_trans mf6 ⟨fun b b1 b2 => r5 b b1 (by omega) (by omega), fun k _ => by rw [r5 138 (by omega) (by omega) (by omega)], fun y _ => by rw [r5 139 (by omega) (by omega) (by omega)], fun k _ _ k14 _ _ => r2 k k14⟩)
                obtain ⟨x8', A8, B8, f8, g8, fr8, mr8, res8⟩ := r_semi (A := A7) (B := B7) (j := j + 1 + 1 + 1) (CK_CFr p1 cf7) (MK_MFr p2 mf7) (by rw [a7b 1 (by omega)]; exact at6.2.1) (by omega) (by omega) (by rw [r2 7 (by decide), w3 132 (by omega) (by omega), b57]; omega) (by rw [r2 8 (by decide), w3 132 (by omega) (by omega)]; exact b58)
                rw [f8, ob, ob] at cl
                refine ⟨x8', A8, B8, cl, by rw [mm0, ob, g8], CFr_trans cf7 (F1_CFr ht fr8), MFr_trans mf7 (F78_MFr mr8), ?_⟩
                rcases res8 with ⟨rfl, at8, b87, b88, jN8, pn8⟩ | hf
                · left
                  refine ⟨rfl, upG G c (G 0 c 0) (G 1 c 0 + 1) (G 2 c) (G 3 c) (fun s => if s = G 1 c 0 then 0 else G 4 c s), c + 1, j + 1 + 1 + 1 + 1, ?_, at8, by omega, b88, by omega, by omega, ?_, ?_⟩
                  · clear cl mm0 ftail flt tl6 f7 ct hpos tl4 jN4 jN6 jN8 b47 b57 b87
                    obtain ⟨ts', hts'⟩ : ∃ ts' : Int → Int, ts' = fun s => if s = G 1 c 0 then 0 else G 4 c s := ⟨_, rfl⟩
                    rw [← hts']
                    have tsv : ∀ s, ts' s = if s = G 1 c 0 then 0 else G 4 c s := fun s => by rw [hts']
                    clear hts'
                    obtain ⟨u0', u1', u2', u3', u4'⟩ := upG_n (G := G) (c := c) (d := G 0 c 0) (m := G 1 c 0 + 1) (op := G 2 c) (el := G 3 c) (ts := ts')
                    have ue := upG_eq (G := G) (c := c) (d := G 0 c 0) (m := G 1 c 0 + 1) (op := G 2 c) (el := G 3 c) (ts := ts')
                    have e83 : ∀ b, b ≠ 1 → b ≠ t + 11 → b ≠ t + 12 → A8 b = A3 b := fun b q1 q2 q3 => by rw [fr8.1 b q1, a7b b q3, fr6.1 b q1, a5b b q2, fr4.1 b q1]
                    have e82 : ∀ b, b = t ∨ b = t + 1 ∨ b = t + 2 ∨ b = t + 8 ∨ b = t + 10 → A8 b = A2 b := fun b hb => by rw [e83 b (by omega) (by omega) (by omega), z8 b (by omega) (by omega) (by omega) (by omega) (by omega) (by omega)]
                    have e8A : ∀ b, b = 21 ∨ b = t + 4 ∨ b = t + 5 ∨ b = t + 6 ∨ b = t + 7 → A8 b = A b := fun b hb => by rw [e83 b (by omega) (by omega) (by omega), z8 b (by omega) (by omega) (by omega) (by omega) (by omega) (by omega), x10 b (by omega) (by omega) (by omega) (by omega) (by omega) (by omega)]
                    have e8_3 : ∀ i, A8 (t + 3) i = if i = c then G 1 c 0 else A (t + 3) i := fun i => by rw [e83 _ (by omega) (by omega) (by omega), z6, x10 (t + 3) (by omega) (by omega) (by omega) (by omega) (by omega) (by omega)]
                    have e8_9 : ∀ i, A8 (t + 9) i = if i = c then u else A (t + 9) i := fun i => by rw [e83 _ (by omega) (by omega) (by omega), z7, x10 (t + 9) (by omega) (by omega) (by omega) (by omega) (by omega) (by omega)]
                    have e8_11 : ∀ i, A8 (t + 11) i = if i = u then v4 else A (t + 11) i := fun i => by rw [fr8.1 _ (by omega), a7b _ (by omega), fr6.1 _ (by omega), ← hA5, wr_at, fr4.1 _ (by omega), z8 (t + 11) (by omega) (by omega) (by omega) (by omega) (by omega) (by omega), x10 (t + 11) (by omega) (by omega) (by omega) (by omega) (by omega) (by omega)]
                    have e8_12 : ∀ i, A8 (t + 12) i = if i = u then v6 else A (t + 12) i := fun i => by rw [fr8.1 _ (by omega), ← hA7, wr_at, fr6.1 _ (by omega), a5b _ (by omega), fr4.1 _ (by omega), z8 (t + 12) (by omega) (by omega) (by omega) (by omega) (by omega) (by omega), x10 (t + 12) (by omega) (by omega) (by omega) (by omega) (by omega) (by omega)]
                    have e84 : ∀ k, k ≠ 5 → A8 4 k = A 4 k := fun k hk => by rw [e83 4 (by omega) (by omega) (by omega), z2 k hk, E2 4 (by omega)]
                    have e819 : ∀ k, A8 19 k = if k = G 1 c 0 then 0 else A 19 k := fun k => by rw [e83 19 (by omega) (by omega) (by omega), z4, E2 19 (by omega)]
                    have b51 : ∀ b, b ≠ 132 → B5 b = B1 b := fun b hb => by rw [mr6.1 b hb, mr4.1 b hb, fB3.1 b hb, fB2.1 b hb]
                    have e8B : ∀ b, b ≠ 132 → b ≠ 138 → b ≠ 139 → b ≠ 140 → b ≠ 141 → B8 b = B b := fun b q1 q2 q3 q4 q5 => by rw [mr8.1 b q1, r5 b q1 q4 q5, w3 b q2 q3, b51 b q1, y5 b q2 q3]
                    have b81 : ∀ k, B8 138 k = if k = 413 then u + 1 else if k = 422 + 3 * u + 2 then giv else if k = 422 + 3 * u + 1 then v6 else if k = 422 + 3 * u then v4 else B1 138 k := fun k => by rw [mr8.1 138 (by omega), r5 138 (by omega) (by omega) (by omega), w1, b51 138 (by omega)]
                    have b89 : ∀ y, B8 139 y = if y = 12 * (210 + c) + 2 then u else if y = 12 * (210 + c) + 1 then G 1 c 0 else B1 139 y := fun y => by rw [mr8.1 139 (by omega), r5 139 (by omega) (by omega) (by omega), w2, b51 139 (by omega)]
                    have b2eq : ∀ k, k ≠ 7 → k ≠ 8 → B5 132 k = B 132 k := fun k q7 q8 => by rw [mr6.2 k q7 q8, mr4.2 k q7 q8, fB3.2 k q7 q8, fB2.2 k q7 q8, y5 132 (by omega) (by omega)]
                    have k0' : A8 (t + 1) c = 0 := by rw [e82 (t + 1) (by omega)]; exact x5
                    have nmE : NmR A8 B8 (G 1 c 0 + 1) := NmR_tell p3 m20 (inp := 1) (ty' := 0) (Or.inr rfl) (Or.inl rfl) (fun _ => rfl) wt (fun k q0 q1 => by
                      rcases hs with q | q
                      · have := q.2 k q0 q1
                        rw [E2 18 (by omega)] at this; exact this
                      · omega) (by rw [e83 4 (by omega) (by omega) (by omega)]; exact z1) (fun k => by rw [e83 18 (by omega) (by omega) (by omega), z3, E2 18 (by omega)]) e819 (fun k => by rw [e83 20 (by omega) (by omega) (by omega), z5, E2 20 (by omega)]) (by rw [mr8.2 14 (by decide) (by decide)]; exact r1) (fun k => by rw [mr8.1 140 (by omega), r3, w3 140 (by omega) (by omega), b51 140 (by omega), y5 140 (by omega) (by omega)]) (fun k => by rw [mr8.1 141 (by omega), r4, w3 141 (by omega) (by omega), b51 141 (by omega), y5 141 (by omega) (by omega), if_pos (show (1 : Int) = 1 from rfl)])
                    have lf : LnF A A8 B B8 t 210 c := ⟨fun i i0 i1 => by
                      rw [e82 (t + 1) (by omega), e82 (t + 2) (by omega), e8_3, if_neg (by omega), e8A (t + 4) (by omega), e8A (t + 5) (by omega), e8_9, if_neg (by omega)]
                      exact ⟨(x8 i (by omega)).1, (x8 i (by omega)).2.1, rfl, rfl, rfl, rfl⟩, fun y y0 y1 => by rw [e8A (t + 6) (by omega), e8A (t + 7) (by omega)]; exact ⟨rfl, rfl⟩, by rw [e82 t (by omega), x3]; omega, by rw [e82 t (by omega), x4 16 (by decide) (by decide)]; exact Int.le_refl _, fun i k i0 i1 q0 q1 _ => by rw [b89, if_neg (by omega), if_neg (by omega), y3 _ (by omega)]⟩
                    have pb := pos_b T (n := n) (j := j) n0
                    refine PC_same hP (CFr_trans cf7 (F1_CFr ht fr8)) (MFr_trans mf7 (F78_MFr mr8)) nmE (by omega) (fun s s0 s1 => by rw [tsv, if_neg (by omega)]) (fun s s0 s1 => ?_) (by rw [e82 t (by omega)]; exact x2) (by rw [b81, if_neg (by decide), if_neg (by omega), if_neg (by omega), if_neg (by omega)]; exact y1) ?_ (fun i i0 i1 => ?_) (fun k q0 q10 => by rw [e82 t (by omega)]; exact x4 k q0 q10) (fun k q0 q1 => by rw [b81, if_neg (by omega), if_neg (by omega), if_neg (by omega), if_neg (by omega)]; exact y2 k (by omega)) (fun k q5 _ => e84 k q5) (by rw [mr8.2 18 (by decide) (by decide), r2 18 (by decide), w3 132 (by omega) (by omega)]; exact b2eq 18 (by decide) (by decide)) (e8A 21 (by omega)) (e8B 142 (by omega) (by omega) (by omega) (by omega) (by omega)) (e8B 143 (by omega) (by omega) (by omega) (by omega) (by omega)) (e8B 144 (by omega) (by omega) (by omega) (by omega) (by omega)) lf (fun y y0 y1 => by rw [e82 (t + 8) (by omega)]; exact (x8 y (by omega)).2.2) (fun y y0 y1 => by rw [b89, b89, if_neg (by omega), if_neg (by omega), if_neg (by omega), if_neg (by omega), y3 _ (by omega), y3 _ (by omega)]; exact ⟨rfl, rfl⟩) ?_ ?_ (Or.inl k0')
                    · rw [tsv, e819]
                      by_cases q : s = G 1 c 0
                      · rw [if_pos q, if_pos q]
                      · rw [if_neg q, if_neg q]; exact p14 s s0 (by omega)
                    · rw [e82 t (by omega), x3, b81, if_pos rfl]; exact ⟨rfl, by omega, by omega⟩
                    · rw [e82 t (by omega), x3] at i1
                      rw [e82 (t + 10) (by omega), x9, e8_11, e8_12, b81, b81, b81]
                      by_cases q : i = u
                      · rw [q, if_pos rfl, if_pos rfl, if_pos rfl, if_neg (by omega), if_pos rfl, if_neg (by omega), if_neg (by omega), if_neg (by omega), if_pos rfl, if_neg (by omega), if_neg (by omega), if_pos rfl]
                        exact ⟨rfl, hg, rfl, rfl, v40, v60, v69⟩
                      · rw [if_neg q, if_neg q, if_neg q, if_neg (by omega), if_neg (by omega), if_neg (by omega), if_neg (by omega), if_neg (by omega), if_neg (by omega), if_neg (by omega), if_neg (by omega), if_neg (by omega), if_neg (by omega), if_neg (by omega), if_neg (by omega), y2 _ (by omega), y2 _ (by omega), y2 _ (by omega)]
                        exact p13 i i0 (by omega)
                    · have nb : ∀ k, 0 ≤ k → k < 12 → k ≠ 1 → k ≠ 2 → B8 139 (12 * (210 + c) + k) = if k = 11 then B 132 18 else if k = 3 then pos T n j else if k = 0 then 6 else 0 := fun k q0 q1 q2 q3 => by rw [b89, if_neg (by omega), if_neg (by omega)]; exact y4 k q0 q1
                      have g0 := ue 0 c 0 (by omega) (Int.le_refl _)
                      have e0 := nb 0 (by omega) (by omega) (by omega) (by omega)
                      rw [Int.add_zero] at e0
                      unfold LnR
                      rw [k0', g0, e0, nb 3 (by omega) (by omega) (by omega) (by omega), nb 11 (by omega) (by omega) (by omega) (by omega), e82 (t + 2) (by omega), x6]
                      refine ⟨by rw [if_neg (by decide), if_neg (by decide), if_pos rfl]; rfl, by rw [if_neg (by decide), if_pos rfl], by omega, fun _ => ?_, fun z => by omega, fun z => by omega, fun z => by omega, fun z => by omega, by rw [if_pos rfl, if_neg (by decide)]; exact p11.2⟩
                      rw [b89, b89, if_neg (by omega), if_pos rfl, if_pos rfl, e8_3, if_pos rfl, e8_9, if_pos rfl, e82 t (by omega), x3]
                      exact ⟨rfl, rfl, ub.1, by omega⟩
                    · unfold LnT samG
                      rw [k0', u1', u0', ue 1 c 0 (by omega) (Int.le_refl _), ue 0 c 0 (by omega) (Int.le_refl _)]
                      refine ⟨Or.inl rfl, fun s s0 s1 s2 => by rw [u4', tsv, if_neg (by omega), ue 4 c s (by omega) (Int.le_refl _)], fun _ => ⟨d00, by rw [e8_3, if_pos rfl], rfl, by rw [u4', tsv, if_pos rfl], rfl, fun l l0 l1 => by rw [u2', u3', ue 2 c l (by omega) (Int.le_refl _), ue 3 c l (by omega) (Int.le_refl _)]; exact ⟨rfl, rfl⟩⟩, fun z => by omega, fun z => by omega, fun z => by omega, fun z => by omega, fun z => by omega, fun z => by omega⟩
                  · rw [upG_n.1]
                    have q1 := pos_nx (T := T) (j := j) n0 j0
                    have q2 := pos_nx (T := T) (j := j + 1) n0 (by omega)
                    have q3 := pos_nx (T := T) (j := j + 1 + 1) n0 (by omega)
                    have q4 := pos_nx (T := T) (j := j + 1 + 1 + 1) n0 (by omega)
                    have q5 := pos_te (T := T) (j := j + 1) n0 ne1.2
                    have q6 := pos_te (T := T) (j := j + 1 + 1) n0 pn4
                    have q7 := pos_te (T := T) (j := j + 1 + 1 + 1) n0 pn6
                    have q8 := pos_te (T := T) (j := j + 1 + 1 + 1 + 1) n0 pn8
                    omega
                  · have q1 := pos_nx (T := T) (j := j) n0 j0
                    have q2 := pos_nx (T := T) (j := j + 1) n0 (by omega)
                    have q3 := pos_nx (T := T) (j := j + 1 + 1) n0 (by omega)
                    have q4 := pos_nx (T := T) (j := j + 1 + 1 + 1) n0 (by omega)
                    have q5 := pos_te (T := T) (j := j + 1) n0 ne1.2
                    have q6 := pos_te (T := T) (j := j + 1 + 1) n0 pn4
                    have q7 := pos_te (T := T) (j := j + 1 + 1 + 1) n0 pn6
                    have q8 := pos_te (T := T) (j := j + 1 + 1 + 1 + 1) n0 pn8
                    omega
                · exact Or.inr hf
              · rw [if_neg (by omega), ob] at cl
                exact ftail x6' A6 B5 v6 xp b58 b5u b5m cf6 mf5 cl mm0
            · rw [if_neg (by omega), ob] at cl
              dsimp only at cl
              rw [if_neg (by omega), ob] at cl
              rw [m_takeNumber8 (by omega), ob] at mm0
              dsimp only at mm0
              exact ftail x4' A4 B4 0 xp b48 b4u b4m cf4 mf4 cl mm0
          · have e20 : G 1 c 0 = 20 := by have := o.2.1; omega
            refine flt 5 (by omega) (by omega) ?_ ?_
            · rw [cl, if_neg (by rw [nm2.1]; omega), c_fault at2 n0 n1 (by omega) (by omega), ob, ob]
              dsimp only
              have fp := flt_pos (T := T) (n := n) (j := j + 1) (k := 5) n0 (by omega)
              rw [if_neg (by omega), ob, if_neg (by omega), ob, if_neg (by omega), ob]
            · have fp := flt_pos (T := T) (n := n) (j := j + 1) (k := 5) n0 (by omega)
              rw [mm0, if_pos (by rw [nm2.2.1]; exact e20), m_wrong hM2 b27 (by omega) (by omega) b28 (by omega) (by omega), ob, ob, if_neg (by rw [wr_at, if_pos rfl]; omega)]
        · refine flt 3 (by omega) (by omega) ?_ ?_
          · rw [cl, if_neg s0, c_fault at2 n0 n1 (by omega) (by omega), ob, ob]
            dsimp only
            have fp := flt_pos (T := T) (n := n) (j := j + 1) (k := 3) n0 (by omega)
            rw [if_neg (by omega), ob, if_neg (by omega), ob, if_neg (by omega), ob]
          · have fp := flt_pos (T := T) (n := n) (j := j + 1) (k := 3) n0 (by omega)
            rw [mm0, if_neg (by omega), m_wrong hM2 b27 (by omega) (by omega) b28 (by omega) (by omega), ob, ob, if_neg (by rw [wr_at, if_pos rfl]; omega)]
      · refine flt 1 (by omega) (by omega) ?_ ?_
        · rw [cl, if_neg k4, c_fault at2 n0 n1 (by omega) (by omega), ob, ob]
          dsimp only
          have fp := flt_pos (T := T) (n := n) (j := j + 1) (k := 1) n0 (by omega)
          rw [if_neg (by omega), ob, if_neg (by omega), ob, if_neg (by omega), ob]
        · have fp := flt_pos (T := T) (n := n) (j := j + 1) (k := 1) n0 (by omega)
          rw [mm0, if_neg k4, if_pos rfl, m_wrong hM2 b27 (by omega) (by omega) b28 (by omega) (by omega), ob, ob, if_neg (by rw [wr_at, if_pos rfl]; omega)]
    · obtain ⟨fa, fb, Bf, fe, resf⟩ := ln_fault (k := 5) p1 p2 hAt (by omega) (by omega)
      refine ⟨_, A, Bf, ?_, ?_, resf⟩
      · unfold fX6_readInput
        rw [if_pos hd, gm41 ht p1.2.1, ob, if_neg (by omega), fa, ob]
      · have fp := flt_pos (T := T) (n := n) (j := j) (k := 5) n0 (by omega)
        unfold fX12_readInput
        rw [if_pos hd', ld138 _ _ (by omega) (by omega), ob, if_pos (show B 138 413 = 6 by omega), fb, ob, ob, if_neg (by rw [wr_at, if_pos rfl]; omega), ob, fe]
  · obtain ⟨fa, fb, Bf, fe, resf⟩ := ln_fault (k := 1) p1 p2 hAt (by omega) (by omega)
    refine ⟨_, A, Bf, ?_, ?_, resf⟩
    · unfold fX6_readInput
      rw [if_neg hd, fa, ob]
    · have fp := flt_pos (T := T) (n := n) (j := j) (k := 1) n0 (by omega)
      have hd' : ¬ B 132 18 ≤ 0 := by rw [p11.2, ← p11.1]; exact hd
      unfold fX12_readInput
      rw [if_neg hd', fb, ob, ob, if_neg (by rw [wr_at, if_pos rfl]; omega), ob, fe]
