/-! one line is worked by both -/
noncomputable def mTail (i v11 : Int) (b : Mem) : Option (Int × Mem) :=
      ((if 200 < v11 then
          some true
        else
          if (b 139 (12 * (210 + i))) = 5 then
            (ldI b 138 421).bind fun v12 =>
            if v12 = 8 then
              some true
            else
              some false
          else
            some false : Option (Bool))).bind fun q13 =>
      ((if q13 = true then
          (ldI b 139 (w32 ((12 * (210 + i)) + 3))).bind fun v14 =>
          (fX12_bad v14 b).bind fun q15 =>
          some (w32 (i + 1), q15)
        else
          if (b 139 (12 * (210 + i))) = 6 then
            (ldI b 139 (w32 ((12 * (210 + i)) + 1))).bind fun v44 =>
            (ldI b 139 (w32 ((12 * (210 + i)) + 2))).bind fun v45 =>
            (stI b 145 v44 v45).bind fun M46 =>
            some (w32 (i + 1), M46)
          else
            if (b 139 (12 * (210 + i))) = 0 then
              (ldI b 139 (w32 ((12 * (210 + i)) + 1))).bind fun v41 =>
              (fX12_opValue (12 * (210 + i)) b).bind fun q42 =>
              (stI q42.2 145 v41 q42.1).bind fun M43 =>
              some (w32 (i + 1), M43)
            else
              if (b 139 (12 * (210 + i))) = 5 then
                (ldI b 138 421).bind fun v36 =>
                (fX12_argValue (w32 ((12 * (210 + i)) + 5)) b).bind fun q37 =>
                (stI q37.2 138 (w32 (440 + v36)) q37.1).bind fun M38 =>
                (ldI M38 138 421).bind fun v39 =>
                (stI M38 138 421 (w32 (v39 + 1))).bind fun M40 =>
                some (w32 (i + 1), M40)
              else
                if (b 139 (12 * (210 + i))) = 1 then
                  (fX12_argValue (w32 ((12 * (210 + i)) + 5)) b).bind fun q27 =>
                  (stI q27.2 148 (b 139 (12 * (210 + i) + 11)) q27.1).bind fun M28 =>
                  (ldI M28 148 (b 139 (12 * (210 + i) + 11))).bind fun v29 =>
                  (fX12_isUniformRead v29 M28).bind fun q30 =>
                  (ldI q30.2 139 (w32 ((12 * (210 + i)) + 2))).bind fun v31 =>
                  (ldI q30.2 138 (w32 (704 + v31))).bind fun v32 =>
                  ((if q30.1 = 0 then
                      some 1
                    else
                      some 0 : Option (Int))).bind fun q33 =>
                  (stI q30.2 138 (w32 (704 + v31)) (ior v32 q33)).bind fun M34 =>
                  (fX12_moves 145 146 0 (w32 (20 * (b 139 (12 * (210 + i) + 11)))) M34).bind fun q35 =>
                  some (w32 (i + 1), q35)
                else
                  if (b 139 (12 * (210 + i))) = 2 then
                    (fX12_moves 145 147 0 (w32 (20 * (b 139 (12 * (210 + i) + 11)))) b).bind fun q25 =>
                    (fX12_moves 146 145 (w32 (20 * (b 139 (12 * (210 + i) + 11)))) 0 q25).bind fun q26 =>
                    some (w32 (i + 1), q26)
                  else
                    if (b 139 (12 * (210 + i))) = 3 then
                      (ldI b 139 (w32 ((12 * (210 + i)) + 1))).bind fun v23 =>
                      (stI b 149 (b 139 (12 * (210 + i) + 11)) v23).bind fun M24 =>
                      some (w32 (i + 1), M24)
                    else
                      (ldI b 139 (w32 ((12 * (210 + i)) + 1))).bind fun v16 =>
                      if v16 = 1 then
                        (ldI b 149 (b 139 (12 * (210 + i) + 11))).bind fun v17 =>
                        (stI b 149 (b 139 (12 * (210 + i) + 11)) (w32 (v17 - 1))).bind fun M18 =>
                        (ldI M18 149 (b 139 (12 * (210 + i) + 11))).bind fun v19 =>
                        ((if v19 ≤ 0 then
                            some (w32 (i + 1))
                          else
                            (ldI M18 139 (w32 ((12 * (210 + i)) + 7))).bind fun v20 =>
                            some (w32 (v20 + 1)) : Option (Int))).bind fun q21 =>
                        some (q21, M18)
                      else
                        (fX12_closes (12 * (210 + i)) b).bind fun q22 =>
                        some (w32 (i + 1), q22) : Option (Int × Mem)))
theorem mkd_k {k : Int} : (k = 0 → mkd k = 6) ∧ (k = 4 → mkd k = 0) ∧ (k = 5 → mkd k = 1) ∧ (k = 6 → mkd k = 2) ∧ (k = 7 → mkd k = 3) ∧ (k = 8 → mkd k = 4) ∧ (k = 9 → mkd k = 5) := by
  refine ⟨fun h => ?_, fun h => ?_, fun h => ?_, fun h => ?_, fun h => ?_, fun h => ?_, fun h => ?_⟩ <;> rw [h] <;> decide
def cntL (k : Int) : Int := if k = 4 ∨ k = 5 ∨ k = 7 ∨ k = 9 then 1 else 0
set_option maxHeartbeats 4000000 in
set_option maxRecDepth 20000 in
theorem m_step {b : Mem} {i w c k : Int} (h412 : b 138 412 = c) (i0 : 0 ≤ i) (i1 : i < c) (c200 : c ≤ 200) (b8 : b 132 8 = 0) (hk : b 139 (12 * (210 + i)) = mkd k) (hk7 : k = 0 ∨ k = 4 ∨ k = 5 ∨ k = 6 ∨ k = 7 ∨ k = 8 ∨ k = 9) (w0 : 0 ≤ w) (w1 : w ≤ 200) : fX12_works_b2 (w, i, b) = (mTail i (w + cntL k) b).bind fun q47 => some (.inl (w + cntL k, q47.1, q47.2)) := by
  have q10 : ((if b 139 (12 * (210 + i)) = 0 then some 1 else if b 139 (12 * (210 + i)) = 1 then some 1 else if b 139 (12 * (210 + i)) = 3 then some 1 else if b 139 (12 * (210 + i)) = 5 then some 1 else some 0 : Option (Int))) = some (cntL k) := by
    rw [hk]
    rcases hk7 with h | h | h | h | h | h | h <;> rw [h] <;> decide
  have c01 : 0 ≤ cntL k ∧ cntL k ≤ 1 := by unfold cntL; split <;> omega
  unfold fX12_works_b2
  dsimp only
  rw [ld138 _ _ (by omega) (by omega), ob, h412, if_neg (by omega), if_pos b8, ob, w32_id (show -2147483648 ≤ 210 + i by omega) (by omega), w32_id (show -2147483648 ≤ 12 * (210 + i) by omega) (by omega), ld139 _ _ (by omega) (by omega), ob, w32_id (show -2147483648 ≤ 12 * (210 + i) + 11 by omega) (by omega), ld139 _ _ (by omega) (by omega), ob, q10, ob, ob, w32_id (show -2147483648 ≤ w + cntL k by omega) (by omega)]
  unfold mTail
  exact (Option.bind_assoc _ _ _).symm
set_option maxHeartbeats 4000000 in
set_option maxRecDepth 20000 in
theorem wk_line {A B : Mem} {t : Nat} {G : Nat → Int → Int → Int} {c nI n i w st : Int} {giv : Int → Int} (h : WI A B t G c nI giv n i w st) : ∃ i' A' B', fX10_workLine t i A = some (i', A') ∧ mTail i w B = some (i', B') ∧ WRes A B t G c nI giv i w st i' A' B' := by
  obtain ⟨hS, ⟨i0, i1⟩, hD, a9, b8, w01, st0, hp⟩ := id h
  have ht := hS.1
  have hL := hS.2.1
  have c200 := hS.2.2.2.1
  obtain ⟨lR, lT, lP⟩ := hL.1 i i0 i1
  have e8 := lR.1
  have o0 := hL.2.1 i i0 (by omega)
  have ii : w32 (i + 1) = i + 1 := w32_id (by omega) (by omega)
  have mk := mkd_k (k := A (t + 1) i)
  clear hp
  unfold fX10_workLine mTail
  rw [tl1 ht _ _ i0 (by omega), ob, if_neg (show ¬ (200 < w) by omega)]
  rcases lT.1 with k | k | k | k | k | k | k
  · obtain ⟨A', B', f, g, r⟩ := wk_input h k
    rw [e8, mk.1 k, k, if_pos rfl, if_neg (show ¬ ((6 : Int) = 5) by decide), ob, if_neg (by decide), if_pos rfl, f, g]
    exact ⟨_, _, _, rfl, rfl, r⟩
  · obtain ⟨A', B', f, g, r⟩ := wk_is h k
    rw [e8, mk.2.1 k, k, if_neg (show ¬ ((4 : Int) = 0) by decide), if_pos rfl, if_neg (show ¬ ((0 : Int) = 5) by decide), ob, if_neg (by decide), if_neg (show ¬ ((0 : Int) = 6) by decide), if_pos rfl, f, ob, g, ii]
    exact ⟨_, _, _, rfl, rfl, r⟩
  · obtain ⟨A', B', f, g, r⟩ := wk_when h k
    unfold mWhen at g
    rw [e8, mk.2.2.1 k, k, if_neg (show ¬ ((5 : Int) = 0) by decide), if_neg (show ¬ ((5 : Int) = 4) by decide), if_pos rfl, if_neg (show ¬ ((1 : Int) = 5) by decide), ob, if_neg (by decide), if_neg (show ¬ ((1 : Int) = 6) by decide), if_neg (show ¬ ((1 : Int) = 0) by decide), if_neg (show ¬ ((1 : Int) = 5) by decide), if_pos rfl, f, ob, g, ii]
    exact ⟨_, _, _, rfl, rfl, r⟩
  · obtain ⟨A', B', f, g, r⟩ := wk_else h k
    rw [e8, mk.2.2.2.1 k, k, if_neg (show ¬ ((6 : Int) = 0) by decide), if_neg (show ¬ ((6 : Int) = 4) by decide), if_neg (show ¬ ((6 : Int) = 5) by decide), if_pos rfl, if_neg (show ¬ ((2 : Int) = 5) by decide), ob, if_neg (by decide), if_neg (show ¬ ((2 : Int) = 6) by decide), if_neg (show ¬ ((2 : Int) = 0) by decide), if_neg (show ¬ ((2 : Int) = 5) by decide), if_neg (show ¬ ((2 : Int) = 1) by decide), if_pos rfl, f, g]
    exact ⟨_, _, _, rfl, rfl, r⟩
  · obtain ⟨A', B', f, g, r⟩ := wk_times h k
    rw [e8, mk.2.2.2.2.1 k, k, if_neg (show ¬ ((7 : Int) = 0) by decide), if_neg (show ¬ ((7 : Int) = 4) by decide), if_neg (show ¬ ((7 : Int) = 5) by decide), if_neg (show ¬ ((7 : Int) = 6) by decide), if_pos rfl, if_neg (show ¬ ((3 : Int) = 5) by decide), ob, if_neg (by decide), if_neg (show ¬ ((3 : Int) = 6) by decide), if_neg (show ¬ ((3 : Int) = 0) by decide), if_neg (show ¬ ((3 : Int) = 5) by decide), if_neg (show ¬ ((3 : Int) = 1) by decide), if_neg (show ¬ ((3 : Int) = 2) by decide), if_pos rfl, f, g]
    exact ⟨_, _, _, rfl, rfl, r⟩
  · obtain ⟨t1, t2, t3, t4, t5⟩ := lT.2.2.2.2.2.2.2.2 k
    have ow := o0.2.2.2 (G 0 i 0 - 1) (by omega) (by omega)
    have ce := c_endsT (A := A) ht i0 (by omega) t2 ow.1.1 (by omega)
    rw [e8, mk.2.2.2.2.2.1 k, k, if_neg (show ¬ ((8 : Int) = 0) by decide), if_neg (show ¬ ((8 : Int) = 4) by decide), if_neg (show ¬ ((8 : Int) = 5) by decide), if_neg (show ¬ ((8 : Int) = 6) by decide), if_neg (show ¬ ((8 : Int) = 7) by decide), if_neg (show ¬ ((8 : Int) = 9) by decide), if_neg (show ¬ ((4 : Int) = 5) by decide), ob, if_neg (by decide), if_neg (show ¬ ((4 : Int) = 6) by decide), if_neg (show ¬ ((4 : Int) = 0) by decide), if_neg (show ¬ ((4 : Int) = 5) by decide), if_neg (show ¬ ((4 : Int) = 1) by decide), if_neg (show ¬ ((4 : Int) = 2) by decide), if_neg (show ¬ ((4 : Int) = 3) by decide), ce, ob, w32_id (show -2147483648 ≤ 12 * (210 + i) + 1 by omega) (by omega), ld139 _ _ (by omega) (by omega), ob]
    dsimp only
    rcases ow.2.2.1 with z | z
    · obtain ⟨A', B', f, g1, g, r⟩ := wk_endW h k z
      rw [if_neg (show ¬ (A (t + 1) (G 2 i (G 0 i 0 - 1)) = 7) by omega), if_pos rfl, f, ob, ob, if_neg g1, g, ob, ii]
      exact ⟨_, _, _, rfl, rfl, r⟩
    · obtain ⟨i', A', B', f, g1, g, r⟩ := wk_endT h k z
      rw [if_pos z, if_neg (show ¬ ((1 : Int) = 0) by decide), f, ob, ob, if_pos g1, g]
      exact ⟨_, _, _, rfl, rfl, r⟩
  · rw [e8, mk.2.2.2.2.2.2 k, k, if_neg (show ¬ ((9 : Int) = 0) by decide), if_neg (show ¬ ((9 : Int) = 4) by decide), if_neg (show ¬ ((9 : Int) = 5) by decide), if_neg (show ¬ ((9 : Int) = 6) by decide), if_neg (show ¬ ((9 : Int) = 7) by decide), if_pos rfl, if_pos rfl, ld138 _ _ (by omega) (by omega), ob]
    by_cases z : B 138 421 = 8
    · have rs := lR.2.2.1
      have cm := c_many a9 rs.1 rs.2
      have mb := m_bad b8 rs.1 rs.2
      have sh := hD.2.2.2.2.1
      rw [if_pos z, ob, if_pos rfl, w32_id (show -2147483648 ≤ 12 * (210 + i) + 3 by omega) (by omega), ld139 _ _ (by omega) (by omega), ob, lR.2.1, mb, ob, ii]
      unfold fX10_workShow
      rw [if_neg (by have := sh.1; omega), tl2 ht _ _ i0 (by omega), ob, cm, ob, ob]
      refine ⟨_, _, _, rfl, rfl, ⟨fun d hd => wr_ne (by omega), fun d hd _ _ _ => wr_ne hd, fun q hq => by rw [wr_at, if_neg hq], fun f _ => by rw [wr_ne (by omega)], by rw [wr_at, if_neg (by omega)]⟩, Or.inr ⟨?_, ?_⟩⟩
      · rw [wr_at, if_pos rfl]; omega
      · rw [wr_at, if_pos rfl, wr_at, if_pos rfl]
    · obtain ⟨A', B', f, g, r⟩ := wk_show h k z
      rw [ld138 _ _ (by omega) (by omega), ob] at g
      rw [if_neg z, ob, if_neg (by decide), if_neg (show ¬ ((5 : Int) = 6) by decide), if_neg (show ¬ ((5 : Int) = 0) by decide), if_pos rfl, f, ob, ob, g, ii]
      exact ⟨_, _, _, rfl, rfl, r⟩
