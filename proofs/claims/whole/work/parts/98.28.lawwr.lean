/-! THE LAW: walked and ran -/
theorem ldJ_out {M : Mem} : ldJ M 173 0 = some (M 173 0) := by
  refine if_pos ⟨by decide +kernel, Int.le_refl _, ?_⟩
  unfold len
  rw [if_neg (by decide), show (kd 173).2 = 1 by decide +kernel]
  decide
theorem key_walked {M : Mem} {lane wt : Int} (hI : Inv M) : ∃ (kk x : Int) (M1 M2 : Mem), CnL yL_walked cL_walked lane wt M kk M1 ∧ i32 kk ∧ fX12_walked lane wt M1 = some (x, M2) ∧ M2 132 0 = kk ∧ Inv M2 ∧ (kk = 0 → M2 173 0 = x) := by
  by_cases hv : (0 ≤ lane ∧ lane < 4) ∧ 0 ≤ wt ∧ wt < M 44 5
  · obtain ⟨t, ht, h13⟩ : ∃ t : Nat, (t = 5 ∨ t = 119) ∧ M 0 13 = (t : Int) := by
      obtain ⟨t, n, nI, nS, D9, k1, -⟩ := hI
      exact ⟨t, k1.1, k1.2.1⟩
    obtain ⟨x, M1, e1, -, h2⟩ := i_walk9 hI h13 hv.1 hv.2.1 hv.2.2
    obtain ⟨M2, e2, e3, e4, h3⟩ := h2 x
    exact ⟨0, x, _, M2, cnL_walked (cnX11_walked ht h13 hv.1.1 hv.1.2 hv.2.1 hv.2.2 e1), ⟨by decide, by decide⟩, e2, e3, h3, fun _ => e4⟩
  · obtain ⟨n1, n2, n3⟩ := i_nowalk hI hv
    exact ⟨1, 0, M, _, cxL_walked (cxX11_walked hv), ⟨by decide, by decide⟩, n1, by rw [wr_at, if_pos rfl], n3, fun z => absurd z (by decide)⟩
theorem key_ran {M : Mem} {lane wt : Int} (hI : Inv M) : ∃ (kk x : Int) (M1 M2 : Mem), CnL yL_ran cL_ran lane wt M kk M1 ∧ i32 kk ∧ fX12_ran lane wt M1 = some (x, M2) ∧ M2 132 0 = kk ∧ Inv M2 ∧ (kk = 0 → M2 173 0 = x) := by
  by_cases hv : (0 ≤ lane ∧ lane < 4) ∧ 0 ≤ wt ∧ wt < M 44 5
  · obtain ⟨x, M1, e1, e4, kp, -, h2⟩ := i_ran9 hI hv.1 hv.2.1 hv.2.2
    obtain ⟨M2, e2, e3, e5, h3⟩ := h2 x
    have h8 : M 44 5 ≤ 8 := by
      obtain ⟨t, n, nI, nS, D9, k1, -⟩ := hI
      rw [k1.2.2.2.2.2.1]
      exact k1.2.2.2.2.2.2.2.1.2.1
    have h49 : ldI M1 49 wt = some (M 49 wt) := by
      rw [← kp.1 49 (by unfold scr; omega)]
      refine if_pos ⟨by decide +kernel, hv.2.1, ?_⟩
      unfold len
      rw [if_neg (by decide), show (kd 49).2 = 8 by decide +kernel]
      have := hv.2.2
      omega
    exact ⟨0, x, _, M2, cnL_ran (cnX11_ran hv.1.1 hv.1.2 hv.2.1 hv.2.2 e1 h49 e4), ⟨by decide, by decide⟩, e2, e3, h3, fun _ => e5⟩
  · obtain ⟨n1, n2, n3⟩ := i_nowalk hI hv
    exact ⟨1, 0, M, _, cxL_ran (cxX11_ran hv), ⟨by decide, by decide⟩, n2, by rw [wr_at, if_pos rfl], n3, fun z => absurd z (by decide)⟩
theorem lwG_walked : GoodIn gt (va_wsS RL 77 yL_walked (Cond.codeWith yL_walked cL_walked 5 (some .int) lwH :: gt)) := by
  have w1 : Cond.methodLink RL 77 yL_walked ∈ gt := gt_t (i := 1254) (by decide +kernel) (by decide +kernel)
  have w2 : Cond.static yL_walked ∈ gt := gt_t (i := 1255) (by decide +kernel) (by decide +kernel)
  have w3 : Cond.codeWith yL_walked cL_walked 5 (some .int) lwH ∈ gt := gt_t (i := 1256) (by decide +kernel) (by decide +kernel)
  have w4 : Cond.initialized RL ∈ gt := gt_t (i := 0) (by decide +kernel) (by decide +kernel)
  intro w hw
  unfold va_wsS at hw
  simp only [List.mem_append, List.mem_cons, List.not_mem_nil, or_false] at hw
  have key : ∀ z, z ∈ gt → z ∈ gt ∧ ((z.onTables && z.keeps) = true ∨ ∃ ty, z = .arrayClass ty) := fun z hz => ⟨hz, gt_good z hz⟩
  rcases hw with hw | hw
  · rcases hw with rfl | rfl | rfl
    all_goals first | exact key _ w1 | exact key _ w2 | exact key _ w4
  · rcases hw with rfl | hw
    · exact key _ w3
    · exact key _ hw
theorem lwG_ran : GoodIn gt (va_wsS RL 86 yL_ran (Cond.codeWith yL_ran cL_ran 5 (some .int) lwH :: gt)) := by
  have w1 : Cond.methodLink RL 86 yL_ran ∈ gt := gt_t (i := 1348) (by decide +kernel) (by decide +kernel)
  have w2 : Cond.static yL_ran ∈ gt := gt_t (i := 1349) (by decide +kernel) (by decide +kernel)
  have w3 : Cond.codeWith yL_ran cL_ran 5 (some .int) lwH ∈ gt := gt_t (i := 1350) (by decide +kernel) (by decide +kernel)
  have w4 : Cond.initialized RL ∈ gt := gt_t (i := 0) (by decide +kernel) (by decide +kernel)
  intro w hw
  unfold va_wsS at hw
  simp only [List.mem_append, List.mem_cons, List.not_mem_nil, or_false] at hw
  have key : ∀ z, z ∈ gt → z ∈ gt ∧ ((z.onTables && z.keeps) = true ∨ ∃ ty, z = .arrayClass ty) := fun z hz => ⟨hz, gt_good z hz⟩
  rcases hw with hw | hw
  · rcases hw with rfl | rfl | rfl
    all_goals first | exact key _ w1 | exact key _ w2 | exact key _ w4
  · rcases hw with rfl | hw
    · exact key _ w3
    · exact key _ hw
section LCases
variable {p : Program} {l : Launch} {e : Env} {s : State} {m : MethodId} {below : List Frame} {meth : Method} {c : Code} {H : Heap} {locs : List Loc} {cells slots : Nat} {Q : State → Prop} {b L i : Nat} {xs : Nat → Int32} {D : va_G} {cA : Nat → ClassId} {A : Nat → Prop} {ls : Array Slot} {ad : Nat → Nat} {M : Mem}
set_option maxHeartbeats 4000000 in
set_option maxRecDepth 20000 in
theorem law_12 (C : LC p l s m c b L xs D cA A) (S : WSt D cA A s ad M H locs) (hI : Inv M) (hl : lv_has ls 7 (lL ad b i)) (hi : i + 7 ≤ L) (hcs : cells + 1 ≤ 601024 ∧ slots + 4096 ≤ 7293033) (K : LK p l e s m below meth c b i D cA A Q cells slots) : W p l e room_1 s m #[Value.ref b] below meth c H locs cells slots Q (F0 m 690 ls []) := by
  have X := C.1
  have hcs0 : cells + 1 ≤ 601024 ∧ slots + 6 ≤ 7293033 := ⟨by omega, by omega⟩
  obtain ⟨kk, x, M1, M2, hCn, hk, e2, e3, hI2, h17⟩ := key_walked (lane := (xv xs (i + 1))) (wt := (xv xs (i + 2))) hI
  have hMt := hCn l D cA A ad H.size C.2.2.2.1 S.2.1 S.1 xv_in xv_in (fun z hz => X.2.2.2.2.2.2.2 z (Nat.le_trans S.2.2.2.1 hz))
  refine lv_aload_n X.1 X.2.1 dL_law_690 rfl (lv_at hl 3 rfl) ?_
  refine l_arg (j := 1) C S (lv_at hl 4 rfl) (lv_at hl 0 rfl) hi (by decide) rfl dL_law_691 dL_law_692 dL_law_694 dL_law_695 dL_law_696 ?_
  refine l_arg (j := 2) C S (lv_at hl 4 rfl) (lv_at hl 0 rfl) hi (by decide) rfl dL_law_697 dL_law_698 dL_law_700 dL_law_701 dL_law_702 ?_
  refine lv_aload_n X.1 X.2.1 dL_law_703 rfl (lv_at hl 1 rfl) ?_
  refine w_onX (U0 := Nat → Nat) (rest := []) (fun _ => some (.int (Int32.ofInt kk))) (fun ad2 t => (∀ z, z ≠ 115 → ad2 z = ad z) ∧ AdOK A ad2 ∧ va_P D vwCl (toW cA ad2 M1) t.heap ∧ okM M1) (vx_runSX (n := 4) (hh := lwH) (As := lwA ad (xv xs (i + 1)) (xv xs (i + 2))) (rest := []) ⟨X.1, X.2.1, X.2.2.1, X.2.2.2.1, X.2.2.2.2.1⟩ hMt (vx_cwSW 4 X.2.2.2.2.1 lwG_walked rfl rfl rfl ⟨by decide, by decide, by decide +kernel⟩ ⟨Nat.le_of_ble_eq_true rfl, Nat.le_of_ble_eq_true rfl⟩) ⟨blindT, fun U hU hW => ⟨rfl, by rw [hU], world_at S.2.2.1 X.2.2.2.2.2.1 X.2.2.2.2.2.2.1 hU hW, C.2.2.1.at S.2.2.2 hU hW⟩⟩ rfl rfl hl.1 rfl (lv_room (Nat.le_of_ble_eq_true rfl)) dL_law_704 hcs0) (fun _ _ _ h => h) (fun st oc t h => ?_) S.2.2.2 (fun _ h => h) (fun ad2 t H locs ht hB hS1 => ?_)
  · obtain ⟨⟨ad2, h1, h2, h3⟩, h4, h5, h6⟩ := h
    exact ⟨ad2, h4, ⟨h1, h2, h3, h5⟩, h6⟩
  obtain ⟨had, b2, b3, b4⟩ := hB
  have S : WSt D cA A s ad2 M1 H locs := ⟨b4, b2, by rw [← ht]; exact b3, hS1⟩
  have hl : lv_has ls 7 (lL ad2 b i) := by unfold lL; rw [had 173 (by decide), had 132 (by decide), had 0 (by decide)]; exact hl
  show W _ _ _ _ _ _ _ _ _ _ _ _ _ _ _ (F0 m 707 ls [.int (Int32.ofInt kk)])
  refine lv_istore X.1 X.2.1 dL_law_707 hl (by decide) rfl (fun ls hl => ?_)
  have hl : lv_has ls 7 [(5, .int (Int32.ofInt kk)), (4, .int (Int32.ofInt ((i : Nat) : Int))), (3, .ref (ad2 173)), (2, .ref (ad2 132)), (1, .ref (ad2 0)), (0, .ref b)] := hl
  refine lv_aload_n X.1 X.2.1 dL_law_709 rfl (lv_at hl 3 rfl) ?_
  refine l_arg (j := 1) C S (lv_at hl 5 rfl) (lv_at hl 1 rfl) hi (by decide) rfl dL_law_710 dL_law_711 dL_law_713 dL_law_714 dL_law_715 ?_
  refine l_arg (j := 2) C S (lv_at hl 5 rfl) (lv_at hl 1 rfl) hi (by decide) rfl dL_law_716 dL_law_717 dL_law_719 dL_law_720 dL_law_721 ?_
  have t2 := tX12_walked (xv xs (i + 1)) (xv xs (i + 2)) M1
  rw [e2] at t2
  have hcs1 : cells + 1 ≤ 601024 ∧ slots + 6 ≤ 7293033 := hcs0
  refine w_callV (av := [zi (xv xs (i + 1)), zi (xv xs (i + 2))]) (rest := []) X S hl.1 t2 ⟨xv_in, xv_in, trivial⟩ lkL_82 kd_132 rfl rfl rfl (Nat.le_of_ble_eq_true rfl) ⟨Nat.le_of_ble_eq_true rfl, Nat.le_of_ble_eq_true rfl⟩ hcs1 dL_law_722 (fun H locs S hok => ?_)
  have S : WSt D cA A s ad2 M2 H locs := S
  have hx : i32 x := hok.2 (zi x) rfl
  show W _ _ _ _ _ _ _ _ _ _ _ _ _ _ _ (F0 m 725 ls [.int (Int32.ofInt x)])
  refine lv_istore X.1 X.2.1 dL_law_725 hl (by decide) rfl (fun ls hl => ?_)
  have hl : lv_has ls 7 [(6, .int (Int32.ofInt x)), (5, .int (Int32.ofInt kk)), (4, .int (Int32.ofInt ((i : Nat) : Int))), (3, .ref (ad2 173)), (2, .ref (ad2 132)), (1, .ref (ad2 0)), (0, .ref b)] := hl
  refine lv_aload_n X.1 X.2.1 dL_law_727 rfl (lv_at hl 4 rfl) ?_
  have t3 := tX12_thrown M2
  rw [show fX12_thrown M2 = some (M2 132 0, M2) from rfl, e3] at t3
  refine w_callV (av := []) (rest := []) X S hl.1 t3 trivial lkL_83 kd_132 rfl rfl rfl (Nat.le_of_ble_eq_true rfl) ⟨Nat.le_of_ble_eq_true rfl, Nat.le_of_ble_eq_true rfl⟩ hcs1 dL_law_728 (fun H locs S hok => ?_)
  have S : WSt D cA A s ad2 M2 H locs := S
  show W _ _ _ _ _ _ _ _ _ _ _ _ _ _ _ (F0 m 731 ls [.int (Int32.ofInt kk)])
  refine lv_iload X.1 X.2.1 dL_law_731 (lv_at hl 1 rfl) ?_
  refine lv_icmp_eq (tgt := 738) X.1 X.2.1 dL_law_733 (by decide) (fun _ => ?_) (fun hc => absurd rfl hc)
  have fin : ∀ (H : Heap) (locs : List Loc), WSt D cA A s ad2 M2 H locs → W p l e room_1 s m #[Value.ref b] below meth c H locs (cells + 1) (slots + 6) Q (F0 m 755 ls []) := fun H locs S =>
    lv_goto (tgt := 1311) X.1 X.2.1 dL_law_755 (by decide) (K ad2 M2 H locs ls (cells + 1) (slots + 6) hI2 S (lv_sub hl [2, 3, 4, 5, 6] rfl) (Nat.le_refl _) (by omega))
  refine lv_iload X.1 X.2.1 dL_law_738 (lv_at hl 1 rfl) ?_
  refine lv_if_ne (tgt := 755) X.1 X.2.1 dL_law_740 (by decide) (fun _ => fin H locs S) (fun hc => ?_)
  have k0 : kk = 0 := (i32_eq hk (b := 0) ⟨by decide, by decide⟩).mp hc
  refine lv_aload_n X.1 X.2.1 dL_law_743 rfl (lv_at hl 3 rfl) ?_
  refine lv_iconst (v := Int32.ofInt 0) X.1 X.2.1 dL_law_744 rfl ?_
  refine w_lald (v := x) X S ⟨by decide, by decide⟩ (by rw [ldJ_out, h17 k0]) dL_law_745 (fun _ => ?_)
  refine lv_iload X.1 X.2.1 dL_law_746 (lv_at hl 0 rfl) ?_
  refine lv_i2l (v := Int64.ofInt x) X.1 X.2.1 dL_law_748 (i2l_of hx) ?_
  refine W.lcmp X.1 X.2.1 dL_law_749 ?_
  rw [cmp_self]
  exact lv_if_eq (tgt := 755) X.1 X.2.1 dL_law_750 (by decide) (fun _ => fin H locs S) (fun hc => absurd rfl hc)
set_option maxHeartbeats 4000000 in
set_option maxRecDepth 20000 in
theorem law_13 (C : LC p l s m c b L xs D cA A) (S : WSt D cA A s ad M H locs) (hI : Inv M) (hl : lv_has ls 7 (lL ad b i)) (hi : i + 7 ≤ L) (hcs : cells + 1 ≤ 601024 ∧ slots + 4096 ≤ 7293033) (K : LK p l e s m below meth c b i D cA A Q cells slots) : W p l e room_1 s m #[Value.ref b] below meth c H locs cells slots Q (F0 m 758 ls []) := by
  have X := C.1
  have hcs0 : cells + 1 ≤ 601024 ∧ slots + 6 ≤ 7293033 := ⟨by omega, by omega⟩
  obtain ⟨kk, x, M1, M2, hCn, hk, e2, e3, hI2, h17⟩ := key_ran (lane := (xv xs (i + 1))) (wt := (xv xs (i + 2))) hI
  have hMt := hCn l D cA A ad H.size C.2.2.2.1 S.2.1 S.1 xv_in xv_in (fun z hz => X.2.2.2.2.2.2.2 z (Nat.le_trans S.2.2.2.1 hz))
  refine lv_aload_n X.1 X.2.1 dL_law_758 rfl (lv_at hl 3 rfl) ?_
  refine l_arg (j := 1) C S (lv_at hl 4 rfl) (lv_at hl 0 rfl) hi (by decide) rfl dL_law_759 dL_law_760 dL_law_762 dL_law_763 dL_law_764 ?_
  refine l_arg (j := 2) C S (lv_at hl 4 rfl) (lv_at hl 0 rfl) hi (by decide) rfl dL_law_765 dL_law_766 dL_law_768 dL_law_769 dL_law_770 ?_
  refine lv_aload_n X.1 X.2.1 dL_law_771 rfl (lv_at hl 1 rfl) ?_
  refine w_onX (U0 := Nat → Nat) (rest := []) (fun _ => some (.int (Int32.ofInt kk))) (fun ad2 t => (∀ z, z ≠ 115 → ad2 z = ad z) ∧ AdOK A ad2 ∧ va_P D vwCl (toW cA ad2 M1) t.heap ∧ okM M1) (vx_runSX (n := 4) (hh := lwH) (As := lwA ad (xv xs (i + 1)) (xv xs (i + 2))) (rest := []) ⟨X.1, X.2.1, X.2.2.1, X.2.2.2.1, X.2.2.2.2.1⟩ hMt (vx_cwSW 4 X.2.2.2.2.1 lwG_ran rfl rfl rfl ⟨by decide, by decide, by decide +kernel⟩ ⟨Nat.le_of_ble_eq_true rfl, Nat.le_of_ble_eq_true rfl⟩) ⟨blindT, fun U hU hW => ⟨rfl, by rw [hU], world_at S.2.2.1 X.2.2.2.2.2.1 X.2.2.2.2.2.2.1 hU hW, C.2.2.1.at S.2.2.2 hU hW⟩⟩ rfl rfl hl.1 rfl (lv_room (Nat.le_of_ble_eq_true rfl)) dL_law_772 hcs0) (fun _ _ _ h => h) (fun st oc t h => ?_) S.2.2.2 (fun _ h => h) (fun ad2 t H locs ht hB hS1 => ?_)
  · obtain ⟨⟨ad2, h1, h2, h3⟩, h4, h5, h6⟩ := h
    exact ⟨ad2, h4, ⟨h1, h2, h3, h5⟩, h6⟩
  obtain ⟨had, b2, b3, b4⟩ := hB
  have S : WSt D cA A s ad2 M1 H locs := ⟨b4, b2, by rw [← ht]; exact b3, hS1⟩
  have hl : lv_has ls 7 (lL ad2 b i) := by unfold lL; rw [had 173 (by decide), had 132 (by decide), had 0 (by decide)]; exact hl
  show W _ _ _ _ _ _ _ _ _ _ _ _ _ _ _ (F0 m 775 ls [.int (Int32.ofInt kk)])
  refine lv_istore X.1 X.2.1 dL_law_775 hl (by decide) rfl (fun ls hl => ?_)
  have hl : lv_has ls 7 [(5, .int (Int32.ofInt kk)), (4, .int (Int32.ofInt ((i : Nat) : Int))), (3, .ref (ad2 173)), (2, .ref (ad2 132)), (1, .ref (ad2 0)), (0, .ref b)] := hl
  refine lv_aload_n X.1 X.2.1 dL_law_777 rfl (lv_at hl 3 rfl) ?_
  refine l_arg (j := 1) C S (lv_at hl 5 rfl) (lv_at hl 1 rfl) hi (by decide) rfl dL_law_778 dL_law_779 dL_law_781 dL_law_782 dL_law_783 ?_
  refine l_arg (j := 2) C S (lv_at hl 5 rfl) (lv_at hl 1 rfl) hi (by decide) rfl dL_law_784 dL_law_785 dL_law_787 dL_law_788 dL_law_789 ?_
  have t2 := tX12_ran (xv xs (i + 1)) (xv xs (i + 2)) M1
  rw [e2] at t2
  have hcs1 : cells + 1 ≤ 601024 ∧ slots + 6 ≤ 7293033 := hcs0
  refine w_callV (av := [zi (xv xs (i + 1)), zi (xv xs (i + 2))]) (rest := []) X S hl.1 t2 ⟨xv_in, xv_in, trivial⟩ lkL_88 kd_132 rfl rfl rfl (Nat.le_of_ble_eq_true rfl) ⟨Nat.le_of_ble_eq_true rfl, Nat.le_of_ble_eq_true rfl⟩ hcs1 dL_law_790 (fun H locs S hok => ?_)
  have S : WSt D cA A s ad2 M2 H locs := S
  have hx : i32 x := hok.2 (zi x) rfl
  show W _ _ _ _ _ _ _ _ _ _ _ _ _ _ _ (F0 m 793 ls [.int (Int32.ofInt x)])
  refine lv_istore X.1 X.2.1 dL_law_793 hl (by decide) rfl (fun ls hl => ?_)
  have hl : lv_has ls 7 [(6, .int (Int32.ofInt x)), (5, .int (Int32.ofInt kk)), (4, .int (Int32.ofInt ((i : Nat) : Int))), (3, .ref (ad2 173)), (2, .ref (ad2 132)), (1, .ref (ad2 0)), (0, .ref b)] := hl
  refine lv_aload_n X.1 X.2.1 dL_law_795 rfl (lv_at hl 4 rfl) ?_
  have t3 := tX12_thrown M2
  rw [show fX12_thrown M2 = some (M2 132 0, M2) from rfl, e3] at t3
  refine w_callV (av := []) (rest := []) X S hl.1 t3 trivial lkL_83 kd_132 rfl rfl rfl (Nat.le_of_ble_eq_true rfl) ⟨Nat.le_of_ble_eq_true rfl, Nat.le_of_ble_eq_true rfl⟩ hcs1 dL_law_796 (fun H locs S hok => ?_)
  have S : WSt D cA A s ad2 M2 H locs := S
  show W _ _ _ _ _ _ _ _ _ _ _ _ _ _ _ (F0 m 799 ls [.int (Int32.ofInt kk)])
  refine lv_iload X.1 X.2.1 dL_law_799 (lv_at hl 1 rfl) ?_
  refine lv_icmp_eq (tgt := 806) X.1 X.2.1 dL_law_801 (by decide) (fun _ => ?_) (fun hc => absurd rfl hc)
  have fin : ∀ (H : Heap) (locs : List Loc), WSt D cA A s ad2 M2 H locs → W p l e room_1 s m #[Value.ref b] below meth c H locs (cells + 1) (slots + 6) Q (F0 m 823 ls []) := fun H locs S =>
    lv_goto (tgt := 1311) X.1 X.2.1 dL_law_823 (by decide) (K ad2 M2 H locs ls (cells + 1) (slots + 6) hI2 S (lv_sub hl [2, 3, 4, 5, 6] rfl) (Nat.le_refl _) (by omega))
  refine lv_iload X.1 X.2.1 dL_law_806 (lv_at hl 1 rfl) ?_
  refine lv_if_ne (tgt := 823) X.1 X.2.1 dL_law_808 (by decide) (fun _ => fin H locs S) (fun hc => ?_)
  have k0 : kk = 0 := (i32_eq hk (b := 0) ⟨by decide, by decide⟩).mp hc
  refine lv_aload_n X.1 X.2.1 dL_law_811 rfl (lv_at hl 3 rfl) ?_
  refine lv_iconst (v := Int32.ofInt 0) X.1 X.2.1 dL_law_812 rfl ?_
  refine w_lald (v := x) X S ⟨by decide, by decide⟩ (by rw [ldJ_out, h17 k0]) dL_law_813 (fun _ => ?_)
  refine lv_iload X.1 X.2.1 dL_law_814 (lv_at hl 0 rfl) ?_
  refine lv_i2l (v := Int64.ofInt x) X.1 X.2.1 dL_law_816 (i2l_of hx) ?_
  refine W.lcmp X.1 X.2.1 dL_law_817 ?_
  rw [cmp_self]
  exact lv_if_eq (tgt := 823) X.1 X.2.1 dL_law_818 (by decide) (fun _ => fin H locs S) (fun hc => absurd rfl hc)
end LCases
