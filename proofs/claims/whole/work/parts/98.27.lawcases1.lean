/-! THE LAW: case by case -/
section LCases
variable {p : Program} {l : Launch} {e : Env} {s : State} {m : MethodId} {below : List Frame} {meth : Method} {c : Code} {H : Heap} {locs : List Loc} {cells slots : Nat} {Q : State → Prop} {b L i : Nat} {xs : Nat → Int32} {D : va_G} {cA : Nat → ClassId} {A : Nat → Prop} {ls : Array Slot} {ad : Nat → Nat} {M : Mem}
set_option maxHeartbeats 4000000 in
set_option maxRecDepth 20000 in
theorem law_9 (C : LC p l s m c b L xs D cA A) (S : WSt D cA A s ad M H locs) (hI : Inv M) (hl : lv_has ls 7 (lL ad b i)) (hi : i + 7 ≤ L) (hcs : cells + 1 ≤ 601024 ∧ slots + 4096 ≤ 7293033) (K : LK p l e s m below meth c b i D cA A Q cells slots) : W p l e room_1 s m #[Value.ref b] below meth c H locs cells slots Q (F0 m 603 ls []) := by
  have X := C.1
  have hcs0 : cells ≤ 601024 ∧ slots ≤ 7293033 := ⟨by omega, by omega⟩
  obtain ⟨t, n, nI, nS, D9, k1, k2, -, -, -⟩ := id hI
  obtain ⟨x, M1, M2, e1, e2, hI2⟩ := AnsI_q hI (q_is k1 (xv xs (i + 1)) (xv xs (i + 2)))
  have t1 := tX11_is (xv xs (i + 1)) (xv xs (i + 2)) M
  rw [e1] at t1
  have t2 := tX12_is (xv xs (i + 1)) (xv xs (i + 2)) M1
  rw [e2] at t2
  refine lv_aload_n X.1 X.2.1 dL_law_603 rfl (lv_at hl 3 rfl) ?_
  refine l_arg (j := 1) C S (lv_at hl 4 rfl) (lv_at hl 0 rfl) hi (by decide) rfl dL_law_604 dL_law_605 dL_law_607 dL_law_608 dL_law_609 ?_
  refine l_arg (j := 2) C S (lv_at hl 4 rfl) (lv_at hl 0 rfl) hi (by decide) rfl dL_law_610 dL_law_611 dL_law_613 dL_law_614 dL_law_615 ?_
  refine w_callV (av := [zi (xv xs (i + 1)), zi (xv xs (i + 2))]) (rest := []) X S hl.1 t1 ⟨xv_in, xv_in, trivial⟩ lkL_65 kd_0 rfl rfl rfl (Nat.le_of_ble_eq_true rfl) ⟨Nat.le_of_ble_eq_true rfl, Nat.le_of_ble_eq_true rfl⟩ hcs0 dL_law_616 (fun H locs S hok => ?_)
  have S : WSt D cA A s ad M1 H locs := S
  show W _ _ _ _ _ _ _ _ _ _ _ _ _ _ _ (F0 m 619 ls [.int (Int32.ofInt x)])
  refine lv_aload_n X.1 X.2.1 dL_law_619 rfl (lv_at hl 2 rfl) ?_
  refine l_arg (j := 1) C S (lv_at hl 4 rfl) (lv_at hl 0 rfl) hi (by decide) rfl dL_law_620 dL_law_621 dL_law_623 dL_law_624 dL_law_625 ?_
  refine l_arg (j := 2) C S (lv_at hl 4 rfl) (lv_at hl 0 rfl) hi (by decide) rfl dL_law_626 dL_law_627 dL_law_629 dL_law_630 dL_law_631 ?_
  refine w_callV (av := [zi (xv xs (i + 1)), zi (xv xs (i + 2))]) (rest := [.int (Int32.ofInt x)]) X S hl.1 t2 ⟨xv_in, xv_in, trivial⟩ lkL_68 kd_132 rfl rfl rfl (Nat.le_of_ble_eq_true rfl) ⟨Nat.le_of_ble_eq_true rfl, Nat.le_of_ble_eq_true rfl⟩ hcs0 dL_law_632 (fun H locs S hok => ?_)
  have S : WSt D cA A s ad M2 H locs := S
  show W _ _ _ _ _ _ _ _ _ _ _ _ _ _ _ (F0 m 635 ls [.int (Int32.ofInt x), .int (Int32.ofInt x)])
  refine lv_icmp_eq (tgt := 1311) X.1 X.2.1 dL_law_635 (by decide) (fun _ => ?_) (fun hc => absurd rfl hc)
  exact K ad M2 H locs ls cells slots hI2 S hl (by omega) (by omega)
set_option maxHeartbeats 4000000 in
set_option maxRecDepth 20000 in
theorem law_10 (C : LC p l s m c b L xs D cA A) (S : WSt D cA A s ad M H locs) (hI : Inv M) (hl : lv_has ls 7 (lL ad b i)) (hi : i + 7 ≤ L) (hcs : cells + 1 ≤ 601024 ∧ slots + 4096 ≤ 7293033) (K : LK p l e s m below meth c b i D cA A Q cells slots) : W p l e room_1 s m #[Value.ref b] below meth c H locs cells slots Q (F0 m 640 ls []) := by
  have X := C.1
  have hcs0 : cells ≤ 601024 ∧ slots ≤ 7293033 := ⟨by omega, by omega⟩
  obtain ⟨t, n, nI, nS, D9, k1, k2, -, -, -⟩ := id hI
  obtain ⟨x, M1, M2, e1, e2, hI2⟩ := AnsI_q hI (q_differs k1 (xv xs (i + 1)))
  have t1 := tX11_differs (xv xs (i + 1)) M
  rw [e1] at t1
  have t2 := tX12_differs (xv xs (i + 1)) M1
  rw [e2] at t2
  refine lv_aload_n X.1 X.2.1 dL_law_640 rfl (lv_at hl 3 rfl) ?_
  refine l_arg (j := 1) C S (lv_at hl 4 rfl) (lv_at hl 0 rfl) hi (by decide) rfl dL_law_641 dL_law_642 dL_law_644 dL_law_645 dL_law_646 ?_
  refine w_callV (av := [zi (xv xs (i + 1))]) (rest := []) X S hl.1 t1 ⟨xv_in, trivial⟩ lkL_69 kd_0 rfl rfl rfl (Nat.le_of_ble_eq_true rfl) ⟨Nat.le_of_ble_eq_true rfl, Nat.le_of_ble_eq_true rfl⟩ hcs0 dL_law_647 (fun H locs S hok => ?_)
  have S : WSt D cA A s ad M1 H locs := S
  show W _ _ _ _ _ _ _ _ _ _ _ _ _ _ _ (F0 m 650 ls [.int (Int32.ofInt x)])
  refine lv_aload_n X.1 X.2.1 dL_law_650 rfl (lv_at hl 2 rfl) ?_
  refine l_arg (j := 1) C S (lv_at hl 4 rfl) (lv_at hl 0 rfl) hi (by decide) rfl dL_law_651 dL_law_652 dL_law_654 dL_law_655 dL_law_656 ?_
  refine w_callV (av := [zi (xv xs (i + 1))]) (rest := [.int (Int32.ofInt x)]) X S hl.1 t2 ⟨xv_in, trivial⟩ lkL_72 kd_132 rfl rfl rfl (Nat.le_of_ble_eq_true rfl) ⟨Nat.le_of_ble_eq_true rfl, Nat.le_of_ble_eq_true rfl⟩ hcs0 dL_law_657 (fun H locs S hok => ?_)
  have S : WSt D cA A s ad M2 H locs := S
  show W _ _ _ _ _ _ _ _ _ _ _ _ _ _ _ (F0 m 660 ls [.int (Int32.ofInt x), .int (Int32.ofInt x)])
  refine lv_icmp_eq (tgt := 1311) X.1 X.2.1 dL_law_660 (by decide) (fun _ => ?_) (fun hc => absurd rfl hc)
  exact K ad M2 H locs ls cells slots hI2 S hl (by omega) (by omega)
set_option maxHeartbeats 4000000 in
set_option maxRecDepth 20000 in
theorem law_11 (C : LC p l s m c b L xs D cA A) (S : WSt D cA A s ad M H locs) (hI : Inv M) (hl : lv_has ls 7 (lL ad b i)) (hi : i + 7 ≤ L) (hcs : cells + 1 ≤ 601024 ∧ slots + 4096 ≤ 7293033) (K : LK p l e s m below meth c b i D cA A Q cells slots) : W p l e room_1 s m #[Value.ref b] below meth c H locs cells slots Q (F0 m 665 ls []) := by
  have X := C.1
  have hcs0 : cells ≤ 601024 ∧ slots ≤ 7293033 := ⟨by omega, by omega⟩
  obtain ⟨t, n, nI, nS, D9, k1, k2, -, -, -⟩ := id hI
  obtain ⟨x, M1, M2, e1, e2, hI2⟩ := AnsI_q hI (q_shown k1 (xv xs (i + 1)))
  have t1 := tX11_shown (xv xs (i + 1)) M
  rw [e1] at t1
  have t2 := tX12_shown (xv xs (i + 1)) M1
  rw [e2] at t2
  refine lv_aload_n X.1 X.2.1 dL_law_665 rfl (lv_at hl 3 rfl) ?_
  refine l_arg (j := 1) C S (lv_at hl 4 rfl) (lv_at hl 0 rfl) hi (by decide) rfl dL_law_666 dL_law_667 dL_law_669 dL_law_670 dL_law_671 ?_
  refine w_callV (av := [zi (xv xs (i + 1))]) (rest := []) X S hl.1 t1 ⟨xv_in, trivial⟩ lkL_73 kd_0 rfl rfl rfl (Nat.le_of_ble_eq_true rfl) ⟨Nat.le_of_ble_eq_true rfl, Nat.le_of_ble_eq_true rfl⟩ hcs0 dL_law_672 (fun H locs S hok => ?_)
  have S : WSt D cA A s ad M1 H locs := S
  show W _ _ _ _ _ _ _ _ _ _ _ _ _ _ _ (F0 m 675 ls [.int (Int32.ofInt x)])
  refine lv_aload_n X.1 X.2.1 dL_law_675 rfl (lv_at hl 2 rfl) ?_
  refine l_arg (j := 1) C S (lv_at hl 4 rfl) (lv_at hl 0 rfl) hi (by decide) rfl dL_law_676 dL_law_677 dL_law_679 dL_law_680 dL_law_681 ?_
  refine w_callV (av := [zi (xv xs (i + 1))]) (rest := [.int (Int32.ofInt x)]) X S hl.1 t2 ⟨xv_in, trivial⟩ lkL_76 kd_132 rfl rfl rfl (Nat.le_of_ble_eq_true rfl) ⟨Nat.le_of_ble_eq_true rfl, Nat.le_of_ble_eq_true rfl⟩ hcs0 dL_law_682 (fun H locs S hok => ?_)
  have S : WSt D cA A s ad M2 H locs := S
  show W _ _ _ _ _ _ _ _ _ _ _ _ _ _ _ (F0 m 685 ls [.int (Int32.ofInt x), .int (Int32.ofInt x)])
  refine lv_icmp_eq (tgt := 1311) X.1 X.2.1 dL_law_685 (by decide) (fun _ => ?_) (fun hc => absurd rfl hc)
  exact K ad M2 H locs ls cells slots hI2 S hl (by omega) (by omega)
set_option maxHeartbeats 4000000 in
set_option maxRecDepth 20000 in
theorem law_14 (C : LC p l s m c b L xs D cA A) (S : WSt D cA A s ad M H locs) (hI : Inv M) (hl : lv_has ls 7 (lL ad b i)) (hi : i + 7 ≤ L) (hcs : cells + 1 ≤ 601024 ∧ slots + 4096 ≤ 7293033) (K : LK p l e s m below meth c b i D cA A Q cells slots) : W p l e room_1 s m #[Value.ref b] below meth c H locs cells slots Q (F0 m 826 ls []) := by
  have X := C.1
  have hcs0 : cells ≤ 601024 ∧ slots ≤ 7293033 := ⟨by omega, by omega⟩
  obtain ⟨t, n, nI, nS, D9, k1, k2, -, -, -⟩ := id hI
  obtain ⟨x, M1, M2, e1, e2, hI2⟩ := AnsI_q hI (q_all k1 k2 (xv xs (i + 1)))
  have t1 := tX11_all (xv xs (i + 1)) M
  rw [e1] at t1
  have t2 := tX12_all (xv xs (i + 1)) M1
  rw [e2] at t2
  refine lv_aload_n X.1 X.2.1 dL_law_826 rfl (lv_at hl 3 rfl) ?_
  refine l_arg (j := 1) C S (lv_at hl 4 rfl) (lv_at hl 0 rfl) hi (by decide) rfl dL_law_827 dL_law_828 dL_law_830 dL_law_831 dL_law_832 ?_
  refine w_callV (av := [zi (xv xs (i + 1))]) (rest := []) X S hl.1 t1 ⟨xv_in, trivial⟩ lkL_89 kd_0 rfl rfl rfl (Nat.le_of_ble_eq_true rfl) ⟨Nat.le_of_ble_eq_true rfl, Nat.le_of_ble_eq_true rfl⟩ hcs0 dL_law_833 (fun H locs S hok => ?_)
  have S : WSt D cA A s ad M1 H locs := S
  show W _ _ _ _ _ _ _ _ _ _ _ _ _ _ _ (F0 m 836 ls [.long (Int64.ofInt x)])
  refine lv_aload_n X.1 X.2.1 dL_law_836 rfl (lv_at hl 2 rfl) ?_
  refine l_arg (j := 1) C S (lv_at hl 4 rfl) (lv_at hl 0 rfl) hi (by decide) rfl dL_law_837 dL_law_838 dL_law_840 dL_law_841 dL_law_842 ?_
  refine w_callV (av := [zi (xv xs (i + 1))]) (rest := [.long (Int64.ofInt x)]) X S hl.1 t2 ⟨xv_in, trivial⟩ lkL_93 kd_132 rfl rfl rfl (Nat.le_of_ble_eq_true rfl) ⟨Nat.le_of_ble_eq_true rfl, Nat.le_of_ble_eq_true rfl⟩ hcs0 dL_law_843 (fun H locs S hok => ?_)
  have S : WSt D cA A s ad M2 H locs := S
  show W _ _ _ _ _ _ _ _ _ _ _ _ _ _ _ (F0 m 846 ls [.long (Int64.ofInt x), .long (Int64.ofInt x)])
  refine W.lcmp X.1 X.2.1 dL_law_846 ?_
  rw [cmp_self]
  refine lv_if_eq (tgt := 1311) X.1 X.2.1 dL_law_847 (by decide) (fun _ => ?_) (fun hc => absurd rfl hc)
  exact K ad M2 H locs ls cells slots hI2 S hl (by omega) (by omega)
set_option maxHeartbeats 4000000 in
set_option maxRecDepth 20000 in
theorem law_15 (C : LC p l s m c b L xs D cA A) (S : WSt D cA A s ad M H locs) (hI : Inv M) (hl : lv_has ls 7 (lL ad b i)) (hi : i + 7 ≤ L) (hcs : cells + 1 ≤ 601024 ∧ slots + 4096 ≤ 7293033) (K : LK p l e s m below meth c b i D cA A Q cells slots) : W p l e room_1 s m #[Value.ref b] below meth c H locs cells slots Q (F0 m 852 ls []) := by
  have X := C.1
  have hcs0 : cells ≤ 601024 ∧ slots ≤ 7293033 := ⟨by omega, by omega⟩
  obtain ⟨t, n, nI, nS, D9, k1, k2, -, -, -⟩ := id hI
  obtain ⟨x, M1, M2, e1, e2, hI2⟩ := AnsI_q hI (q_kin k1 k2 (xv xs (i + 1)) (xv xs (i + 2)))
  have t1 := tX11_kin (xv xs (i + 1)) (xv xs (i + 2)) M
  rw [e1] at t1
  have t2 := tX12_kin (xv xs (i + 1)) (xv xs (i + 2)) M1
  rw [e2] at t2
  refine lv_aload_n X.1 X.2.1 dL_law_852 rfl (lv_at hl 3 rfl) ?_
  refine l_arg (j := 1) C S (lv_at hl 4 rfl) (lv_at hl 0 rfl) hi (by decide) rfl dL_law_853 dL_law_854 dL_law_856 dL_law_857 dL_law_858 ?_
  refine l_arg (j := 2) C S (lv_at hl 4 rfl) (lv_at hl 0 rfl) hi (by decide) rfl dL_law_859 dL_law_860 dL_law_862 dL_law_863 dL_law_864 ?_
  refine w_callV (av := [zi (xv xs (i + 1)), zi (xv xs (i + 2))]) (rest := []) X S hl.1 t1 ⟨xv_in, xv_in, trivial⟩ lkL_94 kd_0 rfl rfl rfl (Nat.le_of_ble_eq_true rfl) ⟨Nat.le_of_ble_eq_true rfl, Nat.le_of_ble_eq_true rfl⟩ hcs0 dL_law_865 (fun H locs S hok => ?_)
  have S : WSt D cA A s ad M1 H locs := S
  show W _ _ _ _ _ _ _ _ _ _ _ _ _ _ _ (F0 m 868 ls [.long (Int64.ofInt x)])
  refine lv_aload_n X.1 X.2.1 dL_law_868 rfl (lv_at hl 2 rfl) ?_
  refine l_arg (j := 1) C S (lv_at hl 4 rfl) (lv_at hl 0 rfl) hi (by decide) rfl dL_law_869 dL_law_870 dL_law_872 dL_law_873 dL_law_874 ?_
  refine l_arg (j := 2) C S (lv_at hl 4 rfl) (lv_at hl 0 rfl) hi (by decide) rfl dL_law_875 dL_law_876 dL_law_878 dL_law_879 dL_law_880 ?_
  refine w_callV (av := [zi (xv xs (i + 1)), zi (xv xs (i + 2))]) (rest := [.long (Int64.ofInt x)]) X S hl.1 t2 ⟨xv_in, xv_in, trivial⟩ lkL_98 kd_132 rfl rfl rfl (Nat.le_of_ble_eq_true rfl) ⟨Nat.le_of_ble_eq_true rfl, Nat.le_of_ble_eq_true rfl⟩ hcs0 dL_law_881 (fun H locs S hok => ?_)
  have S : WSt D cA A s ad M2 H locs := S
  show W _ _ _ _ _ _ _ _ _ _ _ _ _ _ _ (F0 m 884 ls [.long (Int64.ofInt x), .long (Int64.ofInt x)])
  refine W.lcmp X.1 X.2.1 dL_law_884 ?_
  rw [cmp_self]
  refine lv_if_eq (tgt := 1311) X.1 X.2.1 dL_law_885 (by decide) (fun _ => ?_) (fun hc => absurd rfl hc)
  exact K ad M2 H locs ls cells slots hI2 S hl (by omega) (by omega)
set_option maxHeartbeats 4000000 in
set_option maxRecDepth 20000 in
theorem law_16 (C : LC p l s m c b L xs D cA A) (S : WSt D cA A s ad M H locs) (hI : Inv M) (hl : lv_has ls 7 (lL ad b i)) (hi : i + 7 ≤ L) (hcs : cells + 1 ≤ 601024 ∧ slots + 4096 ≤ 7293033) (K : LK p l e s m below meth c b i D cA A Q cells slots) : W p l e room_1 s m #[Value.ref b] below meth c H locs cells slots Q (F0 m 890 ls []) := by
  have X := C.1
  have hcs0 : cells ≤ 601024 ∧ slots ≤ 7293033 := ⟨by omega, by omega⟩
  obtain ⟨t, n, nI, nS, D9, k1, k2, -, -, -⟩ := id hI
  obtain ⟨x, M1, M2, e1, e2, hI2⟩ := AnsI_q hI (q_order k1 k2 (xv xs (i + 1)))
  have t1 := tX11_order (xv xs (i + 1)) M
  rw [e1] at t1
  have t2 := tX12_order (xv xs (i + 1)) M1
  rw [e2] at t2
  refine lv_aload_n X.1 X.2.1 dL_law_890 rfl (lv_at hl 3 rfl) ?_
  refine l_arg (j := 1) C S (lv_at hl 4 rfl) (lv_at hl 0 rfl) hi (by decide) rfl dL_law_891 dL_law_892 dL_law_894 dL_law_895 dL_law_896 ?_
  refine w_callV (av := [zi (xv xs (i + 1))]) (rest := []) X S hl.1 t1 ⟨xv_in, trivial⟩ lkL_99 kd_0 rfl rfl rfl (Nat.le_of_ble_eq_true rfl) ⟨Nat.le_of_ble_eq_true rfl, Nat.le_of_ble_eq_true rfl⟩ hcs0 dL_law_897 (fun H locs S hok => ?_)
  have S : WSt D cA A s ad M1 H locs := S
  show W _ _ _ _ _ _ _ _ _ _ _ _ _ _ _ (F0 m 900 ls [.int (Int32.ofInt x)])
  refine lv_aload_n X.1 X.2.1 dL_law_900 rfl (lv_at hl 2 rfl) ?_
  refine l_arg (j := 1) C S (lv_at hl 4 rfl) (lv_at hl 0 rfl) hi (by decide) rfl dL_law_901 dL_law_902 dL_law_904 dL_law_905 dL_law_906 ?_
  refine w_callV (av := [zi (xv xs (i + 1))]) (rest := [.int (Int32.ofInt x)]) X S hl.1 t2 ⟨xv_in, trivial⟩ lkL_102 kd_132 rfl rfl rfl (Nat.le_of_ble_eq_true rfl) ⟨Nat.le_of_ble_eq_true rfl, Nat.le_of_ble_eq_true rfl⟩ hcs0 dL_law_907 (fun H locs S hok => ?_)
  have S : WSt D cA A s ad M2 H locs := S
  show W _ _ _ _ _ _ _ _ _ _ _ _ _ _ _ (F0 m 910 ls [.int (Int32.ofInt x), .int (Int32.ofInt x)])
  refine lv_icmp_eq (tgt := 1311) X.1 X.2.1 dL_law_910 (by decide) (fun _ => ?_) (fun hc => absurd rfl hc)
  exact K ad M2 H locs ls cells slots hI2 S hl (by omega) (by omega)
set_option maxHeartbeats 4000000 in
set_option maxRecDepth 20000 in
theorem law_17 (C : LC p l s m c b L xs D cA A) (S : WSt D cA A s ad M H locs) (hI : Inv M) (hl : lv_has ls 7 (lL ad b i)) (hi : i + 7 ≤ L) (hcs : cells + 1 ≤ 601024 ∧ slots + 4096 ≤ 7293033) (K : LK p l e s m below meth c b i D cA A Q cells slots) : W p l e room_1 s m #[Value.ref b] below meth c H locs cells slots Q (F0 m 915 ls []) := by
  have X := C.1
  have hcs0 : cells ≤ 601024 ∧ slots ≤ 7293033 := ⟨by omega, by omega⟩
  obtain ⟨t, n, nI, nS, D9, k1, k2, -, -, -⟩ := id hI
  obtain ⟨x, M1, M2, e1, e2, hI2⟩ := AnsI_q hI (q_place k1 k2 (xv xs (i + 1)) (xv xs (i + 2)))
  have t1 := tX11_place (xv xs (i + 1)) (xv xs (i + 2)) M
  rw [e1] at t1
  have t2 := tX12_place (xv xs (i + 1)) (xv xs (i + 2)) M1
  rw [e2] at t2
  refine lv_aload_n X.1 X.2.1 dL_law_915 rfl (lv_at hl 3 rfl) ?_
  refine l_arg (j := 1) C S (lv_at hl 4 rfl) (lv_at hl 0 rfl) hi (by decide) rfl dL_law_916 dL_law_917 dL_law_919 dL_law_920 dL_law_921 ?_
  refine l_arg (j := 2) C S (lv_at hl 4 rfl) (lv_at hl 0 rfl) hi (by decide) rfl dL_law_922 dL_law_923 dL_law_925 dL_law_926 dL_law_927 ?_
  refine w_callV (av := [zi (xv xs (i + 1)), zi (xv xs (i + 2))]) (rest := []) X S hl.1 t1 ⟨xv_in, xv_in, trivial⟩ lkL_103 kd_0 rfl rfl rfl (Nat.le_of_ble_eq_true rfl) ⟨Nat.le_of_ble_eq_true rfl, Nat.le_of_ble_eq_true rfl⟩ hcs0 dL_law_928 (fun H locs S hok => ?_)
  have S : WSt D cA A s ad M1 H locs := S
  show W _ _ _ _ _ _ _ _ _ _ _ _ _ _ _ (F0 m 931 ls [.int (Int32.ofInt x)])
  refine lv_aload_n X.1 X.2.1 dL_law_931 rfl (lv_at hl 2 rfl) ?_
  refine l_arg (j := 1) C S (lv_at hl 4 rfl) (lv_at hl 0 rfl) hi (by decide) rfl dL_law_932 dL_law_933 dL_law_935 dL_law_936 dL_law_937 ?_
  refine l_arg (j := 2) C S (lv_at hl 4 rfl) (lv_at hl 0 rfl) hi (by decide) rfl dL_law_938 dL_law_939 dL_law_941 dL_law_942 dL_law_943 ?_
  refine w_callV (av := [zi (xv xs (i + 1)), zi (xv xs (i + 2))]) (rest := [.int (Int32.ofInt x)]) X S hl.1 t2 ⟨xv_in, xv_in, trivial⟩ lkL_106 kd_132 rfl rfl rfl (Nat.le_of_ble_eq_true rfl) ⟨Nat.le_of_ble_eq_true rfl, Nat.le_of_ble_eq_true rfl⟩ hcs0 dL_law_944 (fun H locs S hok => ?_)
  have S : WSt D cA A s ad M2 H locs := S
  show W _ _ _ _ _ _ _ _ _ _ _ _ _ _ _ (F0 m 947 ls [.int (Int32.ofInt x), .int (Int32.ofInt x)])
  refine lv_icmp_eq (tgt := 1311) X.1 X.2.1 dL_law_947 (by decide) (fun _ => ?_) (fun hc => absurd rfl hc)
  exact K ad M2 H locs ls cells slots hI2 S hl (by omega) (by omega)
set_option maxHeartbeats 4000000 in
set_option maxRecDepth 20000 in
theorem law_18 (C : LC p l s m c b L xs D cA A) (S : WSt D cA A s ad M H locs) (hI : Inv M) (hl : lv_has ls 7 (lL ad b i)) (hi : i + 7 ≤ L) (hcs : cells + 1 ≤ 601024 ∧ slots + 4096 ≤ 7293033) (K : LK p l e s m below meth c b i D cA A Q cells slots) : W p l e room_1 s m #[Value.ref b] below meth c H locs cells slots Q (F0 m 952 ls []) := by
  have X := C.1
  have hcs0 : cells ≤ 601024 ∧ slots ≤ 7293033 := ⟨by omega, by omega⟩
  obtain ⟨t, n, nI, nS, D9, k1, k2, -, -, -⟩ := id hI
  obtain ⟨x, M1, M2, e1, e2, hI2⟩ := AnsI_q hI (q_pressure k1 k2 (xv xs (i + 1)))
  have t1 := tX11_pressure (xv xs (i + 1)) M
  rw [e1] at t1
  have t2 := tX12_pressure (xv xs (i + 1)) M1
  rw [e2] at t2
  refine lv_aload_n X.1 X.2.1 dL_law_952 rfl (lv_at hl 3 rfl) ?_
  refine l_arg (j := 1) C S (lv_at hl 4 rfl) (lv_at hl 0 rfl) hi (by decide) rfl dL_law_953 dL_law_954 dL_law_956 dL_law_957 dL_law_958 ?_
  refine w_callV (av := [zi (xv xs (i + 1))]) (rest := []) X S hl.1 t1 ⟨xv_in, trivial⟩ lkL_107 kd_0 rfl rfl rfl (Nat.le_of_ble_eq_true rfl) ⟨Nat.le_of_ble_eq_true rfl, Nat.le_of_ble_eq_true rfl⟩ hcs0 dL_law_959 (fun H locs S hok => ?_)
  have S : WSt D cA A s ad M1 H locs := S
  show W _ _ _ _ _ _ _ _ _ _ _ _ _ _ _ (F0 m 962 ls [.int (Int32.ofInt x)])
  refine lv_aload_n X.1 X.2.1 dL_law_962 rfl (lv_at hl 2 rfl) ?_
  refine l_arg (j := 1) C S (lv_at hl 4 rfl) (lv_at hl 0 rfl) hi (by decide) rfl dL_law_963 dL_law_964 dL_law_966 dL_law_967 dL_law_968 ?_
  refine w_callV (av := [zi (xv xs (i + 1))]) (rest := [.int (Int32.ofInt x)]) X S hl.1 t2 ⟨xv_in, trivial⟩ lkL_110 kd_132 rfl rfl rfl (Nat.le_of_ble_eq_true rfl) ⟨Nat.le_of_ble_eq_true rfl, Nat.le_of_ble_eq_true rfl⟩ hcs0 dL_law_969 (fun H locs S hok => ?_)
  have S : WSt D cA A s ad M2 H locs := S
  show W _ _ _ _ _ _ _ _ _ _ _ _ _ _ _ (F0 m 972 ls [.int (Int32.ofInt x), .int (Int32.ofInt x)])
  refine lv_icmp_eq (tgt := 1311) X.1 X.2.1 dL_law_972 (by decide) (fun _ => ?_) (fun hc => absurd rfl hc)
  exact K ad M2 H locs ls cells slots hI2 S hl (by omega) (by omega)
set_option maxHeartbeats 4000000 in
set_option maxRecDepth 20000 in
theorem law_19 (C : LC p l s m c b L xs D cA A) (S : WSt D cA A s ad M H locs) (hI : Inv M) (hl : lv_has ls 7 (lL ad b i)) (hi : i + 7 ≤ L) (hcs : cells + 1 ≤ 601024 ∧ slots + 4096 ≤ 7293033) (K : LK p l e s m below meth c b i D cA A Q cells slots) : W p l e room_1 s m #[Value.ref b] below meth c H locs cells slots Q (F0 m 977 ls []) := by
  have X := C.1
  have hcs0 : cells ≤ 601024 ∧ slots ≤ 7293033 := ⟨by omega, by omega⟩
  obtain ⟨t, n, nI, nS, D9, k1, k2, -, -, -⟩ := id hI
  obtain ⟨x, M1, M2, e1, e2, hI2⟩ := AnsI_q hI (q_at k1 k2 (xv xs (i + 1)) (xv xs (i + 2)))
  have t1 := tX11_at (xv xs (i + 1)) (xv xs (i + 2)) M
  rw [e1] at t1
  have t2 := tX12_at (xv xs (i + 1)) (xv xs (i + 2)) M1
  rw [e2] at t2
  refine lv_aload_n X.1 X.2.1 dL_law_977 rfl (lv_at hl 3 rfl) ?_
  refine l_arg (j := 1) C S (lv_at hl 4 rfl) (lv_at hl 0 rfl) hi (by decide) rfl dL_law_978 dL_law_979 dL_law_981 dL_law_982 dL_law_983 ?_
  refine l_arg (j := 2) C S (lv_at hl 4 rfl) (lv_at hl 0 rfl) hi (by decide) rfl dL_law_984 dL_law_985 dL_law_987 dL_law_988 dL_law_989 ?_
  refine w_callV (av := [zi (xv xs (i + 1)), zi (xv xs (i + 2))]) (rest := []) X S hl.1 t1 ⟨xv_in, xv_in, trivial⟩ lkL_111 kd_0 rfl rfl rfl (Nat.le_of_ble_eq_true rfl) ⟨Nat.le_of_ble_eq_true rfl, Nat.le_of_ble_eq_true rfl⟩ hcs0 dL_law_990 (fun H locs S hok => ?_)
  have S : WSt D cA A s ad M1 H locs := S
  show W _ _ _ _ _ _ _ _ _ _ _ _ _ _ _ (F0 m 993 ls [.int (Int32.ofInt x)])
  refine lv_aload_n X.1 X.2.1 dL_law_993 rfl (lv_at hl 2 rfl) ?_
  refine l_arg (j := 1) C S (lv_at hl 4 rfl) (lv_at hl 0 rfl) hi (by decide) rfl dL_law_994 dL_law_995 dL_law_997 dL_law_998 dL_law_999 ?_
  refine l_arg (j := 2) C S (lv_at hl 4 rfl) (lv_at hl 0 rfl) hi (by decide) rfl dL_law_1000 dL_law_1001 dL_law_1003 dL_law_1004 dL_law_1005 ?_
  refine w_callV (av := [zi (xv xs (i + 1)), zi (xv xs (i + 2))]) (rest := [.int (Int32.ofInt x)]) X S hl.1 t2 ⟨xv_in, xv_in, trivial⟩ lkL_114 kd_132 rfl rfl rfl (Nat.le_of_ble_eq_true rfl) ⟨Nat.le_of_ble_eq_true rfl, Nat.le_of_ble_eq_true rfl⟩ hcs0 dL_law_1006 (fun H locs S hok => ?_)
  have S : WSt D cA A s ad M2 H locs := S
  show W _ _ _ _ _ _ _ _ _ _ _ _ _ _ _ (F0 m 1009 ls [.int (Int32.ofInt x), .int (Int32.ofInt x)])
  refine lv_icmp_eq (tgt := 1311) X.1 X.2.1 dL_law_1009 (by decide) (fun _ => ?_) (fun hc => absurd rfl hc)
  exact K ad M2 H locs ls cells slots hI2 S hl (by omega) (by omega)
end LCases
