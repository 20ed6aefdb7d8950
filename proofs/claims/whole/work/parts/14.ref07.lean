set_option maxRecDepth 100000 in
set_option maxHeartbeats 4000000 in
theorem tX12_isKnown (p1 : Int) (M : Mem) : Cn yX12_isKnown cX12_isKnown 2 (some .boolean) 0 0 [zr 132, zi p1] M ((fX12_isKnown p1 M).map oI) := by
  refine Cn_mk (own := RX12) rfl (by decide) (Nat.le_of_ble_eq_true rfl) [some (zr 132), some (zi p1)] rfl (fun G C hn => ?_)
  unfold fX12_isKnown
  refine r_aload_n C dX12_isKnown_0 rfl rfl ?_
  refine r_getp C clX12 kd_132 (k := 29) (by decide) flX12_171 dX12_isKnown_1 pt_132_29 ?_
  refine r_iload_n C dX12_isKnown_4 rfl rfl ?_
  refine r_iaload C dX12_isKnown_5 (fun v1 _ => ?_)
  refine r_aload_n C dX12_isKnown_6 rfl rfl ?_
  refine r_getp C clX12 kd_132 (k := 30) (by decide) flX12_174 dX12_isKnown_7 pt_132_30 ?_
  refine r_iload_n C dX12_isKnown_10 rfl rfl ?_
  refine r_iaload C dX12_isKnown_11 (fun v2 _ => ?_)
  refine r_join (γ := Int) (pcJ := fun _ => 20) (al' := fun q3 => [none, none]) (st' := fun q3 => [zi q3]) (M' := fun q3 => M) ?_ ?_
  · intro q3
    exact r_zreturn C dX12_isKnown_20 rfl
  · intro hJq3
    refine q_icmp_ne (tgt := 19) C dX12_isKnown_12 (by decide) (fun _ => ?_) (fun _ => ?_)
    · refine r_iconst C dX12_isKnown_19 (by decide) ?_
      refine r_less [false, false] rfl ?_
      exact hJq3 0
    · refine r_iconst C dX12_isKnown_15 (by decide) ?_
      refine r_goto (tgt := 20) C dX12_isKnown_16 (by decide) ?_
      refine r_less [false, false] rfl ?_
      exact hJq3 1
set_option maxRecDepth 100000 in
set_option maxHeartbeats 4000000 in
theorem tX12_isLow (p1 : Int) (M : Mem) : Cn yX12_isLow cX12_isLow 2 (some .boolean) 0 0 [zr 132, zi p1] M ((fX12_isLow p1 M).map oI) := by
  refine Cn_mk (own := RX12) rfl (by decide) (Nat.le_of_ble_eq_true rfl) [some (zr 132), some (zi p1)] rfl (fun G C hn => ?_)
  unfold fX12_isLow
  refine r_aload_n C dX12_isLow_0 rfl rfl ?_
  refine r_getp C clX12 kd_132 (k := 31) (by decide) flX12_177 dX12_isLow_1 pt_132_31 ?_
  refine r_iload_n C dX12_isLow_4 rfl rfl ?_
  refine r_zaload C dX12_isLow_5 (fun v1 _ => ?_)
  refine r_join (γ := Int) (pcJ := fun _ => 38) (al' := fun q4 => [none, none]) (st' := fun q4 => [zi q4]) (M' := fun q4 => M) ?_ ?_
  · intro q4
    exact r_zreturn C dX12_isLow_38 rfl
  · intro hJq4
    refine q_if_ne (tgt := 37) C dX12_isLow_6 (by decide) (fun _ => ?_) (fun _ => ?_)
    · refine r_iconst C dX12_isLow_37 (by decide) ?_
      refine r_less [false, false] rfl ?_
      exact hJq4 0
    · refine r_aload_n C dX12_isLow_9 rfl rfl ?_
      refine r_getp C clX12 kd_132 (k := 29) (by decide) flX12_171 dX12_isLow_10 pt_132_29 ?_
      refine r_iload_n C dX12_isLow_13 rfl rfl ?_
      refine r_iaload C dX12_isLow_14 (fun v2 _ => ?_)
      refine r_sipush C dX12_isLow_15 (by decide) ?_
      refine q_icmp_lt (tgt := 37) C dX12_isLow_18 (by decide) (fun _ => ?_) (fun _ => ?_)
      · refine r_iconst C dX12_isLow_37 (by decide) ?_
        refine r_less [false, false] rfl ?_
        exact hJq4 0
      · refine r_aload_n C dX12_isLow_21 rfl rfl ?_
        refine r_getp C clX12 kd_132 (k := 30) (by decide) flX12_174 dX12_isLow_22 pt_132_30 ?_
        refine r_iload_n C dX12_isLow_25 rfl rfl ?_
        refine r_iaload C dX12_isLow_26 (fun v3 _ => ?_)
        refine r_sipush C dX12_isLow_27 (by decide) ?_
        refine q_icmp_gt (tgt := 37) C dX12_isLow_30 (by decide) (fun _ => ?_) (fun _ => ?_)
        · refine r_iconst C dX12_isLow_37 (by decide) ?_
          refine r_less [false, false] rfl ?_
          exact hJq4 0
        · refine r_iconst C dX12_isLow_33 (by decide) ?_
          refine r_goto (tgt := 38) C dX12_isLow_34 (by decide) ?_
          refine r_less [false, false] rfl ?_
          exact hJq4 1
set_option maxRecDepth 100000 in
set_option maxHeartbeats 4000000 in
theorem tX12_widthOf (p1 : Int) (M : Mem) : Cn yX12_widthOf cX12_widthOf 2 (some .int) 1 21 [zr 132, zi p1] M ((fX12_widthOf p1 M).map oI) := by
  refine Cn_mk (own := RX12) rfl (by decide) (Nat.le_of_ble_eq_true rfl) [some (zr 132), some (zi p1)] rfl (fun G C hn => ?_)
  unfold fX12_widthOf
  refine r_aload_n C dX12_widthOf_0 rfl rfl ?_
  refine r_getp C clX12 kd_132 (k := 31) (by decide) flX12_177 dX12_widthOf_1 pt_132_31 ?_
  refine r_iload_n C dX12_widthOf_4 rfl rfl ?_
  refine r_zaload C dX12_widthOf_5 (fun v1 _ => ?_)
  refine r_join (γ := Int × Mem) (pcJ := fun _ => 22) (al' := fun q3 => [none, none]) (st' := fun q3 => [zi q3.1]) (M' := fun q3 => q3.2) ?_ ?_
  · intro q3
    exact r_ireturn C dX12_widthOf_22 rfl
  · intro hJq3
    refine q_if_ne (tgt := 17) C dX12_widthOf_6 (by decide) (fun _ => ?_) (fun _ => ?_)
    · refine r_iconst C dX12_widthOf_17 (by decide) ?_
      refine r_goto (tgt := 22) C dX12_widthOf_18 (by decide) ?_
      refine r_less [false, false] rfl ?_
      exact hJq3 (1, M)
    · refine r_aload_n C dX12_widthOf_9 rfl rfl ?_
      refine r_iload_n C dX12_widthOf_10 rfl rfl ?_
      refine q_callVi (av := [zi p1]) (rest := []) C (tX12_isLow p1 M) lkX12_419 kd_132 rfl rfl rfl (Nat.le_of_ble_eq_true rfl) ⟨by decide, by decide⟩ dX12_widthOf_11 (fun q2 _ => ?_)
      refine q_if_eq (tgt := 21) C dX12_widthOf_14 (by decide) (fun _ => ?_) (fun _ => ?_)
      · refine r_iconst C dX12_widthOf_21 (by decide) ?_
        refine r_less [false, false] rfl ?_
        exact hJq3 (2, q2.2)
      · refine r_iconst C dX12_widthOf_17 (by decide) ?_
        refine r_goto (tgt := 22) C dX12_widthOf_18 (by decide) ?_
        refine r_less [false, false] rfl ?_
        exact hJq3 (1, q2.2)
set_option maxRecDepth 100000 in
set_option maxHeartbeats 4000000 in
theorem tX12_range (p1 : Int) (p2 : Int) (M : Mem) : Cn yX12_range cX12_range 3 (some .int) 5 125 [zr 132, zi p1, zi p2] M ((fX12_range p1 p2 M).map oI) := by
  refine Cn_mk (own := RX12) rfl (by decide) (Nat.le_of_ble_eq_true rfl) [some (zr 132), some (zi p1), some (zi p2)] rfl (fun G C hn => ?_)
  unfold fX12_range
  refine r_aload_n C dX12_range_0 rfl rfl ?_
  refine r_iconst C dX12_range_1 (by decide) ?_
  refine q_puti C clX12 kd_132 (k := 0) (by decide) flX12_1 rfl dX12_range_2 rfl rfl (fun M1 => ?_)
  refine r_aload_n C dX12_range_5 rfl rfl ?_
  refine r_iload_n C dX12_range_6 rfl rfl ?_
  refine q_callVi (av := [zi p1]) (rest := []) C (tX12_isValue p1 M1) lkX12_422 kd_132 rfl rfl rfl (Nat.le_of_ble_eq_true rfl) ⟨by decide, by decide⟩ dX12_range_7 (fun q2 _ => ?_)
  refine q_if_eq (tgt := 22) C dX12_range_10 (by decide) (fun _ => ?_) (fun _ => ?_)
  · refine r_ldcw C kiX12_427 rfl dX12_range_22 ?_
    exact r_ireturn C dX12_range_25 rfl
  · refine r_iload_n C dX12_range_13 rfl rfl ?_
    refine r_iconst C dX12_range_14 (by decide) ?_
    refine r_iconst C dX12_range_15 (by decide) ?_
    refine q_callSi (av := [zi p2, zi 0, zi 1]) (rest := []) C (tX12_within p2 0 1 q2.2) lkX12_355 rfl rfl (Nat.le_of_ble_eq_true rfl) ⟨by decide, by decide⟩ dX12_range_16 (fun q3 _ => ?_)
    refine q_if_ne (tgt := 26) C dX12_range_19 (by decide) (fun _ => ?_) (fun _ => ?_)
    · refine r_aload_n C dX12_range_26 rfl rfl ?_
      refine r_iconst C dX12_range_27 (by decide) ?_
      refine r_iconst C dX12_range_28 (by decide) ?_
      refine r_iconst C dX12_range_29 (by decide) ?_
      refine q_callVv (av := [zi (-1), zi 0, zi 0]) (rest := []) C (tX12_rangesWith (-1) 0 0 q3.2) lkX12_428 kd_132 rfl rfl rfl (Nat.le_of_ble_eq_true rfl) ⟨by decide, by decide⟩ dX12_range_30 (fun q4 _ => ?_)
      refine r_iload_n C dX12_range_33 rfl rfl ?_
      refine r_join (γ := Int) (pcJ := fun _ => 52) (al' := fun q7 => [none, none, none]) (st' := fun q7 => [zi q7]) (M' := fun q7 => q4) ?_ ?_
      · intro q7
        exact r_ireturn C dX12_range_52 rfl
      · intro hJq7
        refine q_if_ne (tgt := 46) C dX12_range_34 (by decide) (fun _ => ?_) (fun _ => ?_)
        · refine r_aload_n C dX12_range_46 rfl rfl ?_
          refine r_getp C clX12 kd_132 (k := 30) (by decide) flX12_174 dX12_range_47 pt_132_30 ?_
          refine r_iload_n C dX12_range_50 rfl rfl ?_
          refine r_iaload C dX12_range_51 (fun v5 _ => ?_)
          refine r_less [false, false, false] rfl ?_
          exact hJq7 v5
        · refine r_aload_n C dX12_range_37 rfl rfl ?_
          refine r_getp C clX12 kd_132 (k := 29) (by decide) flX12_171 dX12_range_38 pt_132_29 ?_
          refine r_iload_n C dX12_range_41 rfl rfl ?_
          refine r_iaload C dX12_range_42 (fun v6 _ => ?_)
          refine r_goto (tgt := 52) C dX12_range_43 (by decide) ?_
          refine r_less [false, false, false] rfl ?_
          exact hJq7 v6
    · refine r_ldcw C kiX12_427 rfl dX12_range_22 ?_
      exact r_ireturn C dX12_range_25 rfl
set_option maxRecDepth 100000 in
set_option maxHeartbeats 4000000 in
theorem tX12_is (p1 : Int) (p2 : Int) (M : Mem) : Cn yX12_is cX12_is 3 (some .int) 3 68 [zr 132, zi p1, zi p2] M ((fX12_is p1 p2 M).map oI) := by
  refine Cn_mk (own := RX12) rfl (by decide) (Nat.le_of_ble_eq_true rfl) [some (zr 132), some (zi p1), some (zi p2)] rfl (fun G C hn => ?_)
  unfold fX12_is
  refine r_aload_n C dX12_is_0 rfl rfl ?_
  refine r_iconst C dX12_is_1 (by decide) ?_
  refine q_puti C clX12 kd_132 (k := 0) (by decide) flX12_1 rfl dX12_is_2 rfl rfl (fun M1 => ?_)
  refine r_aload_n C dX12_is_5 rfl rfl ?_
  refine r_iload_n C dX12_is_6 rfl rfl ?_
  refine q_callVi (av := [zi p1]) (rest := []) C (tX12_isValue p1 M1) lkX12_422 kd_132 rfl rfl rfl (Nat.le_of_ble_eq_true rfl) ⟨by decide, by decide⟩ dX12_is_7 (fun q2 _ => ?_)
  refine q_if_eq (tgt := 20) C dX12_is_10 (by decide) (fun _ => ?_) (fun _ => ?_)
  · refine r_ldcw C kiX12_427 rfl dX12_is_20 ?_
    exact r_ireturn C dX12_is_23 rfl
  · refine r_iload_n C dX12_is_13 rfl rfl ?_
    refine q_callSi (av := [zi p2]) (rest := []) C (tX12_isLane p2 q2.2) lkX12_362 rfl rfl (Nat.le_of_ble_eq_true rfl) ⟨by decide, by decide⟩ dX12_is_14 (fun q3 _ => ?_)
    refine q_if_ne (tgt := 24) C dX12_is_17 (by decide) (fun _ => ?_) (fun _ => ?_)
    · refine r_aload_n C dX12_is_24 rfl rfl ?_
      refine r_iload_n C dX12_is_25 rfl rfl ?_
      refine q_callVv (av := [zi p2]) (rest := []) C (tX12_numbersIn p2 q3.2) lkX12_431 kd_132 rfl rfl rfl (Nat.le_of_ble_eq_true rfl) ⟨by decide, by decide⟩ dX12_is_26 (fun q4 _ => ?_)
      refine r_aload_n C dX12_is_29 rfl rfl ?_
      refine r_getp C clX12 kd_132 (k := 33) (by decide) flX12_184 dX12_is_30 pt_132_33 ?_
      refine r_iload_n C dX12_is_33 rfl rfl ?_
      refine r_iaload C dX12_is_34 (fun v5 _ => ?_)
      exact r_ireturn C dX12_is_35 rfl
    · refine r_ldcw C kiX12_427 rfl dX12_is_20 ?_
      exact r_ireturn C dX12_is_23 rfl
set_option maxRecDepth 100000 in
set_option maxHeartbeats 4000000 in
theorem tX12_differs (p1 : Int) (M : Mem) : Cn yX12_differs cX12_differs 5 (some .int) 3 68 [zr 132, zi p1] M ((fX12_differs p1 M).map oI) := by
  refine Cn_mk (own := RX12) rfl (by decide) (Nat.le_of_ble_eq_true rfl) [some (zr 132), some (zi p1), none, none, none] rfl (fun G C hn => ?_)
  unfold fX12_differs
  refine r_aload_n C dX12_differs_0 rfl rfl ?_
  refine r_iconst C dX12_differs_1 (by decide) ?_
  refine q_puti C clX12 kd_132 (k := 0) (by decide) flX12_1 rfl dX12_differs_2 rfl rfl (fun M1 => ?_)
  refine r_aload_n C dX12_differs_5 rfl rfl ?_
  refine r_iload_n C dX12_differs_6 rfl rfl ?_
  refine q_callVi (av := [zi p1]) (rest := []) C (tX12_isValue p1 M1) lkX12_422 kd_132 rfl rfl rfl (Nat.le_of_ble_eq_true rfl) ⟨by decide, by decide⟩ dX12_differs_7 (fun q2 _ => ?_)
  refine q_if_ne (tgt := 15) C dX12_differs_10 (by decide) (fun _ => ?_) (fun _ => ?_)
  · refine r_aload_n C dX12_differs_15 rfl rfl ?_
    refine r_iconst C dX12_differs_16 (by decide) ?_
    refine q_callVv (av := [zi 0]) (rest := []) C (tX12_numbersIn 0 q2.2) lkX12_431 kd_132 rfl rfl rfl (Nat.le_of_ble_eq_true rfl) ⟨by decide, by decide⟩ dX12_differs_17 (fun q3 _ => ?_)
    refine r_aload_n C dX12_differs_20 rfl rfl ?_
    refine r_getp C clX12 kd_132 (k := 33) (by decide) flX12_184 dX12_differs_21 pt_132_33 ?_
    refine r_iload_n C dX12_differs_24 rfl rfl ?_
    refine r_iaload C dX12_differs_25 (fun v4 _ => ?_)
    refine r_istore_n (al' := [some (zr 132), some (zi p1), some (zi v4), none, none]) C dX12_differs_26 rfl (by rw [hn]; decide) rfl ?_
    refine r_iconst C dX12_differs_27 (by decide) ?_
    refine r_istore_n (al' := [some (zr 132), some (zi p1), some (zi v4), some (zi 0), none]) C dX12_differs_28 rfl (by rw [hn]; decide) rfl ?_
    refine r_iconst C dX12_differs_29 (by decide) ?_
    refine r_istore (al' := [some (zr 132), some (zi p1), some (zi v4), some (zi 0), some (zi 1)]) C dX12_differs_30 (by rw [hn]; decide) rfl ?_
    refine r_lp (S := Int × Int × Mem) (R := Int × Mem) (pcX := 71) (AL := fun s5 => [some (zr 132), some (zi p1), some (zi v4), some (zi s5.1), some (zi s5.2.1)]) (MM := fun s5 => s5.2.2) (AX := fun q10 => [none, none, none, some (zi q10.1), none]) (MX := fun q10 => q10.2) ?_ ?_ (0, 1, q3)
    · intro q10
      refine r_iload_n C dX12_differs_71 rfl rfl ?_
      exact r_ireturn C dX12_differs_72 rfl
    · intro gs5 hCs5 hXs5 s5
      unfold fX12_differs_b1
      refine r_iload C dX12_differs_32 rfl ?_
      refine r_iconst C dX12_differs_34 (by decide) ?_
      refine q_icmp_ge (tgt := 71) C dX12_differs_35 (by decide) (fun _ => ?_) (fun _ => ?_)
      · refine r_less [false, false, false, true, false] rfl ?_
        exact hXs5 (s5.1, s5.2.2)
      · refine r_aload_n C dX12_differs_38 rfl rfl ?_
        refine r_iload C dX12_differs_39 rfl ?_
        refine q_callVv (av := [zi s5.2.1]) (rest := []) C (tX12_numbersIn s5.2.1 s5.2.2) lkX12_431 kd_132 rfl rfl rfl (Nat.le_of_ble_eq_true rfl) ⟨by decide, by decide⟩ dX12_differs_41 (fun q6 _ => ?_)
        refine r_iload_n C dX12_differs_44 rfl rfl ?_
        refine r_aload_n C dX12_differs_45 rfl rfl ?_
        refine r_getp C clX12 kd_132 (k := 33) (by decide) flX12_184 dX12_differs_46 pt_132_33 ?_
        refine r_iload_n C dX12_differs_49 rfl rfl ?_
        refine r_iaload C dX12_differs_50 (fun v7 _ => ?_)
        refine r_iload_n C dX12_differs_51 rfl rfl ?_
        refine r_join (γ := Int) (pcJ := fun _ => 63) (al' := fun q8 => [some (zr 132), some (zi p1), some (zi v4), none, some (zi s5.2.1)]) (st' := fun q8 => [zi q8, zi s5.1]) (M' := fun q8 => q6) ?_ ?_
        · intro q8
          refine r_ior C dX12_differs_63 ?_
          refine r_let (fun v9 _ => ?_)
          refine r_istore_n (al' := [some (zr 132), some (zi p1), some (zi v4), some (zi v9), some (zi s5.2.1)]) C dX12_differs_64 rfl (by rw [hn]; decide) rfl ?_
          refine r_iinc (al' := [some (zr 132), some (zi p1), some (zi v4), some (zi v9), some (zi (w32 (s5.2.1 + 1)))]) C dX12_differs_65 rfl (by rw [hn]; decide) rfl ?_
          refine r_goto (tgt := 32) C dX12_differs_68 (by decide) ?_
          exact hCs5 (v9, w32 (s5.2.1 + 1), q6)
        · intro hJq8
          refine q_icmp_eq (tgt := 62) C dX12_differs_52 (by decide) (fun _ => ?_) (fun _ => ?_)
          · refine r_iconst C dX12_differs_62 (by decide) ?_
            refine r_less [true, true, true, false, true] rfl ?_
            exact hJq8 0
          · refine r_iconst C dX12_differs_55 (by decide) ?_
            refine r_iload C dX12_differs_56 rfl ?_
            refine r_ishl C dX12_differs_58 ?_
            refine r_goto (tgt := 63) C dX12_differs_59 (by decide) ?_
            refine r_less [true, true, true, false, true] rfl ?_
            exact hJq8 (ishl 1 s5.2.1)
  · refine r_iconst C dX12_differs_13 (by decide) ?_
    exact r_ireturn C dX12_differs_14 rfl
set_option maxRecDepth 100000 in
set_option maxHeartbeats 4000000 in
theorem tX12_shown (p1 : Int) (M : Mem) : Cn yX12_shown cX12_shown 2 (some .int) 0 0 [zr 132, zi p1] M ((fX12_shown p1 M).map oI) := by
  refine Cn_mk (own := RX12) rfl (by decide) (Nat.le_of_ble_eq_true rfl) [some (zr 132), some (zi p1)] rfl (fun G C hn => ?_)
  unfold fX12_shown
  refine r_aload_n C dX12_shown_0 rfl rfl ?_
  refine r_iconst C dX12_shown_1 (by decide) ?_
  refine q_puti C clX12 kd_132 (k := 0) (by decide) flX12_1 rfl dX12_shown_2 rfl rfl (fun M1 => ?_)
  refine r_iload_n C dX12_shown_5 rfl rfl ?_
  refine r_join (γ := Int) (pcJ := fun _ => 33) (al' := fun q4 => [none, none]) (st' := fun q4 => [zi q4]) (M' := fun q4 => M1) ?_ ?_
  · intro q4
    exact r_ireturn C dX12_shown_33 rfl
  · intro hJq4
    refine q_if_lt (tgt := 32) C dX12_shown_6 (by decide) (fun _ => ?_) (fun _ => ?_)
    · refine r_iconst C dX12_shown_32 (by decide) ?_
      refine r_less [false, false] rfl ?_
      exact hJq4 (-1)
    · refine r_iload_n C dX12_shown_9 rfl rfl ?_
      refine r_aload_n C dX12_shown_10 rfl rfl ?_
      refine r_getp C clX12 kd_132 (k := 10) (by decide) flX12_126 dX12_shown_11 pt_132_10 ?_
      refine r_bipush C dX12_shown_14 (by decide) ?_
      refine r_iaload C dX12_shown_16 (fun v2 _ => ?_)
      refine q_icmp_ge (tgt := 32) C dX12_shown_17 (by decide) (fun _ => ?_) (fun _ => ?_)
      · refine r_iconst C dX12_shown_32 (by decide) ?_
        refine r_less [false, false] rfl ?_
        exact hJq4 (-1)
      · refine r_aload_n C dX12_shown_20 rfl rfl ?_
        refine r_getp C clX12 kd_132 (k := 10) (by decide) flX12_126 dX12_shown_21 pt_132_10 ?_
        refine r_bipush C dX12_shown_24 (by decide) ?_
        refine r_iload_n C dX12_shown_26 rfl rfl ?_
        refine r_iadd C dX12_shown_27 ?_
        refine r_iaload C dX12_shown_28 (fun v3 _ => ?_)
        refine r_goto (tgt := 33) C dX12_shown_29 (by decide) ?_
        refine r_less [false, false] rfl ?_
        exact hJq4 v3
set_option maxRecDepth 100000 in
set_option maxHeartbeats 4000000 in
theorem tX12_argNumber (p1 : Int) (M : Mem) : Cn yX12_argNumber cX12_argNumber 2 (some .int) 0 0 [zr 132, zi p1] M ((fX12_argNumber p1 M).map oI) := by
  refine Cn_mk (own := RX12) rfl (by decide) (Nat.le_of_ble_eq_true rfl) [some (zr 132), some (zi p1)] rfl (fun G C hn => ?_)
  unfold fX12_argNumber
  refine r_aload_n C dX12_argNumber_0 rfl rfl ?_
  refine r_getp C clX12 kd_132 (k := 11) (by decide) flX12_129 dX12_argNumber_1 pt_132_11 ?_
  refine r_iload_n C dX12_argNumber_4 rfl rfl ?_
  refine r_iaload C dX12_argNumber_5 (fun v1 _ => ?_)
  refine r_join (γ := Int) (pcJ := fun _ => 31) (al' := fun q5 => [none, none]) (st' := fun q5 => [zi q5]) (M' := fun q5 => M) ?_ ?_
  · intro q5
    exact r_ireturn C dX12_argNumber_31 rfl
  · intro hJq5
    refine q_if_ge (tgt := 25) C dX12_argNumber_6 (by decide) (fun _ => ?_) (fun _ => ?_)
    · refine r_aload_n C dX12_argNumber_25 rfl rfl ?_
      refine r_getp C clX12 kd_132 (k := 11) (by decide) flX12_129 dX12_argNumber_26 pt_132_11 ?_
      refine r_iload_n C dX12_argNumber_29 rfl rfl ?_
      refine r_iaload C dX12_argNumber_30 (fun v2 _ => ?_)
      refine r_less [false, false] rfl ?_
      exact hJq5 v2
    · refine r_aload_n C dX12_argNumber_9 rfl rfl ?_
      refine r_getp C clX12 kd_132 (k := 20) (by decide) flX12_147 dX12_argNumber_10 pt_132_20 ?_
      refine r_iconst C dX12_argNumber_13 (by decide) ?_
      refine r_aload_n C dX12_argNumber_14 rfl rfl ?_
      refine r_getp C clX12 kd_132 (k := 11) (by decide) flX12_129 dX12_argNumber_15 pt_132_11 ?_
      refine r_iload_n C dX12_argNumber_18 rfl rfl ?_
      refine r_iaload C dX12_argNumber_19 (fun v3 _ => ?_)
      refine r_isub C dX12_argNumber_20 ?_
      refine r_iaload C dX12_argNumber_21 (fun v4 _ => ?_)
      refine r_goto (tgt := 31) C dX12_argNumber_22 (by decide) ?_
      refine r_less [false, false] rfl ?_
      exact hJq5 v4
set_option maxRecDepth 100000 in
set_option maxHeartbeats 4000000 in
theorem tX12_opNumber (p1 : Int) (M : Mem) : Cn yX12_opNumber cX12_opNumber 7 (some .int) 2 45 [zr 132, zi p1] M ((fX12_opNumber p1 M).map oI) := by
  refine Cn_mk (own := RX12) rfl (by decide) (Nat.le_of_ble_eq_true rfl) [some (zr 132), some (zi p1), none, none, none, none, none] rfl (fun G C hn => ?_)
  unfold fX12_opNumber
  refine r_aload_n C dX12_opNumber_0 rfl rfl ?_
  refine r_getp C clX12 kd_132 (k := 11) (by decide) flX12_129 dX12_opNumber_1 pt_132_11 ?_
  refine r_iload_n C dX12_opNumber_4 rfl rfl ?_
  refine r_iconst C dX12_opNumber_5 (by decide) ?_
  refine r_iadd C dX12_opNumber_6 ?_
  refine r_iaload C dX12_opNumber_7 (fun v1 _ => ?_)
  refine r_istore_n (al' := [some (zr 132), some (zi p1), some (zi v1), none, none, none, none]) C dX12_opNumber_8 rfl (by rw [hn]; decide) rfl ?_
  refine r_iload_n C dX12_opNumber_9 rfl rfl ?_
  refine q_callSi (av := [zi v1]) (rest := []) C (tX12_argsOf v1 M) lkX12_276 rfl rfl (Nat.le_of_ble_eq_true rfl) ⟨by decide, by decide⟩ dX12_opNumber_10 (fun q2 _ => ?_)
  refine r_istore_n (al' := [some (zr 132), some (zi p1), some (zi v1), some (zi q2.1), none, none, none]) C dX12_opNumber_13 rfl (by rw [hn]; decide) rfl ?_
  refine r_aload_n C dX12_opNumber_14 rfl rfl ?_
  refine r_iload_n C dX12_opNumber_15 rfl rfl ?_
  refine r_iconst C dX12_opNumber_16 (by decide) ?_
  refine r_iadd C dX12_opNumber_17 ?_
  refine q_callVi (av := [zi (w32 (p1 + 5))]) (rest := []) C (tX12_argNumber (w32 (p1 + 5)) q2.2) lkX12_434 kd_132 rfl rfl rfl (Nat.le_of_ble_eq_true rfl) ⟨by decide, by decide⟩ dX12_opNumber_18 (fun q3 _ => ?_)
  refine r_istore (al' := [some (zr 132), some (zi p1), some (zi v1), some (zi q2.1), some (zi q3.1), none, none]) C dX12_opNumber_21 (by rw [hn]; decide) rfl ?_
  refine r_iload_n C dX12_opNumber_23 rfl rfl ?_
  refine r_iconst C dX12_opNumber_24 (by decide) ?_
  refine r_join (γ := Int × Mem) (pcJ := fun _ => 40) (al' := fun q5 => [some (zr 132), some (zi p1), some (zi v1), some (zi q2.1), some (zi q3.1), none, none]) (st' := fun q5 => [zi q5.1]) (M' := fun q5 => q5.2) ?_ ?_
  · intro q5
    refine r_istore (al' := [some (zr 132), some (zi p1), some (zi v1), some (zi q2.1), some (zi q3.1), some (zi q5.1), none]) C dX12_opNumber_40 (by rw [hn]; decide) rfl ?_
    refine r_iload_n C dX12_opNumber_42 rfl rfl ?_
    refine r_iconst C dX12_opNumber_43 (by decide) ?_
    refine r_join (γ := Int × Mem) (pcJ := fun _ => 59) (al' := fun q7 => [some (zr 132), none, some (zi v1), none, some (zi q3.1), some (zi q5.1), none]) (st' := fun q7 => [zi q7.1]) (M' := fun q7 => q7.2) ?_ ?_
    · intro q7
      refine r_istore (al' := [some (zr 132), none, some (zi v1), none, some (zi q3.1), some (zi q5.1), some (zi q7.1)]) C dX12_opNumber_59 (by rw [hn]; decide) rfl ?_
      refine r_iload_n C dX12_opNumber_61 rfl rfl ?_
      refine r_bipush C dX12_opNumber_62 (by decide) ?_
      refine r_join (γ := Int × Mem) (pcJ := fun _ => 83) (al' := fun q9 => [none, none, none, none, none, none, none]) (st' := fun q9 => [zi q9.1]) (M' := fun q9 => q9.2) ?_ ?_
      · intro q9
        exact r_ireturn C dX12_opNumber_83 rfl
      · intro hJq9
        refine q_icmp_ne (tgt := 72) C dX12_opNumber_64 (by decide) (fun _ => ?_) (fun _ => ?_)
        · refine r_aload_n C dX12_opNumber_72 rfl rfl ?_
          refine r_iload_n C dX12_opNumber_73 rfl rfl ?_
          refine r_iload C dX12_opNumber_74 rfl ?_
          refine r_iload C dX12_opNumber_76 rfl ?_
          refine r_iload C dX12_opNumber_78 rfl ?_
          refine q_callVi (av := [zi v1, zi q3.1, zi q5.1, zi q7.1]) (rest := []) C (tX12_worked v1 q3.1 q5.1 q7.1 q7.2) lkX12_397 kd_132 rfl rfl rfl (Nat.le_of_ble_eq_true rfl) ⟨by decide, by decide⟩ dX12_opNumber_80 (fun q8 _ => ?_)
          refine r_less [false, false, false, false, false, false, false] rfl ?_
          exact hJq9 (q8.1, q8.2)
        · refine r_iload C dX12_opNumber_67 rfl ?_
          refine r_goto (tgt := 83) C dX12_opNumber_69 (by decide) ?_
          refine r_less [false, false, false, false, false, false, false] rfl ?_
          exact hJq9 (q3.1, q7.2)
    · intro hJq7
      refine q_icmp_le (tgt := 58) C dX12_opNumber_44 (by decide) (fun _ => ?_) (fun _ => ?_)
      · refine r_iconst C dX12_opNumber_58 (by decide) ?_
        refine r_less [true, false, true, false, true, true, false] rfl ?_
        exact hJq7 (0, q5.2)
      · refine r_aload_n C dX12_opNumber_47 rfl rfl ?_
        refine r_iload_n C dX12_opNumber_48 rfl rfl ?_
        refine r_bipush C dX12_opNumber_49 (by decide) ?_
        refine r_iadd C dX12_opNumber_51 ?_
        refine q_callVi (av := [zi (w32 (p1 + 9))]) (rest := []) C (tX12_argNumber (w32 (p1 + 9)) q5.2) lkX12_434 kd_132 rfl rfl rfl (Nat.le_of_ble_eq_true rfl) ⟨by decide, by decide⟩ dX12_opNumber_52 (fun q6 _ => ?_)
        refine r_goto (tgt := 59) C dX12_opNumber_55 (by decide) ?_
        refine r_less [true, false, true, false, true, true, false] rfl ?_
        exact hJq7 (q6.1, q6.2)
  · intro hJq5
    refine q_icmp_le (tgt := 39) C dX12_opNumber_25 (by decide) (fun _ => ?_) (fun _ => ?_)
    · refine r_iconst C dX12_opNumber_39 (by decide) ?_
      exact hJq5 (0, q3.2)
    · refine r_aload_n C dX12_opNumber_28 rfl rfl ?_
      refine r_iload_n C dX12_opNumber_29 rfl rfl ?_
      refine r_bipush C dX12_opNumber_30 (by decide) ?_
      refine r_iadd C dX12_opNumber_32 ?_
      refine q_callVi (av := [zi (w32 (p1 + 7))]) (rest := []) C (tX12_argNumber (w32 (p1 + 7)) q3.2) lkX12_434 kd_132 rfl rfl rfl (Nat.le_of_ble_eq_true rfl) ⟨by decide, by decide⟩ dX12_opNumber_33 (fun q4 _ => ?_)
      refine r_goto (tgt := 40) C dX12_opNumber_36 (by decide) ?_
      exact hJq5 (q4.1, q4.2)
set_option maxRecDepth 100000 in
set_option maxHeartbeats 4000000 in
theorem tX12_nextLine (p1 : Int) (M : Mem) : Cn yX12_nextLine cX12_nextLine 4 (some .int) 1 21 [zr 132, zi p1] M ((fX12_nextLine p1 M).map oI) := by
  refine Cn_mk (own := RX12) rfl (by decide) (Nat.le_of_ble_eq_true rfl) [some (zr 132), some (zi p1), none, none] rfl (fun G C hn => ?_)
  unfold fX12_nextLine
  refine r_bipush C dX12_nextLine_0 (by decide) ?_
  refine r_iload_n C dX12_nextLine_2 rfl rfl ?_
  refine r_imul C dX12_nextLine_3 ?_
  refine r_let (fun v1 _ => ?_)
  refine r_istore_n (al' := [some (zr 132), some (zi p1), some (zi v1), none]) C dX12_nextLine_4 rfl (by rw [hn]; decide) rfl ?_
  refine r_aload_n C dX12_nextLine_5 rfl rfl ?_
  refine r_getp C clX12 kd_132 (k := 11) (by decide) flX12_129 dX12_nextLine_6 pt_132_11 ?_
  refine r_iload_n C dX12_nextLine_9 rfl rfl ?_
  refine r_bipush C dX12_nextLine_10 (by decide) ?_
  refine r_iadd C dX12_nextLine_12 ?_
  refine r_iaload C dX12_nextLine_13 (fun v2 _ => ?_)
  refine r_istore_n (al' := [some (zr 132), some (zi p1), some (zi v1), some (zi v2)]) C dX12_nextLine_14 rfl (by rw [hn]; decide) rfl ?_
  refine r_aload_n C dX12_nextLine_15 rfl rfl ?_
  refine r_getp C clX12 kd_132 (k := 11) (by decide) flX12_129 dX12_nextLine_16 pt_132_11 ?_
  refine r_iload_n C dX12_nextLine_19 rfl rfl ?_
  refine r_iaload C dX12_nextLine_20 (fun v3 _ => ?_)
  refine r_iconst C dX12_nextLine_21 (by decide) ?_
  refine q_icmp_ne (tgt := 80) C dX12_nextLine_22 (by decide) (fun _ => ?_) (fun _ => ?_)
  · refine r_aload_n C dX12_nextLine_80 rfl rfl ?_
    refine r_getp C clX12 kd_132 (k := 11) (by decide) flX12_129 dX12_nextLine_81 pt_132_11 ?_
    refine r_iload_n C dX12_nextLine_84 rfl rfl ?_
    refine r_iaload C dX12_nextLine_85 (fun v4 _ => ?_)
    refine r_iconst C dX12_nextLine_86 (by decide) ?_
    refine q_icmp_ne (tgt := 113) C dX12_nextLine_87 (by decide) (fun _ => ?_) (fun _ => ?_)
    · refine r_aload_n C dX12_nextLine_113 rfl rfl ?_
      refine r_getp C clX12 kd_132 (k := 11) (by decide) flX12_129 dX12_nextLine_114 pt_132_11 ?_
      refine r_iload_n C dX12_nextLine_117 rfl rfl ?_
      refine r_iconst C dX12_nextLine_118 (by decide) ?_
      refine r_iadd C dX12_nextLine_119 ?_
      refine r_iaload C dX12_nextLine_120 (fun v5 _ => ?_)
      refine r_iconst C dX12_nextLine_121 (by decide) ?_
      refine q_icmp_eq (tgt := 129) C dX12_nextLine_122 (by decide) (fun _ => ?_) (fun _ => ?_)
      · refine r_aload_n C dX12_nextLine_129 rfl rfl ?_
        refine r_getp C clX12 kd_132 (k := 24) (by decide) flX12_159 dX12_nextLine_130 pt_132_24 ?_
        refine r_iload_n C dX12_nextLine_133 rfl rfl ?_
        refine r_dup2 C dX12_nextLine_134 rfl rfl ?_
        refine r_iaload C dX12_nextLine_135 (fun v6 _ => ?_)
        refine r_iconst C dX12_nextLine_136 (by decide) ?_
        refine r_isub C dX12_nextLine_137 ?_
        refine r_iastore C dX12_nextLine_138 (fun M7 _ => ?_)
        refine r_aload_n C dX12_nextLine_139 rfl rfl ?_
        refine r_getp C clX12 kd_132 (k := 24) (by decide) flX12_159 dX12_nextLine_140 pt_132_24 ?_
        refine r_iload_n C dX12_nextLine_143 rfl rfl ?_
        refine r_iaload C dX12_nextLine_144 (fun v8 _ => ?_)
        refine r_join (γ := Int) (pcJ := fun _ => 165) (al' := fun q10 => [none, none, none, none]) (st' := fun q10 => [zi q10]) (M' := fun q10 => M7) ?_ ?_
        · intro q10
          exact r_ireturn C dX12_nextLine_165 rfl
        · intro hJq10
          refine q_if_le (tgt := 162) C dX12_nextLine_145 (by decide) (fun _ => ?_) (fun _ => ?_)
          · refine r_iload_n C dX12_nextLine_162 rfl rfl ?_
            refine r_iconst C dX12_nextLine_163 (by decide) ?_
            refine r_iadd C dX12_nextLine_164 ?_
            refine r_less [false, false, false, false] rfl ?_
            exact hJq10 (w32 (p1 + 1))
          · refine r_aload_n C dX12_nextLine_148 rfl rfl ?_
            refine r_getp C clX12 kd_132 (k := 11) (by decide) flX12_129 dX12_nextLine_149 pt_132_11 ?_
            refine r_iload_n C dX12_nextLine_152 rfl rfl ?_
            refine r_bipush C dX12_nextLine_153 (by decide) ?_
            refine r_iadd C dX12_nextLine_155 ?_
            refine r_iaload C dX12_nextLine_156 (fun v9 _ => ?_)
            refine r_iconst C dX12_nextLine_157 (by decide) ?_
            refine r_iadd C dX12_nextLine_158 ?_
            refine r_goto (tgt := 165) C dX12_nextLine_159 (by decide) ?_
            refine r_less [false, false, false, false] rfl ?_
            exact hJq10 (w32 (v9 + 1))
      · refine r_iload_n C dX12_nextLine_125 rfl rfl ?_
        refine r_iconst C dX12_nextLine_126 (by decide) ?_
        refine r_iadd C dX12_nextLine_127 ?_
        exact r_ireturn C dX12_nextLine_128 rfl
    · refine r_aload_n C dX12_nextLine_90 rfl rfl ?_
      refine r_getp C clX12 kd_132 (k := 11) (by decide) flX12_129 dX12_nextLine_91 pt_132_11 ?_
      refine r_bipush C dX12_nextLine_94 (by decide) ?_
      refine r_aload_n C dX12_nextLine_96 rfl rfl ?_
      refine r_getp C clX12 kd_132 (k := 11) (by decide) flX12_129 dX12_nextLine_97 pt_132_11 ?_
      refine r_iload_n C dX12_nextLine_100 rfl rfl ?_
      refine r_bipush C dX12_nextLine_101 (by decide) ?_
      refine r_iadd C dX12_nextLine_103 ?_
      refine r_iaload C dX12_nextLine_104 (fun v11 _ => ?_)
      refine r_imul C dX12_nextLine_105 ?_
      refine r_bipush C dX12_nextLine_106 (by decide) ?_
      refine r_iadd C dX12_nextLine_108 ?_
      refine r_iaload C dX12_nextLine_109 (fun v12 _ => ?_)
      refine r_iconst C dX12_nextLine_110 (by decide) ?_
      refine r_iadd C dX12_nextLine_111 ?_
      exact r_ireturn C dX12_nextLine_112 rfl
  · refine r_aload_n C dX12_nextLine_25 rfl rfl ?_
    refine r_iload_n C dX12_nextLine_26 rfl rfl ?_
    refine r_iconst C dX12_nextLine_27 (by decide) ?_
    refine r_iadd C dX12_nextLine_28 ?_
    refine q_callVi (av := [zi (w32 (v1 + 5))]) (rest := []) C (tX12_argNumber (w32 (v1 + 5)) M) lkX12_434 kd_132 rfl rfl rfl (Nat.le_of_ble_eq_true rfl) ⟨by decide, by decide⟩ dX12_nextLine_29 (fun q13 _ => ?_)
    refine r_iconst C dX12_nextLine_32 (by decide) ?_
    refine r_join (γ := Int) (pcJ := fun _ => 79) (al' := fun q17 => [none, none, none, none]) (st' := fun q17 => [zi q17]) (M' := fun q17 => q13.2) ?_ ?_
    · intro q17
      exact r_ireturn C dX12_nextLine_79 rfl
    · intro hJq17
      refine q_icmp_ne (tgt := 42) C dX12_nextLine_33 (by decide) (fun _ => ?_) (fun _ => ?_)
      · refine r_aload_n C dX12_nextLine_42 rfl rfl ?_
        refine r_getp C clX12 kd_132 (k := 11) (by decide) flX12_129 dX12_nextLine_43 pt_132_11 ?_
        refine r_iload_n C dX12_nextLine_46 rfl rfl ?_
        refine r_bipush C dX12_nextLine_47 (by decide) ?_
        refine r_iadd C dX12_nextLine_49 ?_
        refine r_iaload C dX12_nextLine_50 (fun v14 _ => ?_)
        refine q_if_le (tgt := 68) C dX12_nextLine_51 (by decide) (fun _ => ?_) (fun _ => ?_)
        · refine r_aload_n C dX12_nextLine_68 rfl rfl ?_
          refine r_getp C clX12 kd_132 (k := 11) (by decide) flX12_129 dX12_nextLine_69 pt_132_11 ?_
          refine r_iload_n C dX12_nextLine_72 rfl rfl ?_
          refine r_bipush C dX12_nextLine_73 (by decide) ?_
          refine r_iadd C dX12_nextLine_75 ?_
          refine r_iaload C dX12_nextLine_76 (fun v15 _ => ?_)
          refine r_iconst C dX12_nextLine_77 (by decide) ?_
          refine r_iadd C dX12_nextLine_78 ?_
          refine r_less [false, false, false, false] rfl ?_
          exact hJq17 (w32 (v15 + 1))
        · refine r_aload_n C dX12_nextLine_54 rfl rfl ?_
          refine r_getp C clX12 kd_132 (k := 11) (by decide) flX12_129 dX12_nextLine_55 pt_132_11 ?_
          refine r_iload_n C dX12_nextLine_58 rfl rfl ?_
          refine r_bipush C dX12_nextLine_59 (by decide) ?_
          refine r_iadd C dX12_nextLine_61 ?_
          refine r_iaload C dX12_nextLine_62 (fun v16 _ => ?_)
          refine r_iconst C dX12_nextLine_63 (by decide) ?_
          refine r_iadd C dX12_nextLine_64 ?_
          refine r_goto (tgt := 79) C dX12_nextLine_65 (by decide) ?_
          refine r_less [false, false, false, false] rfl ?_
          exact hJq17 (w32 (v16 + 1))
      · refine r_iload_n C dX12_nextLine_36 rfl rfl ?_
        refine r_iconst C dX12_nextLine_37 (by decide) ?_
        refine r_iadd C dX12_nextLine_38 ?_
        refine r_goto (tgt := 79) C dX12_nextLine_39 (by decide) ?_
        refine r_less [false, false, false, false] rfl ?_
        exact hJq17 (w32 (p1 + 1))
set_option maxRecDepth 100000 in
set_option maxHeartbeats 4000000 in
theorem tX12_walk (p1 : Int) (p2 : Int) (M : Mem) : Cn yX12_walk cX12_walk 8 (some .int) 3 71 [zr 132, zi p1, zi p2] M ((fX12_walk p1 p2 M).map oI) := by
  refine Cn_mk (own := RX12) rfl (by decide) (Nat.le_of_ble_eq_true rfl) [some (zr 132), some (zi p1), some (zi p2), none, none, none, none, none] rfl (fun G C hn => ?_)
  unfold fX12_walk
  refine r_iconst C dX12_walk_0 (by decide) ?_
  refine r_istore_n (al' := [some (zr 132), some (zi p1), some (zi p2), some (zi 0), none, none, none, none]) C dX12_walk_1 rfl (by rw [hn]; decide) rfl ?_
  refine r_iconst C dX12_walk_2 (by decide) ?_
  refine r_istore (al' := [some (zr 132), some (zi p1), some (zi p2), some (zi 0), some (zi 0), none, none, none]) C dX12_walk_3 (by rw [hn]; decide) rfl ?_
  refine r_lpr (S := Int × Int × Mem) (X := Mem) (pcX := 178) (AL := fun s1 => [some (zr 132), some (zi p1), some (zi p2), some (zi s1.1), some (zi s1.2.1), none, none, none]) (MM := fun s1 => s1.2.2) (AX := fun q18 => [none, none, none, none, none, none, none, none]) (MX := fun q18 => q18) ?_ ?_ (0, 0, M)
  · intro q18
    refine r_iconst C dX12_walk_178 (by decide) ?_
    exact r_ireturn C dX12_walk_179 rfl
  · intro gs1 hCs1 hXs1 s1
    unfold fX12_walk_b1
    refine r_iload_n C dX12_walk_5 rfl rfl ?_
    refine r_aload_n C dX12_walk_6 rfl rfl ?_
    refine r_getp C clX12 kd_132 (k := 10) (by decide) flX12_126 dX12_walk_7 pt_132_10 ?_
    refine r_iconst C dX12_walk_10 (by decide) ?_
    refine r_iaload C dX12_walk_11 (fun v2 _ => ?_)
    refine q_icmp_ge (tgt := 178) C dX12_walk_12 (by decide) (fun _ => ?_) (fun _ => ?_)
    · refine r_less [false, false, false, false, false, false, false, false] rfl ?_
      exact hXs1 s1.2.2
    · refine r_bipush C dX12_walk_15 (by decide) ?_
      refine r_iload_n C dX12_walk_17 rfl rfl ?_
      refine r_imul C dX12_walk_18 ?_
      refine r_let (fun v3 _ => ?_)
      refine r_istore (al' := [some (zr 132), some (zi p1), some (zi p2), some (zi s1.1), some (zi s1.2.1), some (zi v3), none, none]) C dX12_walk_19 (by rw [hn]; decide) rfl ?_
      refine r_aload_n C dX12_walk_21 rfl rfl ?_
      refine r_getp C clX12 kd_132 (k := 11) (by decide) flX12_129 dX12_walk_22 pt_132_11 ?_
      refine r_iload C dX12_walk_25 rfl ?_
      refine r_iaload C dX12_walk_27 (fun v4 _ => ?_)
      refine r_istore (al' := [some (zr 132), some (zi p1), some (zi p2), some (zi s1.1), some (zi s1.2.1), some (zi v3), some (zi v4), none]) C dX12_walk_28 (by rw [hn]; decide) rfl ?_
      refine r_iload_n C dX12_walk_30 rfl rfl ?_
      refine r_iconst C dX12_walk_31 (by decide) ?_
      refine r_iadd C dX12_walk_32 ?_
      refine r_let (fun v5 _ => ?_)
      refine r_istore (al' := [some (zr 132), some (zi p1), some (zi p2), some (zi s1.1), some (zi s1.2.1), some (zi v3), some (zi v4), some (zi v5)]) C dX12_walk_33 (by rw [hn]; decide) rfl ?_
      refine r_iload C dX12_walk_35 rfl ?_
      refine r_bipush C dX12_walk_37 (by decide) ?_
      refine q_icmp_ne (tgt := 77) C dX12_walk_39 (by decide) (fun _ => ?_) (fun _ => ?_)
      · refine r_iload C dX12_walk_77 rfl ?_
        refine q_if_ne (tgt := 105) C dX12_walk_79 (by decide) (fun _ => ?_) (fun _ => ?_)
        · refine r_iload C dX12_walk_105 rfl ?_
          refine r_iconst C dX12_walk_107 (by decide) ?_
          refine q_icmp_ne (tgt := 138) C dX12_walk_108 (by decide) (fun _ => ?_) (fun _ => ?_)
          · refine r_iload C dX12_walk_138 rfl ?_
            refine r_iconst C dX12_walk_140 (by decide) ?_
            refine q_icmp_ne (tgt := 165) C dX12_walk_141 (by decide) (fun _ => ?_) (fun _ => ?_)
            · refine r_aload_n C dX12_walk_165 rfl rfl ?_
              refine r_iload_n C dX12_walk_166 rfl rfl ?_
              refine q_callVi (av := [zi s1.1]) (rest := []) C (tX12_nextLine s1.1 s1.2.2) lkX12_440 kd_132 rfl rfl rfl (Nat.le_of_ble_eq_true rfl) ⟨by decide, by decide⟩ dX12_walk_167 (fun q6 _ => ?_)
              refine r_istore (al' := [some (zr 132), some (zi p1), some (zi p2), some (zi s1.1), some (zi s1.2.1), some (zi v3), some (zi v4), some (zi q6.1)]) C dX12_walk_170 (by rw [hn]; decide) rfl ?_
              refine r_iload C dX12_walk_172 rfl ?_
              refine r_istore_n (al' := [some (zr 132), some (zi p1), some (zi p2), some (zi q6.1), some (zi s1.2.1), some (zi v3), some (zi v4), some (zi q6.1)]) C dX12_walk_174 rfl (by rw [hn]; decide) rfl ?_
              refine r_goto (tgt := 5) C dX12_walk_175 (by decide) ?_
              refine r_less [true, true, true, true, true, false, false, false] rfl ?_
              exact hCs1 (q6.1, s1.2.1, q6.2)
            · refine r_iload C dX12_walk_144 rfl ?_
              refine r_iload_n C dX12_walk_146 rfl rfl ?_
              refine q_icmp_ne (tgt := 159) C dX12_walk_147 (by decide) (fun _ => ?_) (fun _ => ?_)
              · refine r_iinc (al' := [some (zr 132), some (zi p1), some (zi p2), some (zi s1.1), some (zi (w32 (s1.2.1 + 1))), some (zi v3), some (zi v4), some (zi v5)]) C dX12_walk_159 rfl (by rw [hn]; decide) rfl ?_
                refine r_goto (tgt := 172) C dX12_walk_162 (by decide) ?_
                refine r_iload C dX12_walk_172 rfl ?_
                refine r_istore_n (al' := [some (zr 132), some (zi p1), some (zi p2), some (zi v5), some (zi (w32 (s1.2.1 + 1))), some (zi v3), some (zi v4), some (zi v5)]) C dX12_walk_174 rfl (by rw [hn]; decide) rfl ?_
                refine r_goto (tgt := 5) C dX12_walk_175 (by decide) ?_
                refine r_less [true, true, true, true, true, false, false, false] rfl ?_
                exact hCs1 (v5, w32 (s1.2.1 + 1), s1.2.2)
              · refine r_aload_n C dX12_walk_150 rfl rfl ?_
                refine r_iload C dX12_walk_151 rfl ?_
                refine r_iconst C dX12_walk_153 (by decide) ?_
                refine r_iadd C dX12_walk_154 ?_
                refine q_callVi (av := [zi (w32 (v3 + 5))]) (rest := []) C (tX12_argNumber (w32 (v3 + 5)) s1.2.2) lkX12_434 kd_132 rfl rfl rfl (Nat.le_of_ble_eq_true rfl) ⟨by decide, by decide⟩ dX12_walk_155 (fun q7 _ => ?_)
                exact r_ireturn C dX12_walk_158 rfl
          · refine r_aload_n C dX12_walk_111 rfl rfl ?_
            refine r_getp C clX12 kd_132 (k := 24) (by decide) flX12_159 dX12_walk_112 pt_132_24 ?_
            refine r_aload_n C dX12_walk_115 rfl rfl ?_
            refine r_getp C clX12 kd_132 (k := 11) (by decide) flX12_129 dX12_walk_116 pt_132_11 ?_
            refine r_iload C dX12_walk_119 rfl ?_
            refine r_bipush C dX12_walk_121 (by decide) ?_
            refine r_iadd C dX12_walk_123 ?_
            refine r_iaload C dX12_walk_124 (fun v8 _ => ?_)
            refine r_aload_n C dX12_walk_125 rfl rfl ?_
            refine r_getp C clX12 kd_132 (k := 11) (by decide) flX12_129 dX12_walk_126 pt_132_11 ?_
            refine r_iload C dX12_walk_129 rfl ?_
            refine r_iconst C dX12_walk_131 (by decide) ?_
            refine r_iadd C dX12_walk_132 ?_
            refine r_iaload C dX12_walk_133 (fun v9 _ => ?_)
            refine r_iastore C dX12_walk_134 (fun M10 _ => ?_)
            refine r_goto (tgt := 172) C dX12_walk_135 (by decide) ?_
            refine r_iload C dX12_walk_172 rfl ?_
            refine r_istore_n (al' := [some (zr 132), some (zi p1), some (zi p2), some (zi v5), some (zi s1.2.1), some (zi v3), some (zi v4), some (zi v5)]) C dX12_walk_174 rfl (by rw [hn]; decide) rfl ?_
            refine r_goto (tgt := 5) C dX12_walk_175 (by decide) ?_
            refine r_less [true, true, true, true, true, false, false, false] rfl ?_
            exact hCs1 (v5, s1.2.1, M10)
        · refine r_aload_n C dX12_walk_82 rfl rfl ?_
          refine r_getp C clX12 kd_132 (k := 20) (by decide) flX12_147 dX12_walk_83 pt_132_20 ?_
          refine r_aload_n C dX12_walk_86 rfl rfl ?_
          refine r_getp C clX12 kd_132 (k := 11) (by decide) flX12_129 dX12_walk_87 pt_132_11 ?_
          refine r_iload C dX12_walk_90 rfl ?_
          refine r_iconst C dX12_walk_92 (by decide) ?_
          refine r_iadd C dX12_walk_93 ?_
          refine r_iaload C dX12_walk_94 (fun v11 _ => ?_)
          refine r_aload_n C dX12_walk_95 rfl rfl ?_
          refine r_iload C dX12_walk_96 rfl ?_
          refine q_callVi (av := [zi v3]) (rest := [zi v11, zr 145]) C (tX12_opNumber v3 s1.2.2) lkX12_437 kd_132 rfl rfl rfl (Nat.le_of_ble_eq_true rfl) ⟨by decide, by decide⟩ dX12_walk_98 (fun q12 _ => ?_)
          refine r_iastore C dX12_walk_101 (fun M13 _ => ?_)
          refine r_goto (tgt := 172) C dX12_walk_102 (by decide) ?_
          refine r_iload C dX12_walk_172 rfl ?_
          refine r_istore_n (al' := [some (zr 132), some (zi p1), some (zi p2), some (zi v5), some (zi s1.2.1), some (zi v3), some (zi v4), some (zi v5)]) C dX12_walk_174 rfl (by rw [hn]; decide) rfl ?_
          refine r_goto (tgt := 5) C dX12_walk_175 (by decide) ?_
          refine r_less [true, true, true, true, true, false, false, false] rfl ?_
          exact hCs1 (v5, s1.2.1, M13)
      · refine r_aload_n C dX12_walk_42 rfl rfl ?_
        refine r_getp C clX12 kd_132 (k := 20) (by decide) flX12_147 dX12_walk_43 pt_132_20 ?_
        refine r_aload_n C dX12_walk_46 rfl rfl ?_
        refine r_getp C clX12 kd_132 (k := 11) (by decide) flX12_129 dX12_walk_47 pt_132_11 ?_
        refine r_iload C dX12_walk_50 rfl ?_
        refine r_iconst C dX12_walk_52 (by decide) ?_
        refine r_iadd C dX12_walk_53 ?_
        refine r_iaload C dX12_walk_54 (fun v14 _ => ?_)
        refine r_aload_n C dX12_walk_55 rfl rfl ?_
        refine r_getp C clX12 kd_132 (k := 26) (by decide) flX12_165 dX12_walk_56 pt_132_26 ?_
        refine r_iconst C dX12_walk_59 (by decide) ?_
        refine r_aload_n C dX12_walk_60 rfl rfl ?_
        refine r_getp C clX12 kd_132 (k := 11) (by decide) flX12_129 dX12_walk_61 pt_132_11 ?_
        refine r_iload C dX12_walk_64 rfl ?_
        refine r_iconst C dX12_walk_66 (by decide) ?_
        refine r_iadd C dX12_walk_67 ?_
        refine r_iaload C dX12_walk_68 (fun v15 _ => ?_)
        refine r_imul C dX12_walk_69 ?_
        refine r_iload_n C dX12_walk_70 rfl rfl ?_
        refine r_iadd C dX12_walk_71 ?_
        refine r_iaload C dX12_walk_72 (fun v16 _ => ?_)
        refine r_iastore C dX12_walk_73 (fun M17 _ => ?_)
        refine r_goto (tgt := 172) C dX12_walk_74 (by decide) ?_
        refine r_iload C dX12_walk_172 rfl ?_
        refine r_istore_n (al' := [some (zr 132), some (zi p1), some (zi p2), some (zi v5), some (zi s1.2.1), some (zi v3), some (zi v4), some (zi v5)]) C dX12_walk_174 rfl (by rw [hn]; decide) rfl ?_
        refine r_goto (tgt := 5) C dX12_walk_175 (by decide) ?_
        refine r_less [true, true, true, true, true, false, false, false] rfl ?_
        exact hCs1 (v5, s1.2.1, M17)
set_option maxRecDepth 100000 in
set_option maxHeartbeats 4000000 in
theorem tX12_isShown (p1 : Int) (p2 : Int) (M : Mem) : Cn yX12_isShown cX12_isShown 3 (some .boolean) 2 42 [zr 132, zi p1, zi p2] M ((fX12_isShown p1 p2 M).map oI) := by
  refine Cn_mk (own := RX12) rfl (by decide) (Nat.le_of_ble_eq_true rfl) [some (zr 132), some (zi p1), some (zi p2)] rfl (fun G C hn => ?_)
  unfold fX12_isShown
  refine r_iload_n C dX12_isShown_0 rfl rfl ?_
  refine q_callSi (av := [zi p1]) (rest := []) C (tX12_isLane p1 M) lkX12_362 rfl rfl (Nat.le_of_ble_eq_true rfl) ⟨by decide, by decide⟩ dX12_isShown_1 (fun q1 _ => ?_)
  refine r_join (γ := Int) (pcJ := fun _ => 27) (al' := fun q3 => [none, none, none]) (st' := fun q3 => [zi q3]) (M' := fun q3 => q1.2) ?_ ?_
  · intro q3
    exact r_zreturn C dX12_isShown_27 rfl
  · intro hJq3
    refine q_if_eq (tgt := 26) C dX12_isShown_4 (by decide) (fun _ => ?_) (fun _ => ?_)
    · refine r_iconst C dX12_isShown_26 (by decide) ?_
      refine r_less [false, false, false] rfl ?_
      exact hJq3 0
    · refine r_iload_n C dX12_isShown_7 rfl rfl ?_
      refine q_if_lt (tgt := 26) C dX12_isShown_8 (by decide) (fun _ => ?_) (fun _ => ?_)
      · refine r_iconst C dX12_isShown_26 (by decide) ?_
        refine r_less [false, false, false] rfl ?_
        exact hJq3 0
      · refine r_iload_n C dX12_isShown_11 rfl rfl ?_
        refine r_aload_n C dX12_isShown_12 rfl rfl ?_
        refine r_getp C clX12 kd_132 (k := 10) (by decide) flX12_126 dX12_isShown_13 pt_132_10 ?_
        refine r_bipush C dX12_isShown_16 (by decide) ?_
        refine r_iaload C dX12_isShown_18 (fun v2 _ => ?_)
        refine q_icmp_ge (tgt := 26) C dX12_isShown_19 (by decide) (fun _ => ?_) (fun _ => ?_)
        · refine r_iconst C dX12_isShown_26 (by decide) ?_
          refine r_less [false, false, false] rfl ?_
          exact hJq3 0
        · refine r_iconst C dX12_isShown_22 (by decide) ?_
          refine r_goto (tgt := 27) C dX12_isShown_23 (by decide) ?_
          refine r_less [false, false, false] rfl ?_
          exact hJq3 1
set_option maxRecDepth 100000 in
set_option maxHeartbeats 4000000 in
theorem tX12_walked (p1 : Int) (p2 : Int) (M : Mem) : Cn yX12_walked cX12_walked 3 (some .int) 4 98 [zr 132, zi p1, zi p2] M ((fX12_walked p1 p2 M).map oI) := by
  refine Cn_mk (own := RX12) rfl (by decide) (Nat.le_of_ble_eq_true rfl) [some (zr 132), some (zi p1), some (zi p2)] rfl (fun G C hn => ?_)
  unfold fX12_walked
  refine r_aload_n C dX12_walked_0 rfl rfl ?_
  refine r_aload_n C dX12_walked_1 rfl rfl ?_
  refine r_iload_n C dX12_walked_2 rfl rfl ?_
  refine r_iload_n C dX12_walked_3 rfl rfl ?_
  refine q_callVi (av := [zi p1, zi p2]) (rest := [zr 132]) C (tX12_isShown p1 p2 M) lkX12_443 kd_132 rfl rfl rfl (Nat.le_of_ble_eq_true rfl) ⟨by decide, by decide⟩ dX12_walked_4 (fun q1 _ => ?_)
  refine r_join (γ := Int) (pcJ := fun _ => 15) (al' := fun q2 => [some (zr 132), some (zi p1), some (zi p2)]) (st' := fun q2 => [zi q2, zr 132]) (M' := fun q2 => q1.2) ?_ ?_
  · intro q2
    refine q_puti C clX12 kd_132 (k := 0) (by decide) flX12_1 rfl dX12_walked_15 rfl rfl (fun M3 => ?_)
    refine r_aload_n C dX12_walked_18 rfl rfl ?_
    refine q_geti C clX12 kd_132 (k := 0) (by decide) flX12_1 dX12_walked_19 (kz := 0) rfl (by decide) ?_
    refine r_join (γ := Int × Mem) (pcJ := fun _ => 35) (al' := fun q5 => [none, none, none]) (st' := fun q5 => [zi q5.1]) (M' := fun q5 => q5.2) ?_ ?_
    · intro q5
      exact r_ireturn C dX12_walked_35 rfl
    · intro hJq5
      refine q_if_le (tgt := 29) C dX12_walked_22 (by decide) (fun _ => ?_) (fun _ => ?_)
      · refine r_aload_n C dX12_walked_29 rfl rfl ?_
        refine r_iload_n C dX12_walked_30 rfl rfl ?_
        refine r_iload_n C dX12_walked_31 rfl rfl ?_
        refine q_callVi (av := [zi p1, zi p2]) (rest := []) C (tX12_walk p1 p2 M3) lkX12_446 kd_132 rfl rfl rfl (Nat.le_of_ble_eq_true rfl) ⟨by decide, by decide⟩ dX12_walked_32 (fun q4 _ => ?_)
        refine r_less [false, false, false] rfl ?_
        exact hJq5 (q4.1, q4.2)
      · refine r_iconst C dX12_walked_25 (by decide) ?_
        refine r_goto (tgt := 35) C dX12_walked_26 (by decide) ?_
        refine r_less [false, false, false] rfl ?_
        exact hJq5 (0, M3)
  · intro hJq2
    refine q_if_eq (tgt := 14) C dX12_walked_7 (by decide) (fun _ => ?_) (fun _ => ?_)
    · refine r_iconst C dX12_walked_14 (by decide) ?_
      exact hJq2 1
    · refine r_iconst C dX12_walked_10 (by decide) ?_
      refine r_goto (tgt := 15) C dX12_walked_11 (by decide) ?_
      exact hJq2 0
set_option maxRecDepth 100000 in
set_option maxHeartbeats 4000000 in
theorem tX12_has (p1 : Int) (p2 : Int) (M : Mem) : Cn yX12_has cX12_has 3 (some .boolean) 0 0 [zl p1, zi p2] M ((fX12_has p1 p2 M).map oI) := by
  refine Cn_mk (own := RX12) rfl (by decide) (Nat.le_of_ble_eq_true rfl) [some (zl p1), none, some (zi p2)] rfl (fun G C hn => ?_)
  unfold fX12_has
  refine r_lload_n C dX12_has_0 rfl rfl ?_
  refine r_iload_n C dX12_has_1 rfl rfl ?_
  refine r_lshr C dX12_has_2 ?_
  refine r_lconst C dX12_has_3 rfl ?_
  refine r_land C dX12_has_4 ?_
  refine r_lconst C dX12_has_5 rfl ?_
  refine r_lcmp C dX12_has_6 ?_
  refine r_join (γ := Int) (pcJ := fun _ => 15) (al' := fun q1 => [none, none, none]) (st' := fun q1 => [zi q1]) (M' := fun q1 => M) ?_ ?_
  · intro q1
    exact r_zreturn C dX12_has_15 rfl
  · intro hJq1
    refine q_if_ne (tgt := 14) C dX12_has_7 (by decide) (fun _ => ?_) (fun _ => ?_)
    · refine r_iconst C dX12_has_14 (by decide) ?_
      refine r_less [false, false, false] rfl ?_
      exact hJq1 0
    · refine r_iconst C dX12_has_10 (by decide) ?_
      refine r_goto (tgt := 15) C dX12_has_11 (by decide) ?_
      refine r_less [false, false, false] rfl ?_
      exact hJq1 1
set_option maxRecDepth 100000 in
set_option maxHeartbeats 4000000 in
theorem tX12_manyOf (p1 : Int) (M : Mem) : Cn yX12_manyOf cX12_manyOf 4 (some .int) 1 22 [zl p1] M ((fX12_manyOf p1 M).map oI) := by
  refine Cn_mk (own := RX12) rfl (by decide) (Nat.le_of_ble_eq_true rfl) [some (zl p1), none, none, none] rfl (fun G C hn => ?_)
  unfold fX12_manyOf
  refine r_iconst C dX12_manyOf_0 (by decide) ?_
  refine r_istore_n (al' := [some (zl p1), none, some (zi 0), none]) C dX12_manyOf_1 rfl (by rw [hn]; decide) rfl ?_
  refine r_iconst C dX12_manyOf_2 (by decide) ?_
  refine r_istore_n (al' := [some (zl p1), none, some (zi 0), some (zi 0)]) C dX12_manyOf_3 rfl (by rw [hn]; decide) rfl ?_
  refine r_lp (S := Int × Int × Mem) (R := Int × Mem) (pcX := 32) (AL := fun s1 => [some (zl p1), none, some (zi s1.1), some (zi s1.2.1)]) (MM := fun s1 => s1.2.2) (AX := fun q5 => [none, none, some (zi q5.1), none]) (MX := fun q5 => q5.2) ?_ ?_ (0, 0, M)
  · intro q5
    refine r_iload_n C dX12_manyOf_32 rfl rfl ?_
    exact r_ireturn C dX12_manyOf_33 rfl
  · intro gs1 hCs1 hXs1 s1
    unfold fX12_manyOf_b1
    refine r_iload_n C dX12_manyOf_4 rfl rfl ?_
    refine r_bipush C dX12_manyOf_5 (by decide) ?_
    refine q_icmp_ge (tgt := 32) C dX12_manyOf_7 (by decide) (fun _ => ?_) (fun _ => ?_)
    · refine r_less [false, false, true, false] rfl ?_
      exact hXs1 (s1.1, s1.2.2)
    · refine r_iload_n C dX12_manyOf_10 rfl rfl ?_
      refine r_lload_n C dX12_manyOf_11 rfl rfl ?_
      refine r_iload_n C dX12_manyOf_12 rfl rfl ?_
      refine q_callSi (av := [zl p1, zi s1.2.1]) (rest := [zi s1.1]) C (tX12_has p1 s1.2.1 s1.2.2) lkX12_449 rfl rfl (Nat.le_of_ble_eq_true rfl) ⟨by decide, by decide⟩ dX12_manyOf_13 (fun q2 _ => ?_)
      refine r_join (γ := Int) (pcJ := fun _ => 24) (al' := fun q3 => [some (zl p1), none, none, some (zi s1.2.1)]) (st' := fun q3 => [zi q3, zi s1.1]) (M' := fun q3 => q2.2) ?_ ?_
      · intro q3
        refine r_iadd C dX12_manyOf_24 ?_
        refine r_let (fun v4 _ => ?_)
        refine r_istore_n (al' := [some (zl p1), none, some (zi v4), some (zi s1.2.1)]) C dX12_manyOf_25 rfl (by rw [hn]; decide) rfl ?_
        refine r_iinc (al' := [some (zl p1), none, some (zi v4), some (zi (w32 (s1.2.1 + 1)))]) C dX12_manyOf_26 rfl (by rw [hn]; decide) rfl ?_
        refine r_goto (tgt := 4) C dX12_manyOf_29 (by decide) ?_
        exact hCs1 (v4, w32 (s1.2.1 + 1), q2.2)
      · intro hJq3
        refine q_if_eq (tgt := 23) C dX12_manyOf_16 (by decide) (fun _ => ?_) (fun _ => ?_)
        · refine r_iconst C dX12_manyOf_23 (by decide) ?_
          refine r_less [true, false, false, true] rfl ?_
          exact hJq3 0
        · refine r_iconst C dX12_manyOf_19 (by decide) ?_
          refine r_goto (tgt := 24) C dX12_manyOf_20 (by decide) ?_
          refine r_less [true, false, false, true] rfl ?_
          exact hJq3 1
set_option maxRecDepth 100000 in
set_option maxHeartbeats 4000000 in
theorem tX12_shownSet (p1 : Int) (M : Mem) : Cn yX12_shownSet cX12_shownSet 5 (some .long) 0 0 [zr 132, zi p1] M ((fX12_shownSet p1 M).map oJ) := by
  refine Cn_mk (own := RX12) rfl (by decide) (Nat.le_of_ble_eq_true rfl) [some (zr 132), some (zi p1), none, none, none] rfl (fun G C hn => ?_)
  unfold fX12_shownSet
  refine r_lconst C dX12_shownSet_0 rfl ?_
  refine r_lstore_n (al' := [some (zr 132), some (zi p1), some (zl 0), none, none]) C dX12_shownSet_1 rfl (by rw [hn]; decide) rfl ?_
  refine r_iconst C dX12_shownSet_2 (by decide) ?_
  refine r_istore (al' := [some (zr 132), some (zi p1), some (zl 0), none, some (zi 0)]) C dX12_shownSet_3 (by rw [hn]; decide) rfl ?_
  refine r_lp (S := Int × Int) (R := Int) (pcX := 52) (AL := fun s1 => [some (zr 132), some (zi p1), some (zl s1.1), none, some (zi s1.2)]) (MM := fun s1 => M) (AX := fun q7 => [none, none, some (zl q7), none, none]) (MX := fun q7 => M) ?_ ?_ (0, 0)
  · intro q7
    refine r_lload_n C dX12_shownSet_52 rfl rfl ?_
    exact r_lreturn C dX12_shownSet_53 rfl
  · intro gs1 hCs1 hXs1 s1
    unfold fX12_shownSet_b1
    refine r_iload C dX12_shownSet_5 rfl ?_
    refine r_aload_n C dX12_shownSet_7 rfl rfl ?_
    refine r_getp C clX12 kd_132 (k := 10) (by decide) flX12_126 dX12_shownSet_8 pt_132_10 ?_
    refine r_bipush C dX12_shownSet_11 (by decide) ?_
    refine r_iaload C dX12_shownSet_13 (fun v2 _ => ?_)
    refine q_icmp_ge (tgt := 52) C dX12_shownSet_14 (by decide) (fun _ => ?_) (fun _ => ?_)
    · refine r_less [false, false, true, false, false] rfl ?_
      exact hXs1 s1.1
    · refine r_lload_n C dX12_shownSet_17 rfl rfl ?_
      refine r_iload_n C dX12_shownSet_18 rfl rfl ?_
      refine r_join (γ := Bool) (pcJ := fun q3 => if q3 = true then 28 else 43) (al' := fun q3 => [some (zr 132), some (zi p1), some (zl s1.1), none, some (zi s1.2)]) (st' := fun q3 => [zl s1.1]) (M' := fun q3 => M) ?_ ?_
      · intro q3
        refine r_join (γ := Int) (pcJ := fun _ => 44) (al' := fun q5 => [some (zr 132), some (zi p1), none, none, some (zi s1.2)]) (st' := fun q5 => [zl q5, zl s1.1]) (M' := fun q5 => M) ?_ ?_
        · intro q5
          refine r_lor C dX12_shownSet_44 ?_
          refine r_letl (fun v6 _ => ?_)
          refine r_lstore_n (al' := [some (zr 132), some (zi p1), some (zl v6), none, some (zi s1.2)]) C dX12_shownSet_45 rfl (by rw [hn]; decide) rfl ?_
          refine r_iinc (al' := [some (zr 132), some (zi p1), some (zl v6), none, some (zi (w32 (s1.2 + 1)))]) C dX12_shownSet_46 rfl (by rw [hn]; decide) rfl ?_
          refine r_goto (tgt := 5) C dX12_shownSet_49 (by decide) ?_
          exact hCs1 (v6, w32 (s1.2 + 1))
        · intro hJq5
          refine r_itp (fun _ => ?_) (fun _ => ?_)
          · refine r_lconst C dX12_shownSet_28 rfl ?_
            refine r_aload_n C dX12_shownSet_29 rfl rfl ?_
            refine r_getp C clX12 kd_132 (k := 10) (by decide) flX12_126 dX12_shownSet_30 pt_132_10 ?_
            refine r_bipush C dX12_shownSet_33 (by decide) ?_
            refine r_iload C dX12_shownSet_35 rfl ?_
            refine r_iadd C dX12_shownSet_37 ?_
            refine r_iaload C dX12_shownSet_38 (fun v4 _ => ?_)
            refine r_lshl C dX12_shownSet_39 ?_
            refine r_goto (tgt := 44) C dX12_shownSet_40 (by decide) ?_
            refine r_less [true, true, false, false, true] rfl ?_
            exact hJq5 (lshl 1 v4)
          · refine r_lconst C dX12_shownSet_43 rfl ?_
            refine r_less [true, true, false, false, true] rfl ?_
            exact hJq5 0
      · intro hJq3
        refine q_if_lt (tgt := 28) C dX12_shownSet_19 (by decide) (fun _ => ?_) (fun _ => ?_)
        · exact hJq3 true
        · refine r_iload_n C dX12_shownSet_22 rfl rfl ?_
          refine r_iload C dX12_shownSet_23 rfl ?_
          refine q_icmp_ne (tgt := 43) C dX12_shownSet_25 (by decide) (fun _ => ?_) (fun _ => ?_)
          · exact hJq3 false
          · exact hJq3 true
set_option maxRecDepth 100000 in
set_option maxHeartbeats 4000000 in
theorem tX12_needs (p1 : Int) (M : Mem) : Cn yX12_needs cX12_needs 6 none 1 24 [zr 132, zi p1] M ((fX12_needs p1 M).map oU) := by
  refine Cn_mk (own := RX12) rfl (by decide) (Nat.le_of_ble_eq_true rfl) [some (zr 132), some (zi p1), none, none, none, none] rfl (fun G C hn => ?_)
  unfold fX12_needs
  refine r_iconst C dX12_needs_0 (by decide) ?_
  refine r_istore_n (al' := [some (zr 132), some (zi p1), some (zi 0), none, none, none]) C dX12_needs_1 rfl (by rw [hn]; decide) rfl ?_
  refine r_lp (S := Int × Mem) (R := Mem) (pcX := 194) (AL := fun s1 => [some (zr 132), some (zi p1), some (zi s1.1), none, none, none]) (MM := fun s1 => s1.2) (AX := fun q28 => [some (zr 132), some (zi p1), none, none, none, none]) (MX := fun q28 => q28) ?_ ?_ (0, M)
  · intro q28
    refine r_aload_n C dX12_needs_194 rfl rfl ?_
    refine r_iload_n C dX12_needs_195 rfl rfl ?_
    refine q_callVj (av := [zi p1]) (rest := []) C (tX12_shownSet p1 q28) lkX12_456 kd_132 rfl rfl rfl (Nat.le_of_ble_eq_true rfl) ⟨by decide, by decide⟩ dX12_needs_196 (fun q29 _ => ?_)
    refine r_lstore_n (al' := [some (zr 132), some (zi p1), some (zl q29.1), none, none, none]) C dX12_needs_199 rfl (by rw [hn]; decide) rfl ?_
    refine r_aload_n C dX12_needs_200 rfl rfl ?_
    refine r_lconst C dX12_needs_201 rfl ?_
    refine q_putl C clX12 kd_132 (k := 39) (by decide) flX12_460 rfl dX12_needs_202 rfl rfl (fun M30 => ?_)
    refine r_iconst C dX12_needs_205 (by decide) ?_
    refine r_istore (al' := [some (zr 132), some (zi p1), some (zl q29.1), none, some (zi 0), none]) C dX12_needs_206 (by rw [hn]; decide) rfl ?_
    refine r_less [true, false, true, false, true, false] rfl ?_
    refine r_lp (S := Int × Mem) (R := Mem) (pcX := 268) (AL := fun s31 => [some (zr 132), none, some (zl q29.1), none, some (zi s31.1), none]) (MM := fun s31 => s31.2) (AX := fun q39 => [some (zr 132), none, none, none, none, none]) (MX := fun q39 => q39) ?_ ?_ (0, M30)
    · intro q39
      refine r_aload_n C dX12_needs_268 rfl rfl ?_
      refine r_aload_n C dX12_needs_269 rfl rfl ?_
      refine q_getl C clX12 kd_132 (k := 39) (by decide) flX12_460 dX12_needs_270 (kz := 39) rfl rfl ?_
      refine q_putl C clX12 kd_132 (k := 38) (by decide) flX12_464 rfl dX12_needs_273 rfl rfl (fun M40 => ?_)
      refine r_aload_n C dX12_needs_276 rfl rfl ?_
      refine q_callVi (av := []) (rest := []) C (tX12_values  M40) lkX12_352 kd_132 rfl rfl rfl (Nat.le_of_ble_eq_true rfl) ⟨by decide, by decide⟩ dX12_needs_277 (fun q41 _ => ?_)
      refine r_iconst C dX12_needs_280 (by decide) ?_
      refine r_isub C dX12_needs_281 ?_
      refine r_let (fun v42 _ => ?_)
      refine r_istore (al' := [some (zr 132), none, none, none, some (zi v42), none]) C dX12_needs_282 (by rw [hn]; decide) rfl ?_
      refine r_lp (S := Int × Mem) (R := Mem) (pcX := 460) (AL := fun s43 => [some (zr 132), none, none, none, some (zi s43.1), none]) (MM := fun s43 => s43.2) (AX := fun q68 => [none, none, none, none, none, none]) (MX := fun q68 => q68) ?_ ?_ (v42, q41.2)
      · intro q68
        exact r_return C dX12_needs_460 rfl
      · intro gs43 hCs43 hXs43 s43
        unfold fX12_needs_b4
        refine r_iload C dX12_needs_284 rfl ?_
        refine q_if_lt (tgt := 460) C dX12_needs_286 (by decide) (fun _ => ?_) (fun _ => ?_)
        · refine r_less [false, false, false, false, false, false] rfl ?_
          exact hXs43 s43.2
        · refine r_aload_n C dX12_needs_289 rfl rfl ?_
          refine r_getp C clX12 kd_132 (k := 37) (by decide) flX12_196 dX12_needs_290 pt_132_37 ?_
          refine r_iload C dX12_needs_293 rfl ?_
          refine r_iconst C dX12_needs_295 (by decide) ?_
          refine r_iastore C dX12_needs_296 (fun M44 _ => ?_)
          refine r_aload_n C dX12_needs_297 rfl rfl ?_
          refine r_dup C dX12_needs_298 rfl ?_
          refine q_getl C clX12 kd_132 (k := 38) (by decide) flX12_464 dX12_needs_299 (kz := 38) rfl rfl ?_
          refine r_aload_n C dX12_needs_302 rfl rfl ?_
          refine q_getl C clX12 kd_132 (k := 38) (by decide) flX12_464 dX12_needs_303 (kz := 38) rfl rfl ?_
          refine r_iload C dX12_needs_306 rfl ?_
          refine q_callSi (av := [zl (M44 132 38), zi s43.1]) (rest := [zl (M44 132 38), zr 132]) C (tX12_has (M44 132 38) s43.1 M44) lkX12_449 rfl rfl (Nat.le_of_ble_eq_true rfl) ⟨by decide, by decide⟩ dX12_needs_308 (fun q45 _ => ?_)
          refine r_join (γ := Int) (pcJ := fun _ => 325) (al' := fun q47 => [some (zr 132), none, none, none, some (zi s43.1), none]) (st' := fun q47 => [zl q47, zl (M44 132 38), zr 132]) (M' := fun q47 => q45.2) ?_ ?_
          · intro q47
            refine r_lor C dX12_needs_325 ?_
            refine q_putl C clX12 kd_132 (k := 38) (by decide) flX12_464 rfl dX12_needs_326 rfl rfl (fun M48 => ?_)
            refine r_iload C dX12_needs_329 rfl ?_
            refine r_iconst C dX12_needs_331 (by decide) ?_
            refine r_iadd C dX12_needs_332 ?_
            refine r_let (fun v49 _ => ?_)
            refine r_istore (al' := [some (zr 132), none, none, none, some (zi s43.1), some (zi v49)]) C dX12_needs_333 (by rw [hn]; decide) rfl ?_
            refine r_lp (S := Int × Mem) (R := Mem) (pcX := 427) (AL := fun s50 => [some (zr 132), none, none, none, some (zi s43.1), some (zi s50.1)]) (MM := fun s50 => s50.2) (AX := fun q63 => [some (zr 132), none, none, none, some (zi s43.1), none]) (MX := fun q63 => q63) ?_ ?_ (v49, M48)
            · intro q63
              refine r_aload_n C dX12_needs_427 rfl rfl ?_
              refine r_getp C clX12 kd_132 (k := 37) (by decide) flX12_196 dX12_needs_428 pt_132_37 ?_
              refine r_iload C dX12_needs_431 rfl ?_
              refine r_dup2 C dX12_needs_433 rfl rfl ?_
              refine r_iaload C dX12_needs_434 (fun v64 _ => ?_)
              refine r_aload_n C dX12_needs_435 rfl rfl ?_
              refine q_getl C clX12 kd_132 (k := 38) (by decide) flX12_464 dX12_needs_436 (kz := 38) rfl rfl ?_
              refine r_iload C dX12_needs_439 rfl ?_
              refine q_callSi (av := [zl (q63 132 38), zi s43.1]) (rest := [zi v64, zi s43.1, zr 161]) C (tX12_has (q63 132 38) s43.1 q63) lkX12_449 rfl rfl (Nat.le_of_ble_eq_true rfl) ⟨by decide, by decide⟩ dX12_needs_441 (fun q65 _ => ?_)
              refine r_join (γ := Int) (pcJ := fun _ => 452) (al' := fun q66 => [some (zr 132), none, none, none, some (zi s43.1), none]) (st' := fun q66 => [zi q66, zi v64, zi s43.1, zr 161]) (M' := fun q66 => q65.2) ?_ ?_
              · intro q66
                refine r_iadd C dX12_needs_452 ?_
                refine r_iastore C dX12_needs_453 (fun M67 _ => ?_)
                refine r_iinc (al' := [some (zr 132), none, none, none, some (zi (w32 (s43.1 + (-1)))), none]) C dX12_needs_454 rfl (by rw [hn]; decide) rfl ?_
                refine r_goto (tgt := 284) C dX12_needs_457 (by decide) ?_
                exact hCs43 (w32 (s43.1 + (-1)), M67)
              · intro hJq66
                refine q_if_eq (tgt := 451) C dX12_needs_444 (by decide) (fun _ => ?_) (fun _ => ?_)
                · refine r_iconst C dX12_needs_451 (by decide) ?_
                  exact hJq66 0
                · refine r_iconst C dX12_needs_447 (by decide) ?_
                  refine r_goto (tgt := 452) C dX12_needs_448 (by decide) ?_
                  exact hJq66 1
            · intro gs50 hCs50 hXs50 s50
              unfold fX12_needs_b5
              refine r_iload C dX12_needs_335 rfl ?_
              refine r_aload_n C dX12_needs_337 rfl rfl ?_
              refine q_callVi (av := []) (rest := [zi s50.1]) C (tX12_values  s50.2) lkX12_352 kd_132 rfl rfl rfl (Nat.le_of_ble_eq_true rfl) ⟨by decide, by decide⟩ dX12_needs_338 (fun q51 _ => ?_)
              refine q_icmp_ge (tgt := 427) C dX12_needs_341 (by decide) (fun _ => ?_) (fun _ => ?_)
              · refine r_less [true, false, false, false, true, false] rfl ?_
                exact hXs50 q51.2
              · refine r_aload_n C dX12_needs_344 rfl rfl ?_
                refine q_getl C clX12 kd_132 (k := 38) (by decide) flX12_464 dX12_needs_345 (kz := 38) rfl rfl ?_
                refine r_iload C dX12_needs_348 rfl ?_
                refine q_callSi (av := [zl (q51.2 132 38), zi s43.1]) (rest := []) C (tX12_has (q51.2 132 38) s43.1 q51.2) lkX12_449 rfl rfl (Nat.le_of_ble_eq_true rfl) ⟨by decide, by decide⟩ dX12_needs_350 (fun q52 _ => ?_)
                refine q_if_eq (tgt := 427) C dX12_needs_353 (by decide) (fun _ => ?_) (fun _ => ?_)
                · refine r_less [true, false, false, false, true, false] rfl ?_
                  exact hXs50 q52.2
                · refine r_aload_n C dX12_needs_356 rfl rfl ?_
                  refine q_getl C clX12 kd_132 (k := 38) (by decide) flX12_464 dX12_needs_357 (kz := 38) rfl rfl ?_
                  refine r_iload C dX12_needs_360 rfl ?_
                  refine q_callSi (av := [zl (q52.2 132 38), zi s50.1]) (rest := []) C (tX12_has (q52.2 132 38) s50.1 q52.2) lkX12_449 rfl rfl (Nat.le_of_ble_eq_true rfl) ⟨by decide, by decide⟩ dX12_needs_362 (fun q53 _ => ?_)
                  refine r_join (γ := Mem) (pcJ := fun _ => 421) (al' := fun q62 => [some (zr 132), none, none, none, some (zi s43.1), some (zi s50.1)]) (st' := fun q62 => []) (M' := fun q62 => q62) ?_ ?_
                  · intro q62
                    refine r_iinc (al' := [some (zr 132), none, none, none, some (zi s43.1), some (zi (w32 (s50.1 + 1)))]) C dX12_needs_421 rfl (by rw [hn]; decide) rfl ?_
                    refine r_goto (tgt := 335) C dX12_needs_424 (by decide) ?_
                    exact hCs50 (w32 (s50.1 + 1), q62)
                  · intro hJq62
                    refine q_if_eq (tgt := 421) C dX12_needs_365 (by decide) (fun _ => ?_) (fun _ => ?_)
                    · exact hJq62 q53.2
                    · refine r_aload_n C dX12_needs_368 rfl rfl ?_
                      refine r_getp C clX12 kd_132 (k := 35) (by decide) flX12_190 dX12_needs_369 pt_132_35 ?_
                      refine r_iload C dX12_needs_372 rfl ?_
                      refine r_laload C dX12_needs_374 (fun v54 _ => ?_)
                      refine r_iload C dX12_needs_375 rfl ?_
                      refine q_callSi (av := [zl v54, zi s43.1]) (rest := []) C (tX12_has v54 s43.1 q53.2) lkX12_449 rfl rfl (Nat.le_of_ble_eq_true rfl) ⟨by decide, by decide⟩ dX12_needs_377 (fun q55 _ => ?_)
                      refine q_if_eq (tgt := 421) C dX12_needs_380 (by decide) (fun _ => ?_) (fun _ => ?_)
                      · exact hJq62 q55.2
                      · refine r_aload_n C dX12_needs_383 rfl rfl ?_
                        refine r_getp C clX12 kd_132 (k := 36) (by decide) flX12_193 dX12_needs_384 pt_132_36 ?_
                        refine r_iload C dX12_needs_387 rfl ?_
                        refine r_dup2 C dX12_needs_389 rfl rfl ?_
                        refine r_laload C dX12_needs_390 (fun v56 _ => ?_)
                        refine r_lconst C dX12_needs_391 rfl ?_
                        refine r_iload C dX12_needs_392 rfl ?_
                        refine r_lshl C dX12_needs_394 ?_
                        refine r_lor C dX12_needs_395 ?_
                        refine r_lastore C dX12_needs_396 (fun M57 _ => ?_)
                        refine r_aload_n C dX12_needs_397 rfl rfl ?_
                        refine r_getp C clX12 kd_132 (k := 37) (by decide) flX12_196 dX12_needs_398 pt_132_37 ?_
                        refine r_iload C dX12_needs_401 rfl ?_
                        refine r_aload_n C dX12_needs_403 rfl rfl ?_
                        refine r_getp C clX12 kd_132 (k := 37) (by decide) flX12_196 dX12_needs_404 pt_132_37 ?_
                        refine r_iload C dX12_needs_407 rfl ?_
                        refine r_iaload C dX12_needs_409 (fun v58 _ => ?_)
                        refine r_aload_n C dX12_needs_410 rfl rfl ?_
                        refine r_getp C clX12 kd_132 (k := 37) (by decide) flX12_196 dX12_needs_411 pt_132_37 ?_
                        refine r_iload C dX12_needs_414 rfl ?_
                        refine r_iaload C dX12_needs_416 (fun v59 _ => ?_)
                        refine q_callSi (av := [zi v58, zi v59]) (rest := [zi s43.1, zr 161]) C (tX12_greater v58 v59 M57) lkX12_385 rfl rfl (Nat.le_of_ble_eq_true rfl) ⟨by decide, by decide⟩ dX12_needs_417 (fun q60 _ => ?_)
                        refine r_iastore C dX12_needs_420 (fun M61 _ => ?_)
                        exact hJq62 M61
          · intro hJq47
            refine q_if_eq (tgt := 324) C dX12_needs_311 (by decide) (fun _ => ?_) (fun _ => ?_)
            · refine r_lconst C dX12_needs_324 rfl ?_
              exact hJq47 0
            · refine r_aload_n C dX12_needs_314 rfl rfl ?_
              refine r_getp C clX12 kd_132 (k := 35) (by decide) flX12_190 dX12_needs_315 pt_132_35 ?_
              refine r_iload C dX12_needs_318 rfl ?_
              refine r_laload C dX12_needs_320 (fun v46 _ => ?_)
              refine r_goto (tgt := 325) C dX12_needs_321 (by decide) ?_
              exact hJq47 v46
    · intro gs31 hCs31 hXs31 s31
      unfold fX12_needs_b3
      refine r_iload C dX12_needs_208 rfl ?_
      refine r_aload_n C dX12_needs_210 rfl rfl ?_
      refine q_callVi (av := []) (rest := [zi s31.1]) C (tX12_values  s31.2) lkX12_352 kd_132 rfl rfl rfl (Nat.le_of_ble_eq_true rfl) ⟨by decide, by decide⟩ dX12_needs_211 (fun q32 _ => ?_)
      refine q_icmp_ge (tgt := 268) C dX12_needs_214 (by decide) (fun _ => ?_) (fun _ => ?_)
      · refine r_less [true, false, false, false, false, false] rfl ?_
        exact hXs31 q32.2
      · refine r_aload_n C dX12_needs_217 rfl rfl ?_
        refine r_dup C dX12_needs_218 rfl ?_
        refine q_getl C clX12 kd_132 (k := 39) (by decide) flX12_460 dX12_needs_219 (kz := 39) rfl rfl ?_
        refine r_lload_n C dX12_needs_222 rfl rfl ?_
        refine r_iload C dX12_needs_223 rfl ?_
        refine q_callSi (av := [zl q29.1, zi s31.1]) (rest := [zl (q32.2 132 39), zr 132]) C (tX12_has q29.1 s31.1 q32.2) lkX12_449 rfl rfl (Nat.le_of_ble_eq_true rfl) ⟨by decide, by decide⟩ dX12_needs_225 (fun q33 _ => ?_)
        refine r_join (γ := Int × Mem) (pcJ := fun _ => 258) (al' := fun q37 => [some (zr 132), none, some (zl q29.1), none, some (zi s31.1), none]) (st' := fun q37 => [zl q37.1, zl (q32.2 132 39), zr 132]) (M' := fun q37 => q37.2) ?_ ?_
        · intro q37
          refine r_lor C dX12_needs_258 ?_
          refine q_putl C clX12 kd_132 (k := 39) (by decide) flX12_460 rfl dX12_needs_259 rfl rfl (fun M38 => ?_)
          refine r_iinc (al' := [some (zr 132), none, some (zl q29.1), none, some (zi (w32 (s31.1 + 1))), none]) C dX12_needs_262 rfl (by rw [hn]; decide) rfl ?_
          refine r_goto (tgt := 208) C dX12_needs_265 (by decide) ?_
          exact hCs31 (w32 (s31.1 + 1), M38)
        · intro hJq37
          refine q_if_eq (tgt := 257) C dX12_needs_228 (by decide) (fun _ => ?_) (fun _ => ?_)
          · refine r_lconst C dX12_needs_257 rfl ?_
            exact hJq37 (0, q33.2)
          · refine r_aload_n C dX12_needs_231 rfl rfl ?_
            refine r_aload_n C dX12_needs_232 rfl rfl ?_
            refine r_getp C clX12 kd_132 (k := 34) (by decide) flX12_187 dX12_needs_233 pt_132_34 ?_
            refine r_iload C dX12_needs_236 rfl ?_
            refine r_iaload C dX12_needs_238 (fun v34 _ => ?_)
            refine q_callVi (av := [zi v34]) (rest := [zl (q32.2 132 39), zr 132]) C (tX12_isKnown v34 q33.2) lkX12_453 kd_132 rfl rfl rfl (Nat.le_of_ble_eq_true rfl) ⟨by decide, by decide⟩ dX12_needs_239 (fun q35 _ => ?_)
            refine q_if_ne (tgt := 257) C dX12_needs_242 (by decide) (fun _ => ?_) (fun _ => ?_)
            · refine r_lconst C dX12_needs_257 rfl ?_
              exact hJq37 (0, q35.2)
            · refine r_lconst C dX12_needs_245 rfl ?_
              refine r_aload_n C dX12_needs_246 rfl rfl ?_
              refine r_getp C clX12 kd_132 (k := 34) (by decide) flX12_187 dX12_needs_247 pt_132_34 ?_
              refine r_iload C dX12_needs_250 rfl ?_
              refine r_iaload C dX12_needs_252 (fun v36 _ => ?_)
              refine r_lshl C dX12_needs_253 ?_
              refine r_goto (tgt := 258) C dX12_needs_254 (by decide) ?_
              exact hJq37 (lshl 1 v36, q35.2)
  · intro gs1 hCs1 hXs1 s1
    unfold fX12_needs_b1
    refine r_iload_n C dX12_needs_2 rfl rfl ?_
    refine r_aload_n C dX12_needs_3 rfl rfl ?_
    refine q_callVi (av := []) (rest := [zi s1.1]) C (tX12_values  s1.2) lkX12_352 kd_132 rfl rfl rfl (Nat.le_of_ble_eq_true rfl) ⟨by decide, by decide⟩ dX12_needs_4 (fun q2 _ => ?_)
    refine q_icmp_ge (tgt := 194) C dX12_needs_7 (by decide) (fun _ => ?_) (fun _ => ?_)
    · refine r_less [true, true, false, false, false, false] rfl ?_
      exact hXs1 q2.2
    · refine r_aload_n C dX12_needs_10 rfl rfl ?_
      refine r_iload_n C dX12_needs_11 rfl rfl ?_
      refine q_callVi (av := [zi s1.1]) (rest := []) C (tX12_howOf s1.1 q2.2) lkX12_391 kd_132 rfl rfl rfl (Nat.le_of_ble_eq_true rfl) ⟨by decide, by decide⟩ dX12_needs_12 (fun q3 _ => ?_)
      refine r_bipush C dX12_needs_15 (by decide) ?_
      refine r_join (γ := Int × Mem) (pcJ := fun _ => 46) (al' := fun q7 => [some (zr 132), some (zi p1), some (zi s1.1), none, none, none]) (st' := fun q7 => [zi q7.1]) (M' := fun q7 => q7.2) ?_ ?_
      · intro q7
        refine r_istore_n (al' := [some (zr 132), some (zi p1), some (zi s1.1), some (zi q7.1), none, none]) C dX12_needs_46 rfl (by rw [hn]; decide) rfl ?_
        refine r_aload_n C dX12_needs_47 rfl rfl ?_
        refine r_getp C clX12 kd_132 (k := 34) (by decide) flX12_187 dX12_needs_48 pt_132_34 ?_
        refine r_iload_n C dX12_needs_51 rfl rfl ?_
        refine r_iload_n C dX12_needs_52 rfl rfl ?_
        refine r_join (γ := Int × Mem) (pcJ := fun _ => 90) (al' := fun q13 => [some (zr 132), some (zi p1), some (zi s1.1), none, none, none]) (st' := fun q13 => [zi q13.1, zi s1.1, zr 158]) (M' := fun q13 => q13.2) ?_ ?_
        · intro q13
          refine r_iastore C dX12_needs_90 (fun M14 _ => ?_)
          refine r_aload_n C dX12_needs_91 rfl rfl ?_
          refine r_getp C clX12 kd_132 (k := 35) (by decide) flX12_190 dX12_needs_92 pt_132_35 ?_
          refine r_iload_n C dX12_needs_95 rfl rfl ?_
          refine r_lconst C dX12_needs_96 rfl ?_
          refine r_lastore C dX12_needs_97 (fun M15 _ => ?_)
          refine r_iconst C dX12_needs_98 (by decide) ?_
          refine r_istore (al' := [some (zr 132), some (zi p1), some (zi s1.1), none, some (zi 0), none]) C dX12_needs_99 (by rw [hn]; decide) rfl ?_
          refine r_lp (S := Int × Mem) (R := Mem) (pcX := 181) (AL := fun s16 => [some (zr 132), some (zi p1), some (zi s1.1), none, some (zi s16.1), none]) (MM := fun s16 => s16.2) (AX := fun q26 => [some (zr 132), some (zi p1), some (zi s1.1), none, none, none]) (MX := fun q26 => q26) ?_ ?_ (0, M15)
          · intro q26
            refine r_aload_n C dX12_needs_181 rfl rfl ?_
            refine r_getp C clX12 kd_132 (k := 36) (by decide) flX12_193 dX12_needs_182 pt_132_36 ?_
            refine r_iload_n C dX12_needs_185 rfl rfl ?_
            refine r_lconst C dX12_needs_186 rfl ?_
            refine r_lastore C dX12_needs_187 (fun M27 _ => ?_)
            refine r_iinc (al' := [some (zr 132), some (zi p1), some (zi (w32 (s1.1 + 1))), none, none, none]) C dX12_needs_188 rfl (by rw [hn]; decide) rfl ?_
            refine r_goto (tgt := 2) C dX12_needs_191 (by decide) ?_
            exact hCs1 (w32 (s1.1 + 1), M27)
          · intro gs16 hCs16 hXs16 s16
            unfold fX12_needs_b2
            refine r_iload C dX12_needs_101 rfl ?_
            refine r_iconst C dX12_needs_103 (by decide) ?_
            refine q_icmp_ge (tgt := 181) C dX12_needs_104 (by decide) (fun _ => ?_) (fun _ => ?_)
            · refine r_less [true, true, true, false, false, false] rfl ?_
              exact hXs16 s16.2
            · refine r_aload_n C dX12_needs_107 rfl rfl ?_
              refine r_iload_n C dX12_needs_108 rfl rfl ?_
              refine q_callVi (av := [zi s1.1]) (rest := []) C (tX12_howOf s1.1 s16.2) lkX12_391 kd_132 rfl rfl rfl (Nat.le_of_ble_eq_true rfl) ⟨by decide, by decide⟩ dX12_needs_109 (fun q17 _ => ?_)
              refine r_iconst C dX12_needs_112 (by decide) ?_
              refine q_icmp_lt (tgt := 181) C dX12_needs_113 (by decide) (fun _ => ?_) (fun _ => ?_)
              · refine r_less [true, true, true, false, false, false] rfl ?_
                exact hXs16 q17.2
              · refine r_aload_n C dX12_needs_116 rfl rfl ?_
                refine r_iload_n C dX12_needs_117 rfl rfl ?_
                refine r_iload C dX12_needs_118 rfl ?_
                refine q_callVi (av := [zi s1.1, zi s16.1]) (rest := []) C (tX12_argOf s1.1 s16.1 q17.2) lkX12_388 kd_132 rfl rfl rfl (Nat.le_of_ble_eq_true rfl) ⟨by decide, by decide⟩ dX12_needs_120 (fun q18 _ => ?_)
                refine r_join (γ := Int × Mem) (pcJ := fun _ => 142) (al' := fun q21 => [some (zr 132), some (zi p1), some (zi s1.1), none, some (zi s16.1), none]) (st' := fun q21 => [zi q21.1]) (M' := fun q21 => q21.2) ?_ ?_
                · intro q21
                  refine r_istore (al' := [some (zr 132), some (zi p1), some (zi s1.1), none, some (zi s16.1), some (zi q21.1)]) C dX12_needs_142 (by rw [hn]; decide) rfl ?_
                  refine r_aload_n C dX12_needs_144 rfl rfl ?_
                  refine r_getp C clX12 kd_132 (k := 35) (by decide) flX12_190 dX12_needs_145 pt_132_35 ?_
                  refine r_iload_n C dX12_needs_148 rfl rfl ?_
                  refine r_dup2 C dX12_needs_149 rfl rfl ?_
                  refine r_laload C dX12_needs_150 (fun v22 _ => ?_)
                  refine r_iload C dX12_needs_151 rfl ?_
                  refine r_join (γ := Int × Mem) (pcJ := fun _ => 173) (al' := fun q24 => [some (zr 132), some (zi p1), some (zi s1.1), none, some (zi s16.1), none]) (st' := fun q24 => [zl q24.1, zl v22, zi s1.1, zr 159]) (M' := fun q24 => q24.2) ?_ ?_
                  · intro q24
                    refine r_lor C dX12_needs_173 ?_
                    refine r_lastore C dX12_needs_174 (fun M25 _ => ?_)
                    refine r_iinc (al' := [some (zr 132), some (zi p1), some (zi s1.1), none, some (zi (w32 (s16.1 + 1))), none]) C dX12_needs_175 rfl (by rw [hn]; decide) rfl ?_
                    refine r_goto (tgt := 101) C dX12_needs_178 (by decide) ?_
                    exact hCs16 (w32 (s16.1 + 1), M25)
                  · intro hJq24
                    refine q_if_lt (tgt := 172) C dX12_needs_153 (by decide) (fun _ => ?_) (fun _ => ?_)
                    · refine r_lconst C dX12_needs_172 rfl ?_
                      refine r_less [true, true, true, false, true, false] rfl ?_
                      exact hJq24 (0, q21.2)
                    · refine r_aload_n C dX12_needs_156 rfl rfl ?_
                      refine r_iload C dX12_needs_157 rfl ?_
                      refine q_callVi (av := [zi q21.1]) (rest := [zl v22, zi s1.1, zr 159]) C (tX12_isKnown q21.1 q21.2) lkX12_453 kd_132 rfl rfl rfl (Nat.le_of_ble_eq_true rfl) ⟨by decide, by decide⟩ dX12_needs_159 (fun q23 _ => ?_)
                      refine q_if_ne (tgt := 172) C dX12_needs_162 (by decide) (fun _ => ?_) (fun _ => ?_)
                      · refine r_lconst C dX12_needs_172 rfl ?_
                        refine r_less [true, true, true, false, true, false] rfl ?_
                        exact hJq24 (0, q23.2)
                      · refine r_lconst C dX12_needs_165 rfl ?_
                        refine r_iload C dX12_needs_166 rfl ?_
                        refine r_lshl C dX12_needs_168 ?_
                        refine r_goto (tgt := 173) C dX12_needs_169 (by decide) ?_
                        refine r_less [true, true, true, false, true, false] rfl ?_
                        exact hJq24 (lshl 1 q21.1, q23.2)
                · intro hJq21
                  refine q_if_ge (tgt := 130) C dX12_needs_123 (by decide) (fun _ => ?_) (fun _ => ?_)
                  · refine r_aload_n C dX12_needs_130 rfl rfl ?_
                    refine r_getp C clX12 kd_132 (k := 34) (by decide) flX12_187 dX12_needs_131 pt_132_34 ?_
                    refine r_aload_n C dX12_needs_134 rfl rfl ?_
                    refine r_iload_n C dX12_needs_135 rfl rfl ?_
                    refine r_iload C dX12_needs_136 rfl ?_
                    refine q_callVi (av := [zi s1.1, zi s16.1]) (rest := [zr 158]) C (tX12_argOf s1.1 s16.1 q18.2) lkX12_388 kd_132 rfl rfl rfl (Nat.le_of_ble_eq_true rfl) ⟨by decide, by decide⟩ dX12_needs_138 (fun q19 _ => ?_)
                    refine r_iaload C dX12_needs_141 (fun v20 _ => ?_)
                    exact hJq21 (v20, q19.2)
                  · refine r_iconst C dX12_needs_126 (by decide) ?_
                    refine r_goto (tgt := 142) C dX12_needs_127 (by decide) ?_
                    exact hJq21 ((-1), q18.2)
        · intro hJq13
          refine q_if_eq (tgt := 89) C dX12_needs_53 (by decide) (fun _ => ?_) (fun _ => ?_)
          · refine r_iload_n C dX12_needs_89 rfl rfl ?_
            refine r_less [true, true, true, false, false, false] rfl ?_
            exact hJq13 (s1.1, q7.2)
          · refine r_aload_n C dX12_needs_56 rfl rfl ?_
            refine r_getp C clX12 kd_132 (k := 34) (by decide) flX12_187 dX12_needs_57 pt_132_34 ?_
            refine r_aload_n C dX12_needs_60 rfl rfl ?_
            refine r_iload_n C dX12_needs_61 rfl rfl ?_
            refine r_aload_n C dX12_needs_62 rfl rfl ?_
            refine r_getp C clX12 kd_132 (k := 29) (by decide) flX12_171 dX12_needs_63 pt_132_29 ?_
            refine r_aload_n C dX12_needs_66 rfl rfl ?_
            refine r_iload_n C dX12_needs_67 rfl rfl ?_
            refine r_iconst C dX12_needs_68 (by decide) ?_
            refine q_callVi (av := [zi s1.1, zi 0]) (rest := [zr 153, zi s1.1, zr 132, zr 158, zi s1.1, zr 158]) C (tX12_argOf s1.1 0 q7.2) lkX12_388 kd_132 rfl rfl rfl (Nat.le_of_ble_eq_true rfl) ⟨by decide, by decide⟩ dX12_needs_69 (fun q8 _ => ?_)
            refine r_iaload C dX12_needs_72 (fun v9 _ => ?_)
            refine r_iconst C dX12_needs_73 (by decide) ?_
            refine r_join (γ := Int) (pcJ := fun _ => 82) (al' := fun q10 => [some (zr 132), some (zi p1), some (zi s1.1), none, none, none]) (st' := fun q10 => [zi q10, zi s1.1, zr 132, zr 158, zi s1.1, zr 158]) (M' := fun q10 => q8.2) ?_ ?_
            · intro q10
              refine q_callVi (av := [zi s1.1, zi q10]) (rest := [zr 158, zi s1.1, zr 158]) C (tX12_argOf s1.1 q10 q8.2) lkX12_388 kd_132 rfl rfl rfl (Nat.le_of_ble_eq_true rfl) ⟨by decide, by decide⟩ dX12_needs_82 (fun q11 _ => ?_)
              refine r_iaload C dX12_needs_85 (fun v12 _ => ?_)
              refine r_goto (tgt := 90) C dX12_needs_86 (by decide) ?_
              exact hJq13 (v12, q11.2)
            · intro hJq10
              refine q_icmp_ne (tgt := 81) C dX12_needs_74 (by decide) (fun _ => ?_) (fun _ => ?_)
              · refine r_iconst C dX12_needs_81 (by decide) ?_
                refine r_less [true, true, true, false, false, false] rfl ?_
                exact hJq10 2
              · refine r_iconst C dX12_needs_77 (by decide) ?_
                refine r_goto (tgt := 82) C dX12_needs_78 (by decide) ?_
                refine r_less [true, true, true, false, false, false] rfl ?_
                exact hJq10 1
      · intro hJq7
        refine q_icmp_ne (tgt := 45) C dX12_needs_17 (by decide) (fun _ => ?_) (fun _ => ?_)
        · refine r_iconst C dX12_needs_45 (by decide) ?_
          exact hJq7 (0, q3.2)
        · refine r_aload_n C dX12_needs_20 rfl rfl ?_
          refine r_iload_n C dX12_needs_21 rfl rfl ?_
          refine q_callVi (av := [zi s1.1]) (rest := []) C (tX12_isKnown s1.1 q3.2) lkX12_453 kd_132 rfl rfl rfl (Nat.le_of_ble_eq_true rfl) ⟨by decide, by decide⟩ dX12_needs_22 (fun q4 _ => ?_)
          refine q_if_ne (tgt := 45) C dX12_needs_25 (by decide) (fun _ => ?_) (fun _ => ?_)
          · refine r_iconst C dX12_needs_45 (by decide) ?_
            exact hJq7 (0, q4.2)
          · refine r_aload_n C dX12_needs_28 rfl rfl ?_
            refine r_aload_n C dX12_needs_29 rfl rfl ?_
            refine r_iload_n C dX12_needs_30 rfl rfl ?_
            refine r_iconst C dX12_needs_31 (by decide) ?_
            refine q_callVi (av := [zi s1.1, zi 0]) (rest := [zr 132]) C (tX12_argOf s1.1 0 q4.2) lkX12_388 kd_132 rfl rfl rfl (Nat.le_of_ble_eq_true rfl) ⟨by decide, by decide⟩ dX12_needs_32 (fun q5 _ => ?_)
            refine q_callVi (av := [zi q5.1]) (rest := []) C (tX12_isKnown q5.1 q5.2) lkX12_453 kd_132 rfl rfl rfl (Nat.le_of_ble_eq_true rfl) ⟨by decide, by decide⟩ dX12_needs_35 (fun q6 _ => ?_)
            refine q_if_eq (tgt := 45) C dX12_needs_38 (by decide) (fun _ => ?_) (fun _ => ?_)
            · refine r_iconst C dX12_needs_45 (by decide) ?_
              exact hJq7 (0, q6.2)
            · refine r_iconst C dX12_needs_41 (by decide) ?_
              refine r_goto (tgt := 46) C dX12_needs_42 (by decide) ?_
              exact hJq7 (1, q6.2)
set_option maxRecDepth 100000 in
set_option maxHeartbeats 4000000 in
theorem tX12_all0  (M : Mem) : Cn yX12_all0 cX12_all0 1 none 5 125 [zr 132] M ((fX12_all0  M).map oU) := by
  refine Cn_mk (own := RX12) rfl (by decide) (Nat.le_of_ble_eq_true rfl) [some (zr 132)] rfl (fun G C hn => ?_)
  unfold fX12_all0
  refine r_aload_n C dX12_all0_0 rfl rfl ?_
  refine r_iconst C dX12_all0_1 (by decide) ?_
  refine r_iconst C dX12_all0_2 (by decide) ?_
  refine r_iconst C dX12_all0_3 (by decide) ?_
  refine q_callVv (av := [zi (-1), zi 0, zi 0]) (rest := []) C (tX12_rangesWith (-1) 0 0 M) lkX12_428 kd_132 rfl rfl rfl (Nat.le_of_ble_eq_true rfl) ⟨by decide, by decide⟩ dX12_all0_4 (fun q1 _ => ?_)
  refine r_aload_n C dX12_all0_7 rfl rfl ?_
  refine r_iconst C dX12_all0_8 (by decide) ?_
  refine q_callVv (av := [zi (-1)]) (rest := []) C (tX12_needs (-1) q1) lkX12_467 kd_132 rfl rfl rfl (Nat.le_of_ble_eq_true rfl) ⟨by decide, by decide⟩ dX12_all0_9 (fun q2 _ => ?_)
  exact r_return C dX12_all0_12 rfl
set_option maxRecDepth 100000 in
set_option maxHeartbeats 4000000 in
theorem tX12_farKin (p1 : Int) (p2 : Int) (M : Mem) : Cn yX12_farKin cX12_farKin 7 (some .long) 1 22 [zr 132, zi p1, zi p2] M ((fX12_farKin p1 p2 M).map oJ) := by
  refine Cn_mk (own := RX12) rfl (by decide) (Nat.le_of_ble_eq_true rfl) [some (zr 132), some (zi p1), some (zi p2), none, none, none, none] rfl (fun G C hn => ?_)
  unfold fX12_farKin
  refine r_iload_n C dX12_farKin_0 rfl rfl ?_
  refine r_join (γ := Int) (pcJ := fun _ => 19) (al' := fun q3 => [some (zr 132), none, some (zi p2), none, none, none, none]) (st' := fun q3 => [zl q3]) (M' := fun q3 => M) ?_ ?_
  · intro q3
    refine r_lstore_n (al' := [some (zr 132), none, some (zi p2), some (zl q3), none, none, none]) C dX12_farKin_19 rfl (by rw [hn]; decide) rfl ?_
    refine r_iconst C dX12_farKin_20 (by decide) ?_
    refine r_istore (al' := [some (zr 132), none, some (zi p2), some (zl q3), none, some (zi 0), none]) C dX12_farKin_21 (by rw [hn]; decide) rfl ?_
    refine r_lp (S := Int × Int × Mem) (R := Int × Mem) (pcX := 89) (AL := fun s4 => [some (zr 132), none, some (zi p2), some (zl s4.1), none, some (zi s4.2.1), none]) (MM := fun s4 => s4.2.2) (AX := fun q11 => [none, none, none, some (zl q11.1), none, none, none]) (MX := fun q11 => q11.2) ?_ ?_ (q3, 0, M)
    · intro q11
      refine r_lload_n C dX12_farKin_89 rfl rfl ?_
      exact r_lreturn C dX12_farKin_90 rfl
    · intro gs4 hCs4 hXs4 s4
      unfold fX12_farKin_b1
      refine r_iload C dX12_farKin_23 rfl ?_
      refine r_bipush C dX12_farKin_25 (by decide) ?_
      refine q_icmp_ge (tgt := 89) C dX12_farKin_27 (by decide) (fun _ => ?_) (fun _ => ?_)
      · refine r_less [false, false, false, true, false, false, false] rfl ?_
        exact hXs4 (s4.1, s4.2.2)
      · refine r_iload_n C dX12_farKin_30 rfl rfl ?_
        refine r_join (γ := Int) (pcJ := fun _ => 44) (al' := fun q5 => [some (zr 132), none, some (zi p2), some (zl s4.1), none, some (zi s4.2.1), none]) (st' := fun q5 => [zi q5]) (M' := fun q5 => s4.2.2) ?_ ?_
        · intro q5
          refine r_istore (al' := [some (zr 132), none, some (zi p2), some (zl s4.1), none, some (zi s4.2.1), some (zi q5)]) C dX12_farKin_44 (by rw [hn]; decide) rfl ?_
          refine r_lload_n C dX12_farKin_46 rfl rfl ?_
          refine r_lload_n C dX12_farKin_47 rfl rfl ?_
          refine r_iload C dX12_farKin_48 rfl ?_
          refine q_callSi (av := [zl s4.1, zi q5]) (rest := [zl s4.1]) C (tX12_has s4.1 q5 s4.2.2) lkX12_449 rfl rfl (Nat.le_of_ble_eq_true rfl) ⟨by decide, by decide⟩ dX12_farKin_50 (fun q6 _ => ?_)
          refine r_join (γ := Int) (pcJ := fun _ => 81) (al' := fun q9 => [some (zr 132), none, some (zi p2), none, none, some (zi s4.2.1), none]) (st' := fun q9 => [zl q9, zl s4.1]) (M' := fun q9 => q6.2) ?_ ?_
          · intro q9
            refine r_lor C dX12_farKin_81 ?_
            refine r_letl (fun v10 _ => ?_)
            refine r_lstore_n (al' := [some (zr 132), none, some (zi p2), some (zl v10), none, some (zi s4.2.1), none]) C dX12_farKin_82 rfl (by rw [hn]; decide) rfl ?_
            refine r_iinc (al' := [some (zr 132), none, some (zi p2), some (zl v10), none, some (zi (w32 (s4.2.1 + 1))), none]) C dX12_farKin_83 rfl (by rw [hn]; decide) rfl ?_
            refine r_goto (tgt := 23) C dX12_farKin_86 (by decide) ?_
            exact hCs4 (v10, w32 (s4.2.1 + 1), q6.2)
          · intro hJq9
            refine q_if_eq (tgt := 80) C dX12_farKin_53 (by decide) (fun _ => ?_) (fun _ => ?_)
            · refine r_lconst C dX12_farKin_80 rfl ?_
              refine r_less [true, false, true, false, false, true, false] rfl ?_
              exact hJq9 0
            · refine r_iload_n C dX12_farKin_56 rfl rfl ?_
              refine q_if_eq (tgt := 70) C dX12_farKin_57 (by decide) (fun _ => ?_) (fun _ => ?_)
              · refine r_aload_n C dX12_farKin_70 rfl rfl ?_
                refine r_getp C clX12 kd_132 (k := 35) (by decide) flX12_190 dX12_farKin_71 pt_132_35 ?_
                refine r_iload C dX12_farKin_74 rfl ?_
                refine r_laload C dX12_farKin_76 (fun v7 _ => ?_)
                refine r_goto (tgt := 81) C dX12_farKin_77 (by decide) ?_
                refine r_less [true, false, true, false, false, true, false] rfl ?_
                exact hJq9 v7
              · refine r_aload_n C dX12_farKin_60 rfl rfl ?_
                refine r_getp C clX12 kd_132 (k := 36) (by decide) flX12_193 dX12_farKin_61 pt_132_36 ?_
                refine r_iload C dX12_farKin_64 rfl ?_
                refine r_laload C dX12_farKin_66 (fun v8 _ => ?_)
                refine r_goto (tgt := 81) C dX12_farKin_67 (by decide) ?_
                refine r_less [true, false, true, false, false, true, false] rfl ?_
                exact hJq9 v8
        · intro hJq5
          refine q_if_eq (tgt := 39) C dX12_farKin_31 (by decide) (fun _ => ?_) (fun _ => ?_)
          · refine r_bipush C dX12_farKin_39 (by decide) ?_
            refine r_iload C dX12_farKin_41 rfl ?_
            refine r_isub C dX12_farKin_43 ?_
            exact hJq5 (w32 (63 - s4.2.1))
          · refine r_iload C dX12_farKin_34 rfl ?_
            refine r_goto (tgt := 44) C dX12_farKin_36 (by decide) ?_
            exact hJq5 s4.2.1
  · intro hJq3
    refine q_if_eq (tgt := 13) C dX12_farKin_1 (by decide) (fun _ => ?_) (fun _ => ?_)
    · refine r_aload_n C dX12_farKin_13 rfl rfl ?_
      refine r_getp C clX12 kd_132 (k := 35) (by decide) flX12_190 dX12_farKin_14 pt_132_35 ?_
      refine r_iload_n C dX12_farKin_17 rfl rfl ?_
      refine r_laload C dX12_farKin_18 (fun v1 _ => ?_)
      refine r_less [true, false, true, false, false, false, false] rfl ?_
      exact hJq3 v1
    · refine r_aload_n C dX12_farKin_4 rfl rfl ?_
      refine r_getp C clX12 kd_132 (k := 36) (by decide) flX12_193 dX12_farKin_5 pt_132_36 ?_
      refine r_iload_n C dX12_farKin_8 rfl rfl ?_
      refine r_laload C dX12_farKin_9 (fun v2 _ => ?_)
      refine r_goto (tgt := 19) C dX12_farKin_10 (by decide) ?_
      refine r_less [true, false, true, false, false, false, false] rfl ?_
      exact hJq3 v2
set_option maxRecDepth 100000 in
set_option maxHeartbeats 4000000 in
theorem tX12_isNeeded (p1 : Int) (M : Mem) : Cn yX12_isNeeded cX12_isNeeded 2 (some .boolean) 2 41 [zr 132, zi p1] M ((fX12_isNeeded p1 M).map oI) := by
  refine Cn_mk (own := RX12) rfl (by decide) (Nat.le_of_ble_eq_true rfl) [some (zr 132), some (zi p1)] rfl (fun G C hn => ?_)
  unfold fX12_isNeeded
  refine r_aload_n C dX12_isNeeded_0 rfl rfl ?_
  refine r_iload_n C dX12_isNeeded_1 rfl rfl ?_
  refine q_callVi (av := [zi p1]) (rest := []) C (tX12_isValue p1 M) lkX12_422 kd_132 rfl rfl rfl (Nat.le_of_ble_eq_true rfl) ⟨by decide, by decide⟩ dX12_isNeeded_2 (fun q1 _ => ?_)
  refine r_join (γ := Int × Mem) (pcJ := fun _ => 24) (al' := fun q3 => [none, none]) (st' := fun q3 => [zi q3.1]) (M' := fun q3 => q3.2) ?_ ?_
  · intro q3
    exact r_zreturn C dX12_isNeeded_24 rfl
  · intro hJq3
    refine q_if_eq (tgt := 23) C dX12_isNeeded_5 (by decide) (fun _ => ?_) (fun _ => ?_)
    · refine r_iconst C dX12_isNeeded_23 (by decide) ?_
      refine r_less [false, false] rfl ?_
      exact hJq3 (0, q1.2)
    · refine r_aload_n C dX12_isNeeded_8 rfl rfl ?_
      refine q_getl C clX12 kd_132 (k := 38) (by decide) flX12_464 dX12_isNeeded_9 (kz := 38) rfl rfl ?_
      refine r_iload_n C dX12_isNeeded_12 rfl rfl ?_
      refine q_callSi (av := [zl (q1.2 132 38), zi p1]) (rest := []) C (tX12_has (q1.2 132 38) p1 q1.2) lkX12_449 rfl rfl (Nat.le_of_ble_eq_true rfl) ⟨by decide, by decide⟩ dX12_isNeeded_13 (fun q2 _ => ?_)
      refine q_if_eq (tgt := 23) C dX12_isNeeded_16 (by decide) (fun _ => ?_) (fun _ => ?_)
      · refine r_iconst C dX12_isNeeded_23 (by decide) ?_
        refine r_less [false, false] rfl ?_
        exact hJq3 (0, q2.2)
      · refine r_iconst C dX12_isNeeded_19 (by decide) ?_
        refine r_goto (tgt := 24) C dX12_isNeeded_20 (by decide) ?_
        refine r_less [false, false] rfl ?_
        exact hJq3 (1, q2.2)
set_option maxRecDepth 100000 in
set_option maxHeartbeats 4000000 in
theorem tX12_value (p1 : Int) (p2 : Int) (M : Mem) : Cn yX12_value cX12_value 3 (some .int) 6 145 [zr 132, zi p1, zi p2] M ((fX12_value p1 p2 M).map oI) := by
  refine Cn_mk (own := RX12) rfl (by decide) (Nat.le_of_ble_eq_true rfl) [some (zr 132), some (zi p1), some (zi p2)] rfl (fun G C hn => ?_)
  unfold fX12_value
  refine r_aload_n C dX12_value_0 rfl rfl ?_
  refine r_iconst C dX12_value_1 (by decide) ?_
  refine q_puti C clX12 kd_132 (k := 0) (by decide) flX12_1 rfl dX12_value_2 rfl rfl (fun M1 => ?_)
  refine r_aload_n C dX12_value_5 rfl rfl ?_
  refine r_iload_n C dX12_value_6 rfl rfl ?_
  refine q_callVi (av := [zi p1]) (rest := []) C (tX12_isValue p1 M1) lkX12_422 kd_132 rfl rfl rfl (Nat.le_of_ble_eq_true rfl) ⟨by decide, by decide⟩ dX12_value_7 (fun q2 _ => ?_)
  refine q_if_ne (tgt := 16) C dX12_value_10 (by decide) (fun _ => ?_) (fun _ => ?_)
  · refine r_aload_n C dX12_value_16 rfl rfl ?_
    refine q_callVv (av := []) (rest := []) C (tX12_all0  q2.2) lkX12_470 kd_132 rfl rfl rfl (Nat.le_of_ble_eq_true rfl) ⟨by decide, by decide⟩ dX12_value_17 (fun q3 _ => ?_)
    refine r_iload_n C dX12_value_20 rfl rfl ?_
    refine r_ite (fun hx0 => ?_) (fun hx0 => ?_)
    · refine r_sw 80 ?_ (fun J => ?_)
      · refine r_aload_n C dX12_value_80 rfl rfl ?_
        refine r_iload_n C dX12_value_81 rfl rfl ?_
        refine q_callVi (av := [zi p1]) (rest := []) C (tX12_howOf p1 q3) lkX12_391 kd_132 rfl rfl rfl (Nat.le_of_ble_eq_true rfl) ⟨by decide, by decide⟩ dX12_value_82 (fun q4 _ => ?_)
        exact r_ireturn C dX12_value_85 rfl
      · skip
        exact r_tabIn (n := 0) C dX12_value_21 hx0 (by decide) (by decide) rfl (by decide) J
    refine r_ite (fun hx1 => ?_) (fun hx1 => ?_)
    · refine r_sw 86 ?_ (fun J => ?_)
      · refine r_aload_n C dX12_value_86 rfl rfl ?_
        refine r_iload_n C dX12_value_87 rfl rfl ?_
        refine r_iload_n C dX12_value_88 rfl rfl ?_
        refine r_iconst C dX12_value_89 (by decide) ?_
        refine r_isub C dX12_value_90 ?_
        refine q_callVi (av := [zi p1, zi (w32 (p2 - 1))]) (rest := []) C (tX12_argOf p1 (w32 (p2 - 1)) q3) lkX12_388 kd_132 rfl rfl rfl (Nat.le_of_ble_eq_true rfl) ⟨by decide, by decide⟩ dX12_value_91 (fun q5 _ => ?_)
        exact r_ireturn C dX12_value_94 rfl
      · rcases hx1 with hx1 | hx1 | hx1
        · exact r_tabIn (n := 1) C dX12_value_21 hx1 (by decide) (by decide) rfl (by decide) J
        · exact r_tabIn (n := 2) C dX12_value_21 hx1 (by decide) (by decide) rfl (by decide) J
        · exact r_tabIn (n := 3) C dX12_value_21 hx1 (by decide) (by decide) rfl (by decide) J
    refine r_ite (fun hx2 => ?_) (fun hx2 => ?_)
    · refine r_sw 95 ?_ (fun J => ?_)
      · refine r_aload_n C dX12_value_95 rfl rfl ?_
        refine r_getp C clX12 kd_132 (k := 31) (by decide) flX12_177 dX12_value_96 pt_132_31 ?_
        refine r_iload_n C dX12_value_99 rfl rfl ?_
        refine r_zaload C dX12_value_100 (fun v6 _ => ?_)
        refine r_join (γ := Int) (pcJ := fun _ => 109) (al' := fun q7 => [none, none, none]) (st' := fun q7 => [zi q7]) (M' := fun q7 => q3) ?_ ?_
        · intro q7
          exact r_ireturn C dX12_value_109 rfl
        · intro hJq7
          refine q_if_eq (tgt := 108) C dX12_value_101 (by decide) (fun _ => ?_) (fun _ => ?_)
          · refine r_iconst C dX12_value_108 (by decide) ?_
            refine r_less [false, false, false] rfl ?_
            exact hJq7 0
          · refine r_iconst C dX12_value_104 (by decide) ?_
            refine r_goto (tgt := 109) C dX12_value_105 (by decide) ?_
            refine r_less [false, false, false] rfl ?_
            exact hJq7 1
      · skip
        exact r_tabIn (n := 4) C dX12_value_21 hx2 (by decide) (by decide) rfl (by decide) J
    refine r_ite (fun hx3 => ?_) (fun hx3 => ?_)
    · refine r_sw 110 ?_ (fun J => ?_)
      · refine r_aload_n C dX12_value_110 rfl rfl ?_
        refine r_getp C clX12 kd_132 (k := 32) (by decide) flX12_181 dX12_value_111 pt_132_32 ?_
        refine r_iload_n C dX12_value_114 rfl rfl ?_
        refine r_zaload C dX12_value_115 (fun v8 _ => ?_)
        refine r_join (γ := Int) (pcJ := fun _ => 124) (al' := fun q9 => [none, none, none]) (st' := fun q9 => [zi q9]) (M' := fun q9 => q3) ?_ ?_
        · intro q9
          exact r_ireturn C dX12_value_124 rfl
        · intro hJq9
          refine q_if_eq (tgt := 123) C dX12_value_116 (by decide) (fun _ => ?_) (fun _ => ?_)
          · refine r_iconst C dX12_value_123 (by decide) ?_
            refine r_less [false, false, false] rfl ?_
            exact hJq9 0
          · refine r_iconst C dX12_value_119 (by decide) ?_
            refine r_goto (tgt := 124) C dX12_value_120 (by decide) ?_
            refine r_less [false, false, false] rfl ?_
            exact hJq9 1
      · skip
        exact r_tabIn (n := 5) C dX12_value_21 hx3 (by decide) (by decide) rfl (by decide) J
    refine r_ite (fun hx4 => ?_) (fun hx4 => ?_)
    · refine r_sw 125 ?_ (fun J => ?_)
      · refine r_aload_n C dX12_value_125 rfl rfl ?_
        refine r_iload_n C dX12_value_126 rfl rfl ?_
        refine q_callVi (av := [zi p1]) (rest := []) C (tX12_isKnown p1 q3) lkX12_453 kd_132 rfl rfl rfl (Nat.le_of_ble_eq_true rfl) ⟨by decide, by decide⟩ dX12_value_127 (fun q10 _ => ?_)
        refine r_join (γ := Int) (pcJ := fun _ => 138) (al' := fun q11 => [none, none, none]) (st' := fun q11 => [zi q11]) (M' := fun q11 => q10.2) ?_ ?_
        · intro q11
          exact r_ireturn C dX12_value_138 rfl
        · intro hJq11
          refine q_if_eq (tgt := 137) C dX12_value_130 (by decide) (fun _ => ?_) (fun _ => ?_)
          · refine r_iconst C dX12_value_137 (by decide) ?_
            refine r_less [false, false, false] rfl ?_
            exact hJq11 0
          · refine r_iconst C dX12_value_133 (by decide) ?_
            refine r_goto (tgt := 138) C dX12_value_134 (by decide) ?_
            refine r_less [false, false, false] rfl ?_
            exact hJq11 1
      · skip
        exact r_tabIn (n := 6) C dX12_value_21 hx4 (by decide) (by decide) rfl (by decide) J
    refine r_ite (fun hx5 => ?_) (fun hx5 => ?_)
    · refine r_sw 139 ?_ (fun J => ?_)
      · refine r_aload_n C dX12_value_139 rfl rfl ?_
        refine q_getl C clX12 kd_132 (k := 38) (by decide) flX12_464 dX12_value_140 (kz := 38) rfl rfl ?_
        refine r_iload_n C dX12_value_143 rfl rfl ?_
        refine q_callSi (av := [zl (q3 132 38), zi p1]) (rest := []) C (tX12_has (q3 132 38) p1 q3) lkX12_449 rfl rfl (Nat.le_of_ble_eq_true rfl) ⟨by decide, by decide⟩ dX12_value_144 (fun q12 _ => ?_)
        refine r_join (γ := Int) (pcJ := fun _ => 155) (al' := fun q13 => [none, none, none]) (st' := fun q13 => [zi q13]) (M' := fun q13 => q12.2) ?_ ?_
        · intro q13
          exact r_ireturn C dX12_value_155 rfl
        · intro hJq13
          refine q_if_eq (tgt := 154) C dX12_value_147 (by decide) (fun _ => ?_) (fun _ => ?_)
          · refine r_iconst C dX12_value_154 (by decide) ?_
            refine r_less [false, false, false] rfl ?_
            exact hJq13 0
          · refine r_iconst C dX12_value_150 (by decide) ?_
            refine r_goto (tgt := 155) C dX12_value_151 (by decide) ?_
            refine r_less [false, false, false] rfl ?_
            exact hJq13 1
      · skip
        exact r_tabIn (n := 7) C dX12_value_21 hx5 (by decide) (by decide) rfl (by decide) J
    refine r_ite (fun hx6 => ?_) (fun hx6 => ?_)
    · refine r_sw 156 ?_ (fun J => ?_)
      · refine r_aload_n C dX12_value_156 rfl rfl ?_
        refine r_getp C clX12 kd_132 (k := 34) (by decide) flX12_187 dX12_value_157 pt_132_34 ?_
        refine r_iload_n C dX12_value_160 rfl rfl ?_
        refine r_iaload C dX12_value_161 (fun v14 _ => ?_)
        exact r_ireturn C dX12_value_162 rfl
      · skip
        exact r_tabIn (n := 8) C dX12_value_21 hx6 (by decide) (by decide) rfl (by decide) J
    refine r_ite (fun hx7 => ?_) (fun hx7 => ?_)
    · refine r_sw 163 ?_ (fun J => ?_)
      · refine r_aload_n C dX12_value_163 rfl rfl ?_
        refine r_getp C clX12 kd_132 (k := 37) (by decide) flX12_196 dX12_value_164 pt_132_37 ?_
        refine r_iload_n C dX12_value_167 rfl rfl ?_
        refine r_iaload C dX12_value_168 (fun v15 _ => ?_)
        exact r_ireturn C dX12_value_169 rfl
      · skip
        exact r_tabIn (n := 9) C dX12_value_21 hx7 (by decide) (by decide) rfl (by decide) J
    refine r_ite (fun hx8 => ?_) (fun hx8 => ?_)
    · refine r_sw 170 ?_ (fun J => ?_)
      · refine r_aload_n C dX12_value_170 rfl rfl ?_
        refine r_iload_n C dX12_value_171 rfl rfl ?_
        refine q_callVi (av := [zi p1]) (rest := []) C (tX12_widthOf p1 q3) lkX12_473 kd_132 rfl rfl rfl (Nat.le_of_ble_eq_true rfl) ⟨by decide, by decide⟩ dX12_value_172 (fun q16 _ => ?_)
        exact r_ireturn C dX12_value_175 rfl
      · skip
        exact r_tabIn (n := 10) C dX12_value_21 hx8 (by decide) (by decide) rfl (by decide) J
    refine r_tabOut (tgt := 176) C dX12_value_21 (by omega) (by decide) ?_
    refine r_bipush C dX12_value_176 (by decide) ?_
    exact r_ireturn C dX12_value_178 rfl
  · refine r_bipush C dX12_value_13 (by decide) ?_
    exact r_ireturn C dX12_value_15 rfl
set_option maxRecDepth 100000 in
set_option maxHeartbeats 4000000 in
theorem tX12_all (p1 : Int) (M : Mem) : Cn yX12_all cX12_all 6 (some .long) 6 145 [zr 132, zi p1] M ((fX12_all p1 M).map oJ) := by
  refine Cn_mk (own := RX12) rfl (by decide) (Nat.le_of_ble_eq_true rfl) [some (zr 132), some (zi p1), none, none, none, none] rfl (fun G C hn => ?_)
  unfold fX12_all
  refine r_aload_n C dX12_all_0 rfl rfl ?_
  refine r_iconst C dX12_all_1 (by decide) ?_
  refine q_puti C clX12 kd_132 (k := 0) (by decide) flX12_1 rfl dX12_all_2 rfl rfl (fun M1 => ?_)
  refine r_aload_n C dX12_all_5 rfl rfl ?_
  refine q_callVv (av := []) (rest := []) C (tX12_all0  M1) lkX12_470 kd_132 rfl rfl rfl (Nat.le_of_ble_eq_true rfl) ⟨by decide, by decide⟩ dX12_all_6 (fun q2 _ => ?_)
  refine r_lconst C dX12_all_9 rfl ?_
  refine r_lstore_n (al' := [some (zr 132), some (zi p1), some (zl 0), none, none, none]) C dX12_all_10 rfl (by rw [hn]; decide) rfl ?_
  refine r_iconst C dX12_all_11 (by decide) ?_
  refine r_istore (al' := [some (zr 132), some (zi p1), some (zl 0), none, some (zi 0), none]) C dX12_all_12 (by rw [hn]; decide) rfl ?_
  refine r_lp (S := Int × Int × Mem) (R := Int × Mem) (pcX := 127) (AL := fun s3 => [some (zr 132), some (zi p1), some (zl s3.1), none, some (zi s3.2.1), none]) (MM := fun s3 => s3.2.2) (AX := fun q13 => [some (zr 132), some (zi p1), some (zl q13.1), none, none, none]) (MX := fun q13 => q13.2) ?_ ?_ (0, 0, q2)
  · intro q13
    refine r_iload_n C dX12_all_127 rfl rfl ?_
    refine r_join (γ := Int × Mem) (pcJ := fun _ => 152) (al' := fun q15 => [none, none, none, none, none, none]) (st' := fun q15 => [zl q15.1]) (M' := fun q15 => q15.2) ?_ ?_
    · intro q15
      exact r_lreturn C dX12_all_152 rfl
    · intro hJq15
      refine q_if_ne (tgt := 138) C dX12_all_128 (by decide) (fun _ => ?_) (fun _ => ?_)
      · refine r_iload_n C dX12_all_138 rfl rfl ?_
        refine r_iconst C dX12_all_139 (by decide) ?_
        refine q_icmp_ne (tgt := 151) C dX12_all_140 (by decide) (fun _ => ?_) (fun _ => ?_)
        · refine r_lload_n C dX12_all_151 rfl rfl ?_
          refine r_less [false, false, false, false, false, false] rfl ?_
          exact hJq15 (q13.1, q13.2)
        · refine r_aload_n C dX12_all_143 rfl rfl ?_
          refine r_iconst C dX12_all_144 (by decide) ?_
          refine q_callVj (av := [zi (-1)]) (rest := []) C (tX12_shownSet (-1) q13.2) lkX12_456 kd_132 rfl rfl rfl (Nat.le_of_ble_eq_true rfl) ⟨by decide, by decide⟩ dX12_all_145 (fun q14 _ => ?_)
          refine r_goto (tgt := 152) C dX12_all_148 (by decide) ?_
          refine r_less [false, false, false, false, false, false] rfl ?_
          exact hJq15 (q14.1, q14.2)
      · refine r_aload_n C dX12_all_131 rfl rfl ?_
        refine q_getl C clX12 kd_132 (k := 38) (by decide) flX12_464 dX12_all_132 (kz := 38) rfl rfl ?_
        refine r_goto (tgt := 152) C dX12_all_135 (by decide) ?_
        refine r_less [false, false, false, false, false, false] rfl ?_
        exact hJq15 (q13.2 132 38, q13.2)
  · intro gs3 hCs3 hXs3 s3
    unfold fX12_all_b1
    refine r_iload C dX12_all_14 rfl ?_
    refine r_aload_n C dX12_all_16 rfl rfl ?_
    refine q_callVi (av := []) (rest := [zi s3.2.1]) C (tX12_values  s3.2.2) lkX12_352 kd_132 rfl rfl rfl (Nat.le_of_ble_eq_true rfl) ⟨by decide, by decide⟩ dX12_all_17 (fun q4 _ => ?_)
    refine q_icmp_ge (tgt := 127) C dX12_all_20 (by decide) (fun _ => ?_) (fun _ => ?_)
    · refine r_less [true, true, true, false, false, false] rfl ?_
      exact hXs3 (s3.1, q4.2)
    · refine r_iload_n C dX12_all_23 rfl rfl ?_
      refine r_iconst C dX12_all_24 (by decide) ?_
      refine r_join (γ := Int × Mem) (pcJ := fun _ => 103) (al' := fun q10 => [some (zr 132), some (zi p1), some (zl s3.1), none, some (zi s3.2.1), none]) (st' := fun q10 => [zi q10.1]) (M' := fun q10 => q10.2) ?_ ?_
      · intro q10
        refine r_istore (al' := [some (zr 132), some (zi p1), some (zl s3.1), none, some (zi s3.2.1), some (zi q10.1)]) C dX12_all_103 (by rw [hn]; decide) rfl ?_
        refine r_lload_n C dX12_all_105 rfl rfl ?_
        refine r_iload C dX12_all_106 rfl ?_
        refine r_join (γ := Int) (pcJ := fun _ => 119) (al' := fun q11 => [some (zr 132), some (zi p1), none, none, some (zi s3.2.1), none]) (st' := fun q11 => [zl q11, zl s3.1]) (M' := fun q11 => q10.2) ?_ ?_
        · intro q11
          refine r_lor C dX12_all_119 ?_
          refine r_letl (fun v12 _ => ?_)
          refine r_lstore_n (al' := [some (zr 132), some (zi p1), some (zl v12), none, some (zi s3.2.1), none]) C dX12_all_120 rfl (by rw [hn]; decide) rfl ?_
          refine r_iinc (al' := [some (zr 132), some (zi p1), some (zl v12), none, some (zi (w32 (s3.2.1 + 1))), none]) C dX12_all_121 rfl (by rw [hn]; decide) rfl ?_
          refine r_goto (tgt := 14) C dX12_all_124 (by decide) ?_
          exact hCs3 (v12, w32 (s3.2.1 + 1), q10.2)
        · intro hJq11
          refine q_if_eq (tgt := 118) C dX12_all_108 (by decide) (fun _ => ?_) (fun _ => ?_)
          · refine r_lconst C dX12_all_118 rfl ?_
            refine r_less [true, true, false, false, true, false] rfl ?_
            exact hJq11 0
          · refine r_lconst C dX12_all_111 rfl ?_
            refine r_iload C dX12_all_112 rfl ?_
            refine r_lshl C dX12_all_114 ?_
            refine r_goto (tgt := 119) C dX12_all_115 (by decide) ?_
            refine r_less [true, true, false, false, true, false] rfl ?_
            exact hJq11 (lshl 1 s3.2.1)
      · intro hJq10
        refine q_icmp_ne (tgt := 38) C dX12_all_25 (by decide) (fun _ => ?_) (fun _ => ?_)
        · refine r_iload_n C dX12_all_38 rfl rfl ?_
          refine r_iconst C dX12_all_39 (by decide) ?_
          refine q_icmp_ne (tgt := 52) C dX12_all_40 (by decide) (fun _ => ?_) (fun _ => ?_)
          · refine r_iload_n C dX12_all_52 rfl rfl ?_
            refine r_iconst C dX12_all_53 (by decide) ?_
            refine q_icmp_ne (tgt := 66) C dX12_all_54 (by decide) (fun _ => ?_) (fun _ => ?_)
            · refine r_iload_n C dX12_all_66 rfl rfl ?_
              refine r_iconst C dX12_all_67 (by decide) ?_
              refine q_icmp_ne (tgt := 81) C dX12_all_68 (by decide) (fun _ => ?_) (fun _ => ?_)
              · refine r_iload_n C dX12_all_81 rfl rfl ?_
                refine r_bipush C dX12_all_82 (by decide) ?_
                refine q_icmp_ne (tgt := 102) C dX12_all_84 (by decide) (fun _ => ?_) (fun _ => ?_)
                · refine r_iconst C dX12_all_102 (by decide) ?_
                  exact hJq10 (0, q4.2)
                · refine r_aload_n C dX12_all_87 rfl rfl ?_
                  refine r_iload C dX12_all_88 rfl ?_
                  refine q_callVi (av := [zi s3.2.1]) (rest := []) C (tX12_howOf s3.2.1 q4.2) lkX12_391 kd_132 rfl rfl rfl (Nat.le_of_ble_eq_true rfl) ⟨by decide, by decide⟩ dX12_all_90 (fun q5 _ => ?_)
                  refine r_bipush C dX12_all_93 (by decide) ?_
                  refine q_icmp_ne (tgt := 102) C dX12_all_95 (by decide) (fun _ => ?_) (fun _ => ?_)
                  · refine r_iconst C dX12_all_102 (by decide) ?_
                    exact hJq10 (0, q5.2)
                  · refine r_iconst C dX12_all_98 (by decide) ?_
                    refine r_goto (tgt := 103) C dX12_all_99 (by decide) ?_
                    exact hJq10 (1, q5.2)
              · refine r_aload_n C dX12_all_71 rfl rfl ?_
                refine r_getp C clX12 kd_132 (k := 31) (by decide) flX12_177 dX12_all_72 pt_132_31 ?_
                refine r_iload C dX12_all_75 rfl ?_
                refine r_zaload C dX12_all_77 (fun v6 _ => ?_)
                refine r_goto (tgt := 103) C dX12_all_78 (by decide) ?_
                exact hJq10 (v6, q4.2)
            · refine r_aload_n C dX12_all_57 rfl rfl ?_
              refine r_iload C dX12_all_58 rfl ?_
              refine q_callVi (av := [zi s3.2.1]) (rest := []) C (tX12_isLow s3.2.1 q4.2) lkX12_419 kd_132 rfl rfl rfl (Nat.le_of_ble_eq_true rfl) ⟨by decide, by decide⟩ dX12_all_60 (fun q7 _ => ?_)
              refine r_goto (tgt := 103) C dX12_all_63 (by decide) ?_
              exact hJq10 (q7.1, q7.2)
          · refine r_aload_n C dX12_all_43 rfl rfl ?_
            refine r_iload C dX12_all_44 rfl ?_
            refine q_callVi (av := [zi s3.2.1]) (rest := []) C (tX12_isKnown s3.2.1 q4.2) lkX12_453 kd_132 rfl rfl rfl (Nat.le_of_ble_eq_true rfl) ⟨by decide, by decide⟩ dX12_all_46 (fun q8 _ => ?_)
            refine r_goto (tgt := 103) C dX12_all_49 (by decide) ?_
            exact hJq10 (q8.1, q8.2)
        · refine r_aload_n C dX12_all_28 rfl rfl ?_
          refine r_getp C clX12 kd_132 (k := 32) (by decide) flX12_181 dX12_all_29 pt_132_32 ?_
          refine r_iload C dX12_all_32 rfl ?_
          refine r_zaload C dX12_all_34 (fun v9 _ => ?_)
          refine r_goto (tgt := 103) C dX12_all_35 (by decide) ?_
          exact hJq10 (v9, q4.2)
set_option maxRecDepth 100000 in
set_option maxHeartbeats 4000000 in
theorem tX12_kin (p1 : Int) (p2 : Int) (M : Mem) : Cn yX12_kin cX12_kin 3 (some .long) 6 145 [zr 132, zi p1, zi p2] M ((fX12_kin p1 p2 M).map oJ) := by
  refine Cn_mk (own := RX12) rfl (by decide) (Nat.le_of_ble_eq_true rfl) [some (zr 132), some (zi p1), some (zi p2)] rfl (fun G C hn => ?_)
  unfold fX12_kin
  refine r_aload_n C dX12_kin_0 rfl rfl ?_
  refine r_iconst C dX12_kin_1 (by decide) ?_
  refine q_puti C clX12 kd_132 (k := 0) (by decide) flX12_1 rfl dX12_kin_2 rfl rfl (fun M1 => ?_)
  refine r_aload_n C dX12_kin_5 rfl rfl ?_
  refine q_callVv (av := []) (rest := []) C (tX12_all0  M1) lkX12_470 kd_132 rfl rfl rfl (Nat.le_of_ble_eq_true rfl) ⟨by decide, by decide⟩ dX12_kin_6 (fun q2 _ => ?_)
  refine r_aload_n C dX12_kin_9 rfl rfl ?_
  refine r_iload_n C dX12_kin_10 rfl rfl ?_
  refine q_callVi (av := [zi p1]) (rest := []) C (tX12_isNeeded p1 q2) lkX12_476 kd_132 rfl rfl rfl (Nat.le_of_ble_eq_true rfl) ⟨by decide, by decide⟩ dX12_kin_11 (fun q3 _ => ?_)
  refine q_if_eq (tgt := 26) C dX12_kin_14 (by decide) (fun _ => ?_) (fun _ => ?_)
  · refine r_lconst C dX12_kin_26 rfl ?_
    exact r_lreturn C dX12_kin_27 rfl
  · refine r_iload_n C dX12_kin_17 rfl rfl ?_
    refine r_iconst C dX12_kin_18 (by decide) ?_
    refine r_iconst C dX12_kin_19 (by decide) ?_
    refine q_callSi (av := [zi p2, zi 0, zi 3]) (rest := []) C (tX12_within p2 0 3 q3.2) lkX12_355 rfl rfl (Nat.le_of_ble_eq_true rfl) ⟨by decide, by decide⟩ dX12_kin_20 (fun q4 _ => ?_)
    refine q_if_ne (tgt := 28) C dX12_kin_23 (by decide) (fun _ => ?_) (fun _ => ?_)
    · refine r_iload_n C dX12_kin_28 rfl rfl ?_
      refine r_join (γ := Int × Mem) (pcJ := fun _ => 70) (al' := fun q9 => [none, none, none]) (st' := fun q9 => [zl q9.1]) (M' := fun q9 => q9.2) ?_ ?_
      · intro q9
        exact r_lreturn C dX12_kin_70 rfl
      · intro hJq9
        refine q_if_ne (tgt := 41) C dX12_kin_29 (by decide) (fun _ => ?_) (fun _ => ?_)
        · refine r_iload_n C dX12_kin_41 rfl rfl ?_
          refine r_iconst C dX12_kin_42 (by decide) ?_
          refine q_icmp_ne (tgt := 55) C dX12_kin_43 (by decide) (fun _ => ?_) (fun _ => ?_)
          · refine r_aload_n C dX12_kin_55 rfl rfl ?_
            refine r_iload_n C dX12_kin_56 rfl rfl ?_
            refine r_iload_n C dX12_kin_57 rfl rfl ?_
            refine r_iconst C dX12_kin_58 (by decide) ?_
            refine r_join (γ := Int) (pcJ := fun _ => 67) (al' := fun q5 => [none, none, none]) (st' := fun q5 => [zi q5, zi p1, zr 132]) (M' := fun q5 => q4.2) ?_ ?_
            · intro q5
              refine q_callVj (av := [zi p1, zi q5]) (rest := []) C (tX12_farKin p1 q5 q4.2) lkX12_479 kd_132 rfl rfl rfl (Nat.le_of_ble_eq_true rfl) ⟨by decide, by decide⟩ dX12_kin_67 (fun q6 _ => ?_)
              exact hJq9 (q6.1, q6.2)
            · intro hJq5
              refine q_icmp_ne (tgt := 66) C dX12_kin_59 (by decide) (fun _ => ?_) (fun _ => ?_)
              · refine r_iconst C dX12_kin_66 (by decide) ?_
                refine r_less [false, false, false] rfl ?_
                exact hJq5 0
              · refine r_iconst C dX12_kin_62 (by decide) ?_
                refine r_goto (tgt := 67) C dX12_kin_63 (by decide) ?_
                refine r_less [false, false, false] rfl ?_
                exact hJq5 1
          · refine r_aload_n C dX12_kin_46 rfl rfl ?_
            refine r_getp C clX12 kd_132 (k := 36) (by decide) flX12_193 dX12_kin_47 pt_132_36 ?_
            refine r_iload_n C dX12_kin_50 rfl rfl ?_
            refine r_laload C dX12_kin_51 (fun v7 _ => ?_)
            refine r_goto (tgt := 70) C dX12_kin_52 (by decide) ?_
            refine r_less [false, false, false] rfl ?_
            exact hJq9 (v7, q4.2)
        · refine r_aload_n C dX12_kin_32 rfl rfl ?_
          refine r_getp C clX12 kd_132 (k := 35) (by decide) flX12_190 dX12_kin_33 pt_132_35 ?_
          refine r_iload_n C dX12_kin_36 rfl rfl ?_
          refine r_laload C dX12_kin_37 (fun v8 _ => ?_)
          refine r_goto (tgt := 70) C dX12_kin_38 (by decide) ?_
          refine r_less [false, false, false] rfl ?_
          exact hJq9 (v8, q4.2)
    · refine r_lconst C dX12_kin_26 rfl ?_
      exact r_lreturn C dX12_kin_27 rfl
set_option maxRecDepth 100000 in
set_option maxHeartbeats 4000000 in
theorem tX12_growth (p1 : Int) (p2 : Int) (M : Mem) : Cn yX12_growth cX12_growth 7 (some .int) 2 42 [zr 132, zi p1, zl p2] M ((fX12_growth p1 p2 M).map oI) := by
  refine Cn_mk (own := RX12) rfl (by decide) (Nat.le_of_ble_eq_true rfl) [some (zr 132), some (zi p1), some (zl p2), none, none, none, none] rfl (fun G C hn => ?_)
  unfold fX12_growth
  refine r_aload_n C dX12_growth_0 rfl rfl ?_
  refine r_iload_n C dX12_growth_1 rfl rfl ?_
  refine q_callVi (av := [zi p1]) (rest := []) C (tX12_widthOf p1 M) lkX12_473 kd_132 rfl rfl rfl (Nat.le_of_ble_eq_true rfl) ⟨by decide, by decide⟩ dX12_growth_2 (fun q1 _ => ?_)
  refine r_istore (al' := [some (zr 132), some (zi p1), some (zl p2), none, some (zi q1.1), none, none]) C dX12_growth_5 (by rw [hn]; decide) rfl ?_
  refine r_iconst C dX12_growth_7 (by decide) ?_
  refine r_istore (al' := [some (zr 132), some (zi p1), some (zl p2), none, some (zi q1.1), some (zi 0), none]) C dX12_growth_8 (by rw [hn]; decide) rfl ?_
  refine r_lp (S := Int × Int × Mem) (R := Int × Mem) (pcX := 97) (AL := fun s2 => [some (zr 132), some (zi p1), some (zl p2), none, some (zi s2.1), some (zi s2.2.1), none]) (MM := fun s2 => s2.2.2) (AX := fun q11 => [none, none, none, none, some (zi q11.1), none, none]) (MX := fun q11 => q11.2) ?_ ?_ (q1.1, 0, q1.2)
  · intro q11
    refine r_iload C dX12_growth_97 rfl ?_
    exact r_ireturn C dX12_growth_99 rfl
  · intro gs2 hCs2 hXs2 s2
    unfold fX12_growth_b1
    refine r_iload C dX12_growth_10 rfl ?_
    refine r_iload_n C dX12_growth_12 rfl rfl ?_
    refine q_icmp_ge (tgt := 97) C dX12_growth_13 (by decide) (fun _ => ?_) (fun _ => ?_)
    · refine r_less [false, false, false, false, true, false, false] rfl ?_
      exact hXs2 (s2.1, s2.2.2)
    · refine r_aload_n C dX12_growth_16 rfl rfl ?_
      refine r_getp C clX12 kd_132 (k := 35) (by decide) flX12_190 dX12_growth_17 pt_132_35 ?_
      refine r_iload_n C dX12_growth_20 rfl rfl ?_
      refine r_laload C dX12_growth_21 (fun v3 _ => ?_)
      refine r_iload C dX12_growth_22 rfl ?_
      refine q_callSi (av := [zl v3, zi s2.2.1]) (rest := []) C (tX12_has v3 s2.2.1 s2.2.2) lkX12_449 rfl rfl (Nat.le_of_ble_eq_true rfl) ⟨by decide, by decide⟩ dX12_growth_24 (fun q4 _ => ?_)
      refine r_join (γ := Int × Mem) (pcJ := fun _ => 69) (al' := fun q7 => [some (zr 132), some (zi p1), some (zl p2), none, some (zi s2.1), some (zi s2.2.1), none]) (st' := fun q7 => [zi q7.1]) (M' := fun q7 => q7.2) ?_ ?_
      · intro q7
        refine r_istore (al' := [some (zr 132), some (zi p1), some (zl p2), none, some (zi s2.1), some (zi s2.2.1), some (zi q7.1)]) C dX12_growth_69 (by rw [hn]; decide) rfl ?_
        refine r_iload C dX12_growth_71 rfl ?_
        refine r_iload C dX12_growth_73 rfl ?_
        refine r_join (γ := Int × Mem) (pcJ := fun _ => 88) (al' := fun q9 => [some (zr 132), some (zi p1), some (zl p2), none, none, some (zi s2.2.1), none]) (st' := fun q9 => [zi q9.1, zi s2.1]) (M' := fun q9 => q9.2) ?_ ?_
        · intro q9
          refine r_isub C dX12_growth_88 ?_
          refine r_let (fun v10 _ => ?_)
          refine r_istore (al' := [some (zr 132), some (zi p1), some (zl p2), none, some (zi v10), some (zi s2.2.1), none]) C dX12_growth_89 (by rw [hn]; decide) rfl ?_
          refine r_iinc (al' := [some (zr 132), some (zi p1), some (zl p2), none, some (zi v10), some (zi (w32 (s2.2.1 + 1))), none]) C dX12_growth_91 rfl (by rw [hn]; decide) rfl ?_
          refine r_goto (tgt := 10) C dX12_growth_94 (by decide) ?_
          exact hCs2 (v10, w32 (s2.2.1 + 1), q9.2)
        · intro hJq9
          refine q_if_eq (tgt := 87) C dX12_growth_75 (by decide) (fun _ => ?_) (fun _ => ?_)
          · refine r_iconst C dX12_growth_87 (by decide) ?_
            refine r_less [true, true, true, false, false, true, false] rfl ?_
            exact hJq9 (0, q7.2)
          · refine r_aload_n C dX12_growth_78 rfl rfl ?_
            refine r_iload C dX12_growth_79 rfl ?_
            refine q_callVi (av := [zi s2.2.1]) (rest := [zi s2.1]) C (tX12_widthOf s2.2.1 q7.2) lkX12_473 kd_132 rfl rfl rfl (Nat.le_of_ble_eq_true rfl) ⟨by decide, by decide⟩ dX12_growth_81 (fun q8 _ => ?_)
            refine r_goto (tgt := 88) C dX12_growth_84 (by decide) ?_
            refine r_less [true, true, true, false, false, true, false] rfl ?_
            exact hJq9 (q8.1, q8.2)
      · intro hJq7
        refine q_if_eq (tgt := 68) C dX12_growth_27 (by decide) (fun _ => ?_) (fun _ => ?_)
        · refine r_iconst C dX12_growth_68 (by decide) ?_
          exact hJq7 (0, q4.2)
        · refine r_aload_n C dX12_growth_30 rfl rfl ?_
          refine q_getl C clX12 kd_132 (k := 39) (by decide) flX12_460 dX12_growth_31 (kz := 39) rfl rfl ?_
          refine r_iload C dX12_growth_34 rfl ?_
          refine q_callSi (av := [zl (q4.2 132 39), zi s2.2.1]) (rest := []) C (tX12_has (q4.2 132 39) s2.2.1 q4.2) lkX12_449 rfl rfl (Nat.le_of_ble_eq_true rfl) ⟨by decide, by decide⟩ dX12_growth_36 (fun q5 _ => ?_)
          refine q_if_ne (tgt := 68) C dX12_growth_39 (by decide) (fun _ => ?_) (fun _ => ?_)
          · refine r_iconst C dX12_growth_68 (by decide) ?_
            exact hJq7 (0, q5.2)
          · refine r_aload_n C dX12_growth_42 rfl rfl ?_
            refine r_getp C clX12 kd_132 (k := 36) (by decide) flX12_193 dX12_growth_43 pt_132_36 ?_
            refine r_iload C dX12_growth_46 rfl ?_
            refine r_laload C dX12_growth_48 (fun v6 _ => ?_)
            refine r_lload_n C dX12_growth_49 rfl rfl ?_
            refine r_lconst C dX12_growth_50 rfl ?_
            refine r_iload_n C dX12_growth_51 rfl rfl ?_
            refine r_lshl C dX12_growth_52 ?_
            refine r_lor C dX12_growth_53 ?_
            refine r_ldc2 C klX12_483 rfl dX12_growth_54 ?_
            refine r_lxor C dX12_growth_57 ?_
            refine r_land C dX12_growth_58 ?_
            refine r_lconst C dX12_growth_59 rfl ?_
            refine r_lcmp C dX12_growth_60 ?_
            refine q_if_ne (tgt := 68) C dX12_growth_61 (by decide) (fun _ => ?_) (fun _ => ?_)
            · refine r_iconst C dX12_growth_68 (by decide) ?_
              exact hJq7 (0, q5.2)
            · refine r_iconst C dX12_growth_64 (by decide) ?_
              refine r_goto (tgt := 69) C dX12_growth_65 (by decide) ?_
              exact hJq7 (1, q5.2)
set_option maxRecDepth 100000 in
set_option maxHeartbeats 4000000 in
theorem tX12_goesAhead (p1 : Int) (p2 : Int) (p3 : Int) (p4 : Int) (M : Mem) : Cn yX12_goesAhead cX12_goesAhead 6 (some .boolean) 3 68 [zr 132, zi p1, zi p2, zi p3, zl p4] M ((fX12_goesAhead p1 p2 p3 p4 M).map oI) := by
  refine Cn_mk (own := RX12) rfl (by decide) (Nat.le_of_ble_eq_true rfl) [some (zr 132), some (zi p1), some (zi p2), some (zi p3), some (zl p4), none] rfl (fun G C hn => ?_)
  unfold fX12_goesAhead
  refine r_iload_n C dX12_goesAhead_0 rfl rfl ?_
  refine q_if_ne (tgt := 44) C dX12_goesAhead_1 (by decide) (fun _ => ?_) (fun _ => ?_)
  · refine r_iload_n C dX12_goesAhead_44 rfl rfl ?_
    refine q_if_eq (tgt := 53) C dX12_goesAhead_45 (by decide) (fun _ => ?_) (fun _ => ?_)
    · refine r_aload_n C dX12_goesAhead_53 rfl rfl ?_
      refine r_getp C clX12 kd_132 (k := 37) (by decide) flX12_196 dX12_goesAhead_54 pt_132_37 ?_
      refine r_iload_n C dX12_goesAhead_57 rfl rfl ?_
      refine r_iaload C dX12_goesAhead_58 (fun v1 _ => ?_)
      refine r_aload_n C dX12_goesAhead_59 rfl rfl ?_
      refine r_getp C clX12 kd_132 (k := 37) (by decide) flX12_196 dX12_goesAhead_60 pt_132_37 ?_
      refine r_iload_n C dX12_goesAhead_63 rfl rfl ?_
      refine r_iaload C dX12_goesAhead_64 (fun v2 _ => ?_)
      refine r_join (γ := Int) (pcJ := fun _ => 73) (al' := fun q3 => [none, none, none, none, none, none]) (st' := fun q3 => [zi q3]) (M' := fun q3 => M) ?_ ?_
      · intro q3
        exact r_zreturn C dX12_goesAhead_73 rfl
      · intro hJq3
        refine q_icmp_le (tgt := 72) C dX12_goesAhead_65 (by decide) (fun _ => ?_) (fun _ => ?_)
        · refine r_iconst C dX12_goesAhead_72 (by decide) ?_
          refine r_less [false, false, false, false, false, false] rfl ?_
          exact hJq3 0
        · refine r_iconst C dX12_goesAhead_68 (by decide) ?_
          refine r_goto (tgt := 73) C dX12_goesAhead_69 (by decide) ?_
          refine r_less [false, false, false, false, false, false] rfl ?_
          exact hJq3 1
    · refine r_iload_n C dX12_goesAhead_48 rfl rfl ?_
      refine r_iconst C dX12_goesAhead_49 (by decide) ?_
      refine q_icmp_ne (tgt := 74) C dX12_goesAhead_50 (by decide) (fun _ => ?_) (fun _ => ?_)
      · refine r_iload_n C dX12_goesAhead_74 rfl rfl ?_
        refine r_iconst C dX12_goesAhead_75 (by decide) ?_
        refine r_join (γ := Int × Mem) (pcJ := fun _ => 104) (al' := fun q6 => [none, none, none, none, none, none]) (st' := fun q6 => [zi q6.1]) (M' := fun q6 => q6.2) ?_ ?_
        · intro q6
          exact r_zreturn C dX12_goesAhead_104 rfl
        · intro hJq6
          refine q_icmp_ne (tgt := 103) C dX12_goesAhead_76 (by decide) (fun _ => ?_) (fun _ => ?_)
          · refine r_iconst C dX12_goesAhead_103 (by decide) ?_
            refine r_less [false, false, false, false, false, false] rfl ?_
            exact hJq6 (0, M)
          · refine r_aload_n C dX12_goesAhead_79 rfl rfl ?_
            refine r_iload_n C dX12_goesAhead_80 rfl rfl ?_
            refine q_callVi (av := [zi p1]) (rest := []) C (tX12_howOf p1 M) lkX12_391 kd_132 rfl rfl rfl (Nat.le_of_ble_eq_true rfl) ⟨by decide, by decide⟩ dX12_goesAhead_81 (fun q4 _ => ?_)
            refine r_bipush C dX12_goesAhead_84 (by decide) ?_
            refine q_icmp_ne (tgt := 103) C dX12_goesAhead_86 (by decide) (fun _ => ?_) (fun _ => ?_)
            · refine r_iconst C dX12_goesAhead_103 (by decide) ?_
              refine r_less [false, false, false, false, false, false] rfl ?_
              exact hJq6 (0, q4.2)
            · refine r_aload_n C dX12_goesAhead_89 rfl rfl ?_
              refine r_iload_n C dX12_goesAhead_90 rfl rfl ?_
              refine q_callVi (av := [zi p2]) (rest := []) C (tX12_howOf p2 q4.2) lkX12_391 kd_132 rfl rfl rfl (Nat.le_of_ble_eq_true rfl) ⟨by decide, by decide⟩ dX12_goesAhead_91 (fun q5 _ => ?_)
              refine r_bipush C dX12_goesAhead_94 (by decide) ?_
              refine q_icmp_eq (tgt := 103) C dX12_goesAhead_96 (by decide) (fun _ => ?_) (fun _ => ?_)
              · refine r_iconst C dX12_goesAhead_103 (by decide) ?_
                refine r_less [false, false, false, false, false, false] rfl ?_
                exact hJq6 (0, q5.2)
              · refine r_iconst C dX12_goesAhead_99 (by decide) ?_
                refine r_goto (tgt := 104) C dX12_goesAhead_100 (by decide) ?_
                refine r_less [false, false, false, false, false, false] rfl ?_
                exact hJq6 (1, q5.2)
      · refine r_aload_n C dX12_goesAhead_53 rfl rfl ?_
        refine r_getp C clX12 kd_132 (k := 37) (by decide) flX12_196 dX12_goesAhead_54 pt_132_37 ?_
        refine r_iload_n C dX12_goesAhead_57 rfl rfl ?_
        refine r_iaload C dX12_goesAhead_58 (fun v7 _ => ?_)
        refine r_aload_n C dX12_goesAhead_59 rfl rfl ?_
        refine r_getp C clX12 kd_132 (k := 37) (by decide) flX12_196 dX12_goesAhead_60 pt_132_37 ?_
        refine r_iload_n C dX12_goesAhead_63 rfl rfl ?_
        refine r_iaload C dX12_goesAhead_64 (fun v8 _ => ?_)
        refine r_join (γ := Int) (pcJ := fun _ => 73) (al' := fun q9 => [none, none, none, none, none, none]) (st' := fun q9 => [zi q9]) (M' := fun q9 => M) ?_ ?_
        · intro q9
          exact r_zreturn C dX12_goesAhead_73 rfl
        · intro hJq9
          refine q_icmp_le (tgt := 72) C dX12_goesAhead_65 (by decide) (fun _ => ?_) (fun _ => ?_)
          · refine r_iconst C dX12_goesAhead_72 (by decide) ?_
            refine r_less [false, false, false, false, false, false] rfl ?_
            exact hJq9 0
          · refine r_iconst C dX12_goesAhead_68 (by decide) ?_
            refine r_goto (tgt := 73) C dX12_goesAhead_69 (by decide) ?_
            refine r_less [false, false, false, false, false, false] rfl ?_
            exact hJq9 1
  · refine r_aload_n C dX12_goesAhead_4 rfl rfl ?_
    refine r_iload_n C dX12_goesAhead_5 rfl rfl ?_
    refine r_lload C dX12_goesAhead_6 rfl ?_
    refine q_callVi (av := [zi p1, zl p4]) (rest := []) C (tX12_growth p1 p4 M) lkX12_485 kd_132 rfl rfl rfl (Nat.le_of_ble_eq_true rfl) ⟨by decide, by decide⟩ dX12_goesAhead_8 (fun q10 _ => ?_)
    refine r_aload_n C dX12_goesAhead_11 rfl rfl ?_
    refine r_iload_n C dX12_goesAhead_12 rfl rfl ?_
    refine r_lload C dX12_goesAhead_13 rfl ?_
    refine q_callVi (av := [zi p2, zl p4]) (rest := [zi q10.1]) C (tX12_growth p2 p4 q10.2) lkX12_485 kd_132 rfl rfl rfl (Nat.le_of_ble_eq_true rfl) ⟨by decide, by decide⟩ dX12_goesAhead_15 (fun q11 _ => ?_)
    refine q_icmp_eq (tgt := 44) C dX12_goesAhead_18 (by decide) (fun _ => ?_) (fun _ => ?_)
    · refine r_iload_n C dX12_goesAhead_44 rfl rfl ?_
      refine q_if_eq (tgt := 53) C dX12_goesAhead_45 (by decide) (fun _ => ?_) (fun _ => ?_)
      · refine r_aload_n C dX12_goesAhead_53 rfl rfl ?_
        refine r_getp C clX12 kd_132 (k := 37) (by decide) flX12_196 dX12_goesAhead_54 pt_132_37 ?_
        refine r_iload_n C dX12_goesAhead_57 rfl rfl ?_
        refine r_iaload C dX12_goesAhead_58 (fun v12 _ => ?_)
        refine r_aload_n C dX12_goesAhead_59 rfl rfl ?_
        refine r_getp C clX12 kd_132 (k := 37) (by decide) flX12_196 dX12_goesAhead_60 pt_132_37 ?_
        refine r_iload_n C dX12_goesAhead_63 rfl rfl ?_
        refine r_iaload C dX12_goesAhead_64 (fun v13 _ => ?_)
        refine r_join (γ := Int) (pcJ := fun _ => 73) (al' := fun q14 => [none, none, none, none, none, none]) (st' := fun q14 => [zi q14]) (M' := fun q14 => q11.2) ?_ ?_
        · intro q14
          exact r_zreturn C dX12_goesAhead_73 rfl
        · intro hJq14
          refine q_icmp_le (tgt := 72) C dX12_goesAhead_65 (by decide) (fun _ => ?_) (fun _ => ?_)
          · refine r_iconst C dX12_goesAhead_72 (by decide) ?_
            refine r_less [false, false, false, false, false, false] rfl ?_
            exact hJq14 0
          · refine r_iconst C dX12_goesAhead_68 (by decide) ?_
            refine r_goto (tgt := 73) C dX12_goesAhead_69 (by decide) ?_
            refine r_less [false, false, false, false, false, false] rfl ?_
            exact hJq14 1
      · refine r_iload_n C dX12_goesAhead_48 rfl rfl ?_
        refine r_iconst C dX12_goesAhead_49 (by decide) ?_
        refine q_icmp_ne (tgt := 74) C dX12_goesAhead_50 (by decide) (fun _ => ?_) (fun _ => ?_)
        · refine r_iload_n C dX12_goesAhead_74 rfl rfl ?_
          refine r_iconst C dX12_goesAhead_75 (by decide) ?_
          refine r_join (γ := Int × Mem) (pcJ := fun _ => 104) (al' := fun q17 => [none, none, none, none, none, none]) (st' := fun q17 => [zi q17.1]) (M' := fun q17 => q17.2) ?_ ?_
          · intro q17
            exact r_zreturn C dX12_goesAhead_104 rfl
          · intro hJq17
            refine q_icmp_ne (tgt := 103) C dX12_goesAhead_76 (by decide) (fun _ => ?_) (fun _ => ?_)
            · refine r_iconst C dX12_goesAhead_103 (by decide) ?_
              refine r_less [false, false, false, false, false, false] rfl ?_
              exact hJq17 (0, q11.2)
            · refine r_aload_n C dX12_goesAhead_79 rfl rfl ?_
              refine r_iload_n C dX12_goesAhead_80 rfl rfl ?_
              refine q_callVi (av := [zi p1]) (rest := []) C (tX12_howOf p1 q11.2) lkX12_391 kd_132 rfl rfl rfl (Nat.le_of_ble_eq_true rfl) ⟨by decide, by decide⟩ dX12_goesAhead_81 (fun q15 _ => ?_)
              refine r_bipush C dX12_goesAhead_84 (by decide) ?_
              refine q_icmp_ne (tgt := 103) C dX12_goesAhead_86 (by decide) (fun _ => ?_) (fun _ => ?_)
              · refine r_iconst C dX12_goesAhead_103 (by decide) ?_
                refine r_less [false, false, false, false, false, false] rfl ?_
                exact hJq17 (0, q15.2)
              · refine r_aload_n C dX12_goesAhead_89 rfl rfl ?_
                refine r_iload_n C dX12_goesAhead_90 rfl rfl ?_
                refine q_callVi (av := [zi p2]) (rest := []) C (tX12_howOf p2 q15.2) lkX12_391 kd_132 rfl rfl rfl (Nat.le_of_ble_eq_true rfl) ⟨by decide, by decide⟩ dX12_goesAhead_91 (fun q16 _ => ?_)
                refine r_bipush C dX12_goesAhead_94 (by decide) ?_
                refine q_icmp_eq (tgt := 103) C dX12_goesAhead_96 (by decide) (fun _ => ?_) (fun _ => ?_)
                · refine r_iconst C dX12_goesAhead_103 (by decide) ?_
                  refine r_less [false, false, false, false, false, false] rfl ?_
                  exact hJq17 (0, q16.2)
                · refine r_iconst C dX12_goesAhead_99 (by decide) ?_
                  refine r_goto (tgt := 104) C dX12_goesAhead_100 (by decide) ?_
                  refine r_less [false, false, false, false, false, false] rfl ?_
                  exact hJq17 (1, q16.2)
        · refine r_aload_n C dX12_goesAhead_53 rfl rfl ?_
          refine r_getp C clX12 kd_132 (k := 37) (by decide) flX12_196 dX12_goesAhead_54 pt_132_37 ?_
          refine r_iload_n C dX12_goesAhead_57 rfl rfl ?_
          refine r_iaload C dX12_goesAhead_58 (fun v18 _ => ?_)
          refine r_aload_n C dX12_goesAhead_59 rfl rfl ?_
          refine r_getp C clX12 kd_132 (k := 37) (by decide) flX12_196 dX12_goesAhead_60 pt_132_37 ?_
          refine r_iload_n C dX12_goesAhead_63 rfl rfl ?_
          refine r_iaload C dX12_goesAhead_64 (fun v19 _ => ?_)
          refine r_join (γ := Int) (pcJ := fun _ => 73) (al' := fun q20 => [none, none, none, none, none, none]) (st' := fun q20 => [zi q20]) (M' := fun q20 => q11.2) ?_ ?_
          · intro q20
            exact r_zreturn C dX12_goesAhead_73 rfl
          · intro hJq20
            refine q_icmp_le (tgt := 72) C dX12_goesAhead_65 (by decide) (fun _ => ?_) (fun _ => ?_)
            · refine r_iconst C dX12_goesAhead_72 (by decide) ?_
              refine r_less [false, false, false, false, false, false] rfl ?_
              exact hJq20 0
            · refine r_iconst C dX12_goesAhead_68 (by decide) ?_
              refine r_goto (tgt := 73) C dX12_goesAhead_69 (by decide) ?_
              refine r_less [false, false, false, false, false, false] rfl ?_
              exact hJq20 1
    · refine r_aload_n C dX12_goesAhead_21 rfl rfl ?_
      refine r_iload_n C dX12_goesAhead_22 rfl rfl ?_
      refine r_lload C dX12_goesAhead_23 rfl ?_
      refine q_callVi (av := [zi p1, zl p4]) (rest := []) C (tX12_growth p1 p4 q11.2) lkX12_485 kd_132 rfl rfl rfl (Nat.le_of_ble_eq_true rfl) ⟨by decide, by decide⟩ dX12_goesAhead_25 (fun q21 _ => ?_)
      refine r_aload_n C dX12_goesAhead_28 rfl rfl ?_
      refine r_iload_n C dX12_goesAhead_29 rfl rfl ?_
      refine r_lload C dX12_goesAhead_30 rfl ?_
      refine q_callVi (av := [zi p2, zl p4]) (rest := [zi q21.1]) C (tX12_growth p2 p4 q21.2) lkX12_485 kd_132 rfl rfl rfl (Nat.le_of_ble_eq_true rfl) ⟨by decide, by decide⟩ dX12_goesAhead_32 (fun q22 _ => ?_)
      refine r_join (γ := Int) (pcJ := fun _ => 43) (al' := fun q23 => [none, none, none, none, none, none]) (st' := fun q23 => [zi q23]) (M' := fun q23 => q22.2) ?_ ?_
      · intro q23
        exact r_zreturn C dX12_goesAhead_43 rfl
      · intro hJq23
        refine q_icmp_ge (tgt := 42) C dX12_goesAhead_35 (by decide) (fun _ => ?_) (fun _ => ?_)
        · refine r_iconst C dX12_goesAhead_42 (by decide) ?_
          refine r_less [false, false, false, false, false, false] rfl ?_
          exact hJq23 0
        · refine r_iconst C dX12_goesAhead_38 (by decide) ?_
          refine r_goto (tgt := 43) C dX12_goesAhead_39 (by decide) ?_
          refine r_less [false, false, false, false, false, false] rfl ?_
          exact hJq23 1
set_option maxRecDepth 100000 in
set_option maxHeartbeats 4000000 in
theorem tX12_costOf (p1 : Int) (M : Mem) : Cn yX12_costOf cX12_costOf 3 (some .int) 2 42 [zr 132, zi p1] M ((fX12_costOf p1 M).map oI) := by
  refine Cn_mk (own := RX12) rfl (by decide) (Nat.le_of_ble_eq_true rfl) [some (zr 132), some (zi p1), none] rfl (fun G C hn => ?_)
  unfold fX12_costOf
  refine r_aload_n C dX12_costOf_0 rfl rfl ?_
  refine r_iload_n C dX12_costOf_1 rfl rfl ?_
  refine q_callVi (av := [zi p1]) (rest := []) C (tX12_widthOf p1 M) lkX12_473 kd_132 rfl rfl rfl (Nat.le_of_ble_eq_true rfl) ⟨by decide, by decide⟩ dX12_costOf_2 (fun q1 _ => ?_)
  refine r_istore_n (al' := [some (zr 132), some (zi p1), some (zi q1.1)]) C dX12_costOf_5 rfl (by rw [hn]; decide) rfl ?_
  refine r_aload_n C dX12_costOf_6 rfl rfl ?_
  refine r_getp C clX12 kd_132 (k := 32) (by decide) flX12_181 dX12_costOf_7 pt_132_32 ?_
  refine r_iload_n C dX12_costOf_10 rfl rfl ?_
  refine r_zaload C dX12_costOf_11 (fun v2 _ => ?_)
  refine r_join (γ := Int × Mem) (pcJ := fun _ => 43) (al' := fun q5 => [none, none, none]) (st' := fun q5 => [zi q5.1]) (M' := fun q5 => q5.2) ?_ ?_
  · intro q5
    exact r_ireturn C dX12_costOf_43 rfl
  · intro hJq5
    refine q_if_ne (tgt := 23) C dX12_costOf_12 (by decide) (fun _ => ?_) (fun _ => ?_)
    · refine r_iconst C dX12_costOf_23 (by decide) ?_
      refine r_goto (tgt := 43) C dX12_costOf_24 (by decide) ?_
      refine r_less [false, false, false] rfl ?_
      exact hJq5 (1, q1.2)
    · refine r_aload_n C dX12_costOf_15 rfl rfl ?_
      refine r_iload_n C dX12_costOf_16 rfl rfl ?_
      refine q_callVi (av := [zi p1]) (rest := []) C (tX12_howOf p1 q1.2) lkX12_391 kd_132 rfl rfl rfl (Nat.le_of_ble_eq_true rfl) ⟨by decide, by decide⟩ dX12_costOf_17 (fun q3 _ => ?_)
      refine q_if_ne (tgt := 27) C dX12_costOf_20 (by decide) (fun _ => ?_) (fun _ => ?_)
      · refine r_aload_n C dX12_costOf_27 rfl rfl ?_
        refine r_iload_n C dX12_costOf_28 rfl rfl ?_
        refine q_callVi (av := [zi p1]) (rest := []) C (tX12_howOf p1 q3.2) lkX12_391 kd_132 rfl rfl rfl (Nat.le_of_ble_eq_true rfl) ⟨by decide, by decide⟩ dX12_costOf_29 (fun q4 _ => ?_)
        refine r_iconst C dX12_costOf_32 (by decide) ?_
        refine q_icmp_ne (tgt := 42) C dX12_costOf_33 (by decide) (fun _ => ?_) (fun _ => ?_)
        · refine r_iload_n C dX12_costOf_42 rfl rfl ?_
          refine r_less [false, false, false] rfl ?_
          exact hJq5 (q1.1, q4.2)
        · refine r_iconst C dX12_costOf_36 (by decide) ?_
          refine r_iload_n C dX12_costOf_37 rfl rfl ?_
          refine r_imul C dX12_costOf_38 ?_
          refine r_goto (tgt := 43) C dX12_costOf_39 (by decide) ?_
          refine r_less [false, false, false] rfl ?_
          exact hJq5 (w32 (2 * q1.1), q4.2)
      · refine r_iconst C dX12_costOf_23 (by decide) ?_
        refine r_goto (tgt := 43) C dX12_costOf_24 (by decide) ?_
        refine r_less [false, false, false] rfl ?_
        exact hJq5 (1, q3.2)
set_option maxRecDepth 100000 in
set_option maxHeartbeats 4000000 in
theorem tX12_cuts  (M : Mem) : Cn yX12_cuts cX12_cuts 9 none 3 64 [zr 132] M ((fX12_cuts  M).map oU) := by
  refine Cn_mk (own := RX12) rfl (by decide) (Nat.le_of_ble_eq_true rfl) [some (zr 132), none, none, none, none, none, none, none, none] rfl (fun G C hn => ?_)
  unfold fX12_cuts
  refine r_aload_n C dX12_cuts_0 rfl rfl ?_
  refine r_iconst C dX12_cuts_1 (by decide) ?_
  refine q_puti C clX12 kd_132 (k := 48) (by decide) flX12_511 rfl dX12_cuts_2 rfl rfl (fun M1 => ?_)
  refine r_aload_n C dX12_cuts_5 rfl rfl ?_
  refine r_iconst C dX12_cuts_6 (by decide) ?_
  refine q_puti C clX12 kd_132 (k := 50) (by decide) flX12_514 rfl dX12_cuts_7 rfl rfl (fun M2 => ?_)
  refine r_lconst C dX12_cuts_10 rfl ?_
  refine r_lstore_n (al' := [some (zr 132), some (zl 0), none, none, none, none, none, none, none]) C dX12_cuts_11 rfl (by rw [hn]; decide) rfl ?_
  refine r_iconst C dX12_cuts_12 (by decide) ?_
  refine r_istore_n (al' := [some (zr 132), some (zl 0), none, some (zi 0), none, none, none, none, none]) C dX12_cuts_13 rfl (by rw [hn]; decide) rfl ?_
  refine r_lp (S := Int × Int × Mem) (R := Mem) (pcX := 306) (AL := fun s3 => [some (zr 132), some (zl s3.1), none, some (zi s3.2.1), none, none, none, none, none]) (MM := fun s3 => s3.2.2) (AX := fun q33 => [none, none, none, none, none, none, none, none, none]) (MX := fun q33 => q33) ?_ ?_ (0, 0, M2)
  · intro q33
    exact r_return C dX12_cuts_306 rfl
  · intro gs3 hCs3 hXs3 s3
    unfold fX12_cuts_b1
    refine r_iload_n C dX12_cuts_14 rfl rfl ?_
    refine r_aload_n C dX12_cuts_15 rfl rfl ?_
    refine q_geti C clX12 kd_132 (k := 41) (by decide) flX12_489 dX12_cuts_16 (kz := 41) rfl (by decide) ?_
    refine q_icmp_ge (tgt := 306) C dX12_cuts_19 (by decide) (fun _ => ?_) (fun _ => ?_)
    · refine r_less [false, false, false, false, false, false, false, false, false] rfl ?_
      exact hXs3 s3.2.2
    · refine r_aload_n C dX12_cuts_22 rfl rfl ?_
      refine r_getp C clX12 kd_132 (k := 40) (by decide) flX12_199 dX12_cuts_23 pt_132_40 ?_
      refine r_iload_n C dX12_cuts_26 rfl rfl ?_
      refine r_iaload C dX12_cuts_27 (fun v4 _ => ?_)
      refine r_istore (al' := [some (zr 132), some (zl s3.1), none, some (zi s3.2.1), some (zi v4), none, none, none, none]) C dX12_cuts_28 (by rw [hn]; decide) rfl ?_
      refine r_aload_n C dX12_cuts_30 rfl rfl ?_
      refine r_iload C dX12_cuts_31 rfl ?_
      refine q_callVi (av := [zi v4]) (rest := []) C (tX12_howOf v4 s3.2.2) lkX12_391 kd_132 rfl rfl rfl (Nat.le_of_ble_eq_true rfl) ⟨by decide, by decide⟩ dX12_cuts_33 (fun q5 _ => ?_)
      refine r_bipush C dX12_cuts_36 (by decide) ?_
      refine r_join (γ := Int) (pcJ := fun _ => 46) (al' := fun q6 => [some (zr 132), some (zl s3.1), none, some (zi s3.2.1), some (zi v4), none, none, none, none]) (st' := fun q6 => [zi q6]) (M' := fun q6 => q5.2) ?_ ?_
      · intro q6
        refine r_istore (al' := [some (zr 132), some (zl s3.1), none, some (zi s3.2.1), some (zi v4), some (zi q6), none, none, none]) C dX12_cuts_46 (by rw [hn]; decide) rfl ?_
        refine r_iconst C dX12_cuts_48 (by decide) ?_
        refine r_aload_n C dX12_cuts_49 rfl rfl ?_
        refine q_geti C clX12 kd_132 (k := 48) (by decide) flX12_511 dX12_cuts_50 (kz := 48) rfl (by decide) ?_
        refine r_iconst C dX12_cuts_53 (by decide) ?_
        refine r_isub C dX12_cuts_54 ?_
        refine r_imul C dX12_cuts_55 ?_
        refine r_let (fun v7 _ => ?_)
        refine r_istore (al' := [some (zr 132), some (zl s3.1), none, some (zi s3.2.1), some (zi v4), some (zi q6), some (zi v7), none, none]) C dX12_cuts_56 (by rw [hn]; decide) rfl ?_
        refine r_aload_n C dX12_cuts_58 rfl rfl ?_
        refine q_geti C clX12 kd_132 (k := 48) (by decide) flX12_511 dX12_cuts_59 (kz := 48) rfl (by decide) ?_
        refine r_join (γ := Int) (pcJ := fun _ => 129) (al' := fun q13 => [some (zr 132), some (zl s3.1), none, some (zi s3.2.1), some (zi v4), some (zi q6), some (zi v7), none, none]) (st' := fun q13 => [zi q13]) (M' := fun q13 => q5.2) ?_ ?_
        · intro q13
          refine r_istore (al' := [some (zr 132), some (zl s3.1), none, some (zi s3.2.1), some (zi v4), some (zi q6), some (zi v7), some (zi q13), none]) C dX12_cuts_129 (by rw [hn]; decide) rfl ?_
          refine r_iload C dX12_cuts_131 rfl ?_
          refine r_join (γ := Int × Int × Mem) (pcJ := fun _ => 224) (al' := fun q23 => [some (zr 132), some (zl q23.1), none, some (zi s3.2.1), some (zi v4), some (zi q6), some (zi q23.2.1), none, none]) (st' := fun q23 => []) (M' := fun q23 => q23.2.2) ?_ ?_
          · intro q23
            refine r_iload C dX12_cuts_224 rfl ?_
            refine r_iconst C dX12_cuts_226 (by decide) ?_
            refine r_join (γ := Int × Mem) (pcJ := fun _ => 240) (al' := fun q25 => [some (zr 132), some (zl q23.1), none, some (zi s3.2.1), some (zi v4), none, some (zi q23.2.1), none, none]) (st' := fun q25 => [zi q25.1]) (M' := fun q25 => q25.2) ?_ ?_
            · intro q25
              refine r_istore (al' := [some (zr 132), some (zl q23.1), none, some (zi s3.2.1), some (zi v4), none, some (zi q23.2.1), none, some (zi q25.1)]) C dX12_cuts_240 (by rw [hn]; decide) rfl ?_
              refine r_aload_n C dX12_cuts_242 rfl rfl ?_
              refine r_getp C clX12 kd_132 (k := 49) (by decide) flX12_220 dX12_cuts_243 pt_132_49 ?_
              refine r_iload C dX12_cuts_246 rfl ?_
              refine r_iconst C dX12_cuts_248 (by decide) ?_
              refine r_iadd C dX12_cuts_249 ?_
              refine r_dup2 C dX12_cuts_250 rfl rfl ?_
              refine r_iaload C dX12_cuts_251 (fun v26 _ => ?_)
              refine r_iconst C dX12_cuts_252 (by decide) ?_
              refine r_iadd C dX12_cuts_253 ?_
              refine r_iastore C dX12_cuts_254 (fun M27 _ => ?_)
              refine r_aload_n C dX12_cuts_255 rfl rfl ?_
              refine r_getp C clX12 kd_132 (k := 49) (by decide) flX12_220 dX12_cuts_256 pt_132_49 ?_
              refine r_iload C dX12_cuts_259 rfl ?_
              refine r_iconst C dX12_cuts_261 (by decide) ?_
              refine r_iadd C dX12_cuts_262 ?_
              refine r_dup2 C dX12_cuts_263 rfl rfl ?_
              refine r_iaload C dX12_cuts_264 (fun v28 _ => ?_)
              refine r_iload C dX12_cuts_265 rfl ?_
              refine r_iadd C dX12_cuts_267 ?_
              refine r_iastore C dX12_cuts_268 (fun M29 _ => ?_)
              refine r_aload_n C dX12_cuts_269 rfl rfl ?_
              refine r_dup C dX12_cuts_270 rfl ?_
              refine q_geti C clX12 kd_132 (k := 50) (by decide) flX12_514 dX12_cuts_271 (kz := 50) rfl (by decide) ?_
              refine r_iload C dX12_cuts_274 rfl ?_
              refine r_iadd C dX12_cuts_276 ?_
              refine q_puti C clX12 kd_132 (k := 50) (by decide) flX12_514 rfl dX12_cuts_277 rfl rfl (fun M30 => ?_)
              refine r_aload_n C dX12_cuts_280 rfl rfl ?_
              refine r_getp C clX12 kd_132 (k := 45) (by decide) flX12_211 dX12_cuts_281 pt_132_45 ?_
              refine r_iload C dX12_cuts_284 rfl ?_
              refine r_aload_n C dX12_cuts_286 rfl rfl ?_
              refine q_geti C clX12 kd_132 (k := 48) (by decide) flX12_511 dX12_cuts_287 (kz := 48) rfl (by decide) ?_
              refine r_iconst C dX12_cuts_290 (by decide) ?_
              refine r_isub C dX12_cuts_291 ?_
              refine r_iastore C dX12_cuts_292 (fun M31 _ => ?_)
              refine r_lload_n C dX12_cuts_293 rfl rfl ?_
              refine r_lconst C dX12_cuts_294 rfl ?_
              refine r_iload C dX12_cuts_295 rfl ?_
              refine r_lshl C dX12_cuts_297 ?_
              refine r_lor C dX12_cuts_298 ?_
              refine r_letl (fun v32 _ => ?_)
              refine r_lstore_n (al' := [some (zr 132), some (zl v32), none, some (zi s3.2.1), some (zi v4), none, some (zi q23.2.1), none, some (zi q25.1)]) C dX12_cuts_299 rfl (by rw [hn]; decide) rfl ?_
              refine r_iinc (al' := [some (zr 132), some (zl v32), none, some (zi (w32 (s3.2.1 + 1))), some (zi v4), none, some (zi q23.2.1), none, some (zi q25.1)]) C dX12_cuts_300 rfl (by rw [hn]; decide) rfl ?_
              refine r_goto (tgt := 14) C dX12_cuts_303 (by decide) ?_
              refine r_less [true, true, false, true, false, false, false, false, false] rfl ?_
              exact hCs3 (v32, w32 (s3.2.1 + 1), M31)
            · intro hJq25
              refine q_icmp_ne (tgt := 234) C dX12_cuts_227 (by decide) (fun _ => ?_) (fun _ => ?_)
              · refine r_aload_n C dX12_cuts_234 rfl rfl ?_
                refine r_iload C dX12_cuts_235 rfl ?_
                refine q_callVi (av := [zi v4]) (rest := []) C (tX12_costOf v4 q23.2.2) lkX12_517 kd_132 rfl rfl rfl (Nat.le_of_ble_eq_true rfl) ⟨by decide, by decide⟩ dX12_cuts_237 (fun q24 _ => ?_)
                refine r_less [true, true, false, true, true, false, true, false, false] rfl ?_
                exact hJq25 (q24.1, q24.2)
              · refine r_iconst C dX12_cuts_230 (by decide) ?_
                refine r_goto (tgt := 240) C dX12_cuts_231 (by decide) ?_
                refine r_less [true, true, false, true, true, false, true, false, false] rfl ?_
                exact hJq25 (2, q23.2.2)
          · intro hJq23
            refine q_if_ne (tgt := 224) C dX12_cuts_133 (by decide) (fun _ => ?_) (fun _ => ?_)
            · refine r_less [true, true, false, true, true, true, true, false, false] rfl ?_
              exact hJq23 (s3.1, v7, q5.2)
            · refine r_iconst C dX12_cuts_136 (by decide) ?_
              refine r_aload_n C dX12_cuts_137 rfl rfl ?_
              refine q_geti C clX12 kd_132 (k := 48) (by decide) flX12_511 dX12_cuts_138 (kz := 48) rfl (by decide) ?_
              refine r_imul C dX12_cuts_141 ?_
              refine r_let (fun v14 _ => ?_)
              refine r_istore (al' := [some (zr 132), some (zl s3.1), none, some (zi s3.2.1), some (zi v4), some (zi q6), some (zi v14), some (zi q13), none]) C dX12_cuts_142 (by rw [hn]; decide) rfl ?_
              refine r_aload_n C dX12_cuts_144 rfl rfl ?_
              refine r_dup C dX12_cuts_145 rfl ?_
              refine q_geti C clX12 kd_132 (k := 48) (by decide) flX12_511 dX12_cuts_146 (kz := 48) rfl (by decide) ?_
              refine r_iconst C dX12_cuts_149 (by decide) ?_
              refine r_iadd C dX12_cuts_150 ?_
              refine q_puti C clX12 kd_132 (k := 48) (by decide) flX12_511 rfl dX12_cuts_151 rfl rfl (fun M15 => ?_)
              refine r_aload_n C dX12_cuts_154 rfl rfl ?_
              refine r_getp C clX12 kd_132 (k := 49) (by decide) flX12_220 dX12_cuts_155 pt_132_49 ?_
              refine r_iload C dX12_cuts_158 rfl ?_
              refine r_iload C dX12_cuts_160 rfl ?_
              refine r_iastore C dX12_cuts_162 (fun M16 _ => ?_)
              refine r_aload_n C dX12_cuts_163 rfl rfl ?_
              refine r_getp C clX12 kd_132 (k := 49) (by decide) flX12_220 dX12_cuts_164 pt_132_49 ?_
              refine r_iload C dX12_cuts_167 rfl ?_
              refine r_iconst C dX12_cuts_169 (by decide) ?_
              refine r_iadd C dX12_cuts_170 ?_
              refine r_iload_n C dX12_cuts_171 rfl rfl ?_
              refine r_iastore C dX12_cuts_172 (fun M17 _ => ?_)
              refine r_aload_n C dX12_cuts_173 rfl rfl ?_
              refine r_getp C clX12 kd_132 (k := 49) (by decide) flX12_220 dX12_cuts_174 pt_132_49 ?_
              refine r_iload C dX12_cuts_177 rfl ?_
              refine r_iconst C dX12_cuts_179 (by decide) ?_
              refine r_iadd C dX12_cuts_180 ?_
              refine r_iconst C dX12_cuts_181 (by decide) ?_
              refine r_iastore C dX12_cuts_182 (fun M18 _ => ?_)
              refine r_aload_n C dX12_cuts_183 rfl rfl ?_
              refine r_getp C clX12 kd_132 (k := 49) (by decide) flX12_220 dX12_cuts_184 pt_132_49 ?_
              refine r_iload C dX12_cuts_187 rfl ?_
              refine r_iconst C dX12_cuts_189 (by decide) ?_
              refine r_iadd C dX12_cuts_190 ?_
              refine r_iload C dX12_cuts_191 rfl ?_
              refine r_iconst C dX12_cuts_193 (by decide) ?_
              refine r_join (γ := Int) (pcJ := fun _ => 203) (al' := fun q19 => [some (zr 132), none, none, some (zi s3.2.1), some (zi v4), some (zi q6), some (zi v14), none, none]) (st' := fun q19 => [zi q19, zi (w32 (v14 + 3)), zr 169]) (M' := fun q19 => M18) ?_ ?_
              · intro q19
                refine r_iastore C dX12_cuts_203 (fun M20 _ => ?_)
                refine r_aload_n C dX12_cuts_204 rfl rfl ?_
                refine r_dup C dX12_cuts_205 rfl ?_
                refine q_geti C clX12 kd_132 (k := 50) (by decide) flX12_514 dX12_cuts_206 (kz := 50) rfl (by decide) ?_
                refine r_aload_n C dX12_cuts_209 rfl rfl ?_
                refine r_getp C clX12 kd_132 (k := 49) (by decide) flX12_220 dX12_cuts_210 pt_132_49 ?_
                refine r_iload C dX12_cuts_213 rfl ?_
                refine r_iconst C dX12_cuts_215 (by decide) ?_
                refine r_iadd C dX12_cuts_216 ?_
                refine r_iaload C dX12_cuts_217 (fun v21 _ => ?_)
                refine r_iadd C dX12_cuts_218 ?_
                refine q_puti C clX12 kd_132 (k := 50) (by decide) flX12_514 rfl dX12_cuts_219 rfl rfl (fun M22 => ?_)
                refine r_lconst C dX12_cuts_222 rfl ?_
                refine r_lstore_n (al' := [some (zr 132), some (zl 0), none, some (zi s3.2.1), some (zi v4), some (zi q6), some (zi v14), none, none]) C dX12_cuts_223 rfl (by rw [hn]; decide) rfl ?_
                exact hJq23 (0, v14, M22)
              · intro hJq19
                refine q_icmp_ne (tgt := 202) C dX12_cuts_194 (by decide) (fun _ => ?_) (fun _ => ?_)
                · refine r_iconst C dX12_cuts_202 (by decide) ?_
                  refine r_less [true, false, false, true, true, true, true, false, false] rfl ?_
                  exact hJq19 2
                · refine r_bipush C dX12_cuts_197 (by decide) ?_
                  refine r_goto (tgt := 203) C dX12_cuts_199 (by decide) ?_
                  refine r_less [true, false, false, true, true, true, true, false, false] rfl ?_
                  exact hJq19 12
        · intro hJq13
          refine q_if_le (tgt := 128) C dX12_cuts_62 (by decide) (fun _ => ?_) (fun _ => ?_)
          · refine r_iconst C dX12_cuts_128 (by decide) ?_
            exact hJq13 0
          · refine r_aload_n C dX12_cuts_65 rfl rfl ?_
            refine r_getp C clX12 kd_132 (k := 49) (by decide) flX12_220 dX12_cuts_66 pt_132_49 ?_
            refine r_iload C dX12_cuts_69 rfl ?_
            refine r_iaload C dX12_cuts_71 (fun v8 _ => ?_)
            refine r_iload C dX12_cuts_72 rfl ?_
            refine q_icmp_ne (tgt := 128) C dX12_cuts_74 (by decide) (fun _ => ?_) (fun _ => ?_)
            · refine r_iconst C dX12_cuts_128 (by decide) ?_
              exact hJq13 0
            · refine r_aload_n C dX12_cuts_77 rfl rfl ?_
              refine r_getp C clX12 kd_132 (k := 49) (by decide) flX12_220 dX12_cuts_78 pt_132_49 ?_
              refine r_iload C dX12_cuts_81 rfl ?_
              refine r_iconst C dX12_cuts_83 (by decide) ?_
              refine r_iadd C dX12_cuts_84 ?_
              refine r_iaload C dX12_cuts_85 (fun v9 _ => ?_)
              refine r_aload_n C dX12_cuts_86 rfl rfl ?_
              refine r_getp C clX12 kd_132 (k := 10) (by decide) flX12_126 dX12_cuts_87 pt_132_10 ?_
              refine r_iload C dX12_cuts_90 rfl ?_
              refine r_iconst C dX12_cuts_92 (by decide) ?_
              refine r_join (γ := Int) (pcJ := fun _ => 101) (al' := fun q10 => [some (zr 132), some (zl s3.1), none, some (zi s3.2.1), some (zi v4), some (zi q6), some (zi v7), none, none]) (st' := fun q10 => [zi q10, zr 138, zi v9]) (M' := fun q10 => q5.2) ?_ ?_
              · intro q10
                refine r_iaload C dX12_cuts_101 (fun v11 _ => ?_)
                refine q_icmp_ge (tgt := 128) C dX12_cuts_102 (by decide) (fun _ => ?_) (fun _ => ?_)
                · refine r_iconst C dX12_cuts_128 (by decide) ?_
                  exact hJq13 0
                · refine r_iload C dX12_cuts_105 rfl ?_
                  refine q_if_eq (tgt := 124) C dX12_cuts_107 (by decide) (fun _ => ?_) (fun _ => ?_)
                  · refine r_iconst C dX12_cuts_124 (by decide) ?_
                    refine r_goto (tgt := 129) C dX12_cuts_125 (by decide) ?_
                    exact hJq13 1
                  · refine r_aload_n C dX12_cuts_110 rfl rfl ?_
                    refine r_getp C clX12 kd_132 (k := 35) (by decide) flX12_190 dX12_cuts_111 pt_132_35 ?_
                    refine r_iload C dX12_cuts_114 rfl ?_
                    refine r_laload C dX12_cuts_116 (fun v12 _ => ?_)
                    refine r_lload_n C dX12_cuts_117 rfl rfl ?_
                    refine r_land C dX12_cuts_118 ?_
                    refine r_lconst C dX12_cuts_119 rfl ?_
                    refine r_lcmp C dX12_cuts_120 ?_
                    refine q_if_ne (tgt := 128) C dX12_cuts_121 (by decide) (fun _ => ?_) (fun _ => ?_)
                    · refine r_iconst C dX12_cuts_128 (by decide) ?_
                      exact hJq13 0
                    · refine r_iconst C dX12_cuts_124 (by decide) ?_
                      refine r_goto (tgt := 129) C dX12_cuts_125 (by decide) ?_
                      exact hJq13 1
              · intro hJq10
                refine q_icmp_ne (tgt := 100) C dX12_cuts_93 (by decide) (fun _ => ?_) (fun _ => ?_)
                · refine r_iconst C dX12_cuts_100 (by decide) ?_
                  exact hJq10 4
                · refine r_iconst C dX12_cuts_96 (by decide) ?_
                  refine r_goto (tgt := 101) C dX12_cuts_97 (by decide) ?_
                  exact hJq10 3
      · intro hJq6
        refine q_icmp_ne (tgt := 45) C dX12_cuts_38 (by decide) (fun _ => ?_) (fun _ => ?_)
        · refine r_iconst C dX12_cuts_45 (by decide) ?_
          exact hJq6 0
        · refine r_iconst C dX12_cuts_41 (by decide) ?_
          refine r_goto (tgt := 46) C dX12_cuts_42 (by decide) ?_
          exact hJq6 1
