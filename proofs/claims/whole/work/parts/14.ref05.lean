set_option maxRecDepth 100000 in
set_option maxHeartbeats 4000000 in
theorem tX12_clears (p1 : Int) (M : Mem) : Cn yX12_clears cX12_clears 3 none 0 0 [zr 132, zi p1] M ((fX12_clears p1 M).map oU) := by
  refine Cn_mk (own := RX12) rfl (by decide) (Nat.le_of_ble_eq_true rfl) [some (zr 132), some (zi p1), none] rfl (fun G C hn => ?_)
  unfold fX12_clears
  refine r_iconst C dX12_clears_0 (by decide) ?_
  refine r_istore_n (al' := [some (zr 132), some (zi p1), some (zi 0)]) C dX12_clears_1 rfl (by rw [hn]; decide) rfl ?_
  refine r_lp (S := Int × Mem) (R := Mem) (pcX := 24) (AL := fun s1 => [some (zr 132), some (zi p1), some (zi s1.1)]) (MM := fun s1 => s1.2) (AX := fun q3 => [some (zr 132), some (zi p1), none]) (MX := fun q3 => q3) ?_ ?_ (0, M)
  · intro q3
    refine r_aload_n C dX12_clears_24 rfl rfl ?_
    refine r_getp C clX12 kd_132 (k := 10) (by decide) flX12_126 dX12_clears_25 pt_132_10 ?_
    refine r_iload_n C dX12_clears_28 rfl rfl ?_
    refine r_iconst C dX12_clears_29 (by decide) ?_
    refine r_iadd C dX12_clears_30 ?_
    refine r_iconst C dX12_clears_31 (by decide) ?_
    refine r_iastore C dX12_clears_32 (fun M4 _ => ?_)
    refine r_aload_n C dX12_clears_33 rfl rfl ?_
    refine r_getp C clX12 kd_132 (k := 10) (by decide) flX12_126 dX12_clears_34 pt_132_10 ?_
    refine r_iload_n C dX12_clears_37 rfl rfl ?_
    refine r_iconst C dX12_clears_38 (by decide) ?_
    refine r_iadd C dX12_clears_39 ?_
    refine r_bipush C dX12_clears_40 (by decide) ?_
    refine r_iastore C dX12_clears_42 (fun M5 _ => ?_)
    exact r_return C dX12_clears_43 rfl
  · intro gs1 hCs1 hXs1 s1
    unfold fX12_clears_b1
    refine r_iload_n C dX12_clears_2 rfl rfl ?_
    refine r_sipush C dX12_clears_3 (by decide) ?_
    refine q_icmp_ge (tgt := 24) C dX12_clears_6 (by decide) (fun _ => ?_) (fun _ => ?_)
    · refine r_less [true, true, false] rfl ?_
      exact hXs1 s1.2
    · refine r_aload_n C dX12_clears_9 rfl rfl ?_
      refine r_getp C clX12 kd_132 (k := 10) (by decide) flX12_126 dX12_clears_10 pt_132_10 ?_
      refine r_iload_n C dX12_clears_13 rfl rfl ?_
      refine r_iload_n C dX12_clears_14 rfl rfl ?_
      refine r_iadd C dX12_clears_15 ?_
      refine r_iconst C dX12_clears_16 (by decide) ?_
      refine r_iastore C dX12_clears_17 (fun M2 _ => ?_)
      refine r_iinc (al' := [some (zr 132), some (zi p1), some (zi (w32 (s1.1 + 1)))]) C dX12_clears_18 rfl (by rw [hn]; decide) rfl ?_
      refine r_goto (tgt := 2) C dX12_clears_21 (by decide) ?_
      exact hCs1 (w32 (s1.1 + 1), M2)
set_option maxRecDepth 100000 in
set_option maxHeartbeats 4000000 in
theorem tX12_nameAt  (M : Mem) : Cn yX12_nameAt cX12_nameAt 3 (some .int) 0 0 [zr 132] M ((fX12_nameAt  M).map oI) := by
  refine Cn_mk (own := RX12) rfl (by decide) (Nat.le_of_ble_eq_true rfl) [some (zr 132), none, none] rfl (fun G C hn => ?_)
  unfold fX12_nameAt
  refine r_iconst C dX12_nameAt_0 (by decide) ?_
  refine r_istore_n (al' := [some (zr 132), some (zi (-1)), none]) C dX12_nameAt_1 rfl (by rw [hn]; decide) rfl ?_
  refine r_iconst C dX12_nameAt_2 (by decide) ?_
  refine r_istore_n (al' := [some (zr 132), some (zi (-1)), some (zi 0)]) C dX12_nameAt_3 rfl (by rw [hn]; decide) rfl ?_
  refine r_lp (S := Int × Int) (R := Int) (pcX := 43) (AL := fun s1 => [some (zr 132), some (zi s1.1), some (zi s1.2)]) (MM := fun s1 => M) (AX := fun q5 => [none, some (zi q5), none]) (MX := fun q5 => M) ?_ ?_ ((-1), 0)
  · intro q5
    refine r_iload_n C dX12_nameAt_43 rfl rfl ?_
    exact r_ireturn C dX12_nameAt_44 rfl
  · intro gs1 hCs1 hXs1 s1
    unfold fX12_nameAt_b1
    refine r_iload_n C dX12_nameAt_4 rfl rfl ?_
    refine r_aload_n C dX12_nameAt_5 rfl rfl ?_
    refine q_geti C clX12 kd_132 (k := 14) (by decide) flX12_235 dX12_nameAt_6 (kz := 14) rfl (by decide) ?_
    refine q_icmp_ge (tgt := 43) C dX12_nameAt_9 (by decide) (fun _ => ?_) (fun _ => ?_)
    · refine r_less [false, true, false] rfl ?_
      exact hXs1 s1.1
    · refine r_aload_n C dX12_nameAt_12 rfl rfl ?_
      refine r_getp C clX12 kd_132 (k := 12) (by decide) flX12_132 dX12_nameAt_13 pt_132_12 ?_
      refine r_iload_n C dX12_nameAt_16 rfl rfl ?_
      refine r_laload C dX12_nameAt_17 (fun v2 _ => ?_)
      refine r_aload_n C dX12_nameAt_18 rfl rfl ?_
      refine r_getp C clX12 kd_132 (k := 6) (by decide) flX12_46 dX12_nameAt_19 pt_132_6 ?_
      refine r_aload_n C dX12_nameAt_22 rfl rfl ?_
      refine q_geti C clX12 kd_132 (k := 7) (by decide) flX12_54 dX12_nameAt_23 (kz := 7) rfl (by decide) ?_
      refine r_laload C dX12_nameAt_26 (fun v3 _ => ?_)
      refine r_lcmp C dX12_nameAt_27 ?_
      refine r_join (γ := Int) (pcJ := fun _ => 36) (al' := fun q4 => [some (zr 132), none, some (zi s1.2)]) (st' := fun q4 => [zi q4]) (M' := fun q4 => M) ?_ ?_
      · intro q4
        refine r_istore_n (al' := [some (zr 132), some (zi q4), some (zi s1.2)]) C dX12_nameAt_36 rfl (by rw [hn]; decide) rfl ?_
        refine r_iinc (al' := [some (zr 132), some (zi q4), some (zi (w32 (s1.2 + 1)))]) C dX12_nameAt_37 rfl (by rw [hn]; decide) rfl ?_
        refine r_goto (tgt := 4) C dX12_nameAt_40 (by decide) ?_
        exact hCs1 (q4, w32 (s1.2 + 1))
      · intro hJq4
        refine q_if_ne (tgt := 35) C dX12_nameAt_28 (by decide) (fun _ => ?_) (fun _ => ?_)
        · refine r_iload_n C dX12_nameAt_35 rfl rfl ?_
          refine r_less [true, false, true] rfl ?_
          exact hJq4 s1.1
        · refine r_iload_n C dX12_nameAt_31 rfl rfl ?_
          refine r_goto (tgt := 36) C dX12_nameAt_32 (by decide) ?_
          refine r_less [true, false, true] rfl ?_
          exact hJq4 s1.2
set_option maxRecDepth 100000 in
set_option maxHeartbeats 4000000 in
theorem tX12_newLine (p1 : Int) (M : Mem) : Cn yX12_newLine cX12_newLine 4 (some .int) 0 0 [zr 132, zi p1] M ((fX12_newLine p1 M).map oI) := by
  refine Cn_mk (own := RX12) rfl (by decide) (Nat.le_of_ble_eq_true rfl) [some (zr 132), some (zi p1), none, none] rfl (fun G C hn => ?_)
  unfold fX12_newLine
  refine r_bipush C dX12_newLine_0 (by decide) ?_
  refine r_sipush C dX12_newLine_2 (by decide) ?_
  refine r_aload_n C dX12_newLine_5 rfl rfl ?_
  refine r_getp C clX12 kd_132 (k := 10) (by decide) flX12_126 dX12_newLine_6 pt_132_10 ?_
  refine r_sipush C dX12_newLine_9 (by decide) ?_
  refine r_iaload C dX12_newLine_12 (fun v1 _ => ?_)
  refine r_iadd C dX12_newLine_13 ?_
  refine r_imul C dX12_newLine_14 ?_
  refine r_let (fun v2 _ => ?_)
  refine r_istore_n (al' := [some (zr 132), some (zi p1), some (zi v2), none]) C dX12_newLine_15 rfl (by rw [hn]; decide) rfl ?_
  refine r_aload_n C dX12_newLine_16 rfl rfl ?_
  refine r_getp C clX12 kd_132 (k := 10) (by decide) flX12_126 dX12_newLine_17 pt_132_10 ?_
  refine r_sipush C dX12_newLine_20 (by decide) ?_
  refine r_dup2 C dX12_newLine_23 rfl rfl ?_
  refine r_iaload C dX12_newLine_24 (fun v3 _ => ?_)
  refine r_iconst C dX12_newLine_25 (by decide) ?_
  refine r_iadd C dX12_newLine_26 ?_
  refine r_iastore C dX12_newLine_27 (fun M4 _ => ?_)
  refine r_iconst C dX12_newLine_28 (by decide) ?_
  refine r_istore_n (al' := [some (zr 132), some (zi p1), some (zi v2), some (zi 0)]) C dX12_newLine_29 rfl (by rw [hn]; decide) rfl ?_
  refine r_lp (S := Int × Mem) (R := Mem) (pcX := 51) (AL := fun s5 => [some (zr 132), some (zi p1), some (zi v2), some (zi s5.1)]) (MM := fun s5 => s5.2) (AX := fun q7 => [some (zr 132), some (zi p1), some (zi v2), none]) (MX := fun q7 => q7) ?_ ?_ (0, M4)
  · intro q7
    refine r_aload_n C dX12_newLine_51 rfl rfl ?_
    refine r_getp C clX12 kd_132 (k := 11) (by decide) flX12_129 dX12_newLine_52 pt_132_11 ?_
    refine r_iload_n C dX12_newLine_55 rfl rfl ?_
    refine r_iload_n C dX12_newLine_56 rfl rfl ?_
    refine r_iastore C dX12_newLine_57 (fun M8 _ => ?_)
    refine r_aload_n C dX12_newLine_58 rfl rfl ?_
    refine r_getp C clX12 kd_132 (k := 11) (by decide) flX12_129 dX12_newLine_59 pt_132_11 ?_
    refine r_iload_n C dX12_newLine_62 rfl rfl ?_
    refine r_iconst C dX12_newLine_63 (by decide) ?_
    refine r_iadd C dX12_newLine_64 ?_
    refine r_aload_n C dX12_newLine_65 rfl rfl ?_
    refine r_getp C clX12 kd_132 (k := 5) (by decide) flX12_36 dX12_newLine_66 pt_132_5 ?_
    refine r_aload_n C dX12_newLine_69 rfl rfl ?_
    refine q_geti C clX12 kd_132 (k := 7) (by decide) flX12_54 dX12_newLine_70 (kz := 7) rfl (by decide) ?_
    refine r_iaload C dX12_newLine_73 (fun v9 _ => ?_)
    refine r_iastore C dX12_newLine_74 (fun M10 _ => ?_)
    refine r_aload_n C dX12_newLine_75 rfl rfl ?_
    refine r_getp C clX12 kd_132 (k := 11) (by decide) flX12_129 dX12_newLine_76 pt_132_11 ?_
    refine r_iload_n C dX12_newLine_79 rfl rfl ?_
    refine r_bipush C dX12_newLine_80 (by decide) ?_
    refine r_iadd C dX12_newLine_82 ?_
    refine r_aload_n C dX12_newLine_83 rfl rfl ?_
    refine q_geti C clX12 kd_132 (k := 18) (by decide) flX12_238 dX12_newLine_84 (kz := 18) rfl (by decide) ?_
    refine r_iastore C dX12_newLine_87 (fun M11 _ => ?_)
    refine r_iload_n C dX12_newLine_88 rfl rfl ?_
    exact r_ireturn C dX12_newLine_89 rfl
  · intro gs5 hCs5 hXs5 s5
    unfold fX12_newLine_b1
    refine r_iload_n C dX12_newLine_30 rfl rfl ?_
    refine r_bipush C dX12_newLine_31 (by decide) ?_
    refine q_icmp_ge (tgt := 51) C dX12_newLine_33 (by decide) (fun _ => ?_) (fun _ => ?_)
    · refine r_less [true, true, true, false] rfl ?_
      exact hXs5 s5.2
    · refine r_aload_n C dX12_newLine_36 rfl rfl ?_
      refine r_getp C clX12 kd_132 (k := 11) (by decide) flX12_129 dX12_newLine_37 pt_132_11 ?_
      refine r_iload_n C dX12_newLine_40 rfl rfl ?_
      refine r_iload_n C dX12_newLine_41 rfl rfl ?_
      refine r_iadd C dX12_newLine_42 ?_
      refine r_iconst C dX12_newLine_43 (by decide) ?_
      refine r_iastore C dX12_newLine_44 (fun M6 _ => ?_)
      refine r_iinc (al' := [some (zr 132), some (zi p1), some (zi v2), some (zi (w32 (s5.1 + 1)))]) C dX12_newLine_45 rfl (by rw [hn]; decide) rfl ?_
      refine r_goto (tgt := 30) C dX12_newLine_48 (by decide) ?_
      exact hCs5 (w32 (s5.1 + 1), M6)
set_option maxRecDepth 100000 in
set_option maxHeartbeats 4000000 in
theorem tX12_isWithinWhen  (M : Mem) : Cn yX12_isWithinWhen cX12_isWithinWhen 3 (some .boolean) 0 0 [zr 132] M ((fX12_isWithinWhen  M).map oI) := by
  refine Cn_mk (own := RX12) rfl (by decide) (Nat.le_of_ble_eq_true rfl) [some (zr 132), none, none] rfl (fun G C hn => ?_)
  unfold fX12_isWithinWhen
  refine r_iconst C dX12_isWithinWhen_0 (by decide) ?_
  refine r_istore_n (al' := [some (zr 132), some (zi 0), none]) C dX12_isWithinWhen_1 rfl (by rw [hn]; decide) rfl ?_
  refine r_iconst C dX12_isWithinWhen_2 (by decide) ?_
  refine r_istore_n (al' := [some (zr 132), some (zi 0), some (zi 0)]) C dX12_isWithinWhen_3 rfl (by rw [hn]; decide) rfl ?_
  refine r_lp (S := Int × Int) (R := Int) (pcX := 38) (AL := fun s1 => [some (zr 132), some (zi s1.1), some (zi s1.2)]) (MM := fun s1 => M) (AX := fun q4 => [none, some (zi q4), none]) (MX := fun q4 => M) ?_ ?_ (0, 0)
  · intro q4
    refine r_iload_n C dX12_isWithinWhen_38 rfl rfl ?_
    exact r_zreturn C dX12_isWithinWhen_39 rfl
  · intro gs1 hCs1 hXs1 s1
    unfold fX12_isWithinWhen_b1
    refine r_iload_n C dX12_isWithinWhen_4 rfl rfl ?_
    refine r_aload_n C dX12_isWithinWhen_5 rfl rfl ?_
    refine q_geti C clX12 kd_132 (k := 18) (by decide) flX12_238 dX12_isWithinWhen_6 (kz := 18) rfl (by decide) ?_
    refine q_icmp_ge (tgt := 38) C dX12_isWithinWhen_9 (by decide) (fun _ => ?_) (fun _ => ?_)
    · refine r_less [false, true, false] rfl ?_
      exact hXs1 s1.1
    · refine r_iload_n C dX12_isWithinWhen_12 rfl rfl ?_
      refine r_join (γ := Int) (pcJ := fun _ => 31) (al' := fun q3 => [some (zr 132), none, some (zi s1.2)]) (st' := fun q3 => [zi q3]) (M' := fun q3 => M) ?_ ?_
      · intro q3
        refine r_istore_n (al' := [some (zr 132), some (zi q3), some (zi s1.2)]) C dX12_isWithinWhen_31 rfl (by rw [hn]; decide) rfl ?_
        refine r_iinc (al' := [some (zr 132), some (zi q3), some (zi (w32 (s1.2 + 1)))]) C dX12_isWithinWhen_32 rfl (by rw [hn]; decide) rfl ?_
        refine r_goto (tgt := 4) C dX12_isWithinWhen_35 (by decide) ?_
        exact hCs1 (q3, w32 (s1.2 + 1))
      · intro hJq3
        refine q_if_ne (tgt := 26) C dX12_isWithinWhen_13 (by decide) (fun _ => ?_) (fun _ => ?_)
        · refine r_iconst C dX12_isWithinWhen_26 (by decide) ?_
          refine r_goto (tgt := 31) C dX12_isWithinWhen_27 (by decide) ?_
          refine r_less [true, false, true] rfl ?_
          exact hJq3 1
        · refine r_aload_n C dX12_isWithinWhen_16 rfl rfl ?_
          refine r_getp C clX12 kd_132 (k := 15) (by decide) flX12_138 dX12_isWithinWhen_17 pt_132_15 ?_
          refine r_iload_n C dX12_isWithinWhen_20 rfl rfl ?_
          refine r_iaload C dX12_isWithinWhen_21 (fun v2 _ => ?_)
          refine r_iconst C dX12_isWithinWhen_22 (by decide) ?_
          refine q_icmp_eq (tgt := 30) C dX12_isWithinWhen_23 (by decide) (fun _ => ?_) (fun _ => ?_)
          · refine r_iconst C dX12_isWithinWhen_30 (by decide) ?_
            refine r_less [true, false, true] rfl ?_
            exact hJq3 0
          · refine r_iconst C dX12_isWithinWhen_26 (by decide) ?_
            refine r_goto (tgt := 31) C dX12_isWithinWhen_27 (by decide) ?_
            refine r_less [true, false, true] rfl ?_
            exact hJq3 1
set_option maxRecDepth 100000 in
set_option maxHeartbeats 4000000 in
theorem tX12_tells (p1 : Int) (p2 : Int) (M : Mem) : Cn yX12_tells cX12_tells 4 none 0 0 [zr 132, zl p1, zi p2] M ((fX12_tells p1 p2 M).map oU) := by
  refine Cn_mk (own := RX12) rfl (by decide) (Nat.le_of_ble_eq_true rfl) [some (zr 132), some (zl p1), none, some (zi p2)] rfl (fun G C hn => ?_)
  unfold fX12_tells
  refine r_aload_n C dX12_tells_0 rfl rfl ?_
  refine r_getp C clX12 kd_132 (k := 12) (by decide) flX12_132 dX12_tells_1 pt_132_12 ?_
  refine r_aload_n C dX12_tells_4 rfl rfl ?_
  refine q_geti C clX12 kd_132 (k := 14) (by decide) flX12_235 dX12_tells_5 (kz := 14) rfl (by decide) ?_
  refine r_lload_n C dX12_tells_8 rfl rfl ?_
  refine r_lastore C dX12_tells_9 (fun M1 _ => ?_)
  refine r_aload_n C dX12_tells_10 rfl rfl ?_
  refine r_getp C clX12 kd_132 (k := 13) (by decide) flX12_135 dX12_tells_11 pt_132_13 ?_
  refine r_aload_n C dX12_tells_14 rfl rfl ?_
  refine q_geti C clX12 kd_132 (k := 14) (by decide) flX12_235 dX12_tells_15 (kz := 14) rfl (by decide) ?_
  refine r_iload_n C dX12_tells_18 rfl rfl ?_
  refine r_iastore C dX12_tells_19 (fun M2 _ => ?_)
  refine r_aload_n C dX12_tells_20 rfl rfl ?_
  refine r_dup C dX12_tells_21 rfl ?_
  refine q_geti C clX12 kd_132 (k := 14) (by decide) flX12_235 dX12_tells_22 (kz := 14) rfl (by decide) ?_
  refine r_iconst C dX12_tells_25 (by decide) ?_
  refine r_iadd C dX12_tells_26 ?_
  refine q_puti C clX12 kd_132 (k := 14) (by decide) flX12_235 rfl dX12_tells_27 rfl rfl (fun M3 => ?_)
  exact r_return C dX12_tells_30 rfl
set_option maxRecDepth 100000 in
set_option maxHeartbeats 4000000 in
theorem tX12_readInput (p1 : Int) (M : Mem) : Cn yX12_readInput cX12_readInput 9 none 3 65 [zr 132, zi p1] M ((fX12_readInput p1 M).map oU) := by
  refine Cn_mk (own := RX12) rfl (by decide) (Nat.le_of_ble_eq_true rfl) [some (zr 132), some (zi p1), none, none, none, none, none, none, none] rfl (fun G C hn => ?_)
  unfold fX12_readInput
  refine r_aload_n C dX12_readInput_0 rfl rfl ?_
  refine q_geti C clX12 kd_132 (k := 18) (by decide) flX12_238 dX12_readInput_1 (kz := 18) rfl (by decide) ?_
  refine r_join (γ := Mem) (pcJ := fun _ => 33) (al' := fun q4 => [some (zr 132), some (zi p1), none, none, none, none, none, none, none]) (st' := fun q4 => []) (M' := fun q4 => q4) ?_ ?_
  · intro q4
    refine r_aload_n C dX12_readInput_33 rfl rfl ?_
    refine q_geti C clX12 kd_132 (k := 8) (by decide) flX12_57 dX12_readInput_34 (kz := 8) rfl (by decide) ?_
    refine q_if_le (tgt := 41) C dX12_readInput_37 (by decide) (fun _ => ?_) (fun _ => ?_)
    · refine r_aload_n C dX12_readInput_41 rfl rfl ?_
      refine r_bipush C dX12_readInput_42 (by decide) ?_
      refine q_callVi (av := [zi 6]) (rest := []) C (tX12_newLine 6 q4) lkX12_241 kd_132 rfl rfl rfl (Nat.le_of_ble_eq_true rfl) ⟨by decide, by decide⟩ dX12_readInput_44 (fun q5 _ => ?_)
      refine r_istore_n (al' := [some (zr 132), some (zi p1), some (zi q5.1), none, none, none, none, none, none]) C dX12_readInput_47 rfl (by rw [hn]; decide) rfl ?_
      refine r_aload_n C dX12_readInput_48 rfl rfl ?_
      refine r_dup C dX12_readInput_49 rfl ?_
      refine q_geti C clX12 kd_132 (k := 7) (by decide) flX12_54 dX12_readInput_50 (kz := 7) rfl (by decide) ?_
      refine r_iconst C dX12_readInput_53 (by decide) ?_
      refine r_iadd C dX12_readInput_54 ?_
      refine q_puti C clX12 kd_132 (k := 7) (by decide) flX12_54 rfl dX12_readInput_55 rfl rfl (fun M6 => ?_)
      refine r_aload_n C dX12_readInput_58 rfl rfl ?_
      refine q_callVi (av := []) (rest := []) C (tX12_isName  M6) lkX12_245 kd_132 rfl rfl rfl (Nat.le_of_ble_eq_true rfl) ⟨by decide, by decide⟩ dX12_readInput_59 (fun q7 _ => ?_)
      refine r_join (γ := Mem) (pcJ := fun _ => 102) (al' := fun q12 => [some (zr 132), some (zi p1), some (zi q5.1), none, none, none, none, none, none]) (st' := fun q12 => []) (M' := fun q12 => q12) ?_ ?_
      · intro q12
        refine r_aload_n C dX12_readInput_102 rfl rfl ?_
        refine q_geti C clX12 kd_132 (k := 8) (by decide) flX12_57 dX12_readInput_103 (kz := 8) rfl (by decide) ?_
        refine q_if_le (tgt := 110) C dX12_readInput_106 (by decide) (fun _ => ?_) (fun _ => ?_)
        · refine r_aload_n C dX12_readInput_110 rfl rfl ?_
          refine r_getp C clX12 kd_132 (k := 6) (by decide) flX12_46 dX12_readInput_111 pt_132_6 ?_
          refine r_aload_n C dX12_readInput_114 rfl rfl ?_
          refine q_geti C clX12 kd_132 (k := 7) (by decide) flX12_54 dX12_readInput_115 (kz := 7) rfl (by decide) ?_
          refine r_laload C dX12_readInput_118 (fun v13 _ => ?_)
          refine r_lstore_n (al' := [some (zr 132), some (zi p1), some (zi q5.1), some (zl v13), none, none, none, none, none]) C dX12_readInput_119 rfl (by rw [hn]; decide) rfl ?_
          refine r_aload_n C dX12_readInput_120 rfl rfl ?_
          refine r_dup C dX12_readInput_121 rfl ?_
          refine q_geti C clX12 kd_132 (k := 7) (by decide) flX12_54 dX12_readInput_122 (kz := 7) rfl (by decide) ?_
          refine r_iconst C dX12_readInput_125 (by decide) ?_
          refine r_iadd C dX12_readInput_126 ?_
          refine q_puti C clX12 kd_132 (k := 7) (by decide) flX12_54 rfl dX12_readInput_127 rfl rfl (fun M14 => ?_)
          refine r_aload_n C dX12_readInput_130 rfl rfl ?_
          refine r_iconst C dX12_readInput_131 (by decide) ?_
          refine r_sipush C dX12_readInput_132 (by decide) ?_
          refine q_callVi (av := [zi 0, zi 999]) (rest := []) C (tX12_takeNumber 0 999 M14) lkX12_253 kd_132 rfl rfl rfl (Nat.le_of_ble_eq_true rfl) ⟨by decide, by decide⟩ dX12_readInput_135 (fun q15 _ => ?_)
          refine r_istore (al' := [some (zr 132), some (zi p1), some (zi q5.1), some (zl v13), none, some (zi q15.1), none, none, none]) C dX12_readInput_138 (by rw [hn]; decide) rfl ?_
          refine r_aload_n C dX12_readInput_140 rfl rfl ?_
          refine r_iload C dX12_readInput_141 rfl ?_
          refine r_sipush C dX12_readInput_143 (by decide) ?_
          refine q_callVi (av := [zi q15.1, zi 999]) (rest := []) C (tX12_takeNumber q15.1 999 q15.2) lkX12_253 kd_132 rfl rfl rfl (Nat.le_of_ble_eq_true rfl) ⟨by decide, by decide⟩ dX12_readInput_146 (fun q16 _ => ?_)
          refine r_istore (al' := [some (zr 132), some (zi p1), some (zi q5.1), some (zl v13), none, some (zi q15.1), some (zi q16.1), none, none]) C dX12_readInput_149 (by rw [hn]; decide) rfl ?_
          refine r_aload_n C dX12_readInput_151 rfl rfl ?_
          refine r_getp C clX12 kd_132 (k := 10) (by decide) flX12_126 dX12_readInput_152 pt_132_10 ?_
          refine r_sipush C dX12_readInput_155 (by decide) ?_
          refine r_iaload C dX12_readInput_158 (fun v17 _ => ?_)
          refine r_istore (al' := [some (zr 132), some (zi p1), some (zi q5.1), some (zl v13), none, some (zi q15.1), some (zi q16.1), some (zi v17), none]) C dX12_readInput_159 (by rw [hn]; decide) rfl ?_
          refine r_sipush C dX12_readInput_161 (by decide) ?_
          refine r_iconst C dX12_readInput_164 (by decide) ?_
          refine r_iload C dX12_readInput_165 rfl ?_
          refine r_imul C dX12_readInput_167 ?_
          refine r_iadd C dX12_readInput_168 ?_
          refine r_let (fun v18 _ => ?_)
          refine r_istore (al' := [some (zr 132), some (zi p1), some (zi q5.1), some (zl v13), none, some (zi q15.1), some (zi q16.1), some (zi v17), some (zi v18)]) C dX12_readInput_169 (by rw [hn]; decide) rfl ?_
          refine r_aload_n C dX12_readInput_171 rfl rfl ?_
          refine r_getp C clX12 kd_132 (k := 10) (by decide) flX12_126 dX12_readInput_172 pt_132_10 ?_
          refine r_iload C dX12_readInput_175 rfl ?_
          refine r_iload C dX12_readInput_177 rfl ?_
          refine r_iastore C dX12_readInput_179 (fun M19 _ => ?_)
          refine r_aload_n C dX12_readInput_180 rfl rfl ?_
          refine r_getp C clX12 kd_132 (k := 10) (by decide) flX12_126 dX12_readInput_181 pt_132_10 ?_
          refine r_iload C dX12_readInput_184 rfl ?_
          refine r_iconst C dX12_readInput_186 (by decide) ?_
          refine r_iadd C dX12_readInput_187 ?_
          refine r_iload C dX12_readInput_188 rfl ?_
          refine r_iastore C dX12_readInput_190 (fun M20 _ => ?_)
          refine r_aload_n C dX12_readInput_191 rfl rfl ?_
          refine r_getp C clX12 kd_132 (k := 10) (by decide) flX12_126 dX12_readInput_192 pt_132_10 ?_
          refine r_iload C dX12_readInput_195 rfl ?_
          refine r_iconst C dX12_readInput_197 (by decide) ?_
          refine r_iadd C dX12_readInput_198 ?_
          refine r_iload_n C dX12_readInput_199 rfl rfl ?_
          refine r_join (γ := Int) (pcJ := fun _ => 208) (al' := fun q21 => [some (zr 132), none, some (zi q5.1), some (zl v13), none, none, none, some (zi v17), none]) (st' := fun q21 => [zi q21, zi (w32 (v18 + 2)), zr 138]) (M' := fun q21 => M20) ?_ ?_
          · intro q21
            refine r_iastore C dX12_readInput_208 (fun M22 _ => ?_)
            refine r_aload_n C dX12_readInput_209 rfl rfl ?_
            refine r_getp C clX12 kd_132 (k := 11) (by decide) flX12_129 dX12_readInput_210 pt_132_11 ?_
            refine r_iload_n C dX12_readInput_213 rfl rfl ?_
            refine r_iconst C dX12_readInput_214 (by decide) ?_
            refine r_iadd C dX12_readInput_215 ?_
            refine r_aload_n C dX12_readInput_216 rfl rfl ?_
            refine q_geti C clX12 kd_132 (k := 14) (by decide) flX12_235 dX12_readInput_217 (kz := 14) rfl (by decide) ?_
            refine r_iastore C dX12_readInput_220 (fun M23 _ => ?_)
            refine r_aload_n C dX12_readInput_221 rfl rfl ?_
            refine r_getp C clX12 kd_132 (k := 11) (by decide) flX12_129 dX12_readInput_222 pt_132_11 ?_
            refine r_iload_n C dX12_readInput_225 rfl rfl ?_
            refine r_iconst C dX12_readInput_226 (by decide) ?_
            refine r_iadd C dX12_readInput_227 ?_
            refine r_iload C dX12_readInput_228 rfl ?_
            refine r_iastore C dX12_readInput_230 (fun M24 _ => ?_)
            refine r_aload_n C dX12_readInput_231 rfl rfl ?_
            refine r_getp C clX12 kd_132 (k := 10) (by decide) flX12_126 dX12_readInput_232 pt_132_10 ?_
            refine r_sipush C dX12_readInput_235 (by decide) ?_
            refine r_dup2 C dX12_readInput_238 rfl rfl ?_
            refine r_iaload C dX12_readInput_239 (fun v25 _ => ?_)
            refine r_iconst C dX12_readInput_240 (by decide) ?_
            refine r_iadd C dX12_readInput_241 ?_
            refine r_iastore C dX12_readInput_242 (fun M26 _ => ?_)
            refine r_aload_n C dX12_readInput_243 rfl rfl ?_
            refine q_geti C clX12 kd_132 (k := 8) (by decide) flX12_57 dX12_readInput_244 (kz := 8) rfl (by decide) ?_
            refine r_join (γ := Mem) (pcJ := fun _ => 256) (al' := fun q28 => [none, none, none, none, none, none, none, none, none]) (st' := fun q28 => []) (M' := fun q28 => q28) ?_ ?_
            · intro q28
              exact r_return C dX12_readInput_256 rfl
            · intro hJq28
              refine q_if_ne (tgt := 256) C dX12_readInput_247 (by decide) (fun _ => ?_) (fun _ => ?_)
              · refine r_less [false, false, false, false, false, false, false, false, false] rfl ?_
                exact hJq28 M26
              · refine r_aload_n C dX12_readInput_250 rfl rfl ?_
                refine r_lload_n C dX12_readInput_251 rfl rfl ?_
                refine r_iconst C dX12_readInput_252 (by decide) ?_
                refine q_callVv (av := [zl v13, zi 2]) (rest := []) C (tX12_tells v13 2 M26) lkX12_256 kd_132 rfl rfl rfl (Nat.le_of_ble_eq_true rfl) ⟨by decide, by decide⟩ dX12_readInput_253 (fun q27 _ => ?_)
                refine r_less [false, false, false, false, false, false, false, false, false] rfl ?_
                exact hJq28 q27
          · intro hJq21
            refine q_if_eq (tgt := 207) C dX12_readInput_200 (by decide) (fun _ => ?_) (fun _ => ?_)
            · refine r_iconst C dX12_readInput_207 (by decide) ?_
              refine r_less [true, false, true, true, false, false, false, true, false] rfl ?_
              exact hJq21 0
            · refine r_iconst C dX12_readInput_203 (by decide) ?_
              refine r_goto (tgt := 208) C dX12_readInput_204 (by decide) ?_
              refine r_less [true, false, true, true, false, false, false, true, false] rfl ?_
              exact hJq21 1
        · exact r_return C dX12_readInput_109 rfl
      · intro hJq12
        refine q_if_ne (tgt := 73) C dX12_readInput_62 (by decide) (fun _ => ?_) (fun _ => ?_)
        · refine r_aload_n C dX12_readInput_73 rfl rfl ?_
          refine q_callVi (av := []) (rest := []) C (tX12_nameAt  q7.2) lkX12_249 kd_132 rfl rfl rfl (Nat.le_of_ble_eq_true rfl) ⟨by decide, by decide⟩ dX12_readInput_74 (fun q8 _ => ?_)
          refine q_if_lt (tgt := 88) C dX12_readInput_77 (by decide) (fun _ => ?_) (fun _ => ?_)
          · refine r_aload_n C dX12_readInput_88 rfl rfl ?_
            refine q_geti C clX12 kd_132 (k := 14) (by decide) flX12_235 dX12_readInput_89 (kz := 14) rfl (by decide) ?_
            refine r_bipush C dX12_readInput_92 (by decide) ?_
            refine q_icmp_ne (tgt := 102) C dX12_readInput_94 (by decide) (fun _ => ?_) (fun _ => ?_)
            · exact hJq12 q8.2
            · refine r_aload_n C dX12_readInput_97 rfl rfl ?_
              refine r_iconst C dX12_readInput_98 (by decide) ?_
              refine q_callVv (av := [zi 5]) (rest := []) C (tX12_wrong 5 q8.2) lkX12_66 kd_132 rfl rfl rfl (Nat.le_of_ble_eq_true rfl) ⟨by decide, by decide⟩ dX12_readInput_99 (fun q9 _ => ?_)
              exact hJq12 q9
          · refine r_aload_n C dX12_readInput_80 rfl rfl ?_
            refine r_iconst C dX12_readInput_81 (by decide) ?_
            refine q_callVv (av := [zi 3]) (rest := []) C (tX12_wrong 3 q8.2) lkX12_66 kd_132 rfl rfl rfl (Nat.le_of_ble_eq_true rfl) ⟨by decide, by decide⟩ dX12_readInput_82 (fun q10 _ => ?_)
            refine r_goto (tgt := 102) C dX12_readInput_85 (by decide) ?_
            exact hJq12 q10
        · refine r_aload_n C dX12_readInput_65 rfl rfl ?_
          refine r_iconst C dX12_readInput_66 (by decide) ?_
          refine q_callVv (av := [zi 1]) (rest := []) C (tX12_wrong 1 q7.2) lkX12_66 kd_132 rfl rfl rfl (Nat.le_of_ble_eq_true rfl) ⟨by decide, by decide⟩ dX12_readInput_67 (fun q11 _ => ?_)
          refine r_goto (tgt := 102) C dX12_readInput_70 (by decide) ?_
          exact hJq12 q11
    · exact r_return C dX12_readInput_40 rfl
  · intro hJq4
    refine q_if_le (tgt := 15) C dX12_readInput_4 (by decide) (fun _ => ?_) (fun _ => ?_)
    · refine r_aload_n C dX12_readInput_15 rfl rfl ?_
      refine r_getp C clX12 kd_132 (k := 10) (by decide) flX12_126 dX12_readInput_16 pt_132_10 ?_
      refine r_sipush C dX12_readInput_19 (by decide) ?_
      refine r_iaload C dX12_readInput_22 (fun v1 _ => ?_)
      refine r_bipush C dX12_readInput_23 (by decide) ?_
      refine q_icmp_ne (tgt := 33) C dX12_readInput_25 (by decide) (fun _ => ?_) (fun _ => ?_)
      · exact hJq4 M
      · refine r_aload_n C dX12_readInput_28 rfl rfl ?_
        refine r_iconst C dX12_readInput_29 (by decide) ?_
        refine q_callVv (av := [zi 5]) (rest := []) C (tX12_wrong 5 M) lkX12_66 kd_132 rfl rfl rfl (Nat.le_of_ble_eq_true rfl) ⟨by decide, by decide⟩ dX12_readInput_30 (fun q2 _ => ?_)
        exact hJq4 q2
    · refine r_aload_n C dX12_readInput_7 rfl rfl ?_
      refine r_iconst C dX12_readInput_8 (by decide) ?_
      refine q_callVv (av := [zi 1]) (rest := []) C (tX12_wrong 1 M) lkX12_66 kd_132 rfl rfl rfl (Nat.le_of_ble_eq_true rfl) ⟨by decide, by decide⟩ dX12_readInput_9 (fun q3 _ => ?_)
      refine r_goto (tgt := 33) C dX12_readInput_12 (by decide) ?_
      exact hJq4 q3
set_option maxRecDepth 100000 in
set_option maxHeartbeats 4000000 in
theorem tX12_readLimit (p1 : Int) (p2 : Int) (p3 : Int) (M : Mem) : Cn yX12_readLimit cX12_readLimit 5 none 2 43 [zr 132, zi p1, zi p2, zi p3] M ((fX12_readLimit p1 p2 p3 M).map oU) := by
  refine Cn_mk (own := RX12) rfl (by decide) (Nat.le_of_ble_eq_true rfl) [some (zr 132), some (zi p1), some (zi p2), some (zi p3), none] rfl (fun G C hn => ?_)
  unfold fX12_readLimit
  refine r_sipush C dX12_readLimit_0 (by decide) ?_
  refine r_iload_n C dX12_readLimit_3 rfl rfl ?_
  refine r_iadd C dX12_readLimit_4 ?_
  refine r_iconst C dX12_readLimit_5 (by decide) ?_
  refine r_isub C dX12_readLimit_6 ?_
  refine r_let (fun v1 _ => ?_)
  refine r_istore (al' := [some (zr 132), some (zi p1), some (zi p2), some (zi p3), some (zi v1)]) C dX12_readLimit_7 (by rw [hn]; decide) rfl ?_
  refine r_aload_n C dX12_readLimit_9 rfl rfl ?_
  refine q_geti C clX12 kd_132 (k := 18) (by decide) flX12_238 dX12_readLimit_10 (kz := 18) rfl (by decide) ?_
  refine r_join (γ := Mem) (pcJ := fun _ => 39) (al' := fun q5 => [some (zr 132), none, some (zi p2), some (zi p3), some (zi v1)]) (st' := fun q5 => []) (M' := fun q5 => q5) ?_ ?_
  · intro q5
    refine r_aload_n C dX12_readLimit_39 rfl rfl ?_
    refine q_geti C clX12 kd_132 (k := 8) (by decide) flX12_57 dX12_readLimit_40 (kz := 8) rfl (by decide) ?_
    refine q_if_le (tgt := 47) C dX12_readLimit_43 (by decide) (fun _ => ?_) (fun _ => ?_)
    · refine r_aload_n C dX12_readLimit_47 rfl rfl ?_
      refine r_getp C clX12 kd_132 (k := 10) (by decide) flX12_126 dX12_readLimit_48 pt_132_10 ?_
      refine r_iload C dX12_readLimit_51 rfl ?_
      refine r_iconst C dX12_readLimit_53 (by decide) ?_
      refine r_iastore C dX12_readLimit_54 (fun M6 _ => ?_)
      refine r_aload_n C dX12_readLimit_55 rfl rfl ?_
      refine r_dup C dX12_readLimit_56 rfl ?_
      refine q_geti C clX12 kd_132 (k := 7) (by decide) flX12_54 dX12_readLimit_57 (kz := 7) rfl (by decide) ?_
      refine r_iconst C dX12_readLimit_60 (by decide) ?_
      refine r_iadd C dX12_readLimit_61 ?_
      refine q_puti C clX12 kd_132 (k := 7) (by decide) flX12_54 rfl dX12_readLimit_62 rfl rfl (fun M7 => ?_)
      refine r_aload_n C dX12_readLimit_65 rfl rfl ?_
      refine r_getp C clX12 kd_132 (k := 10) (by decide) flX12_126 dX12_readLimit_66 pt_132_10 ?_
      refine r_sipush C dX12_readLimit_69 (by decide) ?_
      refine r_iload_n C dX12_readLimit_72 rfl rfl ?_
      refine r_iadd C dX12_readLimit_73 ?_
      refine r_aload_n C dX12_readLimit_74 rfl rfl ?_
      refine r_iconst C dX12_readLimit_75 (by decide) ?_
      refine r_iload_n C dX12_readLimit_76 rfl rfl ?_
      refine q_callVi (av := [zi 1, zi p3]) (rest := [zi (w32 (412 + p2)), zr 138]) C (tX12_takeNumber 1 p3 M7) lkX12_253 kd_132 rfl rfl rfl (Nat.le_of_ble_eq_true rfl) ⟨by decide, by decide⟩ dX12_readLimit_77 (fun q8 _ => ?_)
      refine r_iastore C dX12_readLimit_80 (fun M9 _ => ?_)
      exact r_return C dX12_readLimit_81 rfl
    · exact r_return C dX12_readLimit_46 rfl
  · intro hJq5
    refine q_if_le (tgt := 24) C dX12_readLimit_13 (by decide) (fun _ => ?_) (fun _ => ?_)
    · refine r_aload_n C dX12_readLimit_24 rfl rfl ?_
      refine r_getp C clX12 kd_132 (k := 10) (by decide) flX12_126 dX12_readLimit_25 pt_132_10 ?_
      refine r_iload C dX12_readLimit_28 rfl ?_
      refine r_iaload C dX12_readLimit_30 (fun v2 _ => ?_)
      refine q_if_le (tgt := 39) C dX12_readLimit_31 (by decide) (fun _ => ?_) (fun _ => ?_)
      · refine r_less [true, false, true, true, true] rfl ?_
        exact hJq5 M
      · refine r_aload_n C dX12_readLimit_34 rfl rfl ?_
        refine r_iconst C dX12_readLimit_35 (by decide) ?_
        refine q_callVv (av := [zi 3]) (rest := []) C (tX12_wrong 3 M) lkX12_66 kd_132 rfl rfl rfl (Nat.le_of_ble_eq_true rfl) ⟨by decide, by decide⟩ dX12_readLimit_36 (fun q3 _ => ?_)
        refine r_less [true, false, true, true, true] rfl ?_
        exact hJq5 q3
    · refine r_aload_n C dX12_readLimit_16 rfl rfl ?_
      refine r_iconst C dX12_readLimit_17 (by decide) ?_
      refine q_callVv (av := [zi 1]) (rest := []) C (tX12_wrong 1 M) lkX12_66 kd_132 rfl rfl rfl (Nat.le_of_ble_eq_true rfl) ⟨by decide, by decide⟩ dX12_readLimit_18 (fun q4 _ => ?_)
      refine r_goto (tgt := 39) C dX12_readLimit_21 (by decide) ?_
      refine r_less [true, false, true, true, true] rfl ?_
      exact hJq5 q4
set_option maxRecDepth 100000 in
set_option maxHeartbeats 4000000 in
theorem tX12_typeOf (p1 : Int) (M : Mem) : Cn yX12_typeOf cX12_typeOf 1 (some .int) 0 0 [zi p1] M ((fX12_typeOf p1 M).map oI) := by
  refine Cn_mk (own := RX12) rfl (by decide) (Nat.le_of_ble_eq_true rfl) [some (zi p1)] rfl (fun G C hn => ?_)
  unfold fX12_typeOf
  refine r_iload_n C dX12_typeOf_0 rfl rfl ?_
  refine r_iconst C dX12_typeOf_1 (by decide) ?_
  refine r_join (γ := Int) (pcJ := fun _ => 10) (al' := fun q1 => [none]) (st' := fun q1 => [zi q1]) (M' := fun q1 => M) ?_ ?_
  · intro q1
    exact r_ireturn C dX12_typeOf_10 rfl
  · intro hJq1
    refine q_icmp_ne (tgt := 9) C dX12_typeOf_2 (by decide) (fun _ => ?_) (fun _ => ?_)
    · refine r_iload_n C dX12_typeOf_9 rfl rfl ?_
      refine r_less [false] rfl ?_
      exact hJq1 p1
    · refine r_iconst C dX12_typeOf_5 (by decide) ?_
      refine r_goto (tgt := 10) C dX12_typeOf_6 (by decide) ?_
      refine r_less [false] rfl ?_
      exact hJq1 0
set_option maxRecDepth 100000 in
set_option maxHeartbeats 4000000 in
theorem tX12_takeArg (p1 : Int) (p2 : Int) (M : Mem) : Cn yX12_takeArg cX12_takeArg 5 none 3 65 [zr 132, zi p1, zi p2] M ((fX12_takeArg p1 p2 M).map oU) := by
  refine Cn_mk (own := RX12) rfl (by decide) (Nat.le_of_ble_eq_true rfl) [some (zr 132), some (zi p1), some (zi p2), none, none] rfl (fun G C hn => ?_)
  unfold fX12_takeArg
  refine r_aload_n C dX12_takeArg_0 rfl rfl ?_
  refine q_geti C clX12 kd_132 (k := 8) (by decide) flX12_57 dX12_takeArg_1 (kz := 8) rfl (by decide) ?_
  refine q_if_le (tgt := 8) C dX12_takeArg_4 (by decide) (fun _ => ?_) (fun _ => ?_)
  · refine r_aload_n C dX12_takeArg_8 rfl rfl ?_
    refine r_getp C clX12 kd_132 (k := 4) (by decide) flX12_43 dX12_takeArg_9 pt_132_4 ?_
    refine r_aload_n C dX12_takeArg_12 rfl rfl ?_
    refine q_geti C clX12 kd_132 (k := 7) (by decide) flX12_54 dX12_takeArg_13 (kz := 7) rfl (by decide) ?_
    refine r_iaload C dX12_takeArg_16 (fun v1 _ => ?_)
    refine r_iconst C dX12_takeArg_17 (by decide) ?_
    refine r_join (γ := Int) (pcJ := fun _ => 26) (al' := fun q2 => [some (zr 132), some (zi p1), some (zi p2), none, none]) (st' := fun q2 => [zi q2]) (M' := fun q2 => M) ?_ ?_
    · intro q2
      refine r_istore_n (al' := [some (zr 132), some (zi p1), some (zi p2), some (zi q2), none]) C dX12_takeArg_26 rfl (by rw [hn]; decide) rfl ?_
      refine r_aload_n C dX12_takeArg_27 rfl rfl ?_
      refine q_callVi (av := []) (rest := []) C (tX12_isName  M) lkX12_245 kd_132 rfl rfl rfl (Nat.le_of_ble_eq_true rfl) ⟨by decide, by decide⟩ dX12_takeArg_28 (fun q3 _ => ?_)
      refine r_join (γ := Int × Mem) (pcJ := fun _ => 42) (al' := fun q5 => [some (zr 132), some (zi p1), some (zi p2), some (zi q2), none]) (st' := fun q5 => [zi q5.1]) (M' := fun q5 => q5.2) ?_ ?_
      · intro q5
        refine r_istore (al' := [some (zr 132), some (zi p1), some (zi p2), some (zi q2), some (zi q5.1)]) C dX12_takeArg_42 (by rw [hn]; decide) rfl ?_
        refine r_iload_n C dX12_takeArg_44 rfl rfl ?_
        refine r_join (γ := Mem) (pcJ := fun _ => 77) (al' := fun q10 => [some (zr 132), some (zi p1), some (zi p2), some (zi q2), some (zi q5.1)]) (st' := fun q10 => []) (M' := fun q10 => q10) ?_ ?_
        · intro q10
          refine r_aload_n C dX12_takeArg_77 rfl rfl ?_
          refine r_iload_n C dX12_takeArg_78 rfl rfl ?_
          refine r_join (γ := Int × Mem) (pcJ := fun _ => 101) (al' := fun q13 => [some (zr 132), some (zi p1), some (zi p2), some (zi q2), some (zi q5.1)]) (st' := fun q13 => [zi q13.1, zr 132]) (M' := fun q13 => q13.2) ?_ ?_
          · intro q13
            refine q_puti C clX12 kd_132 (k := 19) (by decide) flX12_263 rfl dX12_takeArg_101 rfl rfl (fun M14 => ?_)
            refine r_iload_n C dX12_takeArg_104 rfl rfl ?_
            refine r_iconst C dX12_takeArg_105 (by decide) ?_
            refine r_join (γ := Mem) (pcJ := fun _ => 123) (al' := fun q16 => [some (zr 132), some (zi p1), none, some (zi q2), some (zi q5.1)]) (st' := fun q16 => []) (M' := fun q16 => q16) ?_ ?_
            · intro q16
              refine r_aload_n C dX12_takeArg_123 rfl rfl ?_
              refine q_geti C clX12 kd_132 (k := 8) (by decide) flX12_57 dX12_takeArg_124 (kz := 8) rfl (by decide) ?_
              refine q_if_le (tgt := 131) C dX12_takeArg_127 (by decide) (fun _ => ?_) (fun _ => ?_)
              · refine r_aload_n C dX12_takeArg_131 rfl rfl ?_
                refine r_getp C clX12 kd_132 (k := 11) (by decide) flX12_129 dX12_takeArg_132 pt_132_11 ?_
                refine r_iload_n C dX12_takeArg_135 rfl rfl ?_
                refine r_iload_n C dX12_takeArg_136 rfl rfl ?_
                refine r_join (γ := Int) (pcJ := fun _ => 157) (al' := fun q18 => [some (zr 132), some (zi p1), none, none, none]) (st' := fun q18 => [zi q18, zi p1, zr 139]) (M' := fun q18 => q16) ?_ ?_
                · intro q18
                  refine r_iastore C dX12_takeArg_157 (fun M19 _ => ?_)
                  refine r_aload_n C dX12_takeArg_158 rfl rfl ?_
                  refine r_getp C clX12 kd_132 (k := 11) (by decide) flX12_129 dX12_takeArg_159 pt_132_11 ?_
                  refine r_iload_n C dX12_takeArg_162 rfl rfl ?_
                  refine r_iconst C dX12_takeArg_163 (by decide) ?_
                  refine r_iadd C dX12_takeArg_164 ?_
                  refine r_aload_n C dX12_takeArg_165 rfl rfl ?_
                  refine r_getp C clX12 kd_132 (k := 5) (by decide) flX12_36 dX12_takeArg_166 pt_132_5 ?_
                  refine r_aload_n C dX12_takeArg_169 rfl rfl ?_
                  refine q_geti C clX12 kd_132 (k := 7) (by decide) flX12_54 dX12_takeArg_170 (kz := 7) rfl (by decide) ?_
                  refine r_iaload C dX12_takeArg_173 (fun v20 _ => ?_)
                  refine r_iastore C dX12_takeArg_174 (fun M21 _ => ?_)
                  refine r_aload_n C dX12_takeArg_175 rfl rfl ?_
                  refine r_dup C dX12_takeArg_176 rfl ?_
                  refine q_geti C clX12 kd_132 (k := 7) (by decide) flX12_54 dX12_takeArg_177 (kz := 7) rfl (by decide) ?_
                  refine r_iconst C dX12_takeArg_180 (by decide) ?_
                  refine r_iadd C dX12_takeArg_181 ?_
                  refine q_puti C clX12 kd_132 (k := 7) (by decide) flX12_54 rfl dX12_takeArg_182 rfl rfl (fun M22 => ?_)
                  exact r_return C dX12_takeArg_185 rfl
                · intro hJq18
                  refine q_if_eq (tgt := 153) C dX12_takeArg_137 (by decide) (fun _ => ?_) (fun _ => ?_)
                  · refine r_iconst C dX12_takeArg_153 (by decide) ?_
                    refine r_iload C dX12_takeArg_154 rfl ?_
                    refine r_isub C dX12_takeArg_156 ?_
                    refine r_less [true, true, false, false, false] rfl ?_
                    exact hJq18 (w32 ((-1) - q5.1))
                  · refine r_aload_n C dX12_takeArg_140 rfl rfl ?_
                    refine r_getp C clX12 kd_132 (k := 6) (by decide) flX12_46 dX12_takeArg_141 pt_132_6 ?_
                    refine r_aload_n C dX12_takeArg_144 rfl rfl ?_
                    refine q_geti C clX12 kd_132 (k := 7) (by decide) flX12_54 dX12_takeArg_145 (kz := 7) rfl (by decide) ?_
                    refine r_laload C dX12_takeArg_148 (fun v17 _ => ?_)
                    refine r_l2i C dX12_takeArg_149 ?_
                    refine r_goto (tgt := 157) C dX12_takeArg_150 (by decide) ?_
                    refine r_less [true, true, false, false, false] rfl ?_
                    exact hJq18 (w32 v17)
              · exact r_return C dX12_takeArg_130 rfl
            · intro hJq16
              refine q_icmp_eq (tgt := 123) C dX12_takeArg_106 (by decide) (fun _ => ?_) (fun _ => ?_)
              · refine r_less [true, true, false, true, true] rfl ?_
                exact hJq16 M14
              · refine r_aload_n C dX12_takeArg_109 rfl rfl ?_
                refine q_geti C clX12 kd_132 (k := 19) (by decide) flX12_263 dX12_takeArg_110 (kz := 19) rfl (by decide) ?_
                refine r_iload_n C dX12_takeArg_113 rfl rfl ?_
                refine q_icmp_eq (tgt := 123) C dX12_takeArg_114 (by decide) (fun _ => ?_) (fun _ => ?_)
                · refine r_less [true, true, false, true, true] rfl ?_
                  exact hJq16 M14
                · refine r_aload_n C dX12_takeArg_117 rfl rfl ?_
                  refine r_bipush C dX12_takeArg_118 (by decide) ?_
                  refine q_callVv (av := [zi 6]) (rest := []) C (tX12_wrong 6 M14) lkX12_66 kd_132 rfl rfl rfl (Nat.le_of_ble_eq_true rfl) ⟨by decide, by decide⟩ dX12_takeArg_120 (fun q15 _ => ?_)
                  refine r_less [true, true, false, true, true] rfl ?_
                  exact hJq16 q15
          · intro hJq13
            refine q_if_ne (tgt := 87) C dX12_takeArg_79 (by decide) (fun _ => ?_) (fun _ => ?_)
            · refine r_iconst C dX12_takeArg_87 (by decide) ?_
              refine r_goto (tgt := 101) C dX12_takeArg_88 (by decide) ?_
              exact hJq13 (0, q10)
            · refine r_iload C dX12_takeArg_82 rfl ?_
              refine q_if_ge (tgt := 91) C dX12_takeArg_84 (by decide) (fun _ => ?_) (fun _ => ?_)
              · refine r_aload_n C dX12_takeArg_91 rfl rfl ?_
                refine r_getp C clX12 kd_132 (k := 13) (by decide) flX12_135 dX12_takeArg_92 pt_132_13 ?_
                refine r_iload C dX12_takeArg_95 rfl ?_
                refine r_iaload C dX12_takeArg_97 (fun v11 _ => ?_)
                refine q_callSi (av := [zi v11]) (rest := [zr 132]) C (tX12_typeOf v11 q10) lkX12_260 rfl rfl (Nat.le_of_ble_eq_true rfl) ⟨by decide, by decide⟩ dX12_takeArg_98 (fun q12 _ => ?_)
                exact hJq13 (q12.1, q12.2)
              · refine r_iconst C dX12_takeArg_87 (by decide) ?_
                refine r_goto (tgt := 101) C dX12_takeArg_88 (by decide) ?_
                exact hJq13 (0, q10)
        · intro hJq10
          refine q_if_ne (tgt := 63) C dX12_takeArg_45 (by decide) (fun _ => ?_) (fun _ => ?_)
          · refine r_iload_n C dX12_takeArg_63 rfl rfl ?_
            refine q_if_ne (tgt := 77) C dX12_takeArg_64 (by decide) (fun _ => ?_) (fun _ => ?_)
            · exact hJq10 q5.2
            · refine r_iload C dX12_takeArg_67 rfl ?_
              refine q_if_ge (tgt := 77) C dX12_takeArg_69 (by decide) (fun _ => ?_) (fun _ => ?_)
              · exact hJq10 q5.2
              · refine r_aload_n C dX12_takeArg_72 rfl rfl ?_
                refine r_iconst C dX12_takeArg_73 (by decide) ?_
                refine q_callVv (av := [zi 2]) (rest := []) C (tX12_wrong 2 q5.2) lkX12_66 kd_132 rfl rfl rfl (Nat.le_of_ble_eq_true rfl) ⟨by decide, by decide⟩ dX12_takeArg_74 (fun q6 _ => ?_)
                exact hJq10 q6
          · refine r_aload_n C dX12_takeArg_48 rfl rfl ?_
            refine q_callVi (av := []) (rest := []) C (tX12_isName  q5.2) lkX12_245 kd_132 rfl rfl rfl (Nat.le_of_ble_eq_true rfl) ⟨by decide, by decide⟩ dX12_takeArg_49 (fun q7 _ => ?_)
            refine q_if_ne (tgt := 63) C dX12_takeArg_52 (by decide) (fun _ => ?_) (fun _ => ?_)
            · refine r_iload_n C dX12_takeArg_63 rfl rfl ?_
              refine q_if_ne (tgt := 77) C dX12_takeArg_64 (by decide) (fun _ => ?_) (fun _ => ?_)
              · exact hJq10 q7.2
              · refine r_iload C dX12_takeArg_67 rfl ?_
                refine q_if_ge (tgt := 77) C dX12_takeArg_69 (by decide) (fun _ => ?_) (fun _ => ?_)
                · exact hJq10 q7.2
                · refine r_aload_n C dX12_takeArg_72 rfl rfl ?_
                  refine r_iconst C dX12_takeArg_73 (by decide) ?_
                  refine q_callVv (av := [zi 2]) (rest := []) C (tX12_wrong 2 q7.2) lkX12_66 kd_132 rfl rfl rfl (Nat.le_of_ble_eq_true rfl) ⟨by decide, by decide⟩ dX12_takeArg_74 (fun q8 _ => ?_)
                  exact hJq10 q8
            · refine r_aload_n C dX12_takeArg_55 rfl rfl ?_
              refine r_iconst C dX12_takeArg_56 (by decide) ?_
              refine q_callVv (av := [zi 1]) (rest := []) C (tX12_wrong 1 q7.2) lkX12_66 kd_132 rfl rfl rfl (Nat.le_of_ble_eq_true rfl) ⟨by decide, by decide⟩ dX12_takeArg_57 (fun q9 _ => ?_)
              refine r_goto (tgt := 77) C dX12_takeArg_60 (by decide) ?_
              exact hJq10 q9
      · intro hJq5
        refine q_if_eq (tgt := 41) C dX12_takeArg_31 (by decide) (fun _ => ?_) (fun _ => ?_)
        · refine r_iconst C dX12_takeArg_41 (by decide) ?_
          exact hJq5 ((-1), q3.2)
        · refine r_aload_n C dX12_takeArg_34 rfl rfl ?_
          refine q_callVi (av := []) (rest := []) C (tX12_nameAt  q3.2) lkX12_249 kd_132 rfl rfl rfl (Nat.le_of_ble_eq_true rfl) ⟨by decide, by decide⟩ dX12_takeArg_35 (fun q4 _ => ?_)
          refine r_goto (tgt := 42) C dX12_takeArg_38 (by decide) ?_
          exact hJq5 (q4.1, q4.2)
    · intro hJq2
      refine q_icmp_ne (tgt := 25) C dX12_takeArg_18 (by decide) (fun _ => ?_) (fun _ => ?_)
      · refine r_iconst C dX12_takeArg_25 (by decide) ?_
        exact hJq2 0
      · refine r_iconst C dX12_takeArg_21 (by decide) ?_
        refine r_goto (tgt := 26) C dX12_takeArg_22 (by decide) ?_
        exact hJq2 1
  · exact r_return C dX12_takeArg_7 rfl
set_option maxRecDepth 100000 in
set_option maxHeartbeats 4000000 in
theorem tX12_makesFlag (p1 : Int) (M : Mem) : Cn yX12_makesFlag cX12_makesFlag 1 (some .boolean) 0 0 [zi p1] M ((fX12_makesFlag p1 M).map oI) := by
  refine Cn_mk (own := RX12) rfl (by decide) (Nat.le_of_ble_eq_true rfl) [some (zi p1)] rfl (fun G C hn => ?_)
  unfold fX12_makesFlag
  refine r_iload_n C dX12_makesFlag_0 rfl rfl ?_
  refine r_bipush C dX12_makesFlag_1 (by decide) ?_
  refine r_join (γ := Int) (pcJ := fun _ => 17) (al' := fun q1 => [none]) (st' := fun q1 => [zi q1]) (M' := fun q1 => M) ?_ ?_
  · intro q1
    exact r_zreturn C dX12_makesFlag_17 rfl
  · intro hJq1
    refine q_icmp_lt (tgt := 16) C dX12_makesFlag_3 (by decide) (fun _ => ?_) (fun _ => ?_)
    · refine r_iconst C dX12_makesFlag_16 (by decide) ?_
      refine r_less [false] rfl ?_
      exact hJq1 0
    · refine r_iload_n C dX12_makesFlag_6 rfl rfl ?_
      refine r_bipush C dX12_makesFlag_7 (by decide) ?_
      refine q_icmp_gt (tgt := 16) C dX12_makesFlag_9 (by decide) (fun _ => ?_) (fun _ => ?_)
      · refine r_iconst C dX12_makesFlag_16 (by decide) ?_
        refine r_less [false] rfl ?_
        exact hJq1 0
      · refine r_iconst C dX12_makesFlag_12 (by decide) ?_
        refine r_goto (tgt := 17) C dX12_makesFlag_13 (by decide) ?_
        refine r_less [false] rfl ?_
        exact hJq1 1
set_option maxRecDepth 100000 in
set_option maxHeartbeats 4000000 in
theorem tX12_argsOf (p1 : Int) (M : Mem) : Cn yX12_argsOf cX12_argsOf 1 (some .int) 0 0 [zi p1] M ((fX12_argsOf p1 M).map oI) := by
  refine Cn_mk (own := RX12) rfl (by decide) (Nat.le_of_ble_eq_true rfl) [some (zi p1)] rfl (fun G C hn => ?_)
  unfold fX12_argsOf
  refine r_iload_n C dX12_argsOf_0 rfl rfl ?_
  refine r_bipush C dX12_argsOf_1 (by decide) ?_
  refine r_join (γ := Int) (pcJ := fun _ => 33) (al' := fun q1 => [none]) (st' := fun q1 => [zi q1]) (M' := fun q1 => M) ?_ ?_
  · intro q1
    exact r_ireturn C dX12_argsOf_33 rfl
  · intro hJq1
    refine q_icmp_eq (tgt := 18) C dX12_argsOf_3 (by decide) (fun _ => ?_) (fun _ => ?_)
    · refine r_iconst C dX12_argsOf_18 (by decide) ?_
      refine r_goto (tgt := 33) C dX12_argsOf_19 (by decide) ?_
      refine r_less [false] rfl ?_
      exact hJq1 1
    · refine r_iload_n C dX12_argsOf_6 rfl rfl ?_
      refine r_bipush C dX12_argsOf_7 (by decide) ?_
      refine q_icmp_eq (tgt := 18) C dX12_argsOf_9 (by decide) (fun _ => ?_) (fun _ => ?_)
      · refine r_iconst C dX12_argsOf_18 (by decide) ?_
        refine r_goto (tgt := 33) C dX12_argsOf_19 (by decide) ?_
        refine r_less [false] rfl ?_
        exact hJq1 1
      · refine r_iload_n C dX12_argsOf_12 rfl rfl ?_
        refine r_bipush C dX12_argsOf_13 (by decide) ?_
        refine q_icmp_ne (tgt := 22) C dX12_argsOf_15 (by decide) (fun _ => ?_) (fun _ => ?_)
        · refine r_iload_n C dX12_argsOf_22 rfl rfl ?_
          refine r_bipush C dX12_argsOf_23 (by decide) ?_
          refine q_icmp_ne (tgt := 32) C dX12_argsOf_25 (by decide) (fun _ => ?_) (fun _ => ?_)
          · refine r_iconst C dX12_argsOf_32 (by decide) ?_
            refine r_less [false] rfl ?_
            exact hJq1 2
          · refine r_iconst C dX12_argsOf_28 (by decide) ?_
            refine r_goto (tgt := 33) C dX12_argsOf_29 (by decide) ?_
            refine r_less [false] rfl ?_
            exact hJq1 3
        · refine r_iconst C dX12_argsOf_18 (by decide) ?_
          refine r_goto (tgt := 33) C dX12_argsOf_19 (by decide) ?_
          refine r_less [false] rfl ?_
          exact hJq1 1
set_option maxRecDepth 100000 in
set_option maxHeartbeats 4000000 in
theorem tX12_readIs  (M : Mem) : Cn yX12_readIs cX12_readIs 9 none 4 89 [zr 132] M ((fX12_readIs  M).map oU) := by
  refine Cn_mk (own := RX12) rfl (by decide) (Nat.le_of_ble_eq_true rfl) [some (zr 132), none, none, none, none, none, none, none, none] rfl (fun G C hn => ?_)
  unfold fX12_readIs
  refine r_aload_n C dX12_readIs_0 rfl rfl ?_
  refine q_callVi (av := []) (rest := []) C (tX12_nameAt  M) lkX12_249 kd_132 rfl rfl rfl (Nat.le_of_ble_eq_true rfl) ⟨by decide, by decide⟩ dX12_readIs_1 (fun q1 _ => ?_)
  refine r_istore_n (al' := [some (zr 132), some (zi q1.1), none, none, none, none, none, none, none]) C dX12_readIs_4 rfl (by rw [hn]; decide) rfl ?_
  refine r_iload_n C dX12_readIs_5 rfl rfl ?_
  refine r_join (γ := Bool) (pcJ := fun q3 => if q3 = true then 27 else 19) (al' := fun q3 => [some (zr 132), some (zi q1.1), none, none, none, none, none, none, none]) (st' := fun q3 => []) (M' := fun q3 => q1.2) ?_ ?_
  · intro q3
    refine r_join (γ := Mem) (pcJ := fun _ => 45) (al' := fun q6 => [some (zr 132), some (zi q1.1), none, none, none, none, none, none, none]) (st' := fun q6 => []) (M' := fun q6 => q6) ?_ ?_
    · intro q6
      refine r_aload_n C dX12_readIs_45 rfl rfl ?_
      refine q_geti C clX12 kd_132 (k := 8) (by decide) flX12_57 dX12_readIs_46 (kz := 8) rfl (by decide) ?_
      refine q_if_le (tgt := 53) C dX12_readIs_49 (by decide) (fun _ => ?_) (fun _ => ?_)
      · refine r_aload_n C dX12_readIs_53 rfl rfl ?_
        refine r_iconst C dX12_readIs_54 (by decide) ?_
        refine q_callVi (av := [zi 0]) (rest := []) C (tX12_newLine 0 q6) lkX12_241 kd_132 rfl rfl rfl (Nat.le_of_ble_eq_true rfl) ⟨by decide, by decide⟩ dX12_readIs_55 (fun q7 _ => ?_)
        refine r_istore_n (al' := [some (zr 132), some (zi q1.1), some (zi q7.1), none, none, none, none, none, none]) C dX12_readIs_58 rfl (by rw [hn]; decide) rfl ?_
        refine r_aload_n C dX12_readIs_59 rfl rfl ?_
        refine r_getp C clX12 kd_132 (k := 6) (by decide) flX12_46 dX12_readIs_60 pt_132_6 ?_
        refine r_aload_n C dX12_readIs_63 rfl rfl ?_
        refine q_geti C clX12 kd_132 (k := 7) (by decide) flX12_54 dX12_readIs_64 (kz := 7) rfl (by decide) ?_
        refine r_laload C dX12_readIs_67 (fun v8 _ => ?_)
        refine r_lstore_n (al' := [some (zr 132), some (zi q1.1), some (zi q7.1), some (zl v8), none, none, none, none, none]) C dX12_readIs_68 rfl (by rw [hn]; decide) rfl ?_
        refine r_iload_n C dX12_readIs_69 rfl rfl ?_
        refine r_join (γ := Int) (pcJ := fun _ => 83) (al' := fun q10 => [some (zr 132), some (zi q1.1), some (zi q7.1), some (zl v8), none, none, none, none, none]) (st' := fun q10 => [zi q10]) (M' := fun q10 => q7.2) ?_ ?_
        · intro q10
          refine r_istore (al' := [some (zr 132), some (zi q1.1), some (zi q7.1), some (zl v8), none, some (zi q10), none, none, none]) C dX12_readIs_83 (by rw [hn]; decide) rfl ?_
          refine r_aload_n C dX12_readIs_85 rfl rfl ?_
          refine r_dup C dX12_readIs_86 rfl ?_
          refine q_geti C clX12 kd_132 (k := 7) (by decide) flX12_54 dX12_readIs_87 (kz := 7) rfl (by decide) ?_
          refine r_iconst C dX12_readIs_90 (by decide) ?_
          refine r_iadd C dX12_readIs_91 ?_
          refine q_puti C clX12 kd_132 (k := 7) (by decide) flX12_54 rfl dX12_readIs_92 rfl rfl (fun M11 => ?_)
          refine r_aload_n C dX12_readIs_95 rfl rfl ?_
          refine r_iconst C dX12_readIs_96 (by decide) ?_
          refine q_callVv (av := [zi 4]) (rest := []) C (tX12_takeWord 4 M11) lkX12_266 kd_132 rfl rfl rfl (Nat.le_of_ble_eq_true rfl) ⟨by decide, by decide⟩ dX12_readIs_97 (fun q12 _ => ?_)
          refine r_aload_n C dX12_readIs_100 rfl rfl ?_
          refine r_bipush C dX12_readIs_101 (by decide) ?_
          refine r_bipush C dX12_readIs_103 (by decide) ?_
          refine q_callVi (av := [zi 10, zi 13]) (rest := []) C (tX12_wordHere 10 13 q12) lkX12_70 kd_132 rfl rfl rfl (Nat.le_of_ble_eq_true rfl) ⟨by decide, by decide⟩ dX12_readIs_105 (fun q13 _ => ?_)
          refine r_iconst C dX12_readIs_108 (by decide) ?_
          refine r_iadd C dX12_readIs_109 ?_
          refine r_let (fun v14 _ => ?_)
          refine r_istore (al' := [some (zr 132), some (zi q1.1), some (zi q7.1), some (zl v8), none, some (zi q10), some (zi v14), none, none]) C dX12_readIs_110 (by rw [hn]; decide) rfl ?_
          refine r_iload C dX12_readIs_112 rfl ?_
          refine r_iconst C dX12_readIs_114 (by decide) ?_
          refine r_join (γ := Mem) (pcJ := fun _ => 163) (al' := fun q19 => [some (zr 132), some (zi q1.1), some (zi q7.1), some (zl v8), none, some (zi q10), some (zi v14), none, none]) (st' := fun q19 => []) (M' := fun q19 => q19) ?_ ?_
          · intro q19
            refine r_aload_n C dX12_readIs_163 rfl rfl ?_
            refine r_getp C clX12 kd_132 (k := 11) (by decide) flX12_129 dX12_readIs_164 pt_132_11 ?_
            refine r_iload_n C dX12_readIs_167 rfl rfl ?_
            refine r_iconst C dX12_readIs_168 (by decide) ?_
            refine r_iadd C dX12_readIs_169 ?_
            refine r_iload_n C dX12_readIs_170 rfl rfl ?_
            refine r_join (γ := Int) (pcJ := fun _ => 182) (al' := fun q20 => [some (zr 132), some (zi q1.1), some (zi q7.1), some (zl v8), none, some (zi q10), some (zi v14), none, none]) (st' := fun q20 => [zi q20, zi (w32 (q7.1 + 1)), zr 139]) (M' := fun q20 => q19) ?_ ?_
            · intro q20
              refine r_iastore C dX12_readIs_182 (fun M21 _ => ?_)
              refine r_aload_n C dX12_readIs_183 rfl rfl ?_
              refine r_getp C clX12 kd_132 (k := 11) (by decide) flX12_129 dX12_readIs_184 pt_132_11 ?_
              refine r_iload_n C dX12_readIs_187 rfl rfl ?_
              refine r_iconst C dX12_readIs_188 (by decide) ?_
              refine r_iadd C dX12_readIs_189 ?_
              refine r_iload C dX12_readIs_190 rfl ?_
              refine r_iastore C dX12_readIs_192 (fun M22 _ => ?_)
              refine r_aload_n C dX12_readIs_193 rfl rfl ?_
              refine r_getp C clX12 kd_132 (k := 11) (by decide) flX12_129 dX12_readIs_194 pt_132_11 ?_
              refine r_iload_n C dX12_readIs_197 rfl rfl ?_
              refine r_iconst C dX12_readIs_198 (by decide) ?_
              refine r_iadd C dX12_readIs_199 ?_
              refine r_aload_n C dX12_readIs_200 rfl rfl ?_
              refine q_geti C clX12 kd_132 (k := 8) (by decide) flX12_57 dX12_readIs_201 (kz := 8) rfl (by decide) ?_
              refine r_join (γ := Int) (pcJ := fun _ => 220) (al' := fun q24 => [some (zr 132), some (zi q1.1), some (zi q7.1), some (zl v8), none, some (zi q10), some (zi v14), none, none]) (st' := fun q24 => [zi q24, zi (w32 (q7.1 + 4)), zr 139]) (M' := fun q24 => M22) ?_ ?_
              · intro q24
                refine r_iastore C dX12_readIs_220 (fun M25 _ => ?_)
                refine r_aload_n C dX12_readIs_221 rfl rfl ?_
                refine r_dup C dX12_readIs_222 rfl ?_
                refine q_geti C clX12 kd_132 (k := 7) (by decide) flX12_54 dX12_readIs_223 (kz := 7) rfl (by decide) ?_
                refine r_aload_n C dX12_readIs_226 rfl rfl ?_
                refine q_geti C clX12 kd_132 (k := 8) (by decide) flX12_57 dX12_readIs_227 (kz := 8) rfl (by decide) ?_
                refine r_join (γ := Int) (pcJ := fun _ => 238) (al' := fun q26 => [some (zr 132), some (zi q1.1), some (zi q7.1), some (zl v8), none, some (zi q10), some (zi v14), none, none]) (st' := fun q26 => [zi q26, zi (M25 132 7), zr 132]) (M' := fun q26 => M25) ?_ ?_
                · intro q26
                  refine r_iadd C dX12_readIs_238 ?_
                  refine q_puti C clX12 kd_132 (k := 7) (by decide) flX12_54 rfl dX12_readIs_239 rfl rfl (fun M27 => ?_)
                  refine r_iload C dX12_readIs_242 rfl ?_
                  refine r_bipush C dX12_readIs_244 (by decide) ?_
                  refine r_join (γ := Int) (pcJ := fun _ => 273) (al' := fun q28 => [some (zr 132), some (zi q1.1), some (zi q7.1), some (zl v8), none, some (zi q10), some (zi v14), none, none]) (st' := fun q28 => [zi q28]) (M' := fun q28 => M27) ?_ ?_
                  · intro q28
                    refine r_istore (al' := [some (zr 132), some (zi q1.1), some (zi q7.1), some (zl v8), none, some (zi q10), some (zi v14), some (zi q28), none]) C dX12_readIs_273 (by rw [hn]; decide) rfl ?_
                    refine r_aload_n C dX12_readIs_275 rfl rfl ?_
                    refine r_iload_n C dX12_readIs_276 rfl rfl ?_
                    refine r_iconst C dX12_readIs_277 (by decide) ?_
                    refine r_iadd C dX12_readIs_278 ?_
                    refine r_iload C dX12_readIs_279 rfl ?_
                    refine q_callVv (av := [zi (w32 (q7.1 + 5)), zi q28]) (rest := []) C (tX12_takeArg (w32 (q7.1 + 5)) q28 M27) lkX12_272 kd_132 rfl rfl rfl (Nat.le_of_ble_eq_true rfl) ⟨by decide, by decide⟩ dX12_readIs_281 (fun q29 _ => ?_)
                    refine r_iload C dX12_readIs_284 rfl ?_
                    refine r_bipush C dX12_readIs_286 (by decide) ?_
                    refine r_join (γ := Int × Mem) (pcJ := fun _ => 311) (al' := fun q31 => [some (zr 132), some (zi q1.1), some (zi q7.1), some (zl v8), none, some (zi q10), some (zi v14), some (zi q28), none]) (st' := fun q31 => [zi q31.1]) (M' := fun q31 => q31.2) ?_ ?_
                    · intro q31
                      refine r_istore (al' := [some (zr 132), some (zi q1.1), some (zi q7.1), some (zl v8), none, some (zi q10), some (zi v14), some (zi q28), some (zi q31.1)]) C dX12_readIs_311 (by rw [hn]; decide) rfl ?_
                      refine r_iload C dX12_readIs_313 rfl ?_
                      refine q_callSi (av := [zi v14]) (rest := []) C (tX12_argsOf v14 q31.2) lkX12_276 rfl rfl (Nat.le_of_ble_eq_true rfl) ⟨by decide, by decide⟩ dX12_readIs_315 (fun q32 _ => ?_)
                      refine r_iconst C dX12_readIs_318 (by decide) ?_
                      refine r_join (γ := Mem) (pcJ := fun _ => 344) (al' := fun q35 => [some (zr 132), some (zi q1.1), some (zi q7.1), some (zl v8), none, none, some (zi v14), none, some (zi q31.1)]) (st' := fun q35 => []) (M' := fun q35 => q35) ?_ ?_
                      · intro q35
                        refine r_iload C dX12_readIs_344 rfl ?_
                        refine r_bipush C dX12_readIs_346 (by decide) ?_
                        refine r_join (γ := Int × Mem) (pcJ := fun _ => 367) (al' := fun q38 => [some (zr 132), some (zi q1.1), none, some (zl v8), none, none, none, none, some (zi q38.1)]) (st' := fun q38 => []) (M' := fun q38 => q38.2) ?_ ?_
                        · intro q38
                          refine r_aload_n C dX12_readIs_367 rfl rfl ?_
                          refine q_geti C clX12 kd_132 (k := 8) (by decide) flX12_57 dX12_readIs_368 (kz := 8) rfl (by decide) ?_
                          refine r_join (γ := Mem) (pcJ := fun _ => 385) (al' := fun q40 => [none, none, none, none, none, none, none, none, none]) (st' := fun q40 => []) (M' := fun q40 => q40) ?_ ?_
                          · intro q40
                            exact r_return C dX12_readIs_385 rfl
                          · intro hJq40
                            refine q_if_ne (tgt := 385) C dX12_readIs_371 (by decide) (fun _ => ?_) (fun _ => ?_)
                            · refine r_less [false, false, false, false, false, false, false, false, false] rfl ?_
                              exact hJq40 q38.2
                            · refine r_iload_n C dX12_readIs_374 rfl rfl ?_
                              refine q_if_ge (tgt := 385) C dX12_readIs_375 (by decide) (fun _ => ?_) (fun _ => ?_)
                              · refine r_less [false, false, false, false, false, false, false, false, false] rfl ?_
                                exact hJq40 q38.2
                              · refine r_aload_n C dX12_readIs_378 rfl rfl ?_
                                refine r_lload_n C dX12_readIs_379 rfl rfl ?_
                                refine r_iload C dX12_readIs_380 rfl ?_
                                refine q_callVv (av := [zl v8, zi q38.1]) (rest := []) C (tX12_tells v8 q38.1 q38.2) lkX12_256 kd_132 rfl rfl rfl (Nat.le_of_ble_eq_true rfl) ⟨by decide, by decide⟩ dX12_readIs_382 (fun q39 _ => ?_)
                                refine r_less [false, false, false, false, false, false, false, false, false] rfl ?_
                                exact hJq40 q39
                        · intro hJq38
                          refine q_icmp_ne (tgt := 367) C dX12_readIs_348 (by decide) (fun _ => ?_) (fun _ => ?_)
                          · refine r_less [true, true, false, true, false, false, false, false, true] rfl ?_
                            exact hJq38 (q31.1, q35)
                          · refine r_aload_n C dX12_readIs_351 rfl rfl ?_
                            refine q_geti C clX12 kd_132 (k := 19) (by decide) flX12_263 dX12_readIs_352 (kz := 19) rfl (by decide) ?_
                            refine r_let (fun v36 _ => ?_)
                            refine r_istore (al' := [some (zr 132), some (zi q1.1), some (zi q7.1), some (zl v8), none, none, some (zi v14), none, some (zi v36)]) C dX12_readIs_355 (by rw [hn]; decide) rfl ?_
                            refine r_aload_n C dX12_readIs_357 rfl rfl ?_
                            refine r_iload_n C dX12_readIs_358 rfl rfl ?_
                            refine r_bipush C dX12_readIs_359 (by decide) ?_
                            refine r_iadd C dX12_readIs_361 ?_
                            refine r_iload C dX12_readIs_362 rfl ?_
                            refine q_callVv (av := [zi (w32 (q7.1 + 9)), zi v36]) (rest := []) C (tX12_takeArg (w32 (q7.1 + 9)) v36 q35) lkX12_272 kd_132 rfl rfl rfl (Nat.le_of_ble_eq_true rfl) ⟨by decide, by decide⟩ dX12_readIs_364 (fun q37 _ => ?_)
                            refine r_less [true, true, false, true, false, false, false, false, true] rfl ?_
                            exact hJq38 (v36, q37)
                      · intro hJq35
                        refine q_icmp_le (tgt := 344) C dX12_readIs_319 (by decide) (fun _ => ?_) (fun _ => ?_)
                        · refine r_less [true, true, true, true, false, false, true, false, true] rfl ?_
                          exact hJq35 q32.2
                        · refine r_aload_n C dX12_readIs_322 rfl rfl ?_
                          refine r_iload_n C dX12_readIs_323 rfl rfl ?_
                          refine r_bipush C dX12_readIs_324 (by decide) ?_
                          refine r_iadd C dX12_readIs_326 ?_
                          refine r_iload C dX12_readIs_327 rfl ?_
                          refine r_bipush C dX12_readIs_329 (by decide) ?_
                          refine r_join (γ := Int) (pcJ := fun _ => 341) (al' := fun q33 => [some (zr 132), some (zi q1.1), some (zi q7.1), some (zl v8), none, none, some (zi v14), none, some (zi q31.1)]) (st' := fun q33 => [zi q33, zi (w32 (q7.1 + 7)), zr 132]) (M' := fun q33 => q32.2) ?_ ?_
                          · intro q33
                            refine q_callVv (av := [zi (w32 (q7.1 + 7)), zi q33]) (rest := []) C (tX12_takeArg (w32 (q7.1 + 7)) q33 q32.2) lkX12_272 kd_132 rfl rfl rfl (Nat.le_of_ble_eq_true rfl) ⟨by decide, by decide⟩ dX12_readIs_341 (fun q34 _ => ?_)
                            exact hJq35 q34
                          · intro hJq33
                            refine q_icmp_ne (tgt := 339) C dX12_readIs_331 (by decide) (fun _ => ?_) (fun _ => ?_)
                            · refine r_iload C dX12_readIs_339 rfl ?_
                              refine r_less [true, true, true, true, false, false, true, false, true] rfl ?_
                              exact hJq33 q28
                            · refine r_iload C dX12_readIs_334 rfl ?_
                              refine r_goto (tgt := 341) C dX12_readIs_336 (by decide) ?_
                              refine r_less [true, true, true, true, false, false, true, false, true] rfl ?_
                              exact hJq33 q10
                    · intro hJq31
                      refine q_icmp_ne (tgt := 298) C dX12_readIs_288 (by decide) (fun _ => ?_) (fun _ => ?_)
                      · refine r_iload C dX12_readIs_298 rfl ?_
                        refine q_callSi (av := [zi v14]) (rest := []) C (tX12_makesFlag v14 q29) lkX12_269 rfl rfl (Nat.le_of_ble_eq_true rfl) ⟨by decide, by decide⟩ dX12_readIs_300 (fun q30 _ => ?_)
                        refine q_if_eq (tgt := 310) C dX12_readIs_303 (by decide) (fun _ => ?_) (fun _ => ?_)
                        · refine r_iconst C dX12_readIs_310 (by decide) ?_
                          exact hJq31 (0, q30.2)
                        · refine r_iconst C dX12_readIs_306 (by decide) ?_
                          refine r_goto (tgt := 311) C dX12_readIs_307 (by decide) ?_
                          exact hJq31 (1, q30.2)
                      · refine r_aload_n C dX12_readIs_291 rfl rfl ?_
                        refine q_geti C clX12 kd_132 (k := 19) (by decide) flX12_263 dX12_readIs_292 (kz := 19) rfl (by decide) ?_
                        refine r_goto (tgt := 311) C dX12_readIs_295 (by decide) ?_
                        exact hJq31 (q29 132 19, q29)
                  · intro hJq28
                    refine q_icmp_lt (tgt := 260) C dX12_readIs_246 (by decide) (fun _ => ?_) (fun _ => ?_)
                    · refine r_iload C dX12_readIs_260 rfl ?_
                      refine r_bipush C dX12_readIs_262 (by decide) ?_
                      refine q_icmp_ne (tgt := 272) C dX12_readIs_264 (by decide) (fun _ => ?_) (fun _ => ?_)
                      · refine r_iconst C dX12_readIs_272 (by decide) ?_
                        exact hJq28 0
                      · refine r_iload C dX12_readIs_267 rfl ?_
                        refine r_goto (tgt := 273) C dX12_readIs_269 (by decide) ?_
                        exact hJq28 q10
                    · refine r_iload C dX12_readIs_249 rfl ?_
                      refine r_bipush C dX12_readIs_251 (by decide) ?_
                      refine q_icmp_gt (tgt := 260) C dX12_readIs_253 (by decide) (fun _ => ?_) (fun _ => ?_)
                      · refine r_iload C dX12_readIs_260 rfl ?_
                        refine r_bipush C dX12_readIs_262 (by decide) ?_
                        refine q_icmp_ne (tgt := 272) C dX12_readIs_264 (by decide) (fun _ => ?_) (fun _ => ?_)
                        · refine r_iconst C dX12_readIs_272 (by decide) ?_
                          exact hJq28 0
                        · refine r_iload C dX12_readIs_267 rfl ?_
                          refine r_goto (tgt := 273) C dX12_readIs_269 (by decide) ?_
                          exact hJq28 q10
                      · refine r_iconst C dX12_readIs_256 (by decide) ?_
                        refine r_goto (tgt := 273) C dX12_readIs_257 (by decide) ?_
                        exact hJq28 1
                · intro hJq26
                  refine q_if_le (tgt := 237) C dX12_readIs_230 (by decide) (fun _ => ?_) (fun _ => ?_)
                  · refine r_iconst C dX12_readIs_237 (by decide) ?_
                    exact hJq26 1
                  · refine r_iconst C dX12_readIs_233 (by decide) ?_
                    refine r_goto (tgt := 238) C dX12_readIs_234 (by decide) ?_
                    exact hJq26 0
              · intro hJq24
                refine q_if_le (tgt := 211) C dX12_readIs_204 (by decide) (fun _ => ?_) (fun _ => ?_)
                · refine r_aload_n C dX12_readIs_211 rfl rfl ?_
                  refine r_getp C clX12 kd_132 (k := 5) (by decide) flX12_36 dX12_readIs_212 pt_132_5 ?_
                  refine r_aload_n C dX12_readIs_215 rfl rfl ?_
                  refine q_geti C clX12 kd_132 (k := 7) (by decide) flX12_54 dX12_readIs_216 (kz := 7) rfl (by decide) ?_
                  refine r_iaload C dX12_readIs_219 (fun v23 _ => ?_)
                  exact hJq24 v23
                · refine r_iconst C dX12_readIs_207 (by decide) ?_
                  refine r_goto (tgt := 220) C dX12_readIs_208 (by decide) ?_
                  exact hJq24 0
            · intro hJq20
              refine q_if_lt (tgt := 178) C dX12_readIs_171 (by decide) (fun _ => ?_) (fun _ => ?_)
              · refine r_aload_n C dX12_readIs_178 rfl rfl ?_
                refine q_geti C clX12 kd_132 (k := 14) (by decide) flX12_235 dX12_readIs_179 (kz := 14) rfl (by decide) ?_
                exact hJq20 (q19 132 14)
              · refine r_iload_n C dX12_readIs_174 rfl rfl ?_
                refine r_goto (tgt := 182) C dX12_readIs_175 (by decide) ?_
                exact hJq20 q1.1
          · intro hJq19
            refine q_icmp_ge (tgt := 126) C dX12_readIs_115 (by decide) (fun _ => ?_) (fun _ => ?_)
            · refine r_iload C dX12_readIs_126 rfl ?_
              refine r_iconst C dX12_readIs_128 (by decide) ?_
              refine q_icmp_eq (tgt := 163) C dX12_readIs_129 (by decide) (fun _ => ?_) (fun _ => ?_)
              · exact hJq19 q13.2
              · refine r_iload C dX12_readIs_132 rfl ?_
                refine r_bipush C dX12_readIs_134 (by decide) ?_
                refine q_icmp_ge (tgt := 163) C dX12_readIs_136 (by decide) (fun _ => ?_) (fun _ => ?_)
                · exact hJq19 q13.2
                · refine r_iload C dX12_readIs_139 rfl ?_
                  refine r_iload C dX12_readIs_141 rfl ?_
                  refine q_callSi (av := [zi v14]) (rest := [zi q10]) C (tX12_makesFlag v14 q13.2) lkX12_269 rfl rfl (Nat.le_of_ble_eq_true rfl) ⟨by decide, by decide⟩ dX12_readIs_143 (fun q15 _ => ?_)
                  refine r_join (γ := Int) (pcJ := fun _ => 154) (al' := fun q16 => [some (zr 132), some (zi q1.1), some (zi q7.1), some (zl v8), none, some (zi q10), some (zi v14), none, none]) (st' := fun q16 => [zi q16, zi q10]) (M' := fun q16 => q15.2) ?_ ?_
                  · intro q16
                    refine q_icmp_eq (tgt := 163) C dX12_readIs_154 (by decide) (fun _ => ?_) (fun _ => ?_)
                    · exact hJq19 q15.2
                    · refine r_aload_n C dX12_readIs_157 rfl rfl ?_
                      refine r_bipush C dX12_readIs_158 (by decide) ?_
                      refine q_callVv (av := [zi 6]) (rest := []) C (tX12_wrong 6 q15.2) lkX12_66 kd_132 rfl rfl rfl (Nat.le_of_ble_eq_true rfl) ⟨by decide, by decide⟩ dX12_readIs_160 (fun q17 _ => ?_)
                      exact hJq19 q17
                  · intro hJq16
                    refine q_if_eq (tgt := 153) C dX12_readIs_146 (by decide) (fun _ => ?_) (fun _ => ?_)
                    · refine r_iconst C dX12_readIs_153 (by decide) ?_
                      exact hJq16 0
                    · refine r_iconst C dX12_readIs_149 (by decide) ?_
                      refine r_goto (tgt := 154) C dX12_readIs_150 (by decide) ?_
                      exact hJq16 1
            · refine r_aload_n C dX12_readIs_118 rfl rfl ?_
              refine r_iconst C dX12_readIs_119 (by decide) ?_
              refine q_callVv (av := [zi 1]) (rest := []) C (tX12_wrong 1 q13.2) lkX12_66 kd_132 rfl rfl rfl (Nat.le_of_ble_eq_true rfl) ⟨by decide, by decide⟩ dX12_readIs_120 (fun q18 _ => ?_)
              refine r_goto (tgt := 163) C dX12_readIs_123 (by decide) ?_
              exact hJq19 q18
        · intro hJq10
          refine q_if_lt (tgt := 82) C dX12_readIs_70 (by decide) (fun _ => ?_) (fun _ => ?_)
          · refine r_iconst C dX12_readIs_82 (by decide) ?_
            exact hJq10 3
          · refine r_aload_n C dX12_readIs_73 rfl rfl ?_
            refine r_getp C clX12 kd_132 (k := 13) (by decide) flX12_135 dX12_readIs_74 pt_132_13 ?_
            refine r_iload_n C dX12_readIs_77 rfl rfl ?_
            refine r_iaload C dX12_readIs_78 (fun v9 _ => ?_)
            refine r_goto (tgt := 83) C dX12_readIs_79 (by decide) ?_
            exact hJq10 v9
      · exact r_return C dX12_readIs_52 rfl
    · intro hJq6
      refine r_itp (fun _ => ?_) (fun _ => ?_)
      · refine r_iload_n C dX12_readIs_27 rfl rfl ?_
        refine q_if_ge (tgt := 45) C dX12_readIs_28 (by decide) (fun _ => ?_) (fun _ => ?_)
        · exact hJq6 q1.2
        · refine r_aload_n C dX12_readIs_31 rfl rfl ?_
          refine q_geti C clX12 kd_132 (k := 14) (by decide) flX12_235 dX12_readIs_32 (kz := 14) rfl (by decide) ?_
          refine r_bipush C dX12_readIs_35 (by decide) ?_
          refine q_icmp_ne (tgt := 45) C dX12_readIs_37 (by decide) (fun _ => ?_) (fun _ => ?_)
          · exact hJq6 q1.2
          · refine r_aload_n C dX12_readIs_40 rfl rfl ?_
            refine r_iconst C dX12_readIs_41 (by decide) ?_
            refine q_callVv (av := [zi 5]) (rest := []) C (tX12_wrong 5 q1.2) lkX12_66 kd_132 rfl rfl rfl (Nat.le_of_ble_eq_true rfl) ⟨by decide, by decide⟩ dX12_readIs_42 (fun q4 _ => ?_)
            exact hJq6 q4
      · refine r_aload_n C dX12_readIs_19 rfl rfl ?_
        refine r_iconst C dX12_readIs_20 (by decide) ?_
        refine q_callVv (av := [zi 3]) (rest := []) C (tX12_wrong 3 q1.2) lkX12_66 kd_132 rfl rfl rfl (Nat.le_of_ble_eq_true rfl) ⟨by decide, by decide⟩ dX12_readIs_21 (fun q5 _ => ?_)
        refine r_goto (tgt := 45) C dX12_readIs_24 (by decide) ?_
        exact hJq6 q5
  · intro hJq3
    refine q_if_lt (tgt := 27) C dX12_readIs_6 (by decide) (fun _ => ?_) (fun _ => ?_)
    · exact hJq3 true
    · refine r_aload_n C dX12_readIs_9 rfl rfl ?_
      refine r_getp C clX12 kd_132 (k := 13) (by decide) flX12_135 dX12_readIs_10 pt_132_13 ?_
      refine r_iload_n C dX12_readIs_13 rfl rfl ?_
      refine r_iaload C dX12_readIs_14 (fun v2 _ => ?_)
      refine r_iconst C dX12_readIs_15 (by decide) ?_
      refine q_icmp_ne (tgt := 27) C dX12_readIs_16 (by decide) (fun _ => ?_) (fun _ => ?_)
      · exact hJq3 true
      · exact hJq3 false
set_option maxRecDepth 100000 in
set_option maxHeartbeats 4000000 in
theorem tX12_opens (p1 : Int) (p2 : Int) (M : Mem) : Cn yX12_opens cX12_opens 3 none 0 0 [zr 132, zi p1, zi p2] M ((fX12_opens p1 p2 M).map oU) := by
  refine Cn_mk (own := RX12) rfl (by decide) (Nat.le_of_ble_eq_true rfl) [some (zr 132), some (zi p1), some (zi p2)] rfl (fun G C hn => ?_)
  unfold fX12_opens
  refine r_aload_n C dX12_opens_0 rfl rfl ?_
  refine r_getp C clX12 kd_132 (k := 15) (by decide) flX12_138 dX12_opens_1 pt_132_15 ?_
  refine r_aload_n C dX12_opens_4 rfl rfl ?_
  refine q_geti C clX12 kd_132 (k := 18) (by decide) flX12_238 dX12_opens_5 (kz := 18) rfl (by decide) ?_
  refine r_iload_n C dX12_opens_8 rfl rfl ?_
  refine r_iastore C dX12_opens_9 (fun M1 _ => ?_)
  refine r_aload_n C dX12_opens_10 rfl rfl ?_
  refine r_getp C clX12 kd_132 (k := 16) (by decide) flX12_141 dX12_opens_11 pt_132_16 ?_
  refine r_aload_n C dX12_opens_14 rfl rfl ?_
  refine q_geti C clX12 kd_132 (k := 18) (by decide) flX12_238 dX12_opens_15 (kz := 18) rfl (by decide) ?_
  refine r_aload_n C dX12_opens_18 rfl rfl ?_
  refine q_geti C clX12 kd_132 (k := 14) (by decide) flX12_235 dX12_opens_19 (kz := 14) rfl (by decide) ?_
  refine r_iastore C dX12_opens_22 (fun M2 _ => ?_)
  refine r_aload_n C dX12_opens_23 rfl rfl ?_
  refine r_getp C clX12 kd_132 (k := 17) (by decide) flX12_144 dX12_opens_24 pt_132_17 ?_
  refine r_aload_n C dX12_opens_27 rfl rfl ?_
  refine q_geti C clX12 kd_132 (k := 18) (by decide) flX12_238 dX12_opens_28 (kz := 18) rfl (by decide) ?_
  refine r_iload_n C dX12_opens_31 rfl rfl ?_
  refine r_bipush C dX12_opens_32 (by decide) ?_
  refine r_idiv C dX12_opens_34 (by decide) ?_
  refine r_sipush C dX12_opens_35 (by decide) ?_
  refine r_isub C dX12_opens_38 ?_
  refine r_iastore C dX12_opens_39 (fun M3 _ => ?_)
  refine r_aload_n C dX12_opens_40 rfl rfl ?_
  refine r_dup C dX12_opens_41 rfl ?_
  refine q_geti C clX12 kd_132 (k := 18) (by decide) flX12_238 dX12_opens_42 (kz := 18) rfl (by decide) ?_
  refine r_iconst C dX12_opens_45 (by decide) ?_
  refine r_iadd C dX12_opens_46 ?_
  refine q_puti C clX12 kd_132 (k := 18) (by decide) flX12_238 rfl dX12_opens_47 rfl rfl (fun M4 => ?_)
  exact r_return C dX12_opens_50 rfl
set_option maxRecDepth 100000 in
set_option maxHeartbeats 4000000 in
theorem tX12_readBlock (p1 : Int) (M : Mem) : Cn yX12_readBlock cX12_readBlock 3 none 4 89 [zr 132, zi p1] M ((fX12_readBlock p1 M).map oU) := by
  refine Cn_mk (own := RX12) rfl (by decide) (Nat.le_of_ble_eq_true rfl) [some (zr 132), some (zi p1), none] rfl (fun G C hn => ?_)
  unfold fX12_readBlock
  refine r_aload_n C dX12_readBlock_0 rfl rfl ?_
  refine q_geti C clX12 kd_132 (k := 18) (by decide) flX12_238 dX12_readBlock_1 (kz := 18) rfl (by decide) ?_
  refine r_iconst C dX12_readBlock_4 (by decide) ?_
  refine q_icmp_ne (tgt := 14) C dX12_readBlock_5 (by decide) (fun _ => ?_) (fun _ => ?_)
  · refine r_aload_n C dX12_readBlock_14 rfl rfl ?_
    refine r_iload_n C dX12_readBlock_15 rfl rfl ?_
    refine r_join (γ := Int) (pcJ := fun _ => 24) (al' := fun q1 => [some (zr 132), some (zi p1), none]) (st' := fun q1 => [zi q1, zr 132]) (M' := fun q1 => M) ?_ ?_
    · intro q1
      refine q_callVi (av := [zi q1]) (rest := []) C (tX12_newLine q1 M) lkX12_241 kd_132 rfl rfl rfl (Nat.le_of_ble_eq_true rfl) ⟨by decide, by decide⟩ dX12_readBlock_24 (fun q2 _ => ?_)
      refine r_istore_n (al' := [some (zr 132), some (zi p1), some (zi q2.1)]) C dX12_readBlock_27 rfl (by rw [hn]; decide) rfl ?_
      refine r_aload_n C dX12_readBlock_28 rfl rfl ?_
      refine r_dup C dX12_readBlock_29 rfl ?_
      refine q_geti C clX12 kd_132 (k := 7) (by decide) flX12_54 dX12_readBlock_30 (kz := 7) rfl (by decide) ?_
      refine r_iconst C dX12_readBlock_33 (by decide) ?_
      refine r_iadd C dX12_readBlock_34 ?_
      refine q_puti C clX12 kd_132 (k := 7) (by decide) flX12_54 rfl dX12_readBlock_35 rfl rfl (fun M3 => ?_)
      refine r_iload_n C dX12_readBlock_38 rfl rfl ?_
      refine r_join (γ := Mem) (pcJ := fun _ => 108) (al' := fun q12 => [some (zr 132), some (zi p1), some (zi q2.1)]) (st' := fun q12 => []) (M' := fun q12 => q12) ?_ ?_
      · intro q12
        refine r_aload_n C dX12_readBlock_108 rfl rfl ?_
        refine r_iload_n C dX12_readBlock_109 rfl rfl ?_
        refine r_join (γ := Int) (pcJ := fun _ => 118) (al' := fun q13 => [none, none, some (zi q2.1)]) (st' := fun q13 => [zi q13, zr 132]) (M' := fun q13 => q12) ?_ ?_
        · intro q13
          refine r_iload_n C dX12_readBlock_118 rfl rfl ?_
          refine q_callVv (av := [zi q13, zi q2.1]) (rest := []) C (tX12_opens q13 q2.1 q12) lkX12_279 kd_132 rfl rfl rfl (Nat.le_of_ble_eq_true rfl) ⟨by decide, by decide⟩ dX12_readBlock_119 (fun q14 _ => ?_)
          exact r_return C dX12_readBlock_122 rfl
        · intro hJq13
          refine q_if_eq (tgt := 117) C dX12_readBlock_110 (by decide) (fun _ => ?_) (fun _ => ?_)
          · refine r_iconst C dX12_readBlock_117 (by decide) ?_
            refine r_less [false, false, true] rfl ?_
            exact hJq13 3
          · refine r_iconst C dX12_readBlock_113 (by decide) ?_
            refine r_goto (tgt := 118) C dX12_readBlock_114 (by decide) ?_
            refine r_less [false, false, true] rfl ?_
            exact hJq13 1
      · intro hJq12
        refine q_if_eq (tgt := 93) C dX12_readBlock_39 (by decide) (fun _ => ?_) (fun _ => ?_)
        · refine r_aload_n C dX12_readBlock_93 rfl rfl ?_
          refine r_getp C clX12 kd_132 (k := 11) (by decide) flX12_129 dX12_readBlock_94 pt_132_11 ?_
          refine r_iload_n C dX12_readBlock_97 rfl rfl ?_
          refine r_iconst C dX12_readBlock_98 (by decide) ?_
          refine r_iadd C dX12_readBlock_99 ?_
          refine r_aload_n C dX12_readBlock_100 rfl rfl ?_
          refine r_iconst C dX12_readBlock_101 (by decide) ?_
          refine r_bipush C dX12_readBlock_102 (by decide) ?_
          refine q_callVi (av := [zi 2, zi 9]) (rest := [zi (w32 (q2.1 + 1)), zr 139]) C (tX12_takeNumber 2 9 M3) lkX12_253 kd_132 rfl rfl rfl (Nat.le_of_ble_eq_true rfl) ⟨by decide, by decide⟩ dX12_readBlock_104 (fun q4 _ => ?_)
          refine r_iastore C dX12_readBlock_107 (fun M5 _ => ?_)
          exact hJq12 M5
        · refine r_aload_n C dX12_readBlock_42 rfl rfl ?_
          refine r_getp C clX12 kd_132 (k := 11) (by decide) flX12_129 dX12_readBlock_43 pt_132_11 ?_
          refine r_iload_n C dX12_readBlock_46 rfl rfl ?_
          refine r_iconst C dX12_readBlock_47 (by decide) ?_
          refine r_iadd C dX12_readBlock_48 ?_
          refine r_aload_n C dX12_readBlock_49 rfl rfl ?_
          refine q_geti C clX12 kd_132 (k := 14) (by decide) flX12_235 dX12_readBlock_50 (kz := 14) rfl (by decide) ?_
          refine r_iastore C dX12_readBlock_53 (fun M6 _ => ?_)
          refine r_aload_n C dX12_readBlock_54 rfl rfl ?_
          refine r_getp C clX12 kd_132 (k := 11) (by decide) flX12_129 dX12_readBlock_55 pt_132_11 ?_
          refine r_iload_n C dX12_readBlock_58 rfl rfl ?_
          refine r_iconst C dX12_readBlock_59 (by decide) ?_
          refine r_iadd C dX12_readBlock_60 ?_
          refine r_aload_n C dX12_readBlock_61 rfl rfl ?_
          refine r_getp C clX12 kd_132 (k := 10) (by decide) flX12_126 dX12_readBlock_62 pt_132_10 ?_
          refine r_sipush C dX12_readBlock_65 (by decide) ?_
          refine r_iaload C dX12_readBlock_68 (fun v7 _ => ?_)
          refine r_iastore C dX12_readBlock_69 (fun M8 _ => ?_)
          refine r_aload_n C dX12_readBlock_70 rfl rfl ?_
          refine r_getp C clX12 kd_132 (k := 10) (by decide) flX12_126 dX12_readBlock_71 pt_132_10 ?_
          refine r_sipush C dX12_readBlock_74 (by decide) ?_
          refine r_dup2 C dX12_readBlock_77 rfl rfl ?_
          refine r_iaload C dX12_readBlock_78 (fun v9 _ => ?_)
          refine r_iconst C dX12_readBlock_79 (by decide) ?_
          refine r_iadd C dX12_readBlock_80 ?_
          refine r_iastore C dX12_readBlock_81 (fun M10 _ => ?_)
          refine r_aload_n C dX12_readBlock_82 rfl rfl ?_
          refine r_iload_n C dX12_readBlock_83 rfl rfl ?_
          refine r_iconst C dX12_readBlock_84 (by decide) ?_
          refine r_iadd C dX12_readBlock_85 ?_
          refine r_iconst C dX12_readBlock_86 (by decide) ?_
          refine q_callVv (av := [zi (w32 (q2.1 + 5)), zi 1]) (rest := []) C (tX12_takeArg (w32 (q2.1 + 5)) 1 M10) lkX12_272 kd_132 rfl rfl rfl (Nat.le_of_ble_eq_true rfl) ⟨by decide, by decide⟩ dX12_readBlock_87 (fun q11 _ => ?_)
          refine r_goto (tgt := 108) C dX12_readBlock_90 (by decide) ?_
          exact hJq12 q11
    · intro hJq1
      refine q_if_eq (tgt := 23) C dX12_readBlock_16 (by decide) (fun _ => ?_) (fun _ => ?_)
      · refine r_iconst C dX12_readBlock_23 (by decide) ?_
        exact hJq1 3
      · refine r_iconst C dX12_readBlock_19 (by decide) ?_
        refine r_goto (tgt := 24) C dX12_readBlock_20 (by decide) ?_
        exact hJq1 1
  · refine r_aload_n C dX12_readBlock_8 rfl rfl ?_
    refine r_iconst C dX12_readBlock_9 (by decide) ?_
    refine q_callVv (av := [zi 5]) (rest := []) C (tX12_wrong 5 M) lkX12_66 kd_132 rfl rfl rfl (Nat.le_of_ble_eq_true rfl) ⟨by decide, by decide⟩ dX12_readBlock_10 (fun q15 _ => ?_)
    exact r_return C dX12_readBlock_13 rfl
set_option maxRecDepth 100000 in
set_option maxHeartbeats 4000000 in
theorem tX12_readElse  (M : Mem) : Cn yX12_readElse cX12_readElse 2 none 1 23 [zr 132] M ((fX12_readElse  M).map oU) := by
  refine Cn_mk (own := RX12) rfl (by decide) (Nat.le_of_ble_eq_true rfl) [some (zr 132), none] rfl (fun G C hn => ?_)
  unfold fX12_readElse
  refine r_aload_n C dX12_readElse_0 rfl rfl ?_
  refine q_geti C clX12 kd_132 (k := 18) (by decide) flX12_238 dX12_readElse_1 (kz := 18) rfl (by decide) ?_
  refine q_if_eq (tgt := 22) C dX12_readElse_4 (by decide) (fun _ => ?_) (fun _ => ?_)
  · refine r_aload_n C dX12_readElse_22 rfl rfl ?_
    refine r_iconst C dX12_readElse_23 (by decide) ?_
    refine q_callVv (av := [zi 1]) (rest := []) C (tX12_wrong 1 M) lkX12_66 kd_132 rfl rfl rfl (Nat.le_of_ble_eq_true rfl) ⟨by decide, by decide⟩ dX12_readElse_24 (fun q1 _ => ?_)
    exact r_return C dX12_readElse_27 rfl
  · refine r_aload_n C dX12_readElse_7 rfl rfl ?_
    refine r_getp C clX12 kd_132 (k := 15) (by decide) flX12_138 dX12_readElse_8 pt_132_15 ?_
    refine r_aload_n C dX12_readElse_11 rfl rfl ?_
    refine q_geti C clX12 kd_132 (k := 18) (by decide) flX12_238 dX12_readElse_12 (kz := 18) rfl (by decide) ?_
    refine r_iconst C dX12_readElse_15 (by decide) ?_
    refine r_isub C dX12_readElse_16 ?_
    refine r_iaload C dX12_readElse_17 (fun v2 _ => ?_)
    refine r_iconst C dX12_readElse_18 (by decide) ?_
    refine q_icmp_eq (tgt := 28) C dX12_readElse_19 (by decide) (fun _ => ?_) (fun _ => ?_)
    · refine r_aload_n C dX12_readElse_28 rfl rfl ?_
      refine r_getp C clX12 kd_132 (k := 15) (by decide) flX12_138 dX12_readElse_29 pt_132_15 ?_
      refine r_aload_n C dX12_readElse_32 rfl rfl ?_
      refine q_geti C clX12 kd_132 (k := 18) (by decide) flX12_238 dX12_readElse_33 (kz := 18) rfl (by decide) ?_
      refine r_iconst C dX12_readElse_36 (by decide) ?_
      refine r_isub C dX12_readElse_37 ?_
      refine r_iconst C dX12_readElse_38 (by decide) ?_
      refine r_iastore C dX12_readElse_39 (fun M3 _ => ?_)
      refine r_aload_n C dX12_readElse_40 rfl rfl ?_
      refine r_aload_n C dX12_readElse_41 rfl rfl ?_
      refine r_getp C clX12 kd_132 (k := 16) (by decide) flX12_141 dX12_readElse_42 pt_132_16 ?_
      refine r_aload_n C dX12_readElse_45 rfl rfl ?_
      refine q_geti C clX12 kd_132 (k := 18) (by decide) flX12_238 dX12_readElse_46 (kz := 18) rfl (by decide) ?_
      refine r_iconst C dX12_readElse_49 (by decide) ?_
      refine r_isub C dX12_readElse_50 ?_
      refine r_iaload C dX12_readElse_51 (fun v4 _ => ?_)
      refine q_puti C clX12 kd_132 (k := 14) (by decide) flX12_235 rfl dX12_readElse_52 rfl rfl (fun M5 => ?_)
      refine r_aload_n C dX12_readElse_55 rfl rfl ?_
      refine r_dup C dX12_readElse_56 rfl ?_
      refine q_geti C clX12 kd_132 (k := 18) (by decide) flX12_238 dX12_readElse_57 (kz := 18) rfl (by decide) ?_
      refine r_iconst C dX12_readElse_60 (by decide) ?_
      refine r_isub C dX12_readElse_61 ?_
      refine q_puti C clX12 kd_132 (k := 18) (by decide) flX12_238 rfl dX12_readElse_62 rfl rfl (fun M6 => ?_)
      refine r_aload_n C dX12_readElse_65 rfl rfl ?_
      refine r_iconst C dX12_readElse_66 (by decide) ?_
      refine q_callVi (av := [zi 2]) (rest := []) C (tX12_newLine 2 M6) lkX12_241 kd_132 rfl rfl rfl (Nat.le_of_ble_eq_true rfl) ⟨by decide, by decide⟩ dX12_readElse_67 (fun q7 _ => ?_)
      refine r_istore_n (al' := [some (zr 132), some (zi q7.1)]) C dX12_readElse_70 rfl (by rw [hn]; decide) rfl ?_
      refine r_aload_n C dX12_readElse_71 rfl rfl ?_
      refine r_getp C clX12 kd_132 (k := 11) (by decide) flX12_129 dX12_readElse_72 pt_132_11 ?_
      refine r_iload_n C dX12_readElse_75 rfl rfl ?_
      refine r_bipush C dX12_readElse_76 (by decide) ?_
      refine r_iadd C dX12_readElse_78 ?_
      refine r_aload_n C dX12_readElse_79 rfl rfl ?_
      refine r_getp C clX12 kd_132 (k := 17) (by decide) flX12_144 dX12_readElse_80 pt_132_17 ?_
      refine r_aload_n C dX12_readElse_83 rfl rfl ?_
      refine q_geti C clX12 kd_132 (k := 18) (by decide) flX12_238 dX12_readElse_84 (kz := 18) rfl (by decide) ?_
      refine r_iaload C dX12_readElse_87 (fun v8 _ => ?_)
      refine r_iastore C dX12_readElse_88 (fun M9 _ => ?_)
      refine r_aload_n C dX12_readElse_89 rfl rfl ?_
      refine r_getp C clX12 kd_132 (k := 11) (by decide) flX12_129 dX12_readElse_90 pt_132_11 ?_
      refine r_bipush C dX12_readElse_93 (by decide) ?_
      refine r_sipush C dX12_readElse_95 (by decide) ?_
      refine r_aload_n C dX12_readElse_98 rfl rfl ?_
      refine r_getp C clX12 kd_132 (k := 17) (by decide) flX12_144 dX12_readElse_99 pt_132_17 ?_
      refine r_aload_n C dX12_readElse_102 rfl rfl ?_
      refine q_geti C clX12 kd_132 (k := 18) (by decide) flX12_238 dX12_readElse_103 (kz := 18) rfl (by decide) ?_
      refine r_iaload C dX12_readElse_106 (fun v10 _ => ?_)
      refine r_iadd C dX12_readElse_107 ?_
      refine r_imul C dX12_readElse_108 ?_
      refine r_bipush C dX12_readElse_109 (by decide) ?_
      refine r_iadd C dX12_readElse_111 ?_
      refine r_iload_n C dX12_readElse_112 rfl rfl ?_
      refine r_bipush C dX12_readElse_113 (by decide) ?_
      refine r_idiv C dX12_readElse_115 (by decide) ?_
      refine r_sipush C dX12_readElse_116 (by decide) ?_
      refine r_isub C dX12_readElse_119 ?_
      refine r_iastore C dX12_readElse_120 (fun M11 _ => ?_)
      refine r_aload_n C dX12_readElse_121 rfl rfl ?_
      refine r_dup C dX12_readElse_122 rfl ?_
      refine q_geti C clX12 kd_132 (k := 18) (by decide) flX12_238 dX12_readElse_123 (kz := 18) rfl (by decide) ?_
      refine r_iconst C dX12_readElse_126 (by decide) ?_
      refine r_iadd C dX12_readElse_127 ?_
      refine q_puti C clX12 kd_132 (k := 18) (by decide) flX12_238 rfl dX12_readElse_128 rfl rfl (fun M12 => ?_)
      refine r_aload_n C dX12_readElse_131 rfl rfl ?_
      refine r_dup C dX12_readElse_132 rfl ?_
      refine q_geti C clX12 kd_132 (k := 7) (by decide) flX12_54 dX12_readElse_133 (kz := 7) rfl (by decide) ?_
      refine r_iconst C dX12_readElse_136 (by decide) ?_
      refine r_iadd C dX12_readElse_137 ?_
      refine q_puti C clX12 kd_132 (k := 7) (by decide) flX12_54 rfl dX12_readElse_138 rfl rfl (fun M13 => ?_)
      exact r_return C dX12_readElse_141 rfl
    · refine r_aload_n C dX12_readElse_22 rfl rfl ?_
      refine r_iconst C dX12_readElse_23 (by decide) ?_
      refine q_callVv (av := [zi 1]) (rest := []) C (tX12_wrong 1 M) lkX12_66 kd_132 rfl rfl rfl (Nat.le_of_ble_eq_true rfl) ⟨by decide, by decide⟩ dX12_readElse_24 (fun q14 _ => ?_)
      exact r_return C dX12_readElse_27 rfl
set_option maxRecDepth 100000 in
set_option maxHeartbeats 4000000 in
theorem tX12_readEnd  (M : Mem) : Cn yX12_readEnd cX12_readEnd 4 none 1 23 [zr 132] M ((fX12_readEnd  M).map oU) := by
  refine Cn_mk (own := RX12) rfl (by decide) (Nat.le_of_ble_eq_true rfl) [some (zr 132), none, none, none] rfl (fun G C hn => ?_)
  unfold fX12_readEnd
  refine r_aload_n C dX12_readEnd_0 rfl rfl ?_
  refine q_geti C clX12 kd_132 (k := 18) (by decide) flX12_238 dX12_readEnd_1 (kz := 18) rfl (by decide) ?_
  refine q_if_ne (tgt := 13) C dX12_readEnd_4 (by decide) (fun _ => ?_) (fun _ => ?_)
  · refine r_aload_n C dX12_readEnd_13 rfl rfl ?_
    refine r_dup C dX12_readEnd_14 rfl ?_
    refine q_geti C clX12 kd_132 (k := 18) (by decide) flX12_238 dX12_readEnd_15 (kz := 18) rfl (by decide) ?_
    refine r_iconst C dX12_readEnd_18 (by decide) ?_
    refine r_isub C dX12_readEnd_19 ?_
    refine q_puti C clX12 kd_132 (k := 18) (by decide) flX12_238 rfl dX12_readEnd_20 rfl rfl (fun M1 => ?_)
    refine r_aload_n C dX12_readEnd_23 rfl rfl ?_
    refine r_getp C clX12 kd_132 (k := 15) (by decide) flX12_138 dX12_readEnd_24 pt_132_15 ?_
    refine r_aload_n C dX12_readEnd_27 rfl rfl ?_
    refine q_geti C clX12 kd_132 (k := 18) (by decide) flX12_238 dX12_readEnd_28 (kz := 18) rfl (by decide) ?_
    refine r_iaload C dX12_readEnd_31 (fun v2 _ => ?_)
    refine r_iconst C dX12_readEnd_32 (by decide) ?_
    refine r_join (γ := Int) (pcJ := fun _ => 41) (al' := fun q3 => [some (zr 132), none, none, none]) (st' := fun q3 => [zi q3]) (M' := fun q3 => M1) ?_ ?_
    · intro q3
      refine r_istore_n (al' := [some (zr 132), some (zi q3), none, none]) C dX12_readEnd_41 rfl (by rw [hn]; decide) rfl ?_
      refine r_aload_n C dX12_readEnd_42 rfl rfl ?_
      refine r_iload_n C dX12_readEnd_43 rfl rfl ?_
      refine r_join (γ := Int) (pcJ := fun _ => 63) (al' := fun q5 => [some (zr 132), some (zi q3), none, none]) (st' := fun q5 => [zi q5, zr 132]) (M' := fun q5 => M1) ?_ ?_
      · intro q5
        refine q_puti C clX12 kd_132 (k := 14) (by decide) flX12_235 rfl dX12_readEnd_63 rfl rfl (fun M6 => ?_)
        refine r_aload_n C dX12_readEnd_66 rfl rfl ?_
        refine r_iconst C dX12_readEnd_67 (by decide) ?_
        refine q_callVi (av := [zi 4]) (rest := []) C (tX12_newLine 4 M6) lkX12_241 kd_132 rfl rfl rfl (Nat.le_of_ble_eq_true rfl) ⟨by decide, by decide⟩ dX12_readEnd_68 (fun q7 _ => ?_)
        refine r_istore_n (al' := [some (zr 132), some (zi q3), some (zi q7.1), none]) C dX12_readEnd_71 rfl (by rw [hn]; decide) rfl ?_
        refine r_bipush C dX12_readEnd_72 (by decide) ?_
        refine r_sipush C dX12_readEnd_74 (by decide) ?_
        refine r_aload_n C dX12_readEnd_77 rfl rfl ?_
        refine r_getp C clX12 kd_132 (k := 17) (by decide) flX12_144 dX12_readEnd_78 pt_132_17 ?_
        refine r_aload_n C dX12_readEnd_81 rfl rfl ?_
        refine q_geti C clX12 kd_132 (k := 18) (by decide) flX12_238 dX12_readEnd_82 (kz := 18) rfl (by decide) ?_
        refine r_iaload C dX12_readEnd_85 (fun v8 _ => ?_)
        refine r_iadd C dX12_readEnd_86 ?_
        refine r_imul C dX12_readEnd_87 ?_
        refine r_let (fun v9 _ => ?_)
        refine r_istore_n (al' := [some (zr 132), some (zi q3), some (zi q7.1), some (zi v9)]) C dX12_readEnd_88 rfl (by rw [hn]; decide) rfl ?_
        refine r_aload_n C dX12_readEnd_89 rfl rfl ?_
        refine r_getp C clX12 kd_132 (k := 11) (by decide) flX12_129 dX12_readEnd_90 pt_132_11 ?_
        refine r_iload_n C dX12_readEnd_93 rfl rfl ?_
        refine r_iconst C dX12_readEnd_94 (by decide) ?_
        refine r_iadd C dX12_readEnd_95 ?_
        refine r_iload_n C dX12_readEnd_96 rfl rfl ?_
        refine r_join (γ := Int) (pcJ := fun _ => 122) (al' := fun q11 => [some (zr 132), none, some (zi q7.1), some (zi v9)]) (st' := fun q11 => [zi q11, zi (w32 (q7.1 + 1)), zr 139]) (M' := fun q11 => q7.2) ?_ ?_
        · intro q11
          refine r_iastore C dX12_readEnd_122 (fun M12 _ => ?_)
          refine r_aload_n C dX12_readEnd_123 rfl rfl ?_
          refine r_getp C clX12 kd_132 (k := 11) (by decide) flX12_129 dX12_readEnd_124 pt_132_11 ?_
          refine r_iload_n C dX12_readEnd_127 rfl rfl ?_
          refine r_bipush C dX12_readEnd_128 (by decide) ?_
          refine r_iadd C dX12_readEnd_130 ?_
          refine r_aload_n C dX12_readEnd_131 rfl rfl ?_
          refine r_getp C clX12 kd_132 (k := 17) (by decide) flX12_144 dX12_readEnd_132 pt_132_17 ?_
          refine r_aload_n C dX12_readEnd_135 rfl rfl ?_
          refine q_geti C clX12 kd_132 (k := 18) (by decide) flX12_238 dX12_readEnd_136 (kz := 18) rfl (by decide) ?_
          refine r_iaload C dX12_readEnd_139 (fun v13 _ => ?_)
          refine r_iastore C dX12_readEnd_140 (fun M14 _ => ?_)
          refine r_aload_n C dX12_readEnd_141 rfl rfl ?_
          refine r_getp C clX12 kd_132 (k := 11) (by decide) flX12_129 dX12_readEnd_142 pt_132_11 ?_
          refine r_iload_n C dX12_readEnd_145 rfl rfl ?_
          refine r_bipush C dX12_readEnd_146 (by decide) ?_
          refine r_iadd C dX12_readEnd_148 ?_
          refine r_iload_n C dX12_readEnd_149 rfl rfl ?_
          refine r_bipush C dX12_readEnd_150 (by decide) ?_
          refine r_idiv C dX12_readEnd_152 (by decide) ?_
          refine r_sipush C dX12_readEnd_153 (by decide) ?_
          refine r_isub C dX12_readEnd_156 ?_
          refine r_iastore C dX12_readEnd_157 (fun M15 _ => ?_)
          refine r_aload_n C dX12_readEnd_158 rfl rfl ?_
          refine r_dup C dX12_readEnd_159 rfl ?_
          refine q_geti C clX12 kd_132 (k := 7) (by decide) flX12_54 dX12_readEnd_160 (kz := 7) rfl (by decide) ?_
          refine r_iconst C dX12_readEnd_163 (by decide) ?_
          refine r_iadd C dX12_readEnd_164 ?_
          refine q_puti C clX12 kd_132 (k := 7) (by decide) flX12_54 rfl dX12_readEnd_165 rfl rfl (fun M16 => ?_)
          exact r_return C dX12_readEnd_168 rfl
        · intro hJq11
          refine q_if_eq (tgt := 104) C dX12_readEnd_97 (by decide) (fun _ => ?_) (fun _ => ?_)
          · refine r_aload_n C dX12_readEnd_104 rfl rfl ?_
            refine r_getp C clX12 kd_132 (k := 15) (by decide) flX12_138 dX12_readEnd_105 pt_132_15 ?_
            refine r_aload_n C dX12_readEnd_108 rfl rfl ?_
            refine q_geti C clX12 kd_132 (k := 18) (by decide) flX12_238 dX12_readEnd_109 (kz := 18) rfl (by decide) ?_
            refine r_iaload C dX12_readEnd_112 (fun v10 _ => ?_)
            refine r_iconst C dX12_readEnd_113 (by decide) ?_
            refine q_icmp_ne (tgt := 121) C dX12_readEnd_114 (by decide) (fun _ => ?_) (fun _ => ?_)
            · refine r_iconst C dX12_readEnd_121 (by decide) ?_
              refine r_less [true, false, true, true] rfl ?_
              exact hJq11 0
            · refine r_iconst C dX12_readEnd_117 (by decide) ?_
              refine r_goto (tgt := 122) C dX12_readEnd_118 (by decide) ?_
              refine r_less [true, false, true, true] rfl ?_
              exact hJq11 2
          · refine r_iconst C dX12_readEnd_100 (by decide) ?_
            refine r_goto (tgt := 122) C dX12_readEnd_101 (by decide) ?_
            refine r_less [true, false, true, true] rfl ?_
            exact hJq11 1
      · intro hJq5
        refine q_if_eq (tgt := 54) C dX12_readEnd_44 (by decide) (fun _ => ?_) (fun _ => ?_)
        · refine r_aload_n C dX12_readEnd_54 rfl rfl ?_
          refine r_getp C clX12 kd_132 (k := 16) (by decide) flX12_141 dX12_readEnd_55 pt_132_16 ?_
          refine r_aload_n C dX12_readEnd_58 rfl rfl ?_
          refine q_geti C clX12 kd_132 (k := 18) (by decide) flX12_238 dX12_readEnd_59 (kz := 18) rfl (by decide) ?_
          refine r_iaload C dX12_readEnd_62 (fun v4 _ => ?_)
          exact hJq5 v4
        · refine r_aload_n C dX12_readEnd_47 rfl rfl ?_
          refine q_geti C clX12 kd_132 (k := 14) (by decide) flX12_235 dX12_readEnd_48 (kz := 14) rfl (by decide) ?_
          refine r_goto (tgt := 63) C dX12_readEnd_51 (by decide) ?_
          exact hJq5 (M1 132 14)
    · intro hJq3
      refine q_icmp_ne (tgt := 40) C dX12_readEnd_33 (by decide) (fun _ => ?_) (fun _ => ?_)
      · refine r_iconst C dX12_readEnd_40 (by decide) ?_
        exact hJq3 0
      · refine r_iconst C dX12_readEnd_36 (by decide) ?_
        refine r_goto (tgt := 41) C dX12_readEnd_37 (by decide) ?_
        exact hJq3 1
  · refine r_aload_n C dX12_readEnd_7 rfl rfl ?_
    refine r_iconst C dX12_readEnd_8 (by decide) ?_
    refine q_callVv (av := [zi 1]) (rest := []) C (tX12_wrong 1 M) lkX12_66 kd_132 rfl rfl rfl (Nat.le_of_ble_eq_true rfl) ⟨by decide, by decide⟩ dX12_readEnd_9 (fun q17 _ => ?_)
    exact r_return C dX12_readEnd_12 rfl
set_option maxRecDepth 100000 in
set_option maxHeartbeats 4000000 in
theorem tX12_readShow  (M : Mem) : Cn yX12_readShow cX12_readShow 2 none 4 89 [zr 132] M ((fX12_readShow  M).map oU) := by
  refine Cn_mk (own := RX12) rfl (by decide) (Nat.le_of_ble_eq_true rfl) [some (zr 132), none] rfl (fun G C hn => ?_)
  unfold fX12_readShow
  refine r_aload_n C dX12_readShow_0 rfl rfl ?_
  refine q_callVi (av := []) (rest := []) C (tX12_isWithinWhen  M) lkX12_282 kd_132 rfl rfl rfl (Nat.le_of_ble_eq_true rfl) ⟨by decide, by decide⟩ dX12_readShow_1 (fun q1 _ => ?_)
  refine q_if_eq (tgt := 13) C dX12_readShow_4 (by decide) (fun _ => ?_) (fun _ => ?_)
  · refine r_aload_n C dX12_readShow_13 rfl rfl ?_
    refine r_iconst C dX12_readShow_14 (by decide) ?_
    refine q_callVi (av := [zi 5]) (rest := []) C (tX12_newLine 5 q1.2) lkX12_241 kd_132 rfl rfl rfl (Nat.le_of_ble_eq_true rfl) ⟨by decide, by decide⟩ dX12_readShow_15 (fun q2 _ => ?_)
    refine r_istore_n (al' := [some (zr 132), some (zi q2.1)]) C dX12_readShow_18 rfl (by rw [hn]; decide) rfl ?_
    refine r_aload_n C dX12_readShow_19 rfl rfl ?_
    refine r_dup C dX12_readShow_20 rfl ?_
    refine q_geti C clX12 kd_132 (k := 7) (by decide) flX12_54 dX12_readShow_21 (kz := 7) rfl (by decide) ?_
    refine r_iconst C dX12_readShow_24 (by decide) ?_
    refine r_iadd C dX12_readShow_25 ?_
    refine q_puti C clX12 kd_132 (k := 7) (by decide) flX12_54 rfl dX12_readShow_26 rfl rfl (fun M3 => ?_)
    refine r_aload_n C dX12_readShow_29 rfl rfl ?_
    refine r_iload_n C dX12_readShow_30 rfl rfl ?_
    refine r_iconst C dX12_readShow_31 (by decide) ?_
    refine r_iadd C dX12_readShow_32 ?_
    refine r_iconst C dX12_readShow_33 (by decide) ?_
    refine q_callVv (av := [zi (w32 (q2.1 + 5)), zi 0]) (rest := []) C (tX12_takeArg (w32 (q2.1 + 5)) 0 M3) lkX12_272 kd_132 rfl rfl rfl (Nat.le_of_ble_eq_true rfl) ⟨by decide, by decide⟩ dX12_readShow_34 (fun q4 _ => ?_)
    exact r_return C dX12_readShow_37 rfl
  · refine r_aload_n C dX12_readShow_7 rfl rfl ?_
    refine r_iconst C dX12_readShow_8 (by decide) ?_
    refine q_callVv (av := [zi 1]) (rest := []) C (tX12_wrong 1 q1.2) lkX12_66 kd_132 rfl rfl rfl (Nat.le_of_ble_eq_true rfl) ⟨by decide, by decide⟩ dX12_readShow_9 (fun q5 _ => ?_)
    exact r_return C dX12_readShow_12 rfl
set_option maxRecDepth 100000 in
set_option maxHeartbeats 4000000 in
theorem tX12_readLine  (M : Mem) : Cn yX12_readLine cX12_readLine 2 none 5 117 [zr 132] M ((fX12_readLine  M).map oU) := by
  refine Cn_mk (own := RX12) rfl (by decide) (Nat.le_of_ble_eq_true rfl) [some (zr 132), none] rfl (fun G C hn => ?_)
  unfold fX12_readLine
  refine r_aload_n C dX12_readLine_0 rfl rfl ?_
  refine r_iconst C dX12_readLine_1 (by decide) ?_
  refine r_bipush C dX12_readLine_2 (by decide) ?_
  refine q_callVi (av := [zi 0, zi 10]) (rest := []) C (tX12_wordHere 0 10 M) lkX12_70 kd_132 rfl rfl rfl (Nat.le_of_ble_eq_true rfl) ⟨by decide, by decide⟩ dX12_readLine_4 (fun q1 _ => ?_)
  refine r_istore_n (al' := [some (zr 132), some (zi q1.1)]) C dX12_readLine_7 rfl (by rw [hn]; decide) rfl ?_
  refine r_iload_n C dX12_readLine_8 rfl rfl ?_
  refine r_join (γ := Mem) (pcJ := fun _ => 151) (al' := fun q18 => [none, none]) (st' := fun q18 => []) (M' := fun q18 => q18) ?_ ?_
  · intro q18
    exact r_return C dX12_readLine_151 rfl
  · intro hJq18
    refine q_if_eq (tgt := 17) C dX12_readLine_9 (by decide) (fun _ => ?_) (fun _ => ?_)
    · refine r_aload_n C dX12_readLine_17 rfl rfl ?_
      refine r_iload_n C dX12_readLine_18 rfl rfl ?_
      refine r_join (γ := Int) (pcJ := fun _ => 27) (al' := fun q2 => [none, none]) (st' := fun q2 => [zi q2, zr 132]) (M' := fun q2 => q1.2) ?_ ?_
      · intro q2
        refine q_callVv (av := [zi q2]) (rest := []) C (tX12_readInput q2 q1.2) lkX12_285 kd_132 rfl rfl rfl (Nat.le_of_ble_eq_true rfl) ⟨by decide, by decide⟩ dX12_readLine_27 (fun q3 _ => ?_)
        refine r_goto (tgt := 151) C dX12_readLine_30 (by decide) ?_
        exact hJq18 q3
      · intro hJq2
        refine q_if_ne (tgt := 26) C dX12_readLine_19 (by decide) (fun _ => ?_) (fun _ => ?_)
        · refine r_iconst C dX12_readLine_26 (by decide) ?_
          refine r_less [false, false] rfl ?_
          exact hJq2 0
        · refine r_iconst C dX12_readLine_22 (by decide) ?_
          refine r_goto (tgt := 27) C dX12_readLine_23 (by decide) ?_
          refine r_less [false, false] rfl ?_
          exact hJq2 1
    · refine r_iload_n C dX12_readLine_12 rfl rfl ?_
      refine r_iconst C dX12_readLine_13 (by decide) ?_
      refine q_icmp_ne (tgt := 33) C dX12_readLine_14 (by decide) (fun _ => ?_) (fun _ => ?_)
      · refine r_iload_n C dX12_readLine_33 rfl rfl ?_
        refine r_iconst C dX12_readLine_34 (by decide) ?_
        refine q_icmp_ne (tgt := 49) C dX12_readLine_35 (by decide) (fun _ => ?_) (fun _ => ?_)
        · refine r_iload_n C dX12_readLine_49 rfl rfl ?_
          refine r_iconst C dX12_readLine_50 (by decide) ?_
          refine q_icmp_ne (tgt := 65) C dX12_readLine_51 (by decide) (fun _ => ?_) (fun _ => ?_)
          · refine r_iload_n C dX12_readLine_65 rfl rfl ?_
            refine r_iconst C dX12_readLine_66 (by decide) ?_
            refine q_icmp_eq (tgt := 76) C dX12_readLine_67 (by decide) (fun _ => ?_) (fun _ => ?_)
            · refine r_aload_n C dX12_readLine_76 rfl rfl ?_
              refine r_iload_n C dX12_readLine_77 rfl rfl ?_
              refine r_iconst C dX12_readLine_78 (by decide) ?_
              refine r_join (γ := Int) (pcJ := fun _ => 87) (al' := fun q4 => [none, none]) (st' := fun q4 => [zi q4, zr 132]) (M' := fun q4 => q1.2) ?_ ?_
              · intro q4
                refine q_callVv (av := [zi q4]) (rest := []) C (tX12_readBlock q4 q1.2) lkX12_293 kd_132 rfl rfl rfl (Nat.le_of_ble_eq_true rfl) ⟨by decide, by decide⟩ dX12_readLine_87 (fun q5 _ => ?_)
                refine r_goto (tgt := 151) C dX12_readLine_90 (by decide) ?_
                exact hJq18 q5
              · intro hJq4
                refine q_icmp_ne (tgt := 86) C dX12_readLine_79 (by decide) (fun _ => ?_) (fun _ => ?_)
                · refine r_iconst C dX12_readLine_86 (by decide) ?_
                  refine r_less [false, false] rfl ?_
                  exact hJq4 0
                · refine r_iconst C dX12_readLine_82 (by decide) ?_
                  refine r_goto (tgt := 87) C dX12_readLine_83 (by decide) ?_
                  refine r_less [false, false] rfl ?_
                  exact hJq4 1
            · refine r_iload_n C dX12_readLine_70 rfl rfl ?_
              refine r_bipush C dX12_readLine_71 (by decide) ?_
              refine q_icmp_ne (tgt := 93) C dX12_readLine_73 (by decide) (fun _ => ?_) (fun _ => ?_)
              · refine r_iload_n C dX12_readLine_93 rfl rfl ?_
                refine r_bipush C dX12_readLine_94 (by decide) ?_
                refine q_icmp_ne (tgt := 106) C dX12_readLine_96 (by decide) (fun _ => ?_) (fun _ => ?_)
                · refine r_iload_n C dX12_readLine_106 rfl rfl ?_
                  refine r_bipush C dX12_readLine_107 (by decide) ?_
                  refine q_icmp_ne (tgt := 119) C dX12_readLine_109 (by decide) (fun _ => ?_) (fun _ => ?_)
                  · refine r_iload_n C dX12_readLine_119 rfl rfl ?_
                    refine r_bipush C dX12_readLine_120 (by decide) ?_
                    refine q_icmp_ne (tgt := 132) C dX12_readLine_122 (by decide) (fun _ => ?_) (fun _ => ?_)
                    · refine r_aload_n C dX12_readLine_132 rfl rfl ?_
                      refine q_callVi (av := []) (rest := []) C (tX12_isName  q1.2) lkX12_245 kd_132 rfl rfl rfl (Nat.le_of_ble_eq_true rfl) ⟨by decide, by decide⟩ dX12_readLine_133 (fun q6 _ => ?_)
                      refine q_if_eq (tgt := 146) C dX12_readLine_136 (by decide) (fun _ => ?_) (fun _ => ?_)
                      · refine r_aload_n C dX12_readLine_146 rfl rfl ?_
                        refine r_iconst C dX12_readLine_147 (by decide) ?_
                        refine q_callVv (av := [zi 1]) (rest := []) C (tX12_wrong 1 q6.2) lkX12_66 kd_132 rfl rfl rfl (Nat.le_of_ble_eq_true rfl) ⟨by decide, by decide⟩ dX12_readLine_148 (fun q7 _ => ?_)
                        refine r_less [false, false] rfl ?_
                        exact hJq18 q7
                      · refine r_aload_n C dX12_readLine_139 rfl rfl ?_
                        refine q_callVv (av := []) (rest := []) C (tX12_readIs  q6.2) lkX12_305 kd_132 rfl rfl rfl (Nat.le_of_ble_eq_true rfl) ⟨by decide, by decide⟩ dX12_readLine_140 (fun q8 _ => ?_)
                        refine r_goto (tgt := 151) C dX12_readLine_143 (by decide) ?_
                        refine r_less [false, false] rfl ?_
                        exact hJq18 q8
                    · refine r_aload_n C dX12_readLine_125 rfl rfl ?_
                      refine q_callVv (av := []) (rest := []) C (tX12_readShow  q1.2) lkX12_302 kd_132 rfl rfl rfl (Nat.le_of_ble_eq_true rfl) ⟨by decide, by decide⟩ dX12_readLine_126 (fun q9 _ => ?_)
                      refine r_goto (tgt := 151) C dX12_readLine_129 (by decide) ?_
                      refine r_less [false, false] rfl ?_
                      exact hJq18 q9
                  · refine r_aload_n C dX12_readLine_112 rfl rfl ?_
                    refine q_callVv (av := []) (rest := []) C (tX12_readEnd  q1.2) lkX12_299 kd_132 rfl rfl rfl (Nat.le_of_ble_eq_true rfl) ⟨by decide, by decide⟩ dX12_readLine_113 (fun q10 _ => ?_)
                    refine r_goto (tgt := 151) C dX12_readLine_116 (by decide) ?_
                    refine r_less [false, false] rfl ?_
                    exact hJq18 q10
                · refine r_aload_n C dX12_readLine_99 rfl rfl ?_
                  refine q_callVv (av := []) (rest := []) C (tX12_readElse  q1.2) lkX12_296 kd_132 rfl rfl rfl (Nat.le_of_ble_eq_true rfl) ⟨by decide, by decide⟩ dX12_readLine_100 (fun q11 _ => ?_)
                  refine r_goto (tgt := 151) C dX12_readLine_103 (by decide) ?_
                  refine r_less [false, false] rfl ?_
                  exact hJq18 q11
              · refine r_aload_n C dX12_readLine_76 rfl rfl ?_
                refine r_iload_n C dX12_readLine_77 rfl rfl ?_
                refine r_iconst C dX12_readLine_78 (by decide) ?_
                refine r_join (γ := Int) (pcJ := fun _ => 87) (al' := fun q12 => [none, none]) (st' := fun q12 => [zi q12, zr 132]) (M' := fun q12 => q1.2) ?_ ?_
                · intro q12
                  refine q_callVv (av := [zi q12]) (rest := []) C (tX12_readBlock q12 q1.2) lkX12_293 kd_132 rfl rfl rfl (Nat.le_of_ble_eq_true rfl) ⟨by decide, by decide⟩ dX12_readLine_87 (fun q13 _ => ?_)
                  refine r_goto (tgt := 151) C dX12_readLine_90 (by decide) ?_
                  exact hJq18 q13
                · intro hJq12
                  refine q_icmp_ne (tgt := 86) C dX12_readLine_79 (by decide) (fun _ => ?_) (fun _ => ?_)
                  · refine r_iconst C dX12_readLine_86 (by decide) ?_
                    refine r_less [false, false] rfl ?_
                    exact hJq12 0
                  · refine r_iconst C dX12_readLine_82 (by decide) ?_
                    refine r_goto (tgt := 87) C dX12_readLine_83 (by decide) ?_
                    refine r_less [false, false] rfl ?_
                    exact hJq12 1
          · refine r_aload_n C dX12_readLine_54 rfl rfl ?_
            refine r_iconst C dX12_readLine_55 (by decide) ?_
            refine r_iconst C dX12_readLine_56 (by decide) ?_
            refine r_bipush C dX12_readLine_57 (by decide) ?_
            refine q_callVv (av := [zi 3, zi 4, zi 16]) (rest := []) C (tX12_readLimit 3 4 16 q1.2) lkX12_289 kd_132 rfl rfl rfl (Nat.le_of_ble_eq_true rfl) ⟨by decide, by decide⟩ dX12_readLine_59 (fun q14 _ => ?_)
            refine r_goto (tgt := 151) C dX12_readLine_62 (by decide) ?_
            refine r_less [false, false] rfl ?_
            exact hJq18 q14
        · refine r_aload_n C dX12_readLine_38 rfl rfl ?_
          refine r_iconst C dX12_readLine_39 (by decide) ?_
          refine r_iconst C dX12_readLine_40 (by decide) ?_
          refine r_bipush C dX12_readLine_41 (by decide) ?_
          refine q_callVv (av := [zi 2, zi 3, zi 8]) (rest := []) C (tX12_readLimit 2 3 8 q1.2) lkX12_289 kd_132 rfl rfl rfl (Nat.le_of_ble_eq_true rfl) ⟨by decide, by decide⟩ dX12_readLine_43 (fun q15 _ => ?_)
          refine r_goto (tgt := 151) C dX12_readLine_46 (by decide) ?_
          refine r_less [false, false] rfl ?_
          exact hJq18 q15
      · refine r_aload_n C dX12_readLine_17 rfl rfl ?_
        refine r_iload_n C dX12_readLine_18 rfl rfl ?_
        refine r_join (γ := Int) (pcJ := fun _ => 27) (al' := fun q16 => [none, none]) (st' := fun q16 => [zi q16, zr 132]) (M' := fun q16 => q1.2) ?_ ?_
        · intro q16
          refine q_callVv (av := [zi q16]) (rest := []) C (tX12_readInput q16 q1.2) lkX12_285 kd_132 rfl rfl rfl (Nat.le_of_ble_eq_true rfl) ⟨by decide, by decide⟩ dX12_readLine_27 (fun q17 _ => ?_)
          refine r_goto (tgt := 151) C dX12_readLine_30 (by decide) ?_
          exact hJq18 q17
        · intro hJq16
          refine q_if_ne (tgt := 26) C dX12_readLine_19 (by decide) (fun _ => ?_) (fun _ => ?_)
          · refine r_iconst C dX12_readLine_26 (by decide) ?_
            refine r_less [false, false] rfl ?_
            exact hJq16 0
          · refine r_iconst C dX12_readLine_22 (by decide) ?_
            refine r_goto (tgt := 27) C dX12_readLine_23 (by decide) ?_
            refine r_less [false, false] rfl ?_
            exact hJq16 1
set_option maxRecDepth 100000 in
set_option maxHeartbeats 4000000 in
theorem tX12_new1 (p1 : Int) (M : Mem) : Cn yX12_new1 cX12_new1 2 (some .int) 0 0 [zr 132, zi p1] M ((fX12_new1 p1 M).map oI) := by
  refine Cn_mk (own := RX12) rfl (by decide) (Nat.le_of_ble_eq_true rfl) [some (zr 132), some (zi p1)] rfl (fun G C hn => ?_)
  unfold fX12_new1
  refine r_sipush C dX12_new1_0 (by decide) ?_
  refine r_iconst C dX12_new1_3 (by decide) ?_
  refine r_iload_n C dX12_new1_4 rfl rfl ?_
  refine r_imul C dX12_new1_5 ?_
  refine r_iadd C dX12_new1_6 ?_
  exact r_ireturn C dX12_new1_7 rfl
set_option maxRecDepth 100000 in
set_option maxHeartbeats 4000000 in
theorem tX12_bad (p1 : Int) (M : Mem) : Cn yX12_bad cX12_bad 2 none 0 0 [zr 132, zi p1] M ((fX12_bad p1 M).map oU) := by
  refine Cn_mk (own := RX12) rfl (by decide) (Nat.le_of_ble_eq_true rfl) [some (zr 132), some (zi p1)] rfl (fun G C hn => ?_)
  unfold fX12_bad
  refine r_aload_n C dX12_bad_0 rfl rfl ?_
  refine q_geti C clX12 kd_132 (k := 8) (by decide) flX12_57 dX12_bad_1 (kz := 8) rfl (by decide) ?_
  refine r_join (γ := Mem) (pcJ := fun _ => 17) (al' := fun q2 => [none, none]) (st' := fun q2 => []) (M' := fun q2 => q2) ?_ ?_
  · intro q2
    exact r_return C dX12_bad_17 rfl
  · intro hJq2
    refine q_if_ne (tgt := 17) C dX12_bad_4 (by decide) (fun _ => ?_) (fun _ => ?_)
    · refine r_less [false, false] rfl ?_
      exact hJq2 M
    · refine r_aload_n C dX12_bad_7 rfl rfl ?_
      refine r_iconst C dX12_bad_8 (by decide) ?_
      refine r_bipush C dX12_bad_9 (by decide) ?_
      refine r_iload_n C dX12_bad_11 rfl rfl ?_
      refine r_imul C dX12_bad_12 ?_
      refine r_iadd C dX12_bad_13 ?_
      refine q_puti C clX12 kd_132 (k := 8) (by decide) flX12_57 rfl dX12_bad_14 rfl rfl (fun M1 => ?_)
      refine r_less [false, false] rfl ?_
      exact hJq2 M1
set_option maxRecDepth 100000 in
set_option maxHeartbeats 4000000 in
theorem tX12_made (p1 : Int) (p2 : Int) (p3 : Int) (p4 : Int) (p5 : Int) (M : Mem) : Cn yX12_made cX12_made 9 (some .int) 1 21 [zr 132, zi p1, zi p2, zi p3, zi p4, zi p5] M ((fX12_made p1 p2 p3 p4 p5 M).map oI) := by
  refine Cn_mk (own := RX12) rfl (by decide) (Nat.le_of_ble_eq_true rfl) [some (zr 132), some (zi p1), some (zi p2), some (zi p3), some (zi p4), some (zi p5), none, none, none] rfl (fun G C hn => ?_)
  unfold fX12_made
  refine r_aload_n C dX12_made_0 rfl rfl ?_
  refine r_getp C clX12 kd_132 (k := 10) (by decide) flX12_126 dX12_made_1 pt_132_10 ?_
  refine r_sipush C dX12_made_4 (by decide) ?_
  refine r_iaload C dX12_made_7 (fun v1 _ => ?_)
  refine r_istore (al' := [some (zr 132), some (zi p1), some (zi p2), some (zi p3), some (zi p4), some (zi p5), some (zi v1), none, none]) C dX12_made_8 (by rw [hn]; decide) rfl ?_
  refine r_iconst C dX12_made_10 (by decide) ?_
  refine r_istore (al' := [some (zr 132), some (zi p1), some (zi p2), some (zi p3), some (zi p4), some (zi p5), some (zi v1), some (zi 0), none]) C dX12_made_11 (by rw [hn]; decide) rfl ?_
  refine r_lpr (S := Int × Mem) (X := Mem) (pcX := 88) (AL := fun s2 => [some (zr 132), some (zi p1), some (zi p2), some (zi p3), some (zi p4), some (zi p5), some (zi v1), some (zi s2.1), none]) (MM := fun s2 => s2.2) (AX := fun q8 => [some (zr 132), some (zi p1), some (zi p2), some (zi p3), some (zi p4), some (zi p5), some (zi v1), none, none]) (MX := fun q8 => q8) ?_ ?_ (0, M)
  · intro q8
    refine r_iload C dX12_made_88 rfl ?_
    refine r_bipush C dX12_made_90 (by decide) ?_
    refine q_icmp_ne (tgt := 103) C dX12_made_92 (by decide) (fun _ => ?_) (fun _ => ?_)
    · refine r_aload_n C dX12_made_103 rfl rfl ?_
      refine r_iload C dX12_made_104 rfl ?_
      refine q_callVi (av := [zi v1]) (rest := []) C (tX12_new1 v1 q8) lkX12_323 kd_132 rfl rfl rfl (Nat.le_of_ble_eq_true rfl) ⟨by decide, by decide⟩ dX12_made_106 (fun q9 _ => ?_)
      refine r_istore (al' := [some (zr 132), some (zi p1), some (zi p2), some (zi p3), some (zi p4), some (zi p5), some (zi v1), some (zi q9.1), none]) C dX12_made_109 (by rw [hn]; decide) rfl ?_
      refine r_aload_n C dX12_made_111 rfl rfl ?_
      refine r_getp C clX12 kd_132 (k := 10) (by decide) flX12_126 dX12_made_112 pt_132_10 ?_
      refine r_iload C dX12_made_115 rfl ?_
      refine r_iload_n C dX12_made_117 rfl rfl ?_
      refine r_iastore C dX12_made_118 (fun M10 _ => ?_)
      refine r_aload_n C dX12_made_119 rfl rfl ?_
      refine r_getp C clX12 kd_132 (k := 10) (by decide) flX12_126 dX12_made_120 pt_132_10 ?_
      refine r_iload C dX12_made_123 rfl ?_
      refine r_iconst C dX12_made_125 (by decide) ?_
      refine r_iadd C dX12_made_126 ?_
      refine r_iload_n C dX12_made_127 rfl rfl ?_
      refine r_iastore C dX12_made_128 (fun M11 _ => ?_)
      refine r_aload_n C dX12_made_129 rfl rfl ?_
      refine r_getp C clX12 kd_132 (k := 10) (by decide) flX12_126 dX12_made_130 pt_132_10 ?_
      refine r_iload C dX12_made_133 rfl ?_
      refine r_iconst C dX12_made_135 (by decide) ?_
      refine r_iadd C dX12_made_136 ?_
      refine r_iload_n C dX12_made_137 rfl rfl ?_
      refine r_iastore C dX12_made_138 (fun M12 _ => ?_)
      refine r_aload_n C dX12_made_139 rfl rfl ?_
      refine r_getp C clX12 kd_132 (k := 10) (by decide) flX12_126 dX12_made_140 pt_132_10 ?_
      refine r_iload C dX12_made_143 rfl ?_
      refine r_iconst C dX12_made_145 (by decide) ?_
      refine r_iadd C dX12_made_146 ?_
      refine r_iload C dX12_made_147 rfl ?_
      refine r_iastore C dX12_made_149 (fun M13 _ => ?_)
      refine r_aload_n C dX12_made_150 rfl rfl ?_
      refine r_getp C clX12 kd_132 (k := 10) (by decide) flX12_126 dX12_made_151 pt_132_10 ?_
      refine r_sipush C dX12_made_154 (by decide) ?_
      refine r_dup2 C dX12_made_157 rfl rfl ?_
      refine r_iaload C dX12_made_158 (fun v14 _ => ?_)
      refine r_iconst C dX12_made_159 (by decide) ?_
      refine r_iadd C dX12_made_160 ?_
      refine r_iastore C dX12_made_161 (fun M15 _ => ?_)
      refine r_iload C dX12_made_162 rfl ?_
      exact r_ireturn C dX12_made_164 rfl
    · refine r_aload_n C dX12_made_95 rfl rfl ?_
      refine r_iload C dX12_made_96 rfl ?_
      refine q_callVv (av := [zi p5]) (rest := []) C (tX12_bad p5 q8) lkX12_326 kd_132 rfl rfl rfl (Nat.le_of_ble_eq_true rfl) ⟨by decide, by decide⟩ dX12_made_98 (fun q16 _ => ?_)
      refine r_iconst C dX12_made_101 (by decide) ?_
      exact r_ireturn C dX12_made_102 rfl
  · intro gs2 hCs2 hXs2 s2
    unfold fX12_made_b1
    refine r_iload C dX12_made_13 rfl ?_
    refine r_iload C dX12_made_15 rfl ?_
    refine q_icmp_ge (tgt := 88) C dX12_made_17 (by decide) (fun _ => ?_) (fun _ => ?_)
    · refine r_less [true, true, true, true, true, true, true, false, false] rfl ?_
      exact hXs2 s2.2
    · refine r_aload_n C dX12_made_20 rfl rfl ?_
      refine r_iload C dX12_made_21 rfl ?_
      refine q_callVi (av := [zi s2.1]) (rest := []) C (tX12_new1 s2.1 s2.2) lkX12_323 kd_132 rfl rfl rfl (Nat.le_of_ble_eq_true rfl) ⟨by decide, by decide⟩ dX12_made_23 (fun q3 _ => ?_)
      refine r_istore (al' := [some (zr 132), some (zi p1), some (zi p2), some (zi p3), some (zi p4), some (zi p5), some (zi v1), some (zi s2.1), some (zi q3.1)]) C dX12_made_26 (by rw [hn]; decide) rfl ?_
      refine r_aload_n C dX12_made_28 rfl rfl ?_
      refine r_getp C clX12 kd_132 (k := 10) (by decide) flX12_126 dX12_made_29 pt_132_10 ?_
      refine r_iload C dX12_made_32 rfl ?_
      refine r_iaload C dX12_made_34 (fun v4 _ => ?_)
      refine r_iload_n C dX12_made_35 rfl rfl ?_
      refine q_icmp_ne (tgt := 82) C dX12_made_36 (by decide) (fun _ => ?_) (fun _ => ?_)
      · refine r_iinc (al' := [some (zr 132), some (zi p1), some (zi p2), some (zi p3), some (zi p4), some (zi p5), some (zi v1), some (zi (w32 (s2.1 + 1))), some (zi q3.1)]) C dX12_made_82 rfl (by rw [hn]; decide) rfl ?_
        refine r_goto (tgt := 13) C dX12_made_85 (by decide) ?_
        refine r_less [true, true, true, true, true, true, true, true, false] rfl ?_
        exact hCs2 (w32 (s2.1 + 1), q3.2)
      · refine r_aload_n C dX12_made_39 rfl rfl ?_
        refine r_getp C clX12 kd_132 (k := 10) (by decide) flX12_126 dX12_made_40 pt_132_10 ?_
        refine r_iload C dX12_made_43 rfl ?_
        refine r_iconst C dX12_made_45 (by decide) ?_
        refine r_iadd C dX12_made_46 ?_
        refine r_iaload C dX12_made_47 (fun v5 _ => ?_)
        refine r_iload_n C dX12_made_48 rfl rfl ?_
        refine q_icmp_ne (tgt := 82) C dX12_made_49 (by decide) (fun _ => ?_) (fun _ => ?_)
        · refine r_iinc (al' := [some (zr 132), some (zi p1), some (zi p2), some (zi p3), some (zi p4), some (zi p5), some (zi v1), some (zi (w32 (s2.1 + 1))), some (zi q3.1)]) C dX12_made_82 rfl (by rw [hn]; decide) rfl ?_
          refine r_goto (tgt := 13) C dX12_made_85 (by decide) ?_
          refine r_less [true, true, true, true, true, true, true, true, false] rfl ?_
          exact hCs2 (w32 (s2.1 + 1), q3.2)
        · refine r_aload_n C dX12_made_52 rfl rfl ?_
          refine r_getp C clX12 kd_132 (k := 10) (by decide) flX12_126 dX12_made_53 pt_132_10 ?_
          refine r_iload C dX12_made_56 rfl ?_
          refine r_iconst C dX12_made_58 (by decide) ?_
          refine r_iadd C dX12_made_59 ?_
          refine r_iaload C dX12_made_60 (fun v6 _ => ?_)
          refine r_iload_n C dX12_made_61 rfl rfl ?_
          refine q_icmp_ne (tgt := 82) C dX12_made_62 (by decide) (fun _ => ?_) (fun _ => ?_)
          · refine r_iinc (al' := [some (zr 132), some (zi p1), some (zi p2), some (zi p3), some (zi p4), some (zi p5), some (zi v1), some (zi (w32 (s2.1 + 1))), some (zi q3.1)]) C dX12_made_82 rfl (by rw [hn]; decide) rfl ?_
            refine r_goto (tgt := 13) C dX12_made_85 (by decide) ?_
            refine r_less [true, true, true, true, true, true, true, true, false] rfl ?_
            exact hCs2 (w32 (s2.1 + 1), q3.2)
          · refine r_aload_n C dX12_made_65 rfl rfl ?_
            refine r_getp C clX12 kd_132 (k := 10) (by decide) flX12_126 dX12_made_66 pt_132_10 ?_
            refine r_iload C dX12_made_69 rfl ?_
            refine r_iconst C dX12_made_71 (by decide) ?_
            refine r_iadd C dX12_made_72 ?_
            refine r_iaload C dX12_made_73 (fun v7 _ => ?_)
            refine r_iload C dX12_made_74 rfl ?_
            refine q_icmp_ne (tgt := 82) C dX12_made_76 (by decide) (fun _ => ?_) (fun _ => ?_)
            · refine r_iinc (al' := [some (zr 132), some (zi p1), some (zi p2), some (zi p3), some (zi p4), some (zi p5), some (zi v1), some (zi (w32 (s2.1 + 1))), some (zi q3.1)]) C dX12_made_82 rfl (by rw [hn]; decide) rfl ?_
              refine r_goto (tgt := 13) C dX12_made_85 (by decide) ?_
              refine r_less [true, true, true, true, true, true, true, true, false] rfl ?_
              exact hCs2 (w32 (s2.1 + 1), q3.2)
            · refine r_iload C dX12_made_79 rfl ?_
              exact r_ireturn C dX12_made_81 rfl
set_option maxRecDepth 100000 in
set_option maxHeartbeats 4000000 in
theorem tX12_closes (p1 : Int) (M : Mem) : Cn yX12_closes cX12_closes 8 none 2 49 [zr 132, zi p1] M ((fX12_closes p1 M).map oU) := by
  refine Cn_mk (own := RX12) rfl (by decide) (Nat.le_of_ble_eq_true rfl) [some (zr 132), some (zi p1), none, none, none, none, none, none] rfl (fun G C hn => ?_)
  unfold fX12_closes
  refine r_bipush C dX12_closes_0 (by decide) ?_
  refine r_aload_n C dX12_closes_2 rfl rfl ?_
  refine r_getp C clX12 kd_132 (k := 11) (by decide) flX12_129 dX12_closes_3 pt_132_11 ?_
  refine r_iload_n C dX12_closes_6 rfl rfl ?_
  refine r_bipush C dX12_closes_7 (by decide) ?_
  refine r_iadd C dX12_closes_9 ?_
  refine r_iaload C dX12_closes_10 (fun v1 _ => ?_)
  refine r_imul C dX12_closes_11 ?_
  refine r_let (fun v2 _ => ?_)
  refine r_istore_n (al' := [some (zr 132), some (zi p1), some (zi v2), none, none, none, none, none]) C dX12_closes_12 rfl (by rw [hn]; decide) rfl ?_
  refine r_aload_n C dX12_closes_13 rfl rfl ?_
  refine r_getp C clX12 kd_132 (k := 11) (by decide) flX12_129 dX12_closes_14 pt_132_11 ?_
  refine r_iload_n C dX12_closes_17 rfl rfl ?_
  refine r_iconst C dX12_closes_18 (by decide) ?_
  refine r_iadd C dX12_closes_19 ?_
  refine r_iaload C dX12_closes_20 (fun v3 _ => ?_)
  refine r_iconst C dX12_closes_21 (by decide) ?_
  refine r_join (γ := Int) (pcJ := fun _ => 30) (al' := fun q4 => [some (zr 132), some (zi p1), some (zi v2), none, none, none, none, none]) (st' := fun q4 => [zi q4]) (M' := fun q4 => M) ?_ ?_
  · intro q4
    refine r_istore_n (al' := [some (zr 132), some (zi p1), some (zi v2), some (zi q4), none, none, none, none]) C dX12_closes_30 rfl (by rw [hn]; decide) rfl ?_
    refine r_bipush C dX12_closes_31 (by decide) ?_
    refine r_sipush C dX12_closes_33 (by decide) ?_
    refine r_aload_n C dX12_closes_36 rfl rfl ?_
    refine r_getp C clX12 kd_132 (k := 11) (by decide) flX12_129 dX12_closes_37 pt_132_11 ?_
    refine r_iload_n C dX12_closes_40 rfl rfl ?_
    refine r_bipush C dX12_closes_41 (by decide) ?_
    refine r_iadd C dX12_closes_43 ?_
    refine r_iaload C dX12_closes_44 (fun v5 _ => ?_)
    refine r_iadd C dX12_closes_45 ?_
    refine r_imul C dX12_closes_46 ?_
    refine r_let (fun v6 _ => ?_)
    refine r_istore (al' := [some (zr 132), some (zi p1), some (zi v2), some (zi q4), some (zi v6), none, none, none]) C dX12_closes_47 (by rw [hn]; decide) rfl ?_
    refine r_iconst C dX12_closes_49 (by decide) ?_
    refine r_istore (al' := [some (zr 132), some (zi p1), some (zi v2), some (zi q4), some (zi v6), some (zi 0), none, none]) C dX12_closes_50 (by rw [hn]; decide) rfl ?_
    refine r_lp (S := Int × Mem) (R := Mem) (pcX := 180) (AL := fun s7 => [some (zr 132), some (zi p1), some (zi v2), some (zi q4), some (zi v6), some (zi s7.1), none, none]) (MM := fun s7 => s7.2) (AX := fun q21 => [none, none, none, none, none, none, none, none]) (MX := fun q21 => q21) ?_ ?_ (0, M)
    · intro q21
      exact r_return C dX12_closes_180 rfl
    · intro gs7 hCs7 hXs7 s7
      unfold fX12_closes_b1
      refine r_iload C dX12_closes_52 rfl ?_
      refine r_aload_n C dX12_closes_54 rfl rfl ?_
      refine r_getp C clX12 kd_132 (k := 11) (by decide) flX12_129 dX12_closes_55 pt_132_11 ?_
      refine r_iload C dX12_closes_58 rfl ?_
      refine r_iconst C dX12_closes_60 (by decide) ?_
      refine r_iadd C dX12_closes_61 ?_
      refine r_iaload C dX12_closes_62 (fun v8 _ => ?_)
      refine q_icmp_ge (tgt := 180) C dX12_closes_63 (by decide) (fun _ => ?_) (fun _ => ?_)
      · refine r_less [false, false, false, false, false, false, false, false] rfl ?_
        exact hXs7 s7.2
      · refine r_aload_n C dX12_closes_66 rfl rfl ?_
        refine q_geti C clX12 kd_132 (k := 8) (by decide) flX12_57 dX12_closes_67 (kz := 8) rfl (by decide) ?_
        refine q_if_ne (tgt := 180) C dX12_closes_70 (by decide) (fun _ => ?_) (fun _ => ?_)
        · refine r_less [false, false, false, false, false, false, false, false] rfl ?_
          exact hXs7 s7.2
        · refine r_iload_n C dX12_closes_73 rfl rfl ?_
          refine r_join (γ := Int) (pcJ := fun _ => 96) (al' := fun q11 => [some (zr 132), some (zi p1), some (zi v2), some (zi q4), some (zi v6), some (zi s7.1), none, none]) (st' := fun q11 => [zi q11]) (M' := fun q11 => s7.2) ?_ ?_
          · intro q11
            refine r_istore (al' := [some (zr 132), some (zi p1), some (zi v2), some (zi q4), some (zi v6), some (zi s7.1), some (zi q11), none]) C dX12_closes_96 (by rw [hn]; decide) rfl ?_
            refine r_iload_n C dX12_closes_98 rfl rfl ?_
            refine r_join (γ := Int) (pcJ := fun _ => 121) (al' := fun q14 => [some (zr 132), some (zi p1), some (zi v2), some (zi q4), some (zi v6), some (zi s7.1), some (zi q11), none]) (st' := fun q14 => [zi q14]) (M' := fun q14 => s7.2) ?_ ?_
            · intro q14
              refine r_istore (al' := [some (zr 132), some (zi p1), some (zi v2), some (zi q4), some (zi v6), some (zi s7.1), some (zi q11), some (zi q14)]) C dX12_closes_121 (by rw [hn]; decide) rfl ?_
              refine r_aload_n C dX12_closes_123 rfl rfl ?_
              refine r_getp C clX12 kd_132 (k := 20) (by decide) flX12_147 dX12_closes_124 pt_132_20 ?_
              refine r_iload C dX12_closes_127 rfl ?_
              refine r_iload C dX12_closes_129 rfl ?_
              refine r_iload C dX12_closes_131 rfl ?_
              refine r_join (γ := Int × Mem) (pcJ := fun _ => 173) (al' := fun q19 => [some (zr 132), some (zi p1), some (zi v2), some (zi q4), some (zi v6), some (zi s7.1), none, none]) (st' := fun q19 => [zi q19.1, zi s7.1, zr 145]) (M' := fun q19 => q19.2) ?_ ?_
              · intro q19
                refine r_iastore C dX12_closes_173 (fun M20 _ => ?_)
                refine r_iinc (al' := [some (zr 132), some (zi p1), some (zi v2), some (zi q4), some (zi v6), some (zi (w32 (s7.1 + 1))), none, none]) C dX12_closes_174 rfl (by rw [hn]; decide) rfl ?_
                refine r_goto (tgt := 52) C dX12_closes_177 (by decide) ?_
                exact hCs7 (w32 (s7.1 + 1), M20)
              · intro hJq19
                refine q_icmp_ne (tgt := 141) C dX12_closes_133 (by decide) (fun _ => ?_) (fun _ => ?_)
                · refine r_aload_n C dX12_closes_141 rfl rfl ?_
                  refine r_bipush C dX12_closes_142 (by decide) ?_
                  refine r_aload_n C dX12_closes_144 rfl rfl ?_
                  refine r_getp C clX12 kd_132 (k := 23) (by decide) flX12_156 dX12_closes_145 pt_132_23 ?_
                  refine r_aload_n C dX12_closes_148 rfl rfl ?_
                  refine r_getp C clX12 kd_132 (k := 11) (by decide) flX12_129 dX12_closes_149 pt_132_11 ?_
                  refine r_iload_n C dX12_closes_152 rfl rfl ?_
                  refine r_bipush C dX12_closes_153 (by decide) ?_
                  refine r_iadd C dX12_closes_155 ?_
                  refine r_iaload C dX12_closes_156 (fun v15 _ => ?_)
                  refine r_iaload C dX12_closes_157 (fun v16 _ => ?_)
                  refine r_iload C dX12_closes_158 rfl ?_
                  refine r_iload C dX12_closes_160 rfl ?_
                  refine r_aload_n C dX12_closes_162 rfl rfl ?_
                  refine r_getp C clX12 kd_132 (k := 11) (by decide) flX12_129 dX12_closes_163 pt_132_11 ?_
                  refine r_iload_n C dX12_closes_166 rfl rfl ?_
                  refine r_iconst C dX12_closes_167 (by decide) ?_
                  refine r_iadd C dX12_closes_168 ?_
                  refine r_iaload C dX12_closes_169 (fun v17 _ => ?_)
                  refine q_callVi (av := [zi 13, zi v16, zi q11, zi q14, zi v17]) (rest := [zi s7.1, zr 145]) C (tX12_made 13 v16 q11 q14 v17 s7.2) lkX12_329 kd_132 rfl rfl rfl (Nat.le_of_ble_eq_true rfl) ⟨by decide, by decide⟩ dX12_closes_170 (fun q18 _ => ?_)
                  refine r_less [true, true, true, true, true, true, false, false] rfl ?_
                  exact hJq19 (q18.1, q18.2)
                · refine r_iload C dX12_closes_136 rfl ?_
                  refine r_goto (tgt := 173) C dX12_closes_138 (by decide) ?_
                  refine r_less [true, true, true, true, true, true, false, false] rfl ?_
                  exact hJq19 (q11, s7.2)
            · intro hJq14
              refine q_if_eq (tgt := 112) C dX12_closes_99 (by decide) (fun _ => ?_) (fun _ => ?_)
              · refine r_aload_n C dX12_closes_112 rfl rfl ?_
                refine r_getp C clX12 kd_132 (k := 21) (by decide) flX12_150 dX12_closes_113 pt_132_21 ?_
                refine r_iload_n C dX12_closes_116 rfl rfl ?_
                refine r_iload C dX12_closes_117 rfl ?_
                refine r_iadd C dX12_closes_119 ?_
                refine r_iaload C dX12_closes_120 (fun v12 _ => ?_)
                exact hJq14 v12
              · refine r_aload_n C dX12_closes_102 rfl rfl ?_
                refine r_getp C clX12 kd_132 (k := 20) (by decide) flX12_147 dX12_closes_103 pt_132_20 ?_
                refine r_iload C dX12_closes_106 rfl ?_
                refine r_iaload C dX12_closes_108 (fun v13 _ => ?_)
                refine r_goto (tgt := 121) C dX12_closes_109 (by decide) ?_
                exact hJq14 v13
          · intro hJq11
            refine q_if_eq (tgt := 89) C dX12_closes_74 (by decide) (fun _ => ?_) (fun _ => ?_)
            · refine r_aload_n C dX12_closes_89 rfl rfl ?_
              refine r_getp C clX12 kd_132 (k := 20) (by decide) flX12_147 dX12_closes_90 pt_132_20 ?_
              refine r_iload C dX12_closes_93 rfl ?_
              refine r_iaload C dX12_closes_95 (fun v9 _ => ?_)
              exact hJq11 v9
            · refine r_aload_n C dX12_closes_77 rfl rfl ?_
              refine r_getp C clX12 kd_132 (k := 22) (by decide) flX12_153 dX12_closes_78 pt_132_22 ?_
              refine r_iload_n C dX12_closes_81 rfl rfl ?_
              refine r_iload C dX12_closes_82 rfl ?_
              refine r_iadd C dX12_closes_84 ?_
              refine r_iaload C dX12_closes_85 (fun v10 _ => ?_)
              refine r_goto (tgt := 96) C dX12_closes_86 (by decide) ?_
              exact hJq11 v10
  · intro hJq4
    refine q_icmp_ne (tgt := 29) C dX12_closes_22 (by decide) (fun _ => ?_) (fun _ => ?_)
    · refine r_iconst C dX12_closes_29 (by decide) ?_
      exact hJq4 0
    · refine r_iconst C dX12_closes_25 (by decide) ?_
      refine r_goto (tgt := 30) C dX12_closes_26 (by decide) ?_
      exact hJq4 1
set_option maxRecDepth 100000 in
set_option maxHeartbeats 4000000 in
theorem tX12_moves (a : Nat) (b : Nat) (p1 : Int) (p2 : Int) (M : Mem) : Cn yX12_moves cX12_moves 5 none 0 0 [zr a, zr b, zi p1, zi p2] M ((fX12_moves a b p1 p2 M).map oU) := by
  refine Cn_mk (own := RX12) rfl (by decide) (Nat.le_of_ble_eq_true rfl) [some (zr a), some (zr b), some (zi p1), some (zi p2), none] rfl (fun G C hn => ?_)
  unfold fX12_moves
  refine r_iconst C dX12_moves_0 (by decide) ?_
  refine r_istore (al' := [some (zr a), some (zr b), some (zi p1), some (zi p2), some (zi 0)]) C dX12_moves_1 (by rw [hn]; decide) rfl ?_
  refine r_lp (S := Int × Mem) (R := Mem) (pcX := 28) (AL := fun s1 => [some (zr a), some (zr b), some (zi p1), some (zi p2), some (zi s1.1)]) (MM := fun s1 => s1.2) (AX := fun q4 => [none, none, none, none, none]) (MX := fun q4 => q4) ?_ ?_ (0, M)
  · intro q4
    exact r_return C dX12_moves_28 rfl
  · intro gs1 hCs1 hXs1 s1
    unfold fX12_moves_b1
    refine r_iload C dX12_moves_3 rfl ?_
    refine r_bipush C dX12_moves_5 (by decide) ?_
    refine q_icmp_ge (tgt := 28) C dX12_moves_7 (by decide) (fun _ => ?_) (fun _ => ?_)
    · refine r_less [false, false, false, false, false] rfl ?_
      exact hXs1 s1.2
    · refine r_aload_n C dX12_moves_10 rfl rfl ?_
      refine r_iload_n C dX12_moves_11 rfl rfl ?_
      refine r_iload C dX12_moves_12 rfl ?_
      refine r_iadd C dX12_moves_14 ?_
      refine r_aload_n C dX12_moves_15 rfl rfl ?_
      refine r_iload_n C dX12_moves_16 rfl rfl ?_
      refine r_iload C dX12_moves_17 rfl ?_
      refine r_iadd C dX12_moves_19 ?_
      refine r_iaload C dX12_moves_20 (fun v2 _ => ?_)
      refine r_iastore C dX12_moves_21 (fun M3 _ => ?_)
      refine r_iinc (al' := [some (zr a), some (zr b), some (zi p1), some (zi p2), some (zi (w32 (s1.1 + 1)))]) C dX12_moves_22 rfl (by rw [hn]; decide) rfl ?_
      refine r_goto (tgt := 3) C dX12_moves_25 (by decide) ?_
      exact hCs1 (w32 (s1.1 + 1), M3)
set_option maxRecDepth 100000 in
set_option maxHeartbeats 4000000 in
theorem tX12_argValue (p1 : Int) (M : Mem) : Cn yX12_argValue cX12_argValue 2 (some .int) 2 49 [zr 132, zi p1] M ((fX12_argValue p1 M).map oI) := by
  refine Cn_mk (own := RX12) rfl (by decide) (Nat.le_of_ble_eq_true rfl) [some (zr 132), some (zi p1)] rfl (fun G C hn => ?_)
  unfold fX12_argValue
  refine r_aload_n C dX12_argValue_0 rfl rfl ?_
  refine r_getp C clX12 kd_132 (k := 11) (by decide) flX12_129 dX12_argValue_1 pt_132_11 ?_
  refine r_iload_n C dX12_argValue_4 rfl rfl ?_
  refine r_iaload C dX12_argValue_5 (fun v1 _ => ?_)
  refine r_join (γ := Int × Mem) (pcJ := fun _ => 46) (al' := fun q7 => [none, none]) (st' := fun q7 => [zi q7.1]) (M' := fun q7 => q7.2) ?_ ?_
  · intro q7
    exact r_ireturn C dX12_argValue_46 rfl
  · intro hJq7
    refine q_if_ge (tgt := 25) C dX12_argValue_6 (by decide) (fun _ => ?_) (fun _ => ?_)
    · refine r_aload_n C dX12_argValue_25 rfl rfl ?_
      refine r_iconst C dX12_argValue_26 (by decide) ?_
      refine r_aload_n C dX12_argValue_27 rfl rfl ?_
      refine r_getp C clX12 kd_132 (k := 11) (by decide) flX12_129 dX12_argValue_28 pt_132_11 ?_
      refine r_iload_n C dX12_argValue_31 rfl rfl ?_
      refine r_iaload C dX12_argValue_32 (fun v2 _ => ?_)
      refine r_iconst C dX12_argValue_33 (by decide) ?_
      refine r_iconst C dX12_argValue_34 (by decide) ?_
      refine r_aload_n C dX12_argValue_35 rfl rfl ?_
      refine r_getp C clX12 kd_132 (k := 11) (by decide) flX12_129 dX12_argValue_36 pt_132_11 ?_
      refine r_iload_n C dX12_argValue_39 rfl rfl ?_
      refine r_iconst C dX12_argValue_40 (by decide) ?_
      refine r_iadd C dX12_argValue_41 ?_
      refine r_iaload C dX12_argValue_42 (fun v3 _ => ?_)
      refine q_callVi (av := [zi 1, zi v2, zi (-1), zi (-1), zi v3]) (rest := []) C (tX12_made 1 v2 (-1) (-1) v3 M) lkX12_329 kd_132 rfl rfl rfl (Nat.le_of_ble_eq_true rfl) ⟨by decide, by decide⟩ dX12_argValue_43 (fun q4 _ => ?_)
      refine r_less [false, false] rfl ?_
      exact hJq7 (q4.1, q4.2)
    · refine r_aload_n C dX12_argValue_9 rfl rfl ?_
      refine r_getp C clX12 kd_132 (k := 20) (by decide) flX12_147 dX12_argValue_10 pt_132_20 ?_
      refine r_iconst C dX12_argValue_13 (by decide) ?_
      refine r_aload_n C dX12_argValue_14 rfl rfl ?_
      refine r_getp C clX12 kd_132 (k := 11) (by decide) flX12_129 dX12_argValue_15 pt_132_11 ?_
      refine r_iload_n C dX12_argValue_18 rfl rfl ?_
      refine r_iaload C dX12_argValue_19 (fun v5 _ => ?_)
      refine r_isub C dX12_argValue_20 ?_
      refine r_iaload C dX12_argValue_21 (fun v6 _ => ?_)
      refine r_goto (tgt := 46) C dX12_argValue_22 (by decide) ?_
      refine r_less [false, false] rfl ?_
      exact hJq7 (v6, M)
set_option maxRecDepth 100000 in
set_option maxHeartbeats 4000000 in
theorem tX12_isUniformRead (p1 : Int) (M : Mem) : Cn yX12_isUniformRead cX12_isUniformRead 6 (some .boolean) 1 21 [zr 132, zi p1] M ((fX12_isUniformRead p1 M).map oI) := by
  refine Cn_mk (own := RX12) rfl (by decide) (Nat.le_of_ble_eq_true rfl) [some (zr 132), some (zi p1), none, none, none, none] rfl (fun G C hn => ?_)
  unfold fX12_isUniformRead
  refine r_iconst C dX12_isUniformRead_0 (by decide) ?_
  refine r_istore_n (al' := [some (zr 132), some (zi p1), some (zi 0), none, none, none]) C dX12_isUniformRead_1 rfl (by rw [hn]; decide) rfl ?_
  refine r_lp (S := Int × Mem) (R := Mem) (pcX := 134) (AL := fun s1 => [some (zr 132), some (zi p1), some (zi s1.1), none, none, none]) (MM := fun s1 => s1.2) (AX := fun q15 => [some (zr 132), some (zi p1), none, none, none, none]) (MX := fun q15 => q15) ?_ ?_ (0, M)
  · intro q15
    refine r_aload_n C dX12_isUniformRead_134 rfl rfl ?_
    refine r_getp C clX12 kd_132 (k := 32) (by decide) flX12_181 dX12_isUniformRead_135 pt_132_32 ?_
    refine r_iload_n C dX12_isUniformRead_138 rfl rfl ?_
    refine r_zaload C dX12_isUniformRead_139 (fun v16 _ => ?_)
    exact r_zreturn C dX12_isUniformRead_140 rfl
  · intro gs1 hCs1 hXs1 s1
    unfold fX12_isUniformRead_b1
    refine r_iload_n C dX12_isUniformRead_2 rfl rfl ?_
    refine r_iload_n C dX12_isUniformRead_3 rfl rfl ?_
    refine q_icmp_gt (tgt := 134) C dX12_isUniformRead_4 (by decide) (fun _ => ?_) (fun _ => ?_)
    · refine r_less [true, true, false, false, false, false] rfl ?_
      exact hXs1 s1.2
    · refine r_aload_n C dX12_isUniformRead_7 rfl rfl ?_
      refine r_iload_n C dX12_isUniformRead_8 rfl rfl ?_
      refine q_callVi (av := [zi s1.1]) (rest := []) C (tX12_new1 s1.1 s1.2) lkX12_323 kd_132 rfl rfl rfl (Nat.le_of_ble_eq_true rfl) ⟨by decide, by decide⟩ dX12_isUniformRead_9 (fun q2 _ => ?_)
      refine r_istore_n (al' := [some (zr 132), some (zi p1), some (zi s1.1), some (zi q2.1), none, none]) C dX12_isUniformRead_12 rfl (by rw [hn]; decide) rfl ?_
      refine r_aload_n C dX12_isUniformRead_13 rfl rfl ?_
      refine r_getp C clX12 kd_132 (k := 10) (by decide) flX12_126 dX12_isUniformRead_14 pt_132_10 ?_
      refine r_iload_n C dX12_isUniformRead_17 rfl rfl ?_
      refine r_iaload C dX12_isUniformRead_18 (fun v3 _ => ?_)
      refine r_join (γ := Int) (pcJ := fun _ => 52) (al' := fun q6 => [some (zr 132), some (zi p1), some (zi s1.1), some (zi q2.1), none, none]) (st' := fun q6 => [zi q6]) (M' := fun q6 => q2.2) ?_ ?_
      · intro q6
        refine r_istore (al' := [some (zr 132), some (zi p1), some (zi s1.1), some (zi q2.1), some (zi q6), none]) C dX12_isUniformRead_52 (by rw [hn]; decide) rfl ?_
        refine r_iconst C dX12_isUniformRead_54 (by decide) ?_
        refine r_istore (al' := [some (zr 132), some (zi p1), some (zi s1.1), some (zi q2.1), some (zi q6), some (zi 1)]) C dX12_isUniformRead_55 (by rw [hn]; decide) rfl ?_
        refine r_lp (S := Int × Int) (R := Int) (pcX := 120) (AL := fun s7 => [some (zr 132), some (zi p1), some (zi s1.1), some (zi q2.1), some (zi s7.1), some (zi s7.2)]) (MM := fun s7 => q2.2) (AX := fun q13 => [some (zr 132), some (zi p1), some (zi s1.1), none, some (zi q13), none]) (MX := fun q13 => q2.2) ?_ ?_ (q6, 1)
        · intro q13
          refine r_aload_n C dX12_isUniformRead_120 rfl rfl ?_
          refine r_getp C clX12 kd_132 (k := 32) (by decide) flX12_181 dX12_isUniformRead_121 pt_132_32 ?_
          refine r_iload_n C dX12_isUniformRead_124 rfl rfl ?_
          refine r_iload C dX12_isUniformRead_125 rfl ?_
          refine r_zastore C dX12_isUniformRead_127 (fun M14 _ => ?_)
          refine r_iinc (al' := [some (zr 132), some (zi p1), some (zi (w32 (s1.1 + 1))), none, some (zi q13), none]) C dX12_isUniformRead_128 rfl (by rw [hn]; decide) rfl ?_
          refine r_goto (tgt := 2) C dX12_isUniformRead_131 (by decide) ?_
          refine r_less [true, true, true, false, false, false] rfl ?_
          exact hCs1 (w32 (s1.1 + 1), M14)
        · intro gs7 hCs7 hXs7 s7
          unfold fX12_isUniformRead_b2
          refine r_iload C dX12_isUniformRead_57 rfl ?_
          refine r_iconst C dX12_isUniformRead_59 (by decide) ?_
          refine q_icmp_ge (tgt := 120) C dX12_isUniformRead_60 (by decide) (fun _ => ?_) (fun _ => ?_)
          · refine r_less [true, true, true, false, true, false] rfl ?_
            exact hXs7 s7.1
          · refine r_aload_n C dX12_isUniformRead_63 rfl rfl ?_
            refine r_getp C clX12 kd_132 (k := 10) (by decide) flX12_126 dX12_isUniformRead_64 pt_132_10 ?_
            refine r_iload_n C dX12_isUniformRead_67 rfl rfl ?_
            refine r_iaload C dX12_isUniformRead_68 (fun v8 _ => ?_)
            refine r_iconst C dX12_isUniformRead_69 (by decide) ?_
            refine q_icmp_le (tgt := 120) C dX12_isUniformRead_70 (by decide) (fun _ => ?_) (fun _ => ?_)
            · refine r_less [true, true, true, false, true, false] rfl ?_
              exact hXs7 s7.1
            · refine r_iload C dX12_isUniformRead_73 rfl ?_
              refine r_join (γ := Int) (pcJ := fun _ => 112) (al' := fun q12 => [some (zr 132), some (zi p1), some (zi s1.1), some (zi q2.1), none, some (zi s7.2)]) (st' := fun q12 => [zi q12]) (M' := fun q12 => q2.2) ?_ ?_
              · intro q12
                refine r_istore (al' := [some (zr 132), some (zi p1), some (zi s1.1), some (zi q2.1), some (zi q12), some (zi s7.2)]) C dX12_isUniformRead_112 (by rw [hn]; decide) rfl ?_
                refine r_iinc (al' := [some (zr 132), some (zi p1), some (zi s1.1), some (zi q2.1), some (zi q12), some (zi (w32 (s7.2 + 1)))]) C dX12_isUniformRead_114 rfl (by rw [hn]; decide) rfl ?_
                refine r_goto (tgt := 57) C dX12_isUniformRead_117 (by decide) ?_
                exact hCs7 (q12, w32 (s7.2 + 1))
              · intro hJq12
                refine q_if_eq (tgt := 111) C dX12_isUniformRead_75 (by decide) (fun _ => ?_) (fun _ => ?_)
                · refine r_iconst C dX12_isUniformRead_111 (by decide) ?_
                  refine r_less [true, true, true, true, false, true] rfl ?_
                  exact hJq12 0
                · refine r_aload_n C dX12_isUniformRead_78 rfl rfl ?_
                  refine r_getp C clX12 kd_132 (k := 10) (by decide) flX12_126 dX12_isUniformRead_79 pt_132_10 ?_
                  refine r_iload_n C dX12_isUniformRead_82 rfl rfl ?_
                  refine r_iload C dX12_isUniformRead_83 rfl ?_
                  refine r_iadd C dX12_isUniformRead_85 ?_
                  refine r_iaload C dX12_isUniformRead_86 (fun v9 _ => ?_)
                  refine q_if_lt (tgt := 107) C dX12_isUniformRead_87 (by decide) (fun _ => ?_) (fun _ => ?_)
                  · refine r_iconst C dX12_isUniformRead_107 (by decide) ?_
                    refine r_goto (tgt := 112) C dX12_isUniformRead_108 (by decide) ?_
                    refine r_less [true, true, true, true, false, true] rfl ?_
                    exact hJq12 1
                  · refine r_aload_n C dX12_isUniformRead_90 rfl rfl ?_
                    refine r_getp C clX12 kd_132 (k := 32) (by decide) flX12_181 dX12_isUniformRead_91 pt_132_32 ?_
                    refine r_aload_n C dX12_isUniformRead_94 rfl rfl ?_
                    refine r_getp C clX12 kd_132 (k := 10) (by decide) flX12_126 dX12_isUniformRead_95 pt_132_10 ?_
                    refine r_iload_n C dX12_isUniformRead_98 rfl rfl ?_
                    refine r_iload C dX12_isUniformRead_99 rfl ?_
                    refine r_iadd C dX12_isUniformRead_101 ?_
                    refine r_iaload C dX12_isUniformRead_102 (fun v10 _ => ?_)
                    refine r_zaload C dX12_isUniformRead_103 (fun v11 _ => ?_)
                    refine q_if_eq (tgt := 111) C dX12_isUniformRead_104 (by decide) (fun _ => ?_) (fun _ => ?_)
                    · refine r_iconst C dX12_isUniformRead_111 (by decide) ?_
                      refine r_less [true, true, true, true, false, true] rfl ?_
                      exact hJq12 0
                    · refine r_iconst C dX12_isUniformRead_107 (by decide) ?_
                      refine r_goto (tgt := 112) C dX12_isUniformRead_108 (by decide) ?_
                      refine r_less [true, true, true, true, false, true] rfl ?_
                      exact hJq12 1
      · intro hJq6
        refine q_if_gt (tgt := 47) C dX12_isUniformRead_19 (by decide) (fun _ => ?_) (fun _ => ?_)
        · refine r_iconst C dX12_isUniformRead_47 (by decide) ?_
          refine r_goto (tgt := 52) C dX12_isUniformRead_48 (by decide) ?_
          exact hJq6 1
        · refine r_aload_n C dX12_isUniformRead_22 rfl rfl ?_
          refine r_getp C clX12 kd_132 (k := 10) (by decide) flX12_126 dX12_isUniformRead_23 pt_132_10 ?_
          refine r_sipush C dX12_isUniformRead_26 (by decide) ?_
          refine r_iconst C dX12_isUniformRead_29 (by decide) ?_
          refine r_aload_n C dX12_isUniformRead_30 rfl rfl ?_
          refine r_getp C clX12 kd_132 (k := 10) (by decide) flX12_126 dX12_isUniformRead_31 pt_132_10 ?_
          refine r_iload_n C dX12_isUniformRead_34 rfl rfl ?_
          refine r_iconst C dX12_isUniformRead_35 (by decide) ?_
          refine r_iadd C dX12_isUniformRead_36 ?_
          refine r_iaload C dX12_isUniformRead_37 (fun v4 _ => ?_)
          refine r_imul C dX12_isUniformRead_38 ?_
          refine r_iadd C dX12_isUniformRead_39 ?_
          refine r_iconst C dX12_isUniformRead_40 (by decide) ?_
          refine r_iadd C dX12_isUniformRead_41 ?_
          refine r_iaload C dX12_isUniformRead_42 (fun v5 _ => ?_)
          refine r_iconst C dX12_isUniformRead_43 (by decide) ?_
          refine q_icmp_ne (tgt := 51) C dX12_isUniformRead_44 (by decide) (fun _ => ?_) (fun _ => ?_)
          · refine r_iconst C dX12_isUniformRead_51 (by decide) ?_
            exact hJq6 0
          · refine r_iconst C dX12_isUniformRead_47 (by decide) ?_
            refine r_goto (tgt := 52) C dX12_isUniformRead_48 (by decide) ?_
            exact hJq6 1
set_option maxRecDepth 100000 in
set_option maxHeartbeats 4000000 in
theorem tX12_goesEitherWay (p1 : Int) (M : Mem) : Cn yX12_goesEitherWay cX12_goesEitherWay 1 (some .boolean) 0 0 [zi p1] M ((fX12_goesEitherWay p1 M).map oI) := by
  refine Cn_mk (own := RX12) rfl (by decide) (Nat.le_of_ble_eq_true rfl) [some (zi p1)] rfl (fun G C hn => ?_)
  unfold fX12_goesEitherWay
  refine r_iload_n C dX12_goesEitherWay_0 rfl rfl ?_
  refine r_iconst C dX12_goesEitherWay_1 (by decide) ?_
  refine r_join (γ := Int) (pcJ := fun _ => 38) (al' := fun q1 => [none]) (st' := fun q1 => [zi q1]) (M' := fun q1 => M) ?_ ?_
  · intro q1
    exact r_zreturn C dX12_goesEitherWay_38 rfl
  · intro hJq1
    refine q_icmp_eq (tgt := 33) C dX12_goesEitherWay_2 (by decide) (fun _ => ?_) (fun _ => ?_)
    · refine r_iconst C dX12_goesEitherWay_33 (by decide) ?_
      refine r_goto (tgt := 38) C dX12_goesEitherWay_34 (by decide) ?_
      refine r_less [false] rfl ?_
      exact hJq1 1
    · refine r_iload_n C dX12_goesEitherWay_5 rfl rfl ?_
      refine r_iconst C dX12_goesEitherWay_6 (by decide) ?_
      refine q_icmp_eq (tgt := 33) C dX12_goesEitherWay_7 (by decide) (fun _ => ?_) (fun _ => ?_)
      · refine r_iconst C dX12_goesEitherWay_33 (by decide) ?_
        refine r_goto (tgt := 38) C dX12_goesEitherWay_34 (by decide) ?_
        refine r_less [false] rfl ?_
        exact hJq1 1
      · refine r_iload_n C dX12_goesEitherWay_10 rfl rfl ?_
        refine r_iconst C dX12_goesEitherWay_11 (by decide) ?_
        refine q_icmp_eq (tgt := 33) C dX12_goesEitherWay_12 (by decide) (fun _ => ?_) (fun _ => ?_)
        · refine r_iconst C dX12_goesEitherWay_33 (by decide) ?_
          refine r_goto (tgt := 38) C dX12_goesEitherWay_34 (by decide) ?_
          refine r_less [false] rfl ?_
          exact hJq1 1
        · refine r_iload_n C dX12_goesEitherWay_15 rfl rfl ?_
          refine r_bipush C dX12_goesEitherWay_16 (by decide) ?_
          refine q_icmp_eq (tgt := 33) C dX12_goesEitherWay_18 (by decide) (fun _ => ?_) (fun _ => ?_)
          · refine r_iconst C dX12_goesEitherWay_33 (by decide) ?_
            refine r_goto (tgt := 38) C dX12_goesEitherWay_34 (by decide) ?_
            refine r_less [false] rfl ?_
            exact hJq1 1
          · refine r_iload_n C dX12_goesEitherWay_21 rfl rfl ?_
            refine r_bipush C dX12_goesEitherWay_22 (by decide) ?_
            refine q_icmp_lt (tgt := 37) C dX12_goesEitherWay_24 (by decide) (fun _ => ?_) (fun _ => ?_)
            · refine r_iconst C dX12_goesEitherWay_37 (by decide) ?_
              refine r_less [false] rfl ?_
              exact hJq1 0
            · refine r_iload_n C dX12_goesEitherWay_27 rfl rfl ?_
              refine r_bipush C dX12_goesEitherWay_28 (by decide) ?_
              refine q_icmp_gt (tgt := 37) C dX12_goesEitherWay_30 (by decide) (fun _ => ?_) (fun _ => ?_)
              · refine r_iconst C dX12_goesEitherWay_37 (by decide) ?_
                refine r_less [false] rfl ?_
                exact hJq1 0
              · refine r_iconst C dX12_goesEitherWay_33 (by decide) ?_
                refine r_goto (tgt := 38) C dX12_goesEitherWay_34 (by decide) ?_
                refine r_less [false] rfl ?_
                exact hJq1 1
