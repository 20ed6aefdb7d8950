set_option maxRecDepth 100000 in
set_option maxHeartbeats 4000000 in
theorem tX9_start (t : Nat) (ht : t = 5 ∨ t = 119) (M : Mem) : Cn yX9_start cX9_start 4 none 2 46 [zr 23, zr t] M ((fX9_start t M).map oU) := by
  refine Cn_mk (own := RX9) rfl (by decide) (Nat.le_of_ble_eq_true rfl) [some (zr 23), some (zr t), none, none] rfl (fun G C hn => ?_)
  unfold fX9_start
  refine r_aload_n C dX9_start_0 rfl rfl ?_
  refine r_iconst C dX9_start_1 (by decide) ?_
  refine q_puti C clX9 kd_23 (k := 0) (by decide) flX9_31 rfl dX9_start_2 rfl rfl (fun M1 => ?_)
  refine r_aload_n C dX9_start_5 rfl rfl ?_
  refine r_iconst C dX9_start_6 (by decide) ?_
  refine q_puti C clX9 kd_23 (k := 5) (by decide) flX9_35 rfl dX9_start_7 rfl rfl (fun M2 => ?_)
  refine r_iconst C dX9_start_10 (by decide) ?_
  refine r_istore_n (al' := [some (zr 23), some (zr t), some (zi 0), none]) C dX9_start_11 rfl (by rw [hn]; decide) rfl ?_
  refine r_lp (S := Int × Mem) (R := Mem) (pcX := 52) (AL := fun s3 => [some (zr 23), some (zr t), some (zi s3.1), none]) (MM := fun s3 => s3.2) (AX := fun q8 => [some (zr 23), some (zr t), none, none]) (MX := fun q8 => q8) ?_ ?_ (0, M2)
  · intro q8
    refine r_iconst C dX9_start_52 (by decide) ?_
    refine r_istore_n (al' := [some (zr 23), some (zr t), some (zi 0), none]) C dX9_start_53 rfl (by rw [hn]; decide) rfl ?_
    refine r_lp (S := Int × Mem) (R := Mem) (pcX := 82) (AL := fun s9 => [some (zr 23), some (zr t), some (zi s9.1), none]) (MM := fun s9 => s9.2) (AX := fun q11 => [none, none, none, none]) (MX := fun q11 => q11) ?_ ?_ (0, q8)
    · intro q11
      exact r_return C dX9_start_82 rfl
    · intro gs9 hCs9 hXs9 s9
      unfold fX9_start_b2
      refine r_iload_n C dX9_start_54 rfl rfl ?_
      refine r_aload_n C dX9_start_55 rfl rfl ?_
      refine q_geti C clX3 (kd_t0 ht) (k := 16) (by decide) flX9_50 dX9_start_56 (kz := 16) rfl (by decide) ?_
      refine q_icmp_ge (tgt := 82) C dX9_start_59 (by decide) (fun _ => ?_) (fun _ => ?_)
      · refine r_less [false, false, false, false] rfl ?_
        exact hXs9 s9.2
      · refine r_iload_n C dX9_start_62 rfl rfl ?_
        refine r_sipush C dX9_start_63 (by decide) ?_
        refine q_icmp_ge (tgt := 82) C dX9_start_66 (by decide) (fun _ => ?_) (fun _ => ?_)
        · refine r_less [false, false, false, false] rfl ?_
          exact hXs9 s9.2
        · refine r_aload_n C dX9_start_69 rfl rfl ?_
          refine r_getp C clX9 kd_23 (k := 7) (by decide) flX9_28 dX9_start_70 pt_23_7 ?_
          refine r_iload_n C dX9_start_73 rfl rfl ?_
          refine r_iconst C dX9_start_74 (by decide) ?_
          refine r_zastore C dX9_start_75 (fun M10 _ => ?_)
          refine r_iinc (al' := [some (zr 23), some (zr t), some (zi (w32 (s9.1 + 1))), none]) C dX9_start_76 rfl (by rw [hn]; decide) rfl ?_
          refine r_goto (tgt := 54) C dX9_start_79 (by decide) ?_
          exact hCs9 (w32 (s9.1 + 1), M10)
  · intro gs3 hCs3 hXs3 s3
    unfold fX9_start_b1
    refine r_iload_n C dX9_start_12 rfl rfl ?_
    refine r_aload_n C dX9_start_13 rfl rfl ?_
    refine q_geti C clX3 (kd_t0 ht) (k := 10) (by decide) flX9_38 dX9_start_14 (kz := 10) rfl (by decide) ?_
    refine q_icmp_ge (tgt := 52) C dX9_start_17 (by decide) (fun _ => ?_) (fun _ => ?_)
    · refine r_less [true, true, false, false] rfl ?_
      exact hXs3 s3.2
    · refine r_aload_n C dX9_start_20 rfl rfl ?_
      refine r_iconst C dX9_start_21 (by decide) ?_
      refine r_iload_n C dX9_start_22 rfl rfl ?_
      refine r_iconst C dX9_start_23 (by decide) ?_
      refine r_iconst C dX9_start_24 (by decide) ?_
      refine q_callVi (av := [zi 0, zi s3.1, zi (-1), zi (-1)]) (rest := []) C (tX9_single 0 s3.1 (-1) (-1) s3.2) lkX9_43 kd_23 rfl rfl rfl (Nat.le_of_ble_eq_true rfl) ⟨by decide, by decide⟩ dX9_start_25 (fun q4 _ => ?_)
      refine r_istore_n (al' := [some (zr 23), some (zr t), some (zi s3.1), some (zi q4.1)]) C dX9_start_28 rfl (by rw [hn]; decide) rfl ?_
      refine r_iload_n C dX9_start_29 rfl rfl ?_
      refine r_iconst C dX9_start_30 (by decide) ?_
      refine r_join (γ := Mem) (pcJ := fun _ => 46) (al' := fun q7 => [some (zr 23), some (zr t), some (zi s3.1), none]) (st' := fun q7 => []) (M' := fun q7 => q7) ?_ ?_
      · intro q7
        refine r_iinc (al' := [some (zr 23), some (zr t), some (zi (w32 (s3.1 + 1))), none]) C dX9_start_46 rfl (by rw [hn]; decide) rfl ?_
        refine r_goto (tgt := 12) C dX9_start_49 (by decide) ?_
        exact hCs3 (w32 (s3.1 + 1), q7)
      · intro hJq7
        refine q_icmp_eq (tgt := 46) C dX9_start_31 (by decide) (fun _ => ?_) (fun _ => ?_)
        · refine r_less [true, true, true, false] rfl ?_
          exact hJq7 q4.2
        · refine r_aload_n C dX9_start_34 rfl rfl ?_
          refine r_getp C clX9 kd_23 (k := 4) (by decide) flX9_22 dX9_start_35 pt_23_4 ?_
          refine r_iload_n C dX9_start_38 rfl rfl ?_
          refine r_aload_n C dX9_start_39 rfl rfl ?_
          refine r_getp C clX3 (kd_t0 ht) (k := 11) (by decide) flX9_47 dX9_start_40 (pt_t0_11 ht) ?_
          refine r_iload_n C dX9_start_43 rfl rfl ?_
          refine r_zaload C dX9_start_44 (fun v5 _ => ?_)
          refine r_zastore C dX9_start_45 (fun M6 _ => ?_)
          refine r_less [true, true, true, false] rfl ?_
          exact hJq7 M6
set_option maxRecDepth 100000 in
set_option maxHeartbeats 4000000 in
theorem tX10_tooMany (p1 : Int) (M : Mem) : Cn yX10_tooMany cX10_tooMany 2 none 0 0 [zr 22, zi p1] M ((fX10_tooMany p1 M).map oU) := by
  refine Cn_mk (own := RX10) rfl (by decide) (Nat.le_of_ble_eq_true rfl) [some (zr 22), some (zi p1)] rfl (fun G C hn => ?_)
  unfold fX10_tooMany
  refine r_aload_n C dX10_tooMany_0 rfl rfl ?_
  refine q_geti C clX10 kd_22 (k := 9) (by decide) flX10_50 dX10_tooMany_1 (kz := 9) rfl (by decide) ?_
  refine r_join (γ := Mem) (pcJ := fun _ => 17) (al' := fun q2 => [none, none]) (st' := fun q2 => []) (M' := fun q2 => q2) ?_ ?_
  · intro q2
    exact r_return C dX10_tooMany_17 rfl
  · intro hJq2
    refine q_if_ne (tgt := 17) C dX10_tooMany_4 (by decide) (fun _ => ?_) (fun _ => ?_)
    · refine r_less [false, false] rfl ?_
      exact hJq2 M
    · refine r_aload_n C dX10_tooMany_7 rfl rfl ?_
      refine r_iconst C dX10_tooMany_8 (by decide) ?_
      refine r_bipush C dX10_tooMany_9 (by decide) ?_
      refine r_iload_n C dX10_tooMany_11 rfl rfl ?_
      refine r_imul C dX10_tooMany_12 ?_
      refine r_iadd C dX10_tooMany_13 ?_
      refine q_puti C clX10 kd_22 (k := 9) (by decide) flX10_50 rfl dX10_tooMany_14 rfl rfl (fun M1 => ?_)
      refine r_less [false, false] rfl ?_
      exact hJq2 M1
set_option maxRecDepth 100000 in
set_option maxHeartbeats 4000000 in
theorem tX10_countLine (t : Nat) (ht : t = 5 ∨ t = 119) (p1 : Int) (M : Mem) : Cn yX10_countLine cX10_countLine 4 none 1 21 [zr 22, zr t, zi p1] M ((fX10_countLine t p1 M).map oU) := by
  refine Cn_mk (own := RX10) rfl (by decide) (Nat.le_of_ble_eq_true rfl) [some (zr 22), some (zr t), some (zi p1), none] rfl (fun G C hn => ?_)
  unfold fX10_countLine
  refine r_aload_n C dX10_countLine_0 rfl rfl ?_
  refine r_getp C clX3 (kd_t0 ht) (k := 1) (by decide) flX10_66 dX10_countLine_1 (pt_t0_1 ht) ?_
  refine r_iload_n C dX10_countLine_4 rfl rfl ?_
  refine r_iaload C dX10_countLine_5 (fun v1 _ => ?_)
  refine r_istore_n (al' := [some (zr 22), some (zr t), some (zi p1), some (zi v1)]) C dX10_countLine_6 rfl (by rw [hn]; decide) rfl ?_
  refine r_iload_n C dX10_countLine_7 rfl rfl ?_
  refine r_iconst C dX10_countLine_8 (by decide) ?_
  refine r_join (γ := Bool) (pcJ := fun q2 => if q2 = true then 29 else 59) (al' := fun q2 => [some (zr 22), some (zr t), some (zi p1), some (zi v1)]) (st' := fun q2 => []) (M' := fun q2 => M) ?_ ?_
  · intro q2
    refine r_join (γ := Mem) (pcJ := fun _ => 59) (al' := fun q6 => [none, none, none, none]) (st' := fun q6 => []) (M' := fun q6 => q6) ?_ ?_
    · intro q6
      exact r_return C dX10_countLine_59 rfl
    · intro hJq6
      refine r_itp (fun _ => ?_) (fun _ => ?_)
      · refine r_aload_n C dX10_countLine_29 rfl rfl ?_
        refine r_dup C dX10_countLine_30 rfl ?_
        refine q_geti C clX10 kd_22 (k := 8) (by decide) flX10_47 dX10_countLine_31 (kz := 8) rfl (by decide) ?_
        refine r_iconst C dX10_countLine_34 (by decide) ?_
        refine r_iadd C dX10_countLine_35 ?_
        refine q_puti C clX10 kd_22 (k := 8) (by decide) flX10_47 rfl dX10_countLine_36 rfl rfl (fun M3 => ?_)
        refine r_aload_n C dX10_countLine_39 rfl rfl ?_
        refine q_geti C clX10 kd_22 (k := 8) (by decide) flX10_47 dX10_countLine_40 (kz := 8) rfl (by decide) ?_
        refine r_sipush C dX10_countLine_43 (by decide) ?_
        refine q_icmp_le (tgt := 59) C dX10_countLine_46 (by decide) (fun _ => ?_) (fun _ => ?_)
        · refine r_less [false, false, false, false] rfl ?_
          exact hJq6 M3
        · refine r_aload_n C dX10_countLine_49 rfl rfl ?_
          refine r_aload_n C dX10_countLine_50 rfl rfl ?_
          refine r_getp C clX3 (kd_t0 ht) (k := 2) (by decide) flX10_69 dX10_countLine_51 (pt_t0_2 ht) ?_
          refine r_iload_n C dX10_countLine_54 rfl rfl ?_
          refine r_iaload C dX10_countLine_55 (fun v4 _ => ?_)
          refine q_callVv (av := [zi v4]) (rest := []) C (tX10_tooMany v4 M3) lkX10_72 kd_22 rfl rfl rfl (Nat.le_of_ble_eq_true rfl) ⟨by decide, by decide⟩ dX10_countLine_56 (fun q5 _ => ?_)
          refine r_less [false, false, false, false] rfl ?_
          exact hJq6 q5
      · refine r_less [false, false, false, false] rfl ?_
        exact hJq6 M
  · intro hJq2
    refine q_icmp_eq (tgt := 29) C dX10_countLine_9 (by decide) (fun _ => ?_) (fun _ => ?_)
    · exact hJq2 true
    · refine r_iload_n C dX10_countLine_12 rfl rfl ?_
      refine r_iconst C dX10_countLine_13 (by decide) ?_
      refine q_icmp_eq (tgt := 29) C dX10_countLine_14 (by decide) (fun _ => ?_) (fun _ => ?_)
      · exact hJq2 true
      · refine r_iload_n C dX10_countLine_17 rfl rfl ?_
        refine r_bipush C dX10_countLine_18 (by decide) ?_
        refine q_icmp_eq (tgt := 29) C dX10_countLine_20 (by decide) (fun _ => ?_) (fun _ => ?_)
        · exact hJq2 true
        · refine r_iload_n C dX10_countLine_23 rfl rfl ?_
          refine r_bipush C dX10_countLine_24 (by decide) ?_
          refine q_icmp_ne (tgt := 59) C dX10_countLine_26 (by decide) (fun _ => ?_) (fun _ => ?_)
          · exact hJq2 false
          · exact hJq2 true
set_option maxRecDepth 100000 in
set_option maxHeartbeats 4000000 in
theorem tX10_argValue (t : Nat) (ht : t = 5 ∨ t = 119) (p1 : Int) (p2 : Int) (M : Mem) : Cn yX10_argValue cX10_argValue 6 (some .int) 2 46 [zr 22, zr t, zi p1, zi p2] M ((fX10_argValue t p1 p2 M).map oI) := by
  refine Cn_mk (own := RX10) rfl (by decide) (Nat.le_of_ble_eq_true rfl) [some (zr 22), some (zr t), some (zi p1), some (zi p2), none, none] rfl (fun G C hn => ?_)
  unfold fX10_argValue
  refine r_aload_n C dX10_argValue_0 rfl rfl ?_
  refine r_getp C clX3 (kd_t0 ht) (k := 6) (by decide) flX10_141 dX10_argValue_1 (pt_t0_6 ht) ?_
  refine r_iconst C dX10_argValue_4 (by decide) ?_
  refine r_iload_n C dX10_argValue_5 rfl rfl ?_
  refine r_imul C dX10_argValue_6 ?_
  refine r_iload_n C dX10_argValue_7 rfl rfl ?_
  refine r_iadd C dX10_argValue_8 ?_
  refine r_iaload C dX10_argValue_9 (fun v1 _ => ?_)
  refine r_istore (al' := [some (zr 22), some (zr t), some (zi p1), some (zi p2), some (zi v1), none]) C dX10_argValue_10 (by rw [hn]; decide) rfl ?_
  refine r_iload C dX10_argValue_12 rfl ?_
  refine q_if_lt (tgt := 25) C dX10_argValue_14 (by decide) (fun _ => ?_) (fun _ => ?_)
  · refine r_aload_n C dX10_argValue_25 rfl rfl ?_
    refine r_getp C clX10 kd_22 (k := 0) (by decide) flX10_12 dX10_argValue_26 pt_22_0 ?_
    refine r_iconst C dX10_argValue_29 (by decide) ?_
    refine r_iload C dX10_argValue_30 rfl ?_
    refine r_iconst C dX10_argValue_32 (by decide) ?_
    refine r_ixor C dX10_argValue_33 ?_
    refine r_iconst C dX10_argValue_34 (by decide) ?_
    refine r_iconst C dX10_argValue_35 (by decide) ?_
    refine q_callVi (av := [zi 1, zi (ixor v1 (-1)), zi (-1), zi (-1)]) (rest := []) C (tX9_single 1 (ixor v1 (-1)) (-1) (-1) M) lkX10_144 kd_23 rfl rfl rfl (Nat.le_of_ble_eq_true rfl) ⟨by decide, by decide⟩ dX10_argValue_36 (fun q2 _ => ?_)
    refine r_istore (al' := [some (zr 22), some (zr t), some (zi p1), some (zi p2), some (zi v1), some (zi q2.1)]) C dX10_argValue_39 (by rw [hn]; decide) rfl ?_
    refine r_iload C dX10_argValue_41 rfl ?_
    refine r_iconst C dX10_argValue_43 (by decide) ?_
    refine r_join (γ := Mem) (pcJ := fun _ => 61) (al' := fun q5 => [none, none, none, none, none, some (zi q2.1)]) (st' := fun q5 => []) (M' := fun q5 => q5) ?_ ?_
    · intro q5
      refine r_iload C dX10_argValue_61 rfl ?_
      exact r_ireturn C dX10_argValue_63 rfl
    · intro hJq5
      refine q_icmp_ne (tgt := 61) C dX10_argValue_44 (by decide) (fun _ => ?_) (fun _ => ?_)
      · refine r_less [false, false, false, false, false, true] rfl ?_
        exact hJq5 q2.2
      · refine r_aload_n C dX10_argValue_47 rfl rfl ?_
        refine r_aload_n C dX10_argValue_48 rfl rfl ?_
        refine r_getp C clX3 (kd_t0 ht) (k := 7) (by decide) flX10_147 dX10_argValue_49 (pt_t0_7 ht) ?_
        refine r_iconst C dX10_argValue_52 (by decide) ?_
        refine r_iload_n C dX10_argValue_53 rfl rfl ?_
        refine r_imul C dX10_argValue_54 ?_
        refine r_iload_n C dX10_argValue_55 rfl rfl ?_
        refine r_iadd C dX10_argValue_56 ?_
        refine r_iaload C dX10_argValue_57 (fun v3 _ => ?_)
        refine q_callVv (av := [zi v3]) (rest := []) C (tX10_tooMany v3 q2.2) lkX10_72 kd_22 rfl rfl rfl (Nat.le_of_ble_eq_true rfl) ⟨by decide, by decide⟩ dX10_argValue_58 (fun q4 _ => ?_)
        refine r_less [false, false, false, false, false, true] rfl ?_
        exact hJq5 q4
  · refine r_aload_n C dX10_argValue_17 rfl rfl ?_
    refine r_getp C clX10 kd_22 (k := 1) (by decide) flX10_18 dX10_argValue_18 pt_22_1 ?_
    refine r_iload C dX10_argValue_21 rfl ?_
    refine r_iaload C dX10_argValue_23 (fun v6 _ => ?_)
    exact r_ireturn C dX10_argValue_24 rfl
set_option maxRecDepth 100000 in
set_option maxHeartbeats 4000000 in
theorem tX11_goesEitherWay (p1 : Int) (M : Mem) : Cn yX11_goesEitherWay cX11_goesEitherWay 1 (some .boolean) 0 0 [zi p1] M ((fX11_goesEitherWay p1 M).map oI) := by
  refine Cn_mk (own := RX11) rfl (by decide) (Nat.le_of_ble_eq_true rfl) [some (zi p1)] rfl (fun G C hn => ?_)
  unfold fX11_goesEitherWay
  refine r_iload_n C dX11_goesEitherWay_0 rfl rfl ?_
  refine r_iconst C dX11_goesEitherWay_1 (by decide) ?_
  refine r_join (γ := Int) (pcJ := fun _ => 44) (al' := fun q1 => [none]) (st' := fun q1 => [zi q1]) (M' := fun q1 => M) ?_ ?_
  · intro q1
    exact r_zreturn C dX11_goesEitherWay_44 rfl
  · intro hJq1
    refine q_icmp_eq (tgt := 39) C dX11_goesEitherWay_2 (by decide) (fun _ => ?_) (fun _ => ?_)
    · refine r_iconst C dX11_goesEitherWay_39 (by decide) ?_
      refine r_goto (tgt := 44) C dX11_goesEitherWay_40 (by decide) ?_
      refine r_less [false] rfl ?_
      exact hJq1 1
    · refine r_iload_n C dX11_goesEitherWay_5 rfl rfl ?_
      refine r_iconst C dX11_goesEitherWay_6 (by decide) ?_
      refine q_icmp_eq (tgt := 39) C dX11_goesEitherWay_7 (by decide) (fun _ => ?_) (fun _ => ?_)
      · refine r_iconst C dX11_goesEitherWay_39 (by decide) ?_
        refine r_goto (tgt := 44) C dX11_goesEitherWay_40 (by decide) ?_
        refine r_less [false] rfl ?_
        exact hJq1 1
      · refine r_iload_n C dX11_goesEitherWay_10 rfl rfl ?_
        refine r_iconst C dX11_goesEitherWay_11 (by decide) ?_
        refine q_icmp_eq (tgt := 39) C dX11_goesEitherWay_12 (by decide) (fun _ => ?_) (fun _ => ?_)
        · refine r_iconst C dX11_goesEitherWay_39 (by decide) ?_
          refine r_goto (tgt := 44) C dX11_goesEitherWay_40 (by decide) ?_
          refine r_less [false] rfl ?_
          exact hJq1 1
        · refine r_iload_n C dX11_goesEitherWay_15 rfl rfl ?_
          refine r_bipush C dX11_goesEitherWay_16 (by decide) ?_
          refine q_icmp_eq (tgt := 39) C dX11_goesEitherWay_18 (by decide) (fun _ => ?_) (fun _ => ?_)
          · refine r_iconst C dX11_goesEitherWay_39 (by decide) ?_
            refine r_goto (tgt := 44) C dX11_goesEitherWay_40 (by decide) ?_
            refine r_less [false] rfl ?_
            exact hJq1 1
          · refine r_iload_n C dX11_goesEitherWay_21 rfl rfl ?_
            refine r_bipush C dX11_goesEitherWay_22 (by decide) ?_
            refine q_icmp_eq (tgt := 39) C dX11_goesEitherWay_24 (by decide) (fun _ => ?_) (fun _ => ?_)
            · refine r_iconst C dX11_goesEitherWay_39 (by decide) ?_
              refine r_goto (tgt := 44) C dX11_goesEitherWay_40 (by decide) ?_
              refine r_less [false] rfl ?_
              exact hJq1 1
            · refine r_iload_n C dX11_goesEitherWay_27 rfl rfl ?_
              refine r_bipush C dX11_goesEitherWay_28 (by decide) ?_
              refine q_icmp_eq (tgt := 39) C dX11_goesEitherWay_30 (by decide) (fun _ => ?_) (fun _ => ?_)
              · refine r_iconst C dX11_goesEitherWay_39 (by decide) ?_
                refine r_goto (tgt := 44) C dX11_goesEitherWay_40 (by decide) ?_
                refine r_less [false] rfl ?_
                exact hJq1 1
              · refine r_iload_n C dX11_goesEitherWay_33 rfl rfl ?_
                refine r_bipush C dX11_goesEitherWay_34 (by decide) ?_
                refine q_icmp_ne (tgt := 43) C dX11_goesEitherWay_36 (by decide) (fun _ => ?_) (fun _ => ?_)
                · refine r_iconst C dX11_goesEitherWay_43 (by decide) ?_
                  refine r_less [false] rfl ?_
                  exact hJq1 0
                · refine r_iconst C dX11_goesEitherWay_39 (by decide) ?_
                  refine r_goto (tgt := 44) C dX11_goesEitherWay_40 (by decide) ?_
                  refine r_less [false] rfl ?_
                  exact hJq1 1
set_option maxRecDepth 100000 in
set_option maxHeartbeats 4000000 in
theorem tX9_ofOp (p1 : Int) (p2 : Int) (p3 : Int) (p4 : Int) (M : Mem) : Cn yX9_ofOp cX9_ofOp 5 (some .int) 2 46 [zr 23, zi p1, zi p2, zi p3, zi p4] M ((fX9_ofOp p1 p2 p3 p4 M).map oI) := by
  refine Cn_mk (own := RX9) rfl (by decide) (Nat.le_of_ble_eq_true rfl) [some (zr 23), some (zi p1), some (zi p2), some (zi p3), some (zi p4)] rfl (fun G C hn => ?_)
  unfold fX9_ofOp
  refine r_iload_n C dX9_ofOp_0 rfl rfl ?_
  refine r_bipush C dX9_ofOp_1 (by decide) ?_
  refine q_icmp_ne (tgt := 8) C dX9_ofOp_3 (by decide) (fun _ => ?_) (fun _ => ?_)
  · refine r_iload_n C dX9_ofOp_8 rfl rfl ?_
    refine r_bipush C dX9_ofOp_9 (by decide) ?_
    refine r_join (γ := Bool) (pcJ := fun q1 => if q1 = true then 22 else 20) (al' := fun q1 => [some (zr 23), some (zi p1), some (zi p2), some (zi p3), some (zi p4)]) (st' := fun q1 => []) (M' := fun q1 => M) ?_ ?_
    · intro q1
      refine r_itp (fun _ => ?_) (fun _ => ?_)
      · refine r_iload_n C dX9_ofOp_22 rfl rfl ?_
        refine q_callNi (av := [zi p1]) (rest := []) C (tX11_goesEitherWay p1 M) lkX9_53 rfl rfl (Nat.le_of_ble_eq_true rfl) ⟨by decide, by decide⟩ dX9_ofOp_23 (fun q2 _ => ?_)
        refine r_join (γ := Int × Mem) (pcJ := fun _ => 55) (al' := fun q6 => [none, none, none, none, none]) (st' := fun q6 => [zi q6.1]) (M' := fun q6 => q6.2) ?_ ?_
        · intro q6
          exact r_ireturn C dX9_ofOp_55 rfl
        · intro hJq6
          refine q_if_eq (tgt := 46) C dX9_ofOp_26 (by decide) (fun _ => ?_) (fun _ => ?_)
          · refine r_aload_n C dX9_ofOp_46 rfl rfl ?_
            refine r_iload_n C dX9_ofOp_47 rfl rfl ?_
            refine r_iload_n C dX9_ofOp_48 rfl rfl ?_
            refine r_iload_n C dX9_ofOp_49 rfl rfl ?_
            refine r_iload C dX9_ofOp_50 rfl ?_
            refine q_callVi (av := [zi p1, zi p2, zi p3, zi p4]) (rest := []) C (tX9_single p1 p2 p3 p4 q2.2) lkX9_43 kd_23 rfl rfl rfl (Nat.le_of_ble_eq_true rfl) ⟨by decide, by decide⟩ dX9_ofOp_52 (fun q3 _ => ?_)
            refine r_less [false, false, false, false, false] rfl ?_
            exact hJq6 (q3.1, q3.2)
          · refine r_iload_n C dX9_ofOp_29 rfl rfl ?_
            refine r_iload_n C dX9_ofOp_30 rfl rfl ?_
            refine q_icmp_ge (tgt := 46) C dX9_ofOp_31 (by decide) (fun _ => ?_) (fun _ => ?_)
            · refine r_aload_n C dX9_ofOp_46 rfl rfl ?_
              refine r_iload_n C dX9_ofOp_47 rfl rfl ?_
              refine r_iload_n C dX9_ofOp_48 rfl rfl ?_
              refine r_iload_n C dX9_ofOp_49 rfl rfl ?_
              refine r_iload C dX9_ofOp_50 rfl ?_
              refine q_callVi (av := [zi p1, zi p2, zi p3, zi p4]) (rest := []) C (tX9_single p1 p2 p3 p4 q2.2) lkX9_43 kd_23 rfl rfl rfl (Nat.le_of_ble_eq_true rfl) ⟨by decide, by decide⟩ dX9_ofOp_52 (fun q4 _ => ?_)
              refine r_less [false, false, false, false, false] rfl ?_
              exact hJq6 (q4.1, q4.2)
            · refine r_aload_n C dX9_ofOp_34 rfl rfl ?_
              refine r_iload_n C dX9_ofOp_35 rfl rfl ?_
              refine r_iload_n C dX9_ofOp_36 rfl rfl ?_
              refine r_iload_n C dX9_ofOp_37 rfl rfl ?_
              refine r_iload C dX9_ofOp_38 rfl ?_
              refine q_callVi (av := [zi p1, zi p3, zi p2, zi p4]) (rest := []) C (tX9_single p1 p3 p2 p4 q2.2) lkX9_43 kd_23 rfl rfl rfl (Nat.le_of_ble_eq_true rfl) ⟨by decide, by decide⟩ dX9_ofOp_40 (fun q5 _ => ?_)
              refine r_goto (tgt := 55) C dX9_ofOp_43 (by decide) ?_
              refine r_less [false, false, false, false, false] rfl ?_
              exact hJq6 (q5.1, q5.2)
      · refine r_iload_n C dX9_ofOp_20 rfl rfl ?_
        exact r_ireturn C dX9_ofOp_21 rfl
    · intro hJq1
      refine q_icmp_ne (tgt := 22) C dX9_ofOp_11 (by decide) (fun _ => ?_) (fun _ => ?_)
      · exact hJq1 true
      · refine r_iload_n C dX9_ofOp_14 rfl rfl ?_
        refine r_iload C dX9_ofOp_15 rfl ?_
        refine q_icmp_ne (tgt := 22) C dX9_ofOp_17 (by decide) (fun _ => ?_) (fun _ => ?_)
        · exact hJq1 true
        · exact hJq1 false
  · refine r_iload_n C dX9_ofOp_6 rfl rfl ?_
    exact r_ireturn C dX9_ofOp_7 rfl
set_option maxRecDepth 100000 in
set_option maxHeartbeats 4000000 in
theorem tX10_keep (p1 : Int) (p2 : Int) (p3 : Int) (M : Mem) : Cn yX10_keep cX10_keep 4 none 1 21 [zr 22, zi p1, zi p2, zi p3] M ((fX10_keep p1 p2 p3 M).map oU) := by
  refine Cn_mk (own := RX10) rfl (by decide) (Nat.le_of_ble_eq_true rfl) [some (zr 22), some (zi p1), some (zi p2), some (zi p3)] rfl (fun G C hn => ?_)
  unfold fX10_keep
  refine r_iload_n C dX10_keep_0 rfl rfl ?_
  refine r_iconst C dX10_keep_1 (by decide) ?_
  refine r_join (γ := Mem) (pcJ := fun _ => 20) (al' := fun q3 => [none, none, none, none]) (st' := fun q3 => []) (M' := fun q3 => q3) ?_ ?_
  · intro q3
    exact r_return C dX10_keep_20 rfl
  · intro hJq3
    refine q_icmp_ne (tgt := 13) C dX10_keep_2 (by decide) (fun _ => ?_) (fun _ => ?_)
    · refine r_aload_n C dX10_keep_13 rfl rfl ?_
      refine r_getp C clX10 kd_22 (k := 1) (by decide) flX10_18 dX10_keep_14 pt_22_1 ?_
      refine r_iload_n C dX10_keep_17 rfl rfl ?_
      refine r_iload_n C dX10_keep_18 rfl rfl ?_
      refine r_iastore C dX10_keep_19 (fun M1 _ => ?_)
      refine r_less [false, false, false, false] rfl ?_
      exact hJq3 M1
    · refine r_aload_n C dX10_keep_5 rfl rfl ?_
      refine r_iload_n C dX10_keep_6 rfl rfl ?_
      refine q_callVv (av := [zi p3]) (rest := []) C (tX10_tooMany p3 M) lkX10_72 kd_22 rfl rfl rfl (Nat.le_of_ble_eq_true rfl) ⟨by decide, by decide⟩ dX10_keep_7 (fun q2 _ => ?_)
      refine r_goto (tgt := 20) C dX10_keep_10 (by decide) ?_
      refine r_less [false, false, false, false] rfl ?_
      exact hJq3 q2
set_option maxRecDepth 100000 in
set_option maxHeartbeats 4000000 in
theorem tX10_workIs (t : Nat) (ht : t = 5 ∨ t = 119) (p1 : Int) (M : Mem) : Cn yX10_workIs cX10_workIs 5 none 3 71 [zr 22, zr t, zi p1] M ((fX10_workIs t p1 M).map oU) := by
  refine Cn_mk (own := RX10) rfl (by decide) (Nat.le_of_ble_eq_true rfl) [some (zr 22), some (zr t), some (zi p1), none, none] rfl (fun G C hn => ?_)
  unfold fX10_workIs
  refine r_aload_n C dX10_workIs_0 rfl rfl ?_
  refine r_getp C clX3 (kd_t0 ht) (k := 4) (by decide) flX10_113 dX10_workIs_1 (pt_t0_4 ht) ?_
  refine r_iload_n C dX10_workIs_4 rfl rfl ?_
  refine r_iaload C dX10_workIs_5 (fun v1 _ => ?_)
  refine r_istore_n (al' := [some (zr 22), some (zr t), some (zi p1), some (zi v1), none]) C dX10_workIs_6 rfl (by rw [hn]; decide) rfl ?_
  refine r_iconst C dX10_workIs_7 (by decide) ?_
  refine r_istore (al' := [some (zr 22), some (zr t), some (zi p1), some (zi v1), some (zi 0)]) C dX10_workIs_8 (by rw [hn]; decide) rfl ?_
  refine r_lp (S := Int × Mem) (R := Mem) (pcX := 57) (AL := fun s2 => [some (zr 22), some (zr t), some (zi p1), some (zi v1), some (zi s2.1)]) (MM := fun s2 => s2.2) (AX := fun q7 => [some (zr 22), some (zr t), some (zi p1), some (zi v1), none]) (MX := fun q7 => q7) ?_ ?_ (0, M)
  · intro q7
    refine r_aload_n C dX10_workIs_57 rfl rfl ?_
    refine q_geti C clX10 kd_22 (k := 9) (by decide) flX10_50 dX10_workIs_58 (kz := 9) rfl (by decide) ?_
    refine r_join (γ := Mem) (pcJ := fun _ => 110) (al' := fun q15 => [none, none, none, none, none]) (st' := fun q15 => []) (M' := fun q15 => q15) ?_ ?_
    · intro q15
      exact r_return C dX10_workIs_110 rfl
    · intro hJq15
      refine q_if_ne (tgt := 110) C dX10_workIs_61 (by decide) (fun _ => ?_) (fun _ => ?_)
      · refine r_less [false, false, false, false, false] rfl ?_
        exact hJq15 q7
      · refine r_aload_n C dX10_workIs_64 rfl rfl ?_
        refine r_getp C clX10 kd_22 (k := 0) (by decide) flX10_12 dX10_workIs_65 pt_22_0 ?_
        refine r_iload_n C dX10_workIs_68 rfl rfl ?_
        refine r_aload_n C dX10_workIs_69 rfl rfl ?_
        refine r_getp C clX10 kd_22 (k := 6) (by decide) flX10_36 dX10_workIs_70 pt_22_6 ?_
        refine r_iconst C dX10_workIs_73 (by decide) ?_
        refine r_iaload C dX10_workIs_74 (fun v8 _ => ?_)
        refine r_aload_n C dX10_workIs_75 rfl rfl ?_
        refine r_getp C clX10 kd_22 (k := 6) (by decide) flX10_36 dX10_workIs_76 pt_22_6 ?_
        refine r_iconst C dX10_workIs_79 (by decide) ?_
        refine r_iaload C dX10_workIs_80 (fun v9 _ => ?_)
        refine r_aload_n C dX10_workIs_81 rfl rfl ?_
        refine r_getp C clX10 kd_22 (k := 6) (by decide) flX10_36 dX10_workIs_82 pt_22_6 ?_
        refine r_iconst C dX10_workIs_85 (by decide) ?_
        refine r_iaload C dX10_workIs_86 (fun v10 _ => ?_)
        refine q_callVi (av := [zi v1, zi v8, zi v9, zi v10]) (rest := []) C (tX9_ofOp v1 v8 v9 v10 q7) lkX10_124 kd_23 rfl rfl rfl (Nat.le_of_ble_eq_true rfl) ⟨by decide, by decide⟩ dX10_workIs_87 (fun q11 _ => ?_)
        refine r_istore (al' := [some (zr 22), some (zr t), some (zi p1), some (zi v1), some (zi q11.1)]) C dX10_workIs_90 (by rw [hn]; decide) rfl ?_
        refine r_aload_n C dX10_workIs_92 rfl rfl ?_
        refine r_aload_n C dX10_workIs_93 rfl rfl ?_
        refine r_getp C clX3 (kd_t0 ht) (k := 3) (by decide) flX10_76 dX10_workIs_94 (pt_t0_3 ht) ?_
        refine r_iload_n C dX10_workIs_97 rfl rfl ?_
        refine r_iaload C dX10_workIs_98 (fun v12 _ => ?_)
        refine r_iload C dX10_workIs_99 rfl ?_
        refine r_aload_n C dX10_workIs_101 rfl rfl ?_
        refine r_getp C clX3 (kd_t0 ht) (k := 5) (by decide) flX10_128 dX10_workIs_102 (pt_t0_5 ht) ?_
        refine r_iload_n C dX10_workIs_105 rfl rfl ?_
        refine r_iaload C dX10_workIs_106 (fun v13 _ => ?_)
        refine q_callVv (av := [zi v12, zi q11.1, zi v13]) (rest := []) C (tX10_keep v12 q11.1 v13 q11.2) lkX10_131 kd_22 rfl rfl rfl (Nat.le_of_ble_eq_true rfl) ⟨by decide, by decide⟩ dX10_workIs_107 (fun q14 _ => ?_)
        refine r_less [false, false, false, false, false] rfl ?_
        exact hJq15 q14
  · intro gs2 hCs2 hXs2 s2
    unfold fX10_workIs_b1
    refine r_iload C dX10_workIs_10 rfl ?_
    refine r_iconst C dX10_workIs_12 (by decide) ?_
    refine q_icmp_ge (tgt := 57) C dX10_workIs_13 (by decide) (fun _ => ?_) (fun _ => ?_)
    · refine r_less [true, true, true, true, false] rfl ?_
      exact hXs2 s2.2
    · refine r_aload_n C dX10_workIs_16 rfl rfl ?_
      refine r_getp C clX10 kd_22 (k := 6) (by decide) flX10_36 dX10_workIs_17 pt_22_6 ?_
      refine r_iload C dX10_workIs_20 rfl ?_
      refine r_iload C dX10_workIs_22 rfl ?_
      refine r_iload_n C dX10_workIs_24 rfl rfl ?_
      refine q_callNi (av := [zi v1]) (rest := [zi s2.1, zi s2.1, zr 43]) C (tX11_argsOf v1 s2.2) lkX10_116 rfl rfl (Nat.le_of_ble_eq_true rfl) ⟨by decide, by decide⟩ dX10_workIs_25 (fun q3 _ => ?_)
      refine r_join (γ := Int × Mem) (pcJ := fun _ => 50) (al' := fun q5 => [some (zr 22), some (zr t), some (zi p1), some (zi v1), some (zi s2.1)]) (st' := fun q5 => [zi q5.1, zi s2.1, zr 43]) (M' := fun q5 => q5.2) ?_ ?_
      · intro q5
        refine r_iastore C dX10_workIs_50 (fun M6 _ => ?_)
        refine r_iinc (al' := [some (zr 22), some (zr t), some (zi p1), some (zi v1), some (zi (w32 (s2.1 + 1)))]) C dX10_workIs_51 rfl (by rw [hn]; decide) rfl ?_
        refine r_goto (tgt := 10) C dX10_workIs_54 (by decide) ?_
        exact hCs2 (w32 (s2.1 + 1), M6)
      · intro hJq5
        refine q_icmp_ge (tgt := 49) C dX10_workIs_28 (by decide) (fun _ => ?_) (fun _ => ?_)
        · refine r_iconst C dX10_workIs_49 (by decide) ?_
          exact hJq5 ((-1), q3.2)
        · refine r_aload_n C dX10_workIs_31 rfl rfl ?_
          refine q_geti C clX10 kd_22 (k := 9) (by decide) flX10_50 dX10_workIs_32 (kz := 9) rfl (by decide) ?_
          refine q_if_ne (tgt := 49) C dX10_workIs_35 (by decide) (fun _ => ?_) (fun _ => ?_)
          · refine r_iconst C dX10_workIs_49 (by decide) ?_
            exact hJq5 ((-1), q3.2)
          · refine r_aload_n C dX10_workIs_38 rfl rfl ?_
            refine r_aload_n C dX10_workIs_39 rfl rfl ?_
            refine r_iload_n C dX10_workIs_40 rfl rfl ?_
            refine r_iload C dX10_workIs_41 rfl ?_
            refine q_callVi (av := [zr t, zi p1, zi s2.1]) (rest := [zi s2.1, zr 43]) C (tX10_argValue t ht p1 s2.1 q3.2) lkX10_120 kd_22 rfl rfl rfl (Nat.le_of_ble_eq_true rfl) ⟨by decide, by decide⟩ dX10_workIs_43 (fun q4 _ => ?_)
            refine r_goto (tgt := 50) C dX10_workIs_46 (by decide) ?_
            exact hJq5 (q4.1, q4.2)
set_option maxRecDepth 100000 in
set_option maxHeartbeats 4000000 in
theorem tX10_beginWhen (t : Nat) (ht : t = 5 ∨ t = 119) (p1 : Int) (M : Mem) : Cn yX10_beginWhen cX10_beginWhen 4 none 3 71 [zr 22, zr t, zi p1] M ((fX10_beginWhen t p1 M).map oU) := by
  refine Cn_mk (own := RX10) rfl (by decide) (Nat.le_of_ble_eq_true rfl) [some (zr 22), some (zr t), some (zi p1), none] rfl (fun G C hn => ?_)
  unfold fX10_beginWhen
  refine r_aload_n C dX10_beginWhen_0 rfl rfl ?_
  refine r_aload_n C dX10_beginWhen_1 rfl rfl ?_
  refine r_iload_n C dX10_beginWhen_2 rfl rfl ?_
  refine r_iconst C dX10_beginWhen_3 (by decide) ?_
  refine q_callVi (av := [zr t, zi p1, zi 0]) (rest := []) C (tX10_argValue t ht p1 0 M) lkX10_120 kd_22 rfl rfl rfl (Nat.le_of_ble_eq_true rfl) ⟨by decide, by decide⟩ dX10_beginWhen_4 (fun q1 _ => ?_)
  refine r_istore_n (al' := [some (zr 22), some (zr t), some (zi p1), some (zi q1.1)]) C dX10_beginWhen_7 rfl (by rw [hn]; decide) rfl ?_
  refine r_iload_n C dX10_beginWhen_8 rfl rfl ?_
  refine r_iconst C dX10_beginWhen_9 (by decide) ?_
  refine q_icmp_eq (tgt := 21) C dX10_beginWhen_10 (by decide) (fun _ => ?_) (fun _ => ?_)
  · exact r_return C dX10_beginWhen_21 rfl
  · refine r_aload_n C dX10_beginWhen_13 rfl rfl ?_
    refine q_geti C clX10 kd_22 (k := 7) (by decide) flX10_43 dX10_beginWhen_14 (kz := 7) rfl (by decide) ?_
    refine r_iconst C dX10_beginWhen_17 (by decide) ?_
    refine q_icmp_lt (tgt := 22) C dX10_beginWhen_18 (by decide) (fun _ => ?_) (fun _ => ?_)
    · refine r_aload_n C dX10_beginWhen_22 rfl rfl ?_
      refine r_getp C clX10 kd_22 (k := 4) (by decide) flX10_30 dX10_beginWhen_23 pt_22_4 ?_
      refine r_aload_n C dX10_beginWhen_26 rfl rfl ?_
      refine q_geti C clX10 kd_22 (k := 7) (by decide) flX10_43 dX10_beginWhen_27 (kz := 7) rfl (by decide) ?_
      refine r_iload_n C dX10_beginWhen_30 rfl rfl ?_
      refine r_iastore C dX10_beginWhen_31 (fun M2 _ => ?_)
      refine r_aload_n C dX10_beginWhen_32 rfl rfl ?_
      refine r_getp C clX10 kd_22 (k := 0) (by decide) flX10_12 dX10_beginWhen_33 pt_22_0 ?_
      refine r_getp C clX9 kd_23 (k := 4) (by decide) flX10_150 dX10_beginWhen_36 pt_23_4 ?_
      refine r_iload_n C dX10_beginWhen_39 rfl rfl ?_
      refine r_zaload C dX10_beginWhen_40 (fun v3 _ => ?_)
      refine r_join (γ := Mem) (pcJ := fun _ => 59) (al' := fun q6 => [some (zr 22), none, none, none]) (st' := fun q6 => []) (M' := fun q6 => q6) ?_ ?_
      · intro q6
        refine r_aload_n C dX10_beginWhen_59 rfl rfl ?_
        refine r_getp C clX10 kd_22 (k := 1) (by decide) flX10_18 dX10_beginWhen_60 pt_22_1 ?_
        refine r_iconst C dX10_beginWhen_63 (by decide) ?_
        refine r_aload_n C dX10_beginWhen_64 rfl rfl ?_
        refine r_getp C clX10 kd_22 (k := 2) (by decide) flX10_24 dX10_beginWhen_65 pt_22_2 ?_
        refine r_aload_n C dX10_beginWhen_68 rfl rfl ?_
        refine q_geti C clX10 kd_22 (k := 7) (by decide) flX10_43 dX10_beginWhen_69 (kz := 7) rfl (by decide) ?_
        refine r_aaload C (by decide) dX10_beginWhen_72 (fun a7 _ => ?_)
        refine r_iconst C dX10_beginWhen_73 (by decide) ?_
        refine r_bipush C dX10_beginWhen_74 (by decide) ?_
        refine r_copy C mc_X10_107 jm_ac1 jm_ac2 jm_ac3 (by decide) (Nat.le_of_ble_eq_true rfl) dX10_beginWhen_76 (fun M8 _ => ?_)
        refine r_aload_n C dX10_beginWhen_79 rfl rfl ?_
        refine r_dup C dX10_beginWhen_80 rfl ?_
        refine q_geti C clX10 kd_22 (k := 7) (by decide) flX10_43 dX10_beginWhen_81 (kz := 7) rfl (by decide) ?_
        refine r_iconst C dX10_beginWhen_84 (by decide) ?_
        refine r_iadd C dX10_beginWhen_85 ?_
        refine q_puti C clX10 kd_22 (k := 7) (by decide) flX10_43 rfl dX10_beginWhen_86 rfl rfl (fun M9 => ?_)
        exact r_return C dX10_beginWhen_89 rfl
      · intro hJq6
        refine q_if_ne (tgt := 59) C dX10_beginWhen_41 (by decide) (fun _ => ?_) (fun _ => ?_)
        · refine r_less [true, false, false, false] rfl ?_
          exact hJq6 M2
        · refine r_aload_n C dX10_beginWhen_44 rfl rfl ?_
          refine r_getp C clX10 kd_22 (k := 0) (by decide) flX10_12 dX10_beginWhen_45 pt_22_0 ?_
          refine r_getp C clX9 kd_23 (k := 7) (by decide) flX10_154 dX10_beginWhen_48 pt_23_7 ?_
          refine r_aload_n C dX10_beginWhen_51 rfl rfl ?_
          refine r_getp C clX3 (kd_t0 ht) (k := 9) (by decide) flX10_79 dX10_beginWhen_52 (pt_t0_9 ht) ?_
          refine r_iload_n C dX10_beginWhen_55 rfl rfl ?_
          refine r_iaload C dX10_beginWhen_56 (fun v4 _ => ?_)
          refine r_iconst C dX10_beginWhen_57 (by decide) ?_
          refine r_zastore C dX10_beginWhen_58 (fun M5 _ => ?_)
          refine r_less [true, false, false, false] rfl ?_
          exact hJq6 M5
    · exact r_return C dX10_beginWhen_21 rfl
set_option maxRecDepth 100000 in
set_option maxHeartbeats 4000000 in
theorem tX10_endFirstPart (p1 : Int) (M : Mem) : Cn yX10_endFirstPart cX10_endFirstPart 2 none 1 18 [zr 22, zi p1] M ((fX10_endFirstPart p1 M).map oU) := by
  refine Cn_mk (own := RX10) rfl (by decide) (Nat.le_of_ble_eq_true rfl) [some (zr 22), some (zi p1)] rfl (fun G C hn => ?_)
  unfold fX10_endFirstPart
  refine r_iload_n C dX10_endFirstPart_0 rfl rfl ?_
  refine r_join (γ := Mem) (pcJ := fun _ => 38) (al' := fun q5 => [none, none]) (st' := fun q5 => []) (M' := fun q5 => q5) ?_ ?_
  · intro q5
    exact r_return C dX10_endFirstPart_38 rfl
  · intro hJq5
    refine q_if_lt (tgt := 38) C dX10_endFirstPart_1 (by decide) (fun _ => ?_) (fun _ => ?_)
    · refine r_less [false, false] rfl ?_
      exact hJq5 M
    · refine r_aload_n C dX10_endFirstPart_4 rfl rfl ?_
      refine r_getp C clX10 kd_22 (k := 1) (by decide) flX10_18 dX10_endFirstPart_5 pt_22_1 ?_
      refine r_iconst C dX10_endFirstPart_8 (by decide) ?_
      refine r_aload_n C dX10_endFirstPart_9 rfl rfl ?_
      refine r_getp C clX10 kd_22 (k := 3) (by decide) flX10_27 dX10_endFirstPart_10 pt_22_3 ?_
      refine r_iload_n C dX10_endFirstPart_13 rfl rfl ?_
      refine r_aaload C (by decide) dX10_endFirstPart_14 (fun a1 _ => ?_)
      refine r_iconst C dX10_endFirstPart_15 (by decide) ?_
      refine r_bipush C dX10_endFirstPart_16 (by decide) ?_
      refine r_copy C mc_X10_107 jm_ac1 jm_ac2 jm_ac3 (by decide) (Nat.le_of_ble_eq_true rfl) dX10_endFirstPart_18 (fun M2 _ => ?_)
      refine r_aload_n C dX10_endFirstPart_21 rfl rfl ?_
      refine r_getp C clX10 kd_22 (k := 2) (by decide) flX10_24 dX10_endFirstPart_22 pt_22_2 ?_
      refine r_iload_n C dX10_endFirstPart_25 rfl rfl ?_
      refine r_aaload C (by decide) dX10_endFirstPart_26 (fun a3 _ => ?_)
      refine r_iconst C dX10_endFirstPart_27 (by decide) ?_
      refine r_aload_n C dX10_endFirstPart_28 rfl rfl ?_
      refine r_getp C clX10 kd_22 (k := 1) (by decide) flX10_18 dX10_endFirstPart_29 pt_22_1 ?_
      refine r_iconst C dX10_endFirstPart_32 (by decide) ?_
      refine r_bipush C dX10_endFirstPart_33 (by decide) ?_
      refine r_copy C mc_X10_107 jm_ac1 jm_ac2 jm_ac3 (by decide) (Nat.le_of_ble_eq_true rfl) dX10_endFirstPart_35 (fun M4 _ => ?_)
      refine r_less [false, false] rfl ?_
      exact hJq5 M4
set_option maxRecDepth 100000 in
set_option maxHeartbeats 4000000 in
theorem tX10_beginTimes (p1 : Int) (M : Mem) : Cn yX10_beginTimes cX10_beginTimes 2 none 0 0 [zr 22, zi p1] M ((fX10_beginTimes p1 M).map oU) := by
  refine Cn_mk (own := RX10) rfl (by decide) (Nat.le_of_ble_eq_true rfl) [some (zr 22), some (zi p1)] rfl (fun G C hn => ?_)
  unfold fX10_beginTimes
  refine r_aload_n C dX10_beginTimes_0 rfl rfl ?_
  refine q_geti C clX10 kd_22 (k := 7) (by decide) flX10_43 dX10_beginTimes_1 (kz := 7) rfl (by decide) ?_
  refine r_iconst C dX10_beginTimes_4 (by decide) ?_
  refine r_join (γ := Mem) (pcJ := fun _ => 28) (al' := fun q3 => [none, none]) (st' := fun q3 => []) (M' := fun q3 => q3) ?_ ?_
  · intro q3
    exact r_return C dX10_beginTimes_28 rfl
  · intro hJq3
    refine q_icmp_ge (tgt := 28) C dX10_beginTimes_5 (by decide) (fun _ => ?_) (fun _ => ?_)
    · refine r_less [false, false] rfl ?_
      exact hJq3 M
    · refine r_aload_n C dX10_beginTimes_8 rfl rfl ?_
      refine r_getp C clX10 kd_22 (k := 5) (by decide) flX10_33 dX10_beginTimes_9 pt_22_5 ?_
      refine r_aload_n C dX10_beginTimes_12 rfl rfl ?_
      refine q_geti C clX10 kd_22 (k := 7) (by decide) flX10_43 dX10_beginTimes_13 (kz := 7) rfl (by decide) ?_
      refine r_iload_n C dX10_beginTimes_16 rfl rfl ?_
      refine r_iastore C dX10_beginTimes_17 (fun M1 _ => ?_)
      refine r_aload_n C dX10_beginTimes_18 rfl rfl ?_
      refine r_dup C dX10_beginTimes_19 rfl ?_
      refine q_geti C clX10 kd_22 (k := 7) (by decide) flX10_43 dX10_beginTimes_20 (kz := 7) rfl (by decide) ?_
      refine r_iconst C dX10_beginTimes_23 (by decide) ?_
      refine r_iadd C dX10_beginTimes_24 ?_
      refine q_puti C clX10 kd_22 (k := 7) (by decide) flX10_43 rfl dX10_beginTimes_25 rfl rfl (fun M2 => ?_)
      refine r_less [false, false] rfl ?_
      exact hJq3 M2
set_option maxRecDepth 100000 in
set_option maxHeartbeats 4000000 in
theorem tX10_workShow (t : Nat) (ht : t = 5 ∨ t = 119) (p1 : Int) (M : Mem) : Cn yX10_workShow cX10_workShow 4 none 3 71 [zr 22, zr t, zi p1] M ((fX10_workShow t p1 M).map oU) := by
  refine Cn_mk (own := RX10) rfl (by decide) (Nat.le_of_ble_eq_true rfl) [some (zr 22), some (zr t), some (zi p1), none] rfl (fun G C hn => ?_)
  unfold fX10_workShow
  refine r_aload_n C dX10_workShow_0 rfl rfl ?_
  refine r_getp C clX10 kd_22 (k := 0) (by decide) flX10_12 dX10_workShow_1 pt_22_0 ?_
  refine q_geti C clX9 kd_23 (k := 5) (by decide) flX10_135 dX10_workShow_4 (kz := 5) rfl (by decide) ?_
  refine r_bipush C dX10_workShow_7 (by decide) ?_
  refine q_icmp_lt (tgt := 23) C dX10_workShow_9 (by decide) (fun _ => ?_) (fun _ => ?_)
  · refine r_aload_n C dX10_workShow_23 rfl rfl ?_
    refine r_aload_n C dX10_workShow_24 rfl rfl ?_
    refine r_iload_n C dX10_workShow_25 rfl rfl ?_
    refine r_iconst C dX10_workShow_26 (by decide) ?_
    refine q_callVi (av := [zr t, zi p1, zi 0]) (rest := []) C (tX10_argValue t ht p1 0 M) lkX10_120 kd_22 rfl rfl rfl (Nat.le_of_ble_eq_true rfl) ⟨by decide, by decide⟩ dX10_workShow_27 (fun q1 _ => ?_)
    refine r_istore_n (al' := [some (zr 22), some (zr t), some (zi p1), some (zi q1.1)]) C dX10_workShow_30 rfl (by rw [hn]; decide) rfl ?_
    refine r_aload_n C dX10_workShow_31 rfl rfl ?_
    refine q_geti C clX10 kd_22 (k := 9) (by decide) flX10_50 dX10_workShow_32 (kz := 9) rfl (by decide) ?_
    refine r_join (γ := Mem) (pcJ := fun _ => 67) (al' := fun q4 => [none, none, none, none]) (st' := fun q4 => []) (M' := fun q4 => q4) ?_ ?_
    · intro q4
      exact r_return C dX10_workShow_67 rfl
    · intro hJq4
      refine q_if_ne (tgt := 67) C dX10_workShow_35 (by decide) (fun _ => ?_) (fun _ => ?_)
      · refine r_less [false, false, false, false] rfl ?_
        exact hJq4 q1.2
      · refine r_aload_n C dX10_workShow_38 rfl rfl ?_
        refine r_getp C clX10 kd_22 (k := 0) (by decide) flX10_12 dX10_workShow_39 pt_22_0 ?_
        refine r_getp C clX9 kd_23 (k := 6) (by decide) flX10_138 dX10_workShow_42 pt_23_6 ?_
        refine r_aload_n C dX10_workShow_45 rfl rfl ?_
        refine r_getp C clX10 kd_22 (k := 0) (by decide) flX10_12 dX10_workShow_46 pt_22_0 ?_
        refine q_geti C clX9 kd_23 (k := 5) (by decide) flX10_135 dX10_workShow_49 (kz := 5) rfl (by decide) ?_
        refine r_iload_n C dX10_workShow_52 rfl rfl ?_
        refine r_iastore C dX10_workShow_53 (fun M2 _ => ?_)
        refine r_aload_n C dX10_workShow_54 rfl rfl ?_
        refine r_getp C clX10 kd_22 (k := 0) (by decide) flX10_12 dX10_workShow_55 pt_22_0 ?_
        refine r_dup C dX10_workShow_58 rfl ?_
        refine q_geti C clX9 kd_23 (k := 5) (by decide) flX10_135 dX10_workShow_59 (kz := 5) rfl (by decide) ?_
        refine r_iconst C dX10_workShow_62 (by decide) ?_
        refine r_iadd C dX10_workShow_63 ?_
        refine q_puti C clX9 kd_23 (k := 5) (by decide) flX10_135 rfl dX10_workShow_64 rfl rfl (fun M3 => ?_)
        refine r_less [false, false, false, false] rfl ?_
        exact hJq4 M3
  · refine r_aload_n C dX10_workShow_12 rfl rfl ?_
    refine r_aload_n C dX10_workShow_13 rfl rfl ?_
    refine r_getp C clX3 (kd_t0 ht) (k := 2) (by decide) flX10_69 dX10_workShow_14 (pt_t0_2 ht) ?_
    refine r_iload_n C dX10_workShow_17 rfl rfl ?_
    refine r_iaload C dX10_workShow_18 (fun v5 _ => ?_)
    refine q_callVv (av := [zi v5]) (rest := []) C (tX10_tooMany v5 M) lkX10_72 kd_22 rfl rfl rfl (Nat.le_of_ble_eq_true rfl) ⟨by decide, by decide⟩ dX10_workShow_19 (fun q6 _ => ?_)
    exact r_return C dX10_workShow_22 rfl
set_option maxRecDepth 100000 in
set_option maxHeartbeats 4000000 in
theorem tX3_endsTimes (t : Nat) (ht : t = 5 ∨ t = 119) (p1 : Int) (M : Mem) : Cn yX3_endsTimes cX3_endsTimes 2 (some .boolean) 0 0 [zr t, zi p1] M ((fX3_endsTimes t p1 M).map oI) := by
  refine Cn_mk (own := RX3) rfl (by decide) (Nat.le_of_ble_eq_true rfl) [some (zr t), some (zi p1)] rfl (fun G C hn => ?_)
  unfold fX3_endsTimes
  refine r_aload_n C dX3_endsTimes_0 rfl rfl ?_
  refine r_getp C clX3 (kd_t0 ht) (k := 8) (by decide) flX3_33 dX3_endsTimes_1 (pt_t0_8 ht) ?_
  refine r_iload_n C dX3_endsTimes_4 rfl rfl ?_
  refine r_iaload C dX3_endsTimes_5 (fun v1 _ => ?_)
  refine r_join (γ := Int) (pcJ := fun _ => 30) (al' := fun q4 => [none, none]) (st' := fun q4 => [zi q4]) (M' := fun q4 => M) ?_ ?_
  · intro q4
    exact r_zreturn C dX3_endsTimes_30 rfl
  · intro hJq4
    refine q_if_lt (tgt := 29) C dX3_endsTimes_6 (by decide) (fun _ => ?_) (fun _ => ?_)
    · refine r_iconst C dX3_endsTimes_29 (by decide) ?_
      refine r_less [false, false] rfl ?_
      exact hJq4 0
    · refine r_aload_n C dX3_endsTimes_9 rfl rfl ?_
      refine r_getp C clX3 (kd_t0 ht) (k := 1) (by decide) flX3_9 dX3_endsTimes_10 (pt_t0_1 ht) ?_
      refine r_aload_n C dX3_endsTimes_13 rfl rfl ?_
      refine r_getp C clX3 (kd_t0 ht) (k := 8) (by decide) flX3_33 dX3_endsTimes_14 (pt_t0_8 ht) ?_
      refine r_iload_n C dX3_endsTimes_17 rfl rfl ?_
      refine r_iaload C dX3_endsTimes_18 (fun v2 _ => ?_)
      refine r_iaload C dX3_endsTimes_19 (fun v3 _ => ?_)
      refine r_bipush C dX3_endsTimes_20 (by decide) ?_
      refine q_icmp_ne (tgt := 29) C dX3_endsTimes_22 (by decide) (fun _ => ?_) (fun _ => ?_)
      · refine r_iconst C dX3_endsTimes_29 (by decide) ?_
        refine r_less [false, false] rfl ?_
        exact hJq4 0
      · refine r_iconst C dX3_endsTimes_25 (by decide) ?_
        refine r_goto (tgt := 30) C dX3_endsTimes_26 (by decide) ?_
        refine r_less [false, false] rfl ?_
        exact hJq4 1
set_option maxRecDepth 100000 in
set_option maxHeartbeats 4000000 in
theorem tX3_hasElse (t : Nat) (ht : t = 5 ∨ t = 119) (p1 : Int) (M : Mem) : Cn yX3_hasElse cX3_hasElse 2 (some .boolean) 0 0 [zr t, zi p1] M ((fX3_hasElse t p1 M).map oI) := by
  refine Cn_mk (own := RX3) rfl (by decide) (Nat.le_of_ble_eq_true rfl) [some (zr t), some (zi p1)] rfl (fun G C hn => ?_)
  unfold fX3_hasElse
  refine r_aload_n C dX3_hasElse_0 rfl rfl ?_
  refine r_getp C clX3 (kd_t0 ht) (k := 8) (by decide) flX3_33 dX3_hasElse_1 (pt_t0_8 ht) ?_
  refine r_iload_n C dX3_hasElse_4 rfl rfl ?_
  refine r_iaload C dX3_hasElse_5 (fun v1 _ => ?_)
  refine r_join (γ := Int) (pcJ := fun _ => 30) (al' := fun q4 => [none, none]) (st' := fun q4 => [zi q4]) (M' := fun q4 => M) ?_ ?_
  · intro q4
    exact r_zreturn C dX3_hasElse_30 rfl
  · intro hJq4
    refine q_if_lt (tgt := 29) C dX3_hasElse_6 (by decide) (fun _ => ?_) (fun _ => ?_)
    · refine r_iconst C dX3_hasElse_29 (by decide) ?_
      refine r_less [false, false] rfl ?_
      exact hJq4 0
    · refine r_aload_n C dX3_hasElse_9 rfl rfl ?_
      refine r_getp C clX3 (kd_t0 ht) (k := 1) (by decide) flX3_9 dX3_hasElse_10 (pt_t0_1 ht) ?_
      refine r_aload_n C dX3_hasElse_13 rfl rfl ?_
      refine r_getp C clX3 (kd_t0 ht) (k := 8) (by decide) flX3_33 dX3_hasElse_14 (pt_t0_8 ht) ?_
      refine r_iload_n C dX3_hasElse_17 rfl rfl ?_
      refine r_iaload C dX3_hasElse_18 (fun v2 _ => ?_)
      refine r_iaload C dX3_hasElse_19 (fun v3 _ => ?_)
      refine r_bipush C dX3_hasElse_20 (by decide) ?_
      refine q_icmp_ne (tgt := 29) C dX3_hasElse_22 (by decide) (fun _ => ?_) (fun _ => ?_)
      · refine r_iconst C dX3_hasElse_29 (by decide) ?_
        refine r_less [false, false] rfl ?_
        exact hJq4 0
      · refine r_iconst C dX3_hasElse_25 (by decide) ?_
        refine r_goto (tgt := 30) C dX3_hasElse_26 (by decide) ?_
        refine r_less [false, false] rfl ?_
        exact hJq4 1
set_option maxRecDepth 100000 in
set_option maxHeartbeats 4000000 in
theorem tX10_endWhen (t : Nat) (ht : t = 5 ∨ t = 119) (p1 : Int) (M : Mem) : Cn yX10_endWhen cX10_endWhen 6 (some .int) 3 70 [zr 22, zr t, zi p1] M ((fX10_endWhen t p1 M).map oI) := by
  refine Cn_mk (own := RX10) rfl (by decide) (Nat.le_of_ble_eq_true rfl) [some (zr 22), some (zr t), some (zi p1), none, none, none] rfl (fun G C hn => ?_)
  unfold fX10_endWhen
  refine r_aload_n C dX10_endWhen_0 rfl rfl ?_
  refine r_getp C clX3 (kd_t0 ht) (k := 8) (by decide) flX10_157 dX10_endWhen_1 (pt_t0_8 ht) ?_
  refine r_iload_n C dX10_endWhen_4 rfl rfl ?_
  refine r_iaload C dX10_endWhen_5 (fun v1 _ => ?_)
  refine r_istore_n (al' := [some (zr 22), some (zr t), some (zi p1), some (zi v1), none, none]) C dX10_endWhen_6 rfl (by rw [hn]; decide) rfl ?_
  refine r_aload_n C dX10_endWhen_7 rfl rfl ?_
  refine q_geti C clX10 kd_22 (k := 7) (by decide) flX10_43 dX10_endWhen_8 (kz := 7) rfl (by decide) ?_
  refine q_if_eq (tgt := 18) C dX10_endWhen_11 (by decide) (fun _ => ?_) (fun _ => ?_)
  · refine r_iload_n C dX10_endWhen_18 rfl rfl ?_
    refine r_iconst C dX10_endWhen_19 (by decide) ?_
    refine r_iadd C dX10_endWhen_20 ?_
    exact r_ireturn C dX10_endWhen_21 rfl
  · refine r_iload_n C dX10_endWhen_14 rfl rfl ?_
    refine q_if_ge (tgt := 22) C dX10_endWhen_15 (by decide) (fun _ => ?_) (fun _ => ?_)
    · refine r_aload_n C dX10_endWhen_22 rfl rfl ?_
      refine r_dup C dX10_endWhen_23 rfl ?_
      refine q_geti C clX10 kd_22 (k := 7) (by decide) flX10_43 dX10_endWhen_24 (kz := 7) rfl (by decide) ?_
      refine r_iconst C dX10_endWhen_27 (by decide) ?_
      refine r_isub C dX10_endWhen_28 ?_
      refine q_puti C clX10 kd_22 (k := 7) (by decide) flX10_43 rfl dX10_endWhen_29 rfl rfl (fun M2 => ?_)
      refine r_aload_n C dX10_endWhen_32 rfl rfl ?_
      refine r_iload_n C dX10_endWhen_33 rfl rfl ?_
      refine q_callVi (av := [zi v1]) (rest := []) C (tX3_hasElse t ht v1 M2) lkX10_160 (kd_t0 ht) rfl rfl rfl (Nat.le_of_ble_eq_true rfl) ⟨by decide, by decide⟩ dX10_endWhen_34 (fun q3 _ => ?_)
      refine r_join (γ := Mem) (pcJ := fun _ => 48) (al' := fun q5 => [some (zr 22), some (zr t), some (zi p1), some (zi v1), none, none]) (st' := fun q5 => []) (M' := fun q5 => q5) ?_ ?_
      · intro q5
        refine r_iconst C dX10_endWhen_48 (by decide) ?_
        refine r_istore (al' := [some (zr 22), some (zr t), some (zi p1), some (zi v1), some (zi 0), none]) C dX10_endWhen_49 (by rw [hn]; decide) rfl ?_
        refine r_lp (S := Int × Mem) (R := Mem) (pcX := 128) (AL := fun s6 => [some (zr 22), some (zr t), some (zi p1), some (zi v1), some (zi s6.1), none]) (MM := fun s6 => s6.2) (AX := fun q15 => [none, none, some (zi p1), none, none, none]) (MX := fun q15 => q15) ?_ ?_ (0, q5)
        · intro q15
          refine r_iload_n C dX10_endWhen_128 rfl rfl ?_
          refine r_iconst C dX10_endWhen_129 (by decide) ?_
          refine r_iadd C dX10_endWhen_130 ?_
          exact r_ireturn C dX10_endWhen_131 rfl
        · intro gs6 hCs6 hXs6 s6
          unfold fX10_endWhen_b1
          refine r_iload C dX10_endWhen_51 rfl ?_
          refine r_aload_n C dX10_endWhen_53 rfl rfl ?_
          refine r_getp C clX3 (kd_t0 ht) (k := 3) (by decide) flX10_76 dX10_endWhen_54 (pt_t0_3 ht) ?_
          refine r_iload_n C dX10_endWhen_57 rfl rfl ?_
          refine r_iaload C dX10_endWhen_58 (fun v7 _ => ?_)
          refine q_icmp_ge (tgt := 128) C dX10_endWhen_59 (by decide) (fun _ => ?_) (fun _ => ?_)
          · refine r_less [false, false, true, false, false, false] rfl ?_
            exact hXs6 s6.2
          · refine r_aload_n C dX10_endWhen_62 rfl rfl ?_
            refine q_geti C clX10 kd_22 (k := 9) (by decide) flX10_50 dX10_endWhen_63 (kz := 9) rfl (by decide) ?_
            refine q_if_ne (tgt := 128) C dX10_endWhen_66 (by decide) (fun _ => ?_) (fun _ => ?_)
            · refine r_less [false, false, true, false, false, false] rfl ?_
              exact hXs6 s6.2
            · refine r_aload_n C dX10_endWhen_69 rfl rfl ?_
              refine r_getp C clX10 kd_22 (k := 0) (by decide) flX10_12 dX10_endWhen_70 pt_22_0 ?_
              refine r_bipush C dX10_endWhen_73 (by decide) ?_
              refine r_aload_n C dX10_endWhen_75 rfl rfl ?_
              refine r_getp C clX10 kd_22 (k := 4) (by decide) flX10_30 dX10_endWhen_76 pt_22_4 ?_
              refine r_aload_n C dX10_endWhen_79 rfl rfl ?_
              refine q_geti C clX10 kd_22 (k := 7) (by decide) flX10_43 dX10_endWhen_80 (kz := 7) rfl (by decide) ?_
              refine r_iaload C dX10_endWhen_83 (fun v8 _ => ?_)
              refine r_aload_n C dX10_endWhen_84 rfl rfl ?_
              refine r_getp C clX10 kd_22 (k := 3) (by decide) flX10_27 dX10_endWhen_85 pt_22_3 ?_
              refine r_aload_n C dX10_endWhen_88 rfl rfl ?_
              refine q_geti C clX10 kd_22 (k := 7) (by decide) flX10_43 dX10_endWhen_89 (kz := 7) rfl (by decide) ?_
              refine r_aaload C (by decide) dX10_endWhen_92 (fun a9 _ => ?_)
              refine r_iload C dX10_endWhen_93 rfl ?_
              refine r_iaload C dX10_endWhen_95 (fun v10 _ => ?_)
              refine r_aload_n C dX10_endWhen_96 rfl rfl ?_
              refine r_getp C clX10 kd_22 (k := 1) (by decide) flX10_18 dX10_endWhen_97 pt_22_1 ?_
              refine r_iload C dX10_endWhen_100 rfl ?_
              refine r_iaload C dX10_endWhen_102 (fun v11 _ => ?_)
              refine q_callVi (av := [zi 13, zi v8, zi v10, zi v11]) (rest := []) C (tX9_ofOp 13 v8 v10 v11 s6.2) lkX10_124 kd_23 rfl rfl rfl (Nat.le_of_ble_eq_true rfl) ⟨by decide, by decide⟩ dX10_endWhen_103 (fun q12 _ => ?_)
              refine r_istore (al' := [some (zr 22), some (zr t), some (zi p1), some (zi v1), some (zi s6.1), some (zi q12.1)]) C dX10_endWhen_106 (by rw [hn]; decide) rfl ?_
              refine r_aload_n C dX10_endWhen_108 rfl rfl ?_
              refine r_iload C dX10_endWhen_109 rfl ?_
              refine r_iload C dX10_endWhen_111 rfl ?_
              refine r_aload_n C dX10_endWhen_113 rfl rfl ?_
              refine r_getp C clX3 (kd_t0 ht) (k := 2) (by decide) flX10_69 dX10_endWhen_114 (pt_t0_2 ht) ?_
              refine r_iload_n C dX10_endWhen_117 rfl rfl ?_
              refine r_iaload C dX10_endWhen_118 (fun v13 _ => ?_)
              refine q_callVv (av := [zi s6.1, zi q12.1, zi v13]) (rest := []) C (tX10_keep s6.1 q12.1 v13 q12.2) lkX10_131 kd_22 rfl rfl rfl (Nat.le_of_ble_eq_true rfl) ⟨by decide, by decide⟩ dX10_endWhen_119 (fun q14 _ => ?_)
              refine r_iinc (al' := [some (zr 22), some (zr t), some (zi p1), some (zi v1), some (zi (w32 (s6.1 + 1))), some (zi q12.1)]) C dX10_endWhen_122 rfl (by rw [hn]; decide) rfl ?_
              refine r_goto (tgt := 51) C dX10_endWhen_125 (by decide) ?_
              refine r_less [true, true, true, true, true, false] rfl ?_
              exact hCs6 (w32 (s6.1 + 1), q14)
      · intro hJq5
        refine q_if_ne (tgt := 48) C dX10_endWhen_37 (by decide) (fun _ => ?_) (fun _ => ?_)
        · exact hJq5 q3.2
        · refine r_aload_n C dX10_endWhen_40 rfl rfl ?_
          refine r_aload_n C dX10_endWhen_41 rfl rfl ?_
          refine q_geti C clX10 kd_22 (k := 7) (by decide) flX10_43 dX10_endWhen_42 (kz := 7) rfl (by decide) ?_
          refine q_callVv (av := [zi (q3.2 22 7)]) (rest := []) C (tX10_endFirstPart (q3.2 22 7) q3.2) lkX10_91 kd_22 rfl rfl rfl (Nat.le_of_ble_eq_true rfl) ⟨by decide, by decide⟩ dX10_endWhen_45 (fun q4 _ => ?_)
          exact hJq5 q4
    · refine r_iload_n C dX10_endWhen_18 rfl rfl ?_
      refine r_iconst C dX10_endWhen_19 (by decide) ?_
      refine r_iadd C dX10_endWhen_20 ?_
      exact r_ireturn C dX10_endWhen_21 rfl
set_option maxRecDepth 100000 in
set_option maxHeartbeats 4000000 in
theorem tX10_endTimes (t : Nat) (ht : t = 5 ∨ t = 119) (p1 : Int) (M : Mem) : Cn yX10_endTimes cX10_endTimes 3 (some .int) 0 0 [zr 22, zr t, zi p1] M ((fX10_endTimes t p1 M).map oI) := by
  refine Cn_mk (own := RX10) rfl (by decide) (Nat.le_of_ble_eq_true rfl) [some (zr 22), some (zr t), some (zi p1)] rfl (fun G C hn => ?_)
  unfold fX10_endTimes
  refine r_aload_n C dX10_endTimes_0 rfl rfl ?_
  refine q_geti C clX10 kd_22 (k := 7) (by decide) flX10_43 dX10_endTimes_1 (kz := 7) rfl (by decide) ?_
  refine q_if_ne (tgt := 11) C dX10_endTimes_4 (by decide) (fun _ => ?_) (fun _ => ?_)
  · refine r_aload_n C dX10_endTimes_11 rfl rfl ?_
    refine r_getp C clX10 kd_22 (k := 5) (by decide) flX10_33 dX10_endTimes_12 pt_22_5 ?_
    refine r_aload_n C dX10_endTimes_15 rfl rfl ?_
    refine q_geti C clX10 kd_22 (k := 7) (by decide) flX10_43 dX10_endTimes_16 (kz := 7) rfl (by decide) ?_
    refine r_iconst C dX10_endTimes_19 (by decide) ?_
    refine r_isub C dX10_endTimes_20 ?_
    refine r_dup2 C dX10_endTimes_21 rfl rfl ?_
    refine r_iaload C dX10_endTimes_22 (fun v1 _ => ?_)
    refine r_iconst C dX10_endTimes_23 (by decide) ?_
    refine r_isub C dX10_endTimes_24 ?_
    refine r_iastore C dX10_endTimes_25 (fun M2 _ => ?_)
    refine r_aload_n C dX10_endTimes_26 rfl rfl ?_
    refine r_getp C clX10 kd_22 (k := 5) (by decide) flX10_33 dX10_endTimes_27 pt_22_5 ?_
    refine r_aload_n C dX10_endTimes_30 rfl rfl ?_
    refine q_geti C clX10 kd_22 (k := 7) (by decide) flX10_43 dX10_endTimes_31 (kz := 7) rfl (by decide) ?_
    refine r_iconst C dX10_endTimes_34 (by decide) ?_
    refine r_isub C dX10_endTimes_35 ?_
    refine r_iaload C dX10_endTimes_36 (fun v3 _ => ?_)
    refine q_if_le (tgt := 49) C dX10_endTimes_37 (by decide) (fun _ => ?_) (fun _ => ?_)
    · refine r_aload_n C dX10_endTimes_49 rfl rfl ?_
      refine r_dup C dX10_endTimes_50 rfl ?_
      refine q_geti C clX10 kd_22 (k := 7) (by decide) flX10_43 dX10_endTimes_51 (kz := 7) rfl (by decide) ?_
      refine r_iconst C dX10_endTimes_54 (by decide) ?_
      refine r_isub C dX10_endTimes_55 ?_
      refine q_puti C clX10 kd_22 (k := 7) (by decide) flX10_43 rfl dX10_endTimes_56 rfl rfl (fun M4 => ?_)
      refine r_iload_n C dX10_endTimes_59 rfl rfl ?_
      refine r_iconst C dX10_endTimes_60 (by decide) ?_
      refine r_iadd C dX10_endTimes_61 ?_
      exact r_ireturn C dX10_endTimes_62 rfl
    · refine r_aload_n C dX10_endTimes_40 rfl rfl ?_
      refine r_getp C clX3 (kd_t0 ht) (k := 8) (by decide) flX10_157 dX10_endTimes_41 (pt_t0_8 ht) ?_
      refine r_iload_n C dX10_endTimes_44 rfl rfl ?_
      refine r_iaload C dX10_endTimes_45 (fun v5 _ => ?_)
      refine r_iconst C dX10_endTimes_46 (by decide) ?_
      refine r_iadd C dX10_endTimes_47 ?_
      exact r_ireturn C dX10_endTimes_48 rfl
  · refine r_iload_n C dX10_endTimes_7 rfl rfl ?_
    refine r_iconst C dX10_endTimes_8 (by decide) ?_
    refine r_iadd C dX10_endTimes_9 ?_
    exact r_ireturn C dX10_endTimes_10 rfl
set_option maxRecDepth 100000 in
set_option maxHeartbeats 4000000 in
theorem tX10_workLine (t : Nat) (ht : t = 5 ∨ t = 119) (p1 : Int) (M : Mem) : Cn yX10_workLine cX10_workLine 3 (some .int) 4 95 [zr 22, zr t, zi p1] M ((fX10_workLine t p1 M).map oI) := by
  refine Cn_mk (own := RX10) rfl (by decide) (Nat.le_of_ble_eq_true rfl) [some (zr 22), some (zr t), some (zi p1)] rfl (fun G C hn => ?_)
  unfold fX10_workLine
  refine r_aload_n C dX10_workLine_0 rfl rfl ?_
  refine r_getp C clX3 (kd_t0 ht) (k := 1) (by decide) flX10_66 dX10_workLine_1 (pt_t0_1 ht) ?_
  refine r_iload_n C dX10_workLine_4 rfl rfl ?_
  refine r_iaload C dX10_workLine_5 (fun v1 _ => ?_)
  refine r_ite (fun hx0 => ?_) (fun hx0 => ?_)
  · refine r_sw 60 ?_ (fun J => ?_)
    · refine r_aload_n C dX10_workLine_60 rfl rfl ?_
      refine r_getp C clX10 kd_22 (k := 1) (by decide) flX10_18 dX10_workLine_61 pt_22_1 ?_
      refine r_aload_n C dX10_workLine_64 rfl rfl ?_
      refine r_getp C clX3 (kd_t0 ht) (k := 3) (by decide) flX10_76 dX10_workLine_65 (pt_t0_3 ht) ?_
      refine r_iload_n C dX10_workLine_68 rfl rfl ?_
      refine r_iaload C dX10_workLine_69 (fun v2 _ => ?_)
      refine r_aload_n C dX10_workLine_70 rfl rfl ?_
      refine r_getp C clX3 (kd_t0 ht) (k := 9) (by decide) flX10_79 dX10_workLine_71 (pt_t0_9 ht) ?_
      refine r_iload_n C dX10_workLine_74 rfl rfl ?_
      refine r_iaload C dX10_workLine_75 (fun v3 _ => ?_)
      refine r_iastore C dX10_workLine_76 (fun M4 _ => ?_)
      refine r_iload_n C dX10_workLine_77 rfl rfl ?_
      refine r_iconst C dX10_workLine_78 (by decide) ?_
      refine r_iadd C dX10_workLine_79 ?_
      exact r_ireturn C dX10_workLine_80 rfl
    · skip
      exact r_tabIn (n := 0) C dX10_workLine_6 hx0 (by decide) (by decide) rfl (by decide) J
  refine r_ite (fun hx1 => ?_) (fun hx1 => ?_)
  · refine r_sw 81 ?_ (fun J => ?_)
    · refine r_aload_n C dX10_workLine_81 rfl rfl ?_
      refine r_aload_n C dX10_workLine_82 rfl rfl ?_
      refine r_iload_n C dX10_workLine_83 rfl rfl ?_
      refine q_callVv (av := [zr t, zi p1]) (rest := []) C (tX10_workIs t ht p1 M) lkX10_82 kd_22 rfl rfl rfl (Nat.le_of_ble_eq_true rfl) ⟨by decide, by decide⟩ dX10_workLine_84 (fun q5 _ => ?_)
      refine r_iload_n C dX10_workLine_87 rfl rfl ?_
      refine r_iconst C dX10_workLine_88 (by decide) ?_
      refine r_iadd C dX10_workLine_89 ?_
      exact r_ireturn C dX10_workLine_90 rfl
    · skip
      exact r_tabIn (n := 4) C dX10_workLine_6 hx1 (by decide) (by decide) rfl (by decide) J
  refine r_ite (fun hx2 => ?_) (fun hx2 => ?_)
  · refine r_sw 101 ?_ (fun J => ?_)
    · refine r_aload_n C dX10_workLine_101 rfl rfl ?_
      refine r_aload_n C dX10_workLine_102 rfl rfl ?_
      refine r_iload_n C dX10_workLine_103 rfl rfl ?_
      refine q_callVv (av := [zr t, zi p1]) (rest := []) C (tX10_beginWhen t ht p1 M) lkX10_88 kd_22 rfl rfl rfl (Nat.le_of_ble_eq_true rfl) ⟨by decide, by decide⟩ dX10_workLine_104 (fun q6 _ => ?_)
      refine r_iload_n C dX10_workLine_107 rfl rfl ?_
      refine r_iconst C dX10_workLine_108 (by decide) ?_
      refine r_iadd C dX10_workLine_109 ?_
      exact r_ireturn C dX10_workLine_110 rfl
    · skip
      exact r_tabIn (n := 5) C dX10_workLine_6 hx2 (by decide) (by decide) rfl (by decide) J
  refine r_ite (fun hx3 => ?_) (fun hx3 => ?_)
  · refine r_sw 111 ?_ (fun J => ?_)
    · refine r_aload_n C dX10_workLine_111 rfl rfl ?_
      refine r_aload_n C dX10_workLine_112 rfl rfl ?_
      refine q_geti C clX10 kd_22 (k := 7) (by decide) flX10_43 dX10_workLine_113 (kz := 7) rfl (by decide) ?_
      refine r_iconst C dX10_workLine_116 (by decide) ?_
      refine r_isub C dX10_workLine_117 ?_
      refine q_callVv (av := [zi (w32 ((M 22 7) - 1))]) (rest := []) C (tX10_endFirstPart (w32 ((M 22 7) - 1)) M) lkX10_91 kd_22 rfl rfl rfl (Nat.le_of_ble_eq_true rfl) ⟨by decide, by decide⟩ dX10_workLine_118 (fun q7 _ => ?_)
      refine r_iload_n C dX10_workLine_121 rfl rfl ?_
      refine r_iconst C dX10_workLine_122 (by decide) ?_
      refine r_iadd C dX10_workLine_123 ?_
      exact r_ireturn C dX10_workLine_124 rfl
    · skip
      exact r_tabIn (n := 6) C dX10_workLine_6 hx3 (by decide) (by decide) rfl (by decide) J
  refine r_ite (fun hx4 => ?_) (fun hx4 => ?_)
  · refine r_sw 125 ?_ (fun J => ?_)
    · refine r_aload_n C dX10_workLine_125 rfl rfl ?_
      refine r_aload_n C dX10_workLine_126 rfl rfl ?_
      refine r_getp C clX3 (kd_t0 ht) (k := 9) (by decide) flX10_79 dX10_workLine_127 (pt_t0_9 ht) ?_
      refine r_iload_n C dX10_workLine_130 rfl rfl ?_
      refine r_iaload C dX10_workLine_131 (fun v8 _ => ?_)
      refine q_callVv (av := [zi v8]) (rest := []) C (tX10_beginTimes v8 M) lkX10_94 kd_22 rfl rfl rfl (Nat.le_of_ble_eq_true rfl) ⟨by decide, by decide⟩ dX10_workLine_132 (fun q9 _ => ?_)
      refine r_iload_n C dX10_workLine_135 rfl rfl ?_
      refine r_iconst C dX10_workLine_136 (by decide) ?_
      refine r_iadd C dX10_workLine_137 ?_
      exact r_ireturn C dX10_workLine_138 rfl
    · skip
      exact r_tabIn (n := 7) C dX10_workLine_6 hx4 (by decide) (by decide) rfl (by decide) J
  refine r_ite (fun hx5 => ?_) (fun hx5 => ?_)
  · refine r_sw 91 ?_ (fun J => ?_)
    · refine r_aload_n C dX10_workLine_91 rfl rfl ?_
      refine r_aload_n C dX10_workLine_92 rfl rfl ?_
      refine r_iload_n C dX10_workLine_93 rfl rfl ?_
      refine q_callVv (av := [zr t, zi p1]) (rest := []) C (tX10_workShow t ht p1 M) lkX10_85 kd_22 rfl rfl rfl (Nat.le_of_ble_eq_true rfl) ⟨by decide, by decide⟩ dX10_workLine_94 (fun q10 _ => ?_)
      refine r_iload_n C dX10_workLine_97 rfl rfl ?_
      refine r_iconst C dX10_workLine_98 (by decide) ?_
      refine r_iadd C dX10_workLine_99 ?_
      exact r_ireturn C dX10_workLine_100 rfl
    · skip
      exact r_tabIn (n := 9) C dX10_workLine_6 hx5 (by decide) (by decide) rfl (by decide) J
  refine r_sw 139 ?_ (fun J => ?_)
  · refine r_aload_n C dX10_workLine_139 rfl rfl ?_
    refine r_iload_n C dX10_workLine_140 rfl rfl ?_
    refine q_callVi (av := [zi p1]) (rest := []) C (tX3_endsTimes t ht p1 M) lkX10_97 (kd_t0 ht) rfl rfl rfl (Nat.le_of_ble_eq_true rfl) ⟨by decide, by decide⟩ dX10_workLine_141 (fun q11 _ => ?_)
    refine r_join (γ := Int × Mem) (pcJ := fun _ => 162) (al' := fun q14 => [none, none, none]) (st' := fun q14 => [zi q14.1]) (M' := fun q14 => q14.2) ?_ ?_
    · intro q14
      exact r_ireturn C dX10_workLine_162 rfl
    · intro hJq14
      refine q_if_eq (tgt := 156) C dX10_workLine_144 (by decide) (fun _ => ?_) (fun _ => ?_)
      · refine r_aload_n C dX10_workLine_156 rfl rfl ?_
        refine r_aload_n C dX10_workLine_157 rfl rfl ?_
        refine r_iload_n C dX10_workLine_158 rfl rfl ?_
        refine q_callVi (av := [zr t, zi p1]) (rest := []) C (tX10_endWhen t ht p1 q11.2) lkX10_104 kd_22 rfl rfl rfl (Nat.le_of_ble_eq_true rfl) ⟨by decide, by decide⟩ dX10_workLine_159 (fun q12 _ => ?_)
        refine r_less [false, false, false] rfl ?_
        exact hJq14 (q12.1, q12.2)
      · refine r_aload_n C dX10_workLine_147 rfl rfl ?_
        refine r_aload_n C dX10_workLine_148 rfl rfl ?_
        refine r_iload_n C dX10_workLine_149 rfl rfl ?_
        refine q_callVi (av := [zr t, zi p1]) (rest := []) C (tX10_endTimes t ht p1 q11.2) lkX10_101 kd_22 rfl rfl rfl (Nat.le_of_ble_eq_true rfl) ⟨by decide, by decide⟩ dX10_workLine_150 (fun q13 _ => ?_)
        refine r_goto (tgt := 162) C dX10_workLine_153 (by decide) ?_
        refine r_less [false, false, false] rfl ?_
        exact hJq14 (q13.1, q13.2)
  · skip
    by_cases hh : v1 = 1
    · exact r_tabIn (n := 1) C dX10_workLine_6 hh (by decide) (by decide) rfl (by decide) J
    by_cases hh : v1 = 2
    · exact r_tabIn (n := 2) C dX10_workLine_6 hh (by decide) (by decide) rfl (by decide) J
    by_cases hh : v1 = 3
    · exact r_tabIn (n := 3) C dX10_workLine_6 hh (by decide) (by decide) rfl (by decide) J
    by_cases hh : v1 = 8
    · exact r_tabIn (n := 8) C dX10_workLine_6 hh (by decide) (by decide) rfl (by decide) J
    exact r_tabOut C dX10_workLine_6 (by omega) (by decide) J
set_option maxRecDepth 100000 in
set_option maxHeartbeats 4000000 in
theorem tX10_work (t : Nat) (ht : t = 5 ∨ t = 119) (M : Mem) : Cn yX10_work cX10_work 4 (some .int) 5 117 [zr 22, zr t] M ((fX10_work t M).map oI) := by
  refine Cn_mk (own := RX10) rfl (by decide) (Nat.le_of_ble_eq_true rfl) [some (zr 22), some (zr t), none, none] rfl (fun G C hn => ?_)
  unfold fX10_work
  refine r_aload_n C dX10_work_0 rfl rfl ?_
  refine r_getp C clX10 kd_22 (k := 0) (by decide) flX10_12 dX10_work_1 pt_22_0 ?_
  refine r_aload_n C dX10_work_4 rfl rfl ?_
  refine q_callVv (av := [zr t]) (rest := []) C (tX9_start t ht M) lkX10_39 kd_23 rfl rfl rfl (Nat.le_of_ble_eq_true rfl) ⟨by decide, by decide⟩ dX10_work_5 (fun q1 _ => ?_)
  refine r_aload_n C dX10_work_8 rfl rfl ?_
  refine r_iconst C dX10_work_9 (by decide) ?_
  refine q_puti C clX10 kd_22 (k := 7) (by decide) flX10_43 rfl dX10_work_10 rfl rfl (fun M2 => ?_)
  refine r_aload_n C dX10_work_13 rfl rfl ?_
  refine r_iconst C dX10_work_14 (by decide) ?_
  refine q_puti C clX10 kd_22 (k := 8) (by decide) flX10_47 rfl dX10_work_15 rfl rfl (fun M3 => ?_)
  refine r_aload_n C dX10_work_18 rfl rfl ?_
  refine r_iconst C dX10_work_19 (by decide) ?_
  refine q_puti C clX10 kd_22 (k := 9) (by decide) flX10_50 rfl dX10_work_20 rfl rfl (fun M4 => ?_)
  refine r_iconst C dX10_work_23 (by decide) ?_
  refine r_istore_n (al' := [some (zr 22), some (zr t), some (zi 0), none]) C dX10_work_24 rfl (by rw [hn]; decide) rfl ?_
  refine r_iconst C dX10_work_25 (by decide) ?_
  refine r_istore_n (al' := [some (zr 22), some (zr t), some (zi 0), some (zi 0)]) C dX10_work_26 rfl (by rw [hn]; decide) rfl ?_
  refine r_lp (S := Int × Int × Mem) (R := Mem) (pcX := 75) (AL := fun s5 => [some (zr 22), some (zr t), some (zi s5.1), some (zi s5.2.1)]) (MM := fun s5 => s5.2.2) (AX := fun q9 => [some (zr 22), none, none, none]) (MX := fun q9 => q9) ?_ ?_ (0, 0, M4)
  · intro q9
    refine r_aload_n C dX10_work_75 rfl rfl ?_
    refine q_geti C clX10 kd_22 (k := 9) (by decide) flX10_50 dX10_work_76 (kz := 9) rfl (by decide) ?_
    exact r_ireturn C dX10_work_79 rfl
  · intro gs5 hCs5 hXs5 s5
    unfold fX10_work_b1
    refine r_iload_n C dX10_work_27 rfl rfl ?_
    refine r_sipush C dX10_work_28 (by decide) ?_
    refine q_icmp_ge (tgt := 75) C dX10_work_31 (by decide) (fun _ => ?_) (fun _ => ?_)
    · refine r_less [true, false, false, false] rfl ?_
      exact hXs5 s5.2.2
    · refine r_iload_n C dX10_work_34 rfl rfl ?_
      refine r_aload_n C dX10_work_35 rfl rfl ?_
      refine q_geti C clX3 (kd_t0 ht) (k := 0) (by decide) flX10_53 dX10_work_36 (kz := 0) rfl (by decide) ?_
      refine q_icmp_ge (tgt := 75) C dX10_work_39 (by decide) (fun _ => ?_) (fun _ => ?_)
      · refine r_less [true, false, false, false] rfl ?_
        exact hXs5 s5.2.2
      · refine r_aload_n C dX10_work_42 rfl rfl ?_
        refine q_geti C clX10 kd_22 (k := 9) (by decide) flX10_50 dX10_work_43 (kz := 9) rfl (by decide) ?_
        refine q_if_ne (tgt := 75) C dX10_work_46 (by decide) (fun _ => ?_) (fun _ => ?_)
        · refine r_less [true, false, false, false] rfl ?_
          exact hXs5 s5.2.2
        · refine r_aload_n C dX10_work_49 rfl rfl ?_
          refine r_aload_n C dX10_work_50 rfl rfl ?_
          refine r_iload_n C dX10_work_51 rfl rfl ?_
          refine q_callVv (av := [zr t, zi s5.1]) (rest := []) C (tX10_countLine t ht s5.1 s5.2.2) lkX10_58 kd_22 rfl rfl rfl (Nat.le_of_ble_eq_true rfl) ⟨by decide, by decide⟩ dX10_work_52 (fun q6 _ => ?_)
          refine r_aload_n C dX10_work_55 rfl rfl ?_
          refine q_geti C clX10 kd_22 (k := 9) (by decide) flX10_50 dX10_work_56 (kz := 9) rfl (by decide) ?_
          refine r_join (γ := Int × Mem) (pcJ := fun _ => 69) (al' := fun q8 => [some (zr 22), some (zr t), some (zi q8.1), some (zi s5.2.1)]) (st' := fun q8 => []) (M' := fun q8 => q8.2) ?_ ?_
          · intro q8
            refine r_iinc (al' := [some (zr 22), some (zr t), some (zi q8.1), some (zi (w32 (s5.2.1 + 1)))]) C dX10_work_69 rfl (by rw [hn]; decide) rfl ?_
            refine r_goto (tgt := 27) C dX10_work_72 (by decide) ?_
            exact hCs5 (q8.1, w32 (s5.2.1 + 1), q8.2)
          · intro hJq8
            refine q_if_ne (tgt := 69) C dX10_work_59 (by decide) (fun _ => ?_) (fun _ => ?_)
            · exact hJq8 (s5.1, q6)
            · refine r_aload_n C dX10_work_62 rfl rfl ?_
              refine r_aload_n C dX10_work_63 rfl rfl ?_
              refine r_iload_n C dX10_work_64 rfl rfl ?_
              refine q_callVi (av := [zr t, zi s5.1]) (rest := []) C (tX10_workLine t ht s5.1 q6) lkX10_62 kd_22 rfl rfl rfl (Nat.le_of_ble_eq_true rfl) ⟨by decide, by decide⟩ dX10_work_65 (fun q7 _ => ?_)
              refine r_istore_n (al' := [some (zr 22), some (zr t), some (zi q7.1), some (zi s5.2.1)]) C dX10_work_68 rfl (by rw [hn]; decide) rfl ?_
              exact hJq8 (q7.1, q7.2)
set_option maxRecDepth 100000 in
set_option maxHeartbeats 4000000 in
theorem tX9_copyFrom  (M : Mem) : Cn yX9_copyFrom cX9_copyFrom 3 none 1 18 [zr 44, zr 23] M ((fX9_copyFrom  M).map oU) := by
  refine Cn_mk (own := RX9) rfl (by decide) (Nat.le_of_ble_eq_true rfl) [some (zr 44), some (zr 23), none] rfl (fun G C hn => ?_)
  unfold fX9_copyFrom
  refine r_aload_n C dX9_copyFrom_0 rfl rfl ?_
  refine r_aload_n C dX9_copyFrom_1 rfl rfl ?_
  refine q_geti C clX9 kd_23 (k := 0) (by decide) flX9_31 dX9_copyFrom_2 (kz := 0) rfl (by decide) ?_
  refine q_puti C clX9 kd_44 (k := 0) (by decide) flX9_31 rfl dX9_copyFrom_5 rfl rfl (fun M1 => ?_)
  refine r_aload_n C dX9_copyFrom_8 rfl rfl ?_
  refine r_aload_n C dX9_copyFrom_9 rfl rfl ?_
  refine q_geti C clX9 kd_23 (k := 5) (by decide) flX9_35 dX9_copyFrom_10 (kz := 5) rfl (by decide) ?_
  refine q_puti C clX9 kd_44 (k := 5) (by decide) flX9_35 rfl dX9_copyFrom_13 rfl rfl (fun M2 => ?_)
  refine r_aload_n C dX9_copyFrom_16 rfl rfl ?_
  refine r_getp C clX9 kd_23 (k := 1) (by decide) flX9_9 dX9_copyFrom_17 pt_23_1 ?_
  refine r_iconst C dX9_copyFrom_20 (by decide) ?_
  refine r_aload_n C dX9_copyFrom_21 rfl rfl ?_
  refine r_getp C clX9 kd_44 (k := 1) (by decide) flX9_9 dX9_copyFrom_22 pt_44_1 ?_
  refine r_iconst C dX9_copyFrom_25 (by decide) ?_
  refine r_bipush C dX9_copyFrom_26 (by decide) ?_
  refine r_copy C mc_X9_64 jm_ac1 jm_ac2 jm_ac3 (by decide) (Nat.le_of_ble_eq_true rfl) dX9_copyFrom_28 (fun M3 _ => ?_)
  refine r_aload_n C dX9_copyFrom_31 rfl rfl ?_
  refine r_getp C clX9 kd_23 (k := 2) (by decide) flX9_15 dX9_copyFrom_32 pt_23_2 ?_
  refine r_iconst C dX9_copyFrom_35 (by decide) ?_
  refine r_aload_n C dX9_copyFrom_36 rfl rfl ?_
  refine r_getp C clX9 kd_44 (k := 2) (by decide) flX9_15 dX9_copyFrom_37 pt_44_2 ?_
  refine r_iconst C dX9_copyFrom_40 (by decide) ?_
  refine r_sipush C dX9_copyFrom_41 (by decide) ?_
  refine r_copy C mc_X9_64 jm_ac1 jm_ac2 jm_ac3 (by decide) (Nat.le_of_ble_eq_true rfl) dX9_copyFrom_44 (fun M4 _ => ?_)
  refine r_aload_n C dX9_copyFrom_47 rfl rfl ?_
  refine r_getp C clX9 kd_23 (k := 6) (by decide) flX9_25 dX9_copyFrom_48 pt_23_6 ?_
  refine r_iconst C dX9_copyFrom_51 (by decide) ?_
  refine r_aload_n C dX9_copyFrom_52 rfl rfl ?_
  refine r_getp C clX9 kd_44 (k := 6) (by decide) flX9_25 dX9_copyFrom_53 pt_44_6 ?_
  refine r_iconst C dX9_copyFrom_56 (by decide) ?_
  refine r_bipush C dX9_copyFrom_57 (by decide) ?_
  refine r_copy C mc_X9_64 jm_ac1 jm_ac2 jm_ac3 (by decide) (Nat.le_of_ble_eq_true rfl) dX9_copyFrom_59 (fun M5 _ => ?_)
  refine r_iconst C dX9_copyFrom_62 (by decide) ?_
  refine r_istore_n (al' := [some (zr 44), some (zr 23), some (zi 0)]) C dX9_copyFrom_63 rfl (by rw [hn]; decide) rfl ?_
  refine r_lp (S := Int × Mem) (R := Mem) (pcX := 100) (AL := fun s6 => [some (zr 44), some (zr 23), some (zi s6.1)]) (MM := fun s6 => s6.2) (AX := fun q11 => [some (zr 44), some (zr 23), none]) (MX := fun q11 => q11) ?_ ?_ (0, M5)
  · intro q11
    refine r_iconst C dX9_copyFrom_100 (by decide) ?_
    refine r_istore_n (al' := [some (zr 44), some (zr 23), some (zi 0)]) C dX9_copyFrom_101 rfl (by rw [hn]; decide) rfl ?_
    refine r_lp (S := Int × Mem) (R := Mem) (pcX := 127) (AL := fun s12 => [some (zr 44), some (zr 23), some (zi s12.1)]) (MM := fun s12 => s12.2) (AX := fun q15 => [none, none, none]) (MX := fun q15 => q15) ?_ ?_ (0, q11)
    · intro q15
      exact r_return C dX9_copyFrom_127 rfl
    · intro gs12 hCs12 hXs12 s12
      unfold fX9_copyFrom_b2
      refine r_iload_n C dX9_copyFrom_102 rfl rfl ?_
      refine r_sipush C dX9_copyFrom_103 (by decide) ?_
      refine q_icmp_ge (tgt := 127) C dX9_copyFrom_106 (by decide) (fun _ => ?_) (fun _ => ?_)
      · refine r_less [false, false, false] rfl ?_
        exact hXs12 s12.2
      · refine r_aload_n C dX9_copyFrom_109 rfl rfl ?_
        refine r_getp C clX9 kd_44 (k := 7) (by decide) flX9_28 dX9_copyFrom_110 pt_44_7 ?_
        refine r_iload_n C dX9_copyFrom_113 rfl rfl ?_
        refine r_aload_n C dX9_copyFrom_114 rfl rfl ?_
        refine r_getp C clX9 kd_23 (k := 7) (by decide) flX9_28 dX9_copyFrom_115 pt_23_7 ?_
        refine r_iload_n C dX9_copyFrom_118 rfl rfl ?_
        refine r_zaload C dX9_copyFrom_119 (fun v13 _ => ?_)
        refine r_zastore C dX9_copyFrom_120 (fun M14 _ => ?_)
        refine r_iinc (al' := [some (zr 44), some (zr 23), some (zi (w32 (s12.1 + 1)))]) C dX9_copyFrom_121 rfl (by rw [hn]; decide) rfl ?_
        refine r_goto (tgt := 102) C dX9_copyFrom_124 (by decide) ?_
        exact hCs12 (w32 (s12.1 + 1), M14)
  · intro gs6 hCs6 hXs6 s6
    unfold fX9_copyFrom_b1
    refine r_iload_n C dX9_copyFrom_64 rfl rfl ?_
    refine r_bipush C dX9_copyFrom_65 (by decide) ?_
    refine q_icmp_ge (tgt := 100) C dX9_copyFrom_67 (by decide) (fun _ => ?_) (fun _ => ?_)
    · refine r_less [true, true, false] rfl ?_
      exact hXs6 s6.2
    · refine r_aload_n C dX9_copyFrom_70 rfl rfl ?_
      refine r_getp C clX9 kd_44 (k := 3) (by decide) flX9_18 dX9_copyFrom_71 pt_44_3 ?_
      refine r_iload_n C dX9_copyFrom_74 rfl rfl ?_
      refine r_aload_n C dX9_copyFrom_75 rfl rfl ?_
      refine r_getp C clX9 kd_23 (k := 3) (by decide) flX9_18 dX9_copyFrom_76 pt_23_3 ?_
      refine r_iload_n C dX9_copyFrom_79 rfl rfl ?_
      refine r_zaload C dX9_copyFrom_80 (fun v7 _ => ?_)
      refine r_zastore C dX9_copyFrom_81 (fun M8 _ => ?_)
      refine r_aload_n C dX9_copyFrom_82 rfl rfl ?_
      refine r_getp C clX9 kd_44 (k := 4) (by decide) flX9_22 dX9_copyFrom_83 pt_44_4 ?_
      refine r_iload_n C dX9_copyFrom_86 rfl rfl ?_
      refine r_aload_n C dX9_copyFrom_87 rfl rfl ?_
      refine r_getp C clX9 kd_23 (k := 4) (by decide) flX9_22 dX9_copyFrom_88 pt_23_4 ?_
      refine r_iload_n C dX9_copyFrom_91 rfl rfl ?_
      refine r_zaload C dX9_copyFrom_92 (fun v9 _ => ?_)
      refine r_zastore C dX9_copyFrom_93 (fun M10 _ => ?_)
      refine r_iinc (al' := [some (zr 44), some (zr 23), some (zi (w32 (s6.1 + 1)))]) C dX9_copyFrom_94 rfl (by rw [hn]; decide) rfl ?_
      refine r_goto (tgt := 64) C dX9_copyFrom_97 (by decide) ?_
      exact hCs6 (w32 (s6.1 + 1), M10)
set_option maxRecDepth 100000 in
set_option maxHeartbeats 4000000 in
theorem tX0_start (t : Nat) (ht : t = 5 ∨ t = 119) (M : Mem) : Cn yX0_start cX0_start 4 none 0 0 [zr 51, zr t] M ((fX0_start t M).map oU) := by
  refine Cn_mk (own := RX0) rfl (by decide) (Nat.le_of_ble_eq_true rfl) [some (zr 51), some (zr t), none, none] rfl (fun G C hn => ?_)
  unfold fX0_start
  refine r_iconst C dX0_start_0 (by decide) ?_
  refine r_istore_n (al' := [some (zr 51), some (zr t), some (zi 0), none]) C dX0_start_1 rfl (by rw [hn]; decide) rfl ?_
  refine r_lp (S := Int × Mem) (R := Mem) (pcX := 69) (AL := fun s1 => [some (zr 51), some (zr t), some (zi s1.1), none]) (MM := fun s1 => s1.2) (AX := fun q10 => [none, none, none, none]) (MX := fun q10 => q10) ?_ ?_ (0, M)
  · intro q10
    exact r_return C dX0_start_69 rfl
  · intro gs1 hCs1 hXs1 s1
    unfold fX0_start_b1
    refine r_iload_n C dX0_start_2 rfl rfl ?_
    refine r_aload_n C dX0_start_3 rfl rfl ?_
    refine q_geti C clX3 (kd_t0 ht) (k := 10) (by decide) flX0_24 dX0_start_4 (kz := 10) rfl (by decide) ?_
    refine q_icmp_ge (tgt := 69) C dX0_start_7 (by decide) (fun _ => ?_) (fun _ => ?_)
    · refine r_less [false, false, false, false] rfl ?_
      exact hXs1 s1.2
    · refine r_aload_n C dX0_start_10 rfl rfl ?_
      refine r_getp C clX0 kd_51 (k := 0) (by decide) flX0_9 dX0_start_11 pt_51_0 ?_
      refine r_iload_n C dX0_start_14 rfl rfl ?_
      refine r_aload_n C dX0_start_15 rfl rfl ?_
      refine r_getp C clX3 (kd_t0 ht) (k := 12) (by decide) flX0_30 dX0_start_16 (pt_t0_12 ht) ?_
      refine r_iload_n C dX0_start_19 rfl rfl ?_
      refine r_iaload C dX0_start_20 (fun v2 _ => ?_)
      refine r_iastore C dX0_start_21 (fun M3 _ => ?_)
      refine r_aload_n C dX0_start_22 rfl rfl ?_
      refine r_getp C clX0 kd_51 (k := 1) (by decide) flX0_15 dX0_start_23 pt_51_1 ?_
      refine r_iload_n C dX0_start_26 rfl rfl ?_
      refine r_aload_n C dX0_start_27 rfl rfl ?_
      refine r_getp C clX3 (kd_t0 ht) (k := 13) (by decide) flX0_31 dX0_start_28 (pt_t0_13 ht) ?_
      refine r_iload_n C dX0_start_31 rfl rfl ?_
      refine r_iaload C dX0_start_32 (fun v4 _ => ?_)
      refine r_iastore C dX0_start_33 (fun M5 _ => ?_)
      refine r_iconst C dX0_start_34 (by decide) ?_
      refine r_istore_n (al' := [some (zr 51), some (zr t), some (zi s1.1), some (zi 0)]) C dX0_start_35 rfl (by rw [hn]; decide) rfl ?_
      refine r_lp (S := Int × Mem) (R := Mem) (pcX := 63) (AL := fun s6 => [some (zr 51), some (zr t), some (zi s1.1), some (zi s6.1)]) (MM := fun s6 => s6.2) (AX := fun q9 => [some (zr 51), some (zr t), some (zi s1.1), none]) (MX := fun q9 => q9) ?_ ?_ (0, M5)
      · intro q9
        refine r_iinc (al' := [some (zr 51), some (zr t), some (zi (w32 (s1.1 + 1))), none]) C dX0_start_63 rfl (by rw [hn]; decide) rfl ?_
        refine r_goto (tgt := 2) C dX0_start_66 (by decide) ?_
        exact hCs1 (w32 (s1.1 + 1), q9)
      · intro gs6 hCs6 hXs6 s6
        unfold fX0_start_b2
        refine r_iload_n C dX0_start_36 rfl rfl ?_
        refine r_iconst C dX0_start_37 (by decide) ?_
        refine q_icmp_ge (tgt := 63) C dX0_start_38 (by decide) (fun _ => ?_) (fun _ => ?_)
        · refine r_less [true, true, true, false] rfl ?_
          exact hXs6 s6.2
        · refine r_aload_n C dX0_start_41 rfl rfl ?_
          refine r_getp C clX0 kd_51 (k := 2) (by decide) flX0_18 dX0_start_42 pt_51_2 ?_
          refine r_iconst C dX0_start_45 (by decide) ?_
          refine r_iload_n C dX0_start_46 rfl rfl ?_
          refine r_imul C dX0_start_47 ?_
          refine r_iload_n C dX0_start_48 rfl rfl ?_
          refine r_iadd C dX0_start_49 ?_
          refine r_aload_n C dX0_start_50 rfl rfl ?_
          refine r_getp C clX3 (kd_t0 ht) (k := 12) (by decide) flX0_30 dX0_start_51 (pt_t0_12 ht) ?_
          refine r_iload_n C dX0_start_54 rfl rfl ?_
          refine r_iaload C dX0_start_55 (fun v7 _ => ?_)
          refine r_iastore C dX0_start_56 (fun M8 _ => ?_)
          refine r_iinc (al' := [some (zr 51), some (zr t), some (zi s1.1), some (zi (w32 (s6.1 + 1)))]) C dX0_start_57 rfl (by rw [hn]; decide) rfl ?_
          refine r_goto (tgt := 36) C dX0_start_60 (by decide) ?_
          exact hCs6 (w32 (s6.1 + 1), M8)
set_option maxRecDepth 100000 in
set_option maxHeartbeats 4000000 in
theorem tX2_put (g : Nat) (hg : g = 62 ∨ g = 88) (p1 : Int) (p2 : Int) (p3 : Int) (M : Mem) : Cn yX2_put cX2_put 4 none 0 0 [zr g, zi p1, zi p2, zi p3] M ((fX2_put g p1 p2 p3 M).map oU) := by
  refine Cn_mk (own := RX2) rfl (by decide) (Nat.le_of_ble_eq_true rfl) [some (zr g), some (zi p1), some (zi p2), some (zi p3)] rfl (fun G C hn => ?_)
  unfold fX2_put
  refine r_aload_n C dX2_put_0 rfl rfl ?_
  refine r_getp C clX2 (kd_g0 hg) (k := 1) (by decide) flX2_9 dX2_put_1 (pt_g0_1 hg) ?_
  refine r_iload_n C dX2_put_4 rfl rfl ?_
  refine r_iload_n C dX2_put_5 rfl rfl ?_
  refine r_iastore C dX2_put_6 (fun M1 _ => ?_)
  refine r_aload_n C dX2_put_7 rfl rfl ?_
  refine r_getp C clX2 (kd_g0 hg) (k := 2) (by decide) flX2_15 dX2_put_8 (pt_g0_2 hg) ?_
  refine r_iload_n C dX2_put_11 rfl rfl ?_
  refine r_iload_n C dX2_put_12 rfl rfl ?_
  refine r_iastore C dX2_put_13 (fun M2 _ => ?_)
  exact r_return C dX2_put_14 rfl
set_option maxRecDepth 100000 in
set_option maxHeartbeats 4000000 in
theorem tX2_isKnown (g : Nat) (hg : g = 62 ∨ g = 88) (p1 : Int) (M : Mem) : Cn yX2_isKnown cX2_isKnown 2 (some .boolean) 0 0 [zr g, zi p1] M ((fX2_isKnown g p1 M).map oI) := by
  refine Cn_mk (own := RX2) rfl (by decide) (Nat.le_of_ble_eq_true rfl) [some (zr g), some (zi p1)] rfl (fun G C hn => ?_)
  unfold fX2_isKnown
  refine r_aload_n C dX2_isKnown_0 rfl rfl ?_
  refine r_getp C clX2 (kd_g0 hg) (k := 1) (by decide) flX2_9 dX2_isKnown_1 (pt_g0_1 hg) ?_
  refine r_iload_n C dX2_isKnown_4 rfl rfl ?_
  refine r_iaload C dX2_isKnown_5 (fun v1 _ => ?_)
  refine r_aload_n C dX2_isKnown_6 rfl rfl ?_
  refine r_getp C clX2 (kd_g0 hg) (k := 2) (by decide) flX2_15 dX2_isKnown_7 (pt_g0_2 hg) ?_
  refine r_iload_n C dX2_isKnown_10 rfl rfl ?_
  refine r_iaload C dX2_isKnown_11 (fun v2 _ => ?_)
  refine r_join (γ := Int) (pcJ := fun _ => 20) (al' := fun q3 => [none, none]) (st' := fun q3 => [zi q3]) (M' := fun q3 => M) ?_ ?_
  · intro q3
    exact r_zreturn C dX2_isKnown_20 rfl
  · intro hJq3
    refine q_icmp_ne (tgt := 19) C dX2_isKnown_12 (by decide) (fun _ => ?_) (fun _ => ?_)
    · refine r_iconst C dX2_isKnown_19 (by decide) ?_
      refine r_less [false, false] rfl ?_
      exact hJq3 0
    · refine r_iconst C dX2_isKnown_15 (by decide) ?_
      refine r_goto (tgt := 20) C dX2_isKnown_16 (by decide) ?_
      refine r_less [false, false] rfl ?_
      exact hJq3 1
set_option maxRecDepth 100000 in
set_option maxHeartbeats 4000000 in
theorem tX2_putPick (g : Nat) (hg : g = 62 ∨ g = 88) (p1 : Int) (p2 : Int) (p3 : Int) (p4 : Int) (M : Mem) : Cn yX2_putPick cX2_putPick 6 none 1 23 [zr g, zi p1, zi p2, zi p3, zi p4] M ((fX2_putPick g p1 p2 p3 p4 M).map oU) := by
  refine Cn_mk (own := RX2) rfl (by decide) (Nat.le_of_ble_eq_true rfl) [some (zr g), some (zi p1), some (zi p2), some (zi p3), some (zi p4), none] rfl (fun G C hn => ?_)
  unfold fX2_putPick
  refine r_aload_n C dX2_putPick_0 rfl rfl ?_
  refine r_iload_n C dX2_putPick_1 rfl rfl ?_
  refine q_callVi (av := [zi p2]) (rest := []) C (tX2_isKnown g hg p2 M) lkX2_56 (kd_g0 hg) rfl rfl rfl (Nat.le_of_ble_eq_true rfl) ⟨by decide, by decide⟩ dX2_putPick_2 (fun q1 _ => ?_)
  refine r_join (γ := Mem) (pcJ := fun _ => 85) (al' := fun q12 => [none, none, none, none, none, none]) (st' := fun q12 => []) (M' := fun q12 => q12) ?_ ?_
  · intro q12
    exact r_return C dX2_putPick_85 rfl
  · intro hJq12
    refine q_if_eq (tgt := 48) C dX2_putPick_5 (by decide) (fun _ => ?_) (fun _ => ?_)
    · refine r_aload_n C dX2_putPick_48 rfl rfl ?_
      refine r_iload_n C dX2_putPick_49 rfl rfl ?_
      refine r_aload_n C dX2_putPick_50 rfl rfl ?_
      refine r_getp C clX2 (kd_g0 hg) (k := 1) (by decide) flX2_9 dX2_putPick_51 (pt_g0_1 hg) ?_
      refine r_iload_n C dX2_putPick_54 rfl rfl ?_
      refine r_iaload C dX2_putPick_55 (fun v2 _ => ?_)
      refine r_aload_n C dX2_putPick_56 rfl rfl ?_
      refine r_getp C clX2 (kd_g0 hg) (k := 1) (by decide) flX2_9 dX2_putPick_57 (pt_g0_1 hg) ?_
      refine r_iload C dX2_putPick_60 rfl ?_
      refine r_iaload C dX2_putPick_62 (fun v3 _ => ?_)
      refine r_imin C mmin_iX2_59 jm_mini_1 jm_mini_2 jm_mini_3 (by decide) (Nat.le_of_ble_eq_true rfl) dX2_putPick_63 ?_
      refine r_aload_n C dX2_putPick_66 rfl rfl ?_
      refine r_getp C clX2 (kd_g0 hg) (k := 2) (by decide) flX2_15 dX2_putPick_67 (pt_g0_2 hg) ?_
      refine r_iload_n C dX2_putPick_70 rfl rfl ?_
      refine r_iaload C dX2_putPick_71 (fun v4 _ => ?_)
      refine r_aload_n C dX2_putPick_72 rfl rfl ?_
      refine r_getp C clX2 (kd_g0 hg) (k := 2) (by decide) flX2_15 dX2_putPick_73 (pt_g0_2 hg) ?_
      refine r_iload C dX2_putPick_76 rfl ?_
      refine r_iaload C dX2_putPick_78 (fun v5 _ => ?_)
      refine r_imax C mmax_iX2_65 jm_maxi_1 jm_maxi_2 jm_maxi_3 (by decide) (Nat.le_of_ble_eq_true rfl) dX2_putPick_79 ?_
      refine q_callVv (av := [zi p1, zi (imin v2 v3), zi (imax v4 v5)]) (rest := []) C (tX2_put g hg p1 (imin v2 v3) (imax v4 v5) q1.2) lkX2_37 (kd_g0 hg) rfl rfl rfl (Nat.le_of_ble_eq_true rfl) ⟨by decide, by decide⟩ dX2_putPick_82 (fun q6 _ => ?_)
      refine r_less [false, false, false, false, false, false] rfl ?_
      exact hJq12 q6
    · refine r_aload_n C dX2_putPick_8 rfl rfl ?_
      refine r_getp C clX2 (kd_g0 hg) (k := 1) (by decide) flX2_9 dX2_putPick_9 (pt_g0_1 hg) ?_
      refine r_iload_n C dX2_putPick_12 rfl rfl ?_
      refine r_iaload C dX2_putPick_13 (fun v7 _ => ?_)
      refine r_iconst C dX2_putPick_14 (by decide) ?_
      refine r_join (γ := Int) (pcJ := fun _ => 24) (al' := fun q8 => [some (zr g), some (zi p1), none, none, none, none]) (st' := fun q8 => [zi q8]) (M' := fun q8 => q1.2) ?_ ?_
      · intro q8
        refine r_istore (al' := [some (zr g), some (zi p1), none, none, none, some (zi q8)]) C dX2_putPick_24 (by rw [hn]; decide) rfl ?_
        refine r_aload_n C dX2_putPick_26 rfl rfl ?_
        refine r_iload_n C dX2_putPick_27 rfl rfl ?_
        refine r_aload_n C dX2_putPick_28 rfl rfl ?_
        refine r_getp C clX2 (kd_g0 hg) (k := 1) (by decide) flX2_9 dX2_putPick_29 (pt_g0_1 hg) ?_
        refine r_iload C dX2_putPick_32 rfl ?_
        refine r_iaload C dX2_putPick_34 (fun v9 _ => ?_)
        refine r_aload_n C dX2_putPick_35 rfl rfl ?_
        refine r_getp C clX2 (kd_g0 hg) (k := 2) (by decide) flX2_15 dX2_putPick_36 (pt_g0_2 hg) ?_
        refine r_iload C dX2_putPick_39 rfl ?_
        refine r_iaload C dX2_putPick_41 (fun v10 _ => ?_)
        refine q_callVv (av := [zi p1, zi v9, zi v10]) (rest := []) C (tX2_put g hg p1 v9 v10 q1.2) lkX2_37 (kd_g0 hg) rfl rfl rfl (Nat.le_of_ble_eq_true rfl) ⟨by decide, by decide⟩ dX2_putPick_42 (fun q11 _ => ?_)
        refine r_goto (tgt := 85) C dX2_putPick_45 (by decide) ?_
        refine r_less [false, false, false, false, false, false] rfl ?_
        exact hJq12 q11
      · intro hJq8
        refine q_icmp_ne (tgt := 22) C dX2_putPick_15 (by decide) (fun _ => ?_) (fun _ => ?_)
        · refine r_iload C dX2_putPick_22 rfl ?_
          refine r_less [true, true, false, false, false, false] rfl ?_
          exact hJq8 p4
        · refine r_iload_n C dX2_putPick_18 rfl rfl ?_
          refine r_goto (tgt := 24) C dX2_putPick_19 (by decide) ?_
          refine r_less [true, true, false, false, false, false] rfl ?_
          exact hJq8 p3
set_option maxRecDepth 100000 in
set_option maxHeartbeats 4000000 in
theorem tX11_held (p1 : Int) (M : Mem) : Cn yX11_held cX11_held 2 (some .int) 1 19 [zl p1] M ((fX11_held p1 M).map oI) := by
  refine Cn_mk (own := RX11) rfl (by decide) (Nat.le_of_ble_eq_true rfl) [some (zl p1), none] rfl (fun G C hn => ?_)
  unfold fX11_held
  refine r_ldc2 C klX11_367 rfl dX11_held_0 ?_
  refine r_ldc2 C klX11_369 rfl dX11_held_3 ?_
  refine r_lload_n C dX11_held_6 rfl rfl ?_
  refine r_lmin C mmin_lX11_371 jm_minl_1 jm_minl_2 jm_minl_3 (by decide) (Nat.le_of_ble_eq_true rfl) dX11_held_7 ?_
  refine r_lmax C mmax_lX11_377 jm_maxl_1 jm_maxl_2 jm_maxl_3 (by decide) (Nat.le_of_ble_eq_true rfl) dX11_held_10 ?_
  refine r_l2i C dX11_held_13 ?_
  exact r_ireturn C dX11_held_14 rfl
set_option maxRecDepth 100000 in
set_option maxHeartbeats 4000000 in
theorem tX2_putProduct (g : Nat) (hg : g = 62 ∨ g = 88) (p1 : Int) (p2 : Int) (p3 : Int) (M : Mem) : Cn yX2_putProduct cX2_putProduct 9 none 2 40 [zr g, zi p1, zi p2, zi p3] M ((fX2_putProduct g p1 p2 p3 M).map oU) := by
  refine Cn_mk (own := RX2) rfl (by decide) (Nat.le_of_ble_eq_true rfl) [some (zr g), some (zi p1), some (zi p2), some (zi p3), none, none, none, none, none] rfl (fun G C hn => ?_)
  unfold fX2_putProduct
  refine r_aload_n C dX2_putProduct_0 rfl rfl ?_
  refine r_getp C clX2 (kd_g0 hg) (k := 1) (by decide) flX2_9 dX2_putProduct_1 (pt_g0_1 hg) ?_
  refine r_iload_n C dX2_putProduct_4 rfl rfl ?_
  refine r_iaload C dX2_putProduct_5 (fun v1 _ => ?_)
  refine r_i2l C dX2_putProduct_6 ?_
  refine r_aload_n C dX2_putProduct_7 rfl rfl ?_
  refine r_getp C clX2 (kd_g0 hg) (k := 1) (by decide) flX2_9 dX2_putProduct_8 (pt_g0_1 hg) ?_
  refine r_iload_n C dX2_putProduct_11 rfl rfl ?_
  refine r_iaload C dX2_putProduct_12 (fun v2 _ => ?_)
  refine r_i2l C dX2_putProduct_13 ?_
  refine r_lmul C dX2_putProduct_14 ?_
  refine q_callNi (av := [zl (w64 (v1 * v2))]) (rest := []) C (tX11_held (w64 (v1 * v2)) M) lkX2_68 rfl rfl (Nat.le_of_ble_eq_true rfl) ⟨by decide, by decide⟩ dX2_putProduct_15 (fun q3 _ => ?_)
  refine r_istore (al' := [some (zr g), some (zi p1), some (zi p2), some (zi p3), some (zi q3.1), none, none, none, none]) C dX2_putProduct_18 (by rw [hn]; decide) rfl ?_
  refine r_aload_n C dX2_putProduct_20 rfl rfl ?_
  refine r_getp C clX2 (kd_g0 hg) (k := 1) (by decide) flX2_9 dX2_putProduct_21 (pt_g0_1 hg) ?_
  refine r_iload_n C dX2_putProduct_24 rfl rfl ?_
  refine r_iaload C dX2_putProduct_25 (fun v4 _ => ?_)
  refine r_i2l C dX2_putProduct_26 ?_
  refine r_aload_n C dX2_putProduct_27 rfl rfl ?_
  refine r_getp C clX2 (kd_g0 hg) (k := 2) (by decide) flX2_15 dX2_putProduct_28 (pt_g0_2 hg) ?_
  refine r_iload_n C dX2_putProduct_31 rfl rfl ?_
  refine r_iaload C dX2_putProduct_32 (fun v5 _ => ?_)
  refine r_i2l C dX2_putProduct_33 ?_
  refine r_lmul C dX2_putProduct_34 ?_
  refine q_callNi (av := [zl (w64 (v4 * v5))]) (rest := []) C (tX11_held (w64 (v4 * v5)) q3.2) lkX2_68 rfl rfl (Nat.le_of_ble_eq_true rfl) ⟨by decide, by decide⟩ dX2_putProduct_35 (fun q6 _ => ?_)
  refine r_istore (al' := [some (zr g), some (zi p1), some (zi p2), some (zi p3), some (zi q3.1), some (zi q6.1), none, none, none]) C dX2_putProduct_38 (by rw [hn]; decide) rfl ?_
  refine r_aload_n C dX2_putProduct_40 rfl rfl ?_
  refine r_getp C clX2 (kd_g0 hg) (k := 2) (by decide) flX2_15 dX2_putProduct_41 (pt_g0_2 hg) ?_
  refine r_iload_n C dX2_putProduct_44 rfl rfl ?_
  refine r_iaload C dX2_putProduct_45 (fun v7 _ => ?_)
  refine r_i2l C dX2_putProduct_46 ?_
  refine r_aload_n C dX2_putProduct_47 rfl rfl ?_
  refine r_getp C clX2 (kd_g0 hg) (k := 1) (by decide) flX2_9 dX2_putProduct_48 (pt_g0_1 hg) ?_
  refine r_iload_n C dX2_putProduct_51 rfl rfl ?_
  refine r_iaload C dX2_putProduct_52 (fun v8 _ => ?_)
  refine r_i2l C dX2_putProduct_53 ?_
  refine r_lmul C dX2_putProduct_54 ?_
  refine q_callNi (av := [zl (w64 (v7 * v8))]) (rest := []) C (tX11_held (w64 (v7 * v8)) q6.2) lkX2_68 rfl rfl (Nat.le_of_ble_eq_true rfl) ⟨by decide, by decide⟩ dX2_putProduct_55 (fun q9 _ => ?_)
  refine r_istore (al' := [some (zr g), some (zi p1), some (zi p2), some (zi p3), some (zi q3.1), some (zi q6.1), some (zi q9.1), none, none]) C dX2_putProduct_58 (by rw [hn]; decide) rfl ?_
  refine r_aload_n C dX2_putProduct_60 rfl rfl ?_
  refine r_getp C clX2 (kd_g0 hg) (k := 2) (by decide) flX2_15 dX2_putProduct_61 (pt_g0_2 hg) ?_
  refine r_iload_n C dX2_putProduct_64 rfl rfl ?_
  refine r_iaload C dX2_putProduct_65 (fun v10 _ => ?_)
  refine r_i2l C dX2_putProduct_66 ?_
  refine r_aload_n C dX2_putProduct_67 rfl rfl ?_
  refine r_getp C clX2 (kd_g0 hg) (k := 2) (by decide) flX2_15 dX2_putProduct_68 (pt_g0_2 hg) ?_
  refine r_iload_n C dX2_putProduct_71 rfl rfl ?_
  refine r_iaload C dX2_putProduct_72 (fun v11 _ => ?_)
  refine r_i2l C dX2_putProduct_73 ?_
  refine r_lmul C dX2_putProduct_74 ?_
  refine q_callNi (av := [zl (w64 (v10 * v11))]) (rest := []) C (tX11_held (w64 (v10 * v11)) q9.2) lkX2_68 rfl rfl (Nat.le_of_ble_eq_true rfl) ⟨by decide, by decide⟩ dX2_putProduct_75 (fun q12 _ => ?_)
  refine r_istore (al' := [some (zr g), some (zi p1), some (zi p2), some (zi p3), some (zi q3.1), some (zi q6.1), some (zi q9.1), some (zi q12.1), none]) C dX2_putProduct_78 (by rw [hn]; decide) rfl ?_
  refine r_iload C dX2_putProduct_80 rfl ?_
  refine r_iload C dX2_putProduct_82 rfl ?_
  refine r_imin C mmin_iX2_59 jm_mini_1 jm_mini_2 jm_mini_3 (by decide) (Nat.le_of_ble_eq_true rfl) dX2_putProduct_84 ?_
  refine r_iload C dX2_putProduct_87 rfl ?_
  refine r_iload C dX2_putProduct_89 rfl ?_
  refine r_imin C mmin_iX2_59 jm_mini_1 jm_mini_2 jm_mini_3 (by decide) (Nat.le_of_ble_eq_true rfl) dX2_putProduct_91 ?_
  refine r_imin C mmin_iX2_59 jm_mini_1 jm_mini_2 jm_mini_3 (by decide) (Nat.le_of_ble_eq_true rfl) dX2_putProduct_94 ?_
  refine r_let (fun v13 _ => ?_)
  refine r_istore (al' := [some (zr g), some (zi p1), some (zi p2), some (zi p3), some (zi q3.1), some (zi q6.1), some (zi q9.1), some (zi q12.1), some (zi v13)]) C dX2_putProduct_97 (by rw [hn]; decide) rfl ?_
  refine r_aload_n C dX2_putProduct_99 rfl rfl ?_
  refine r_iload_n C dX2_putProduct_100 rfl rfl ?_
  refine r_iload C dX2_putProduct_101 rfl ?_
  refine r_iload C dX2_putProduct_103 rfl ?_
  refine r_iload C dX2_putProduct_105 rfl ?_
  refine r_imax C mmax_iX2_65 jm_maxi_1 jm_maxi_2 jm_maxi_3 (by decide) (Nat.le_of_ble_eq_true rfl) dX2_putProduct_107 ?_
  refine r_iload C dX2_putProduct_110 rfl ?_
  refine r_iload C dX2_putProduct_112 rfl ?_
  refine r_imax C mmax_iX2_65 jm_maxi_1 jm_maxi_2 jm_maxi_3 (by decide) (Nat.le_of_ble_eq_true rfl) dX2_putProduct_114 ?_
  refine r_imax C mmax_iX2_65 jm_maxi_1 jm_maxi_2 jm_maxi_3 (by decide) (Nat.le_of_ble_eq_true rfl) dX2_putProduct_117 ?_
  refine q_callVv (av := [zi p1, zi v13, zi (imax (imax q3.1 q6.1) (imax q9.1 q12.1))]) (rest := []) C (tX2_put g hg p1 v13 (imax (imax q3.1 q6.1) (imax q9.1 q12.1)) q12.2) lkX2_37 (kd_g0 hg) rfl rfl rfl (Nat.le_of_ble_eq_true rfl) ⟨by decide, by decide⟩ dX2_putProduct_120 (fun q14 _ => ?_)
  exact r_return C dX2_putProduct_123 rfl
set_option maxRecDepth 100000 in
set_option maxHeartbeats 4000000 in
theorem tX2_putFlag (g : Nat) (hg : g = 62 ∨ g = 88) (p1 : Int) (p2 : Int) (p3 : Int) (M : Mem) : Cn yX2_putFlag cX2_putFlag 4 none 1 23 [zr g, zi p1, zi p2, zi p3] M ((fX2_putFlag g p1 p2 p3 M).map oU) := by
  refine Cn_mk (own := RX2) rfl (by decide) (Nat.le_of_ble_eq_true rfl) [some (zr g), some (zi p1), some (zi p2), some (zi p3)] rfl (fun G C hn => ?_)
  unfold fX2_putFlag
  refine r_aload_n C dX2_putFlag_0 rfl rfl ?_
  refine r_iload_n C dX2_putFlag_1 rfl rfl ?_
  refine r_iload_n C dX2_putFlag_2 rfl rfl ?_
  refine r_join (γ := Int) (pcJ := fun _ => 11) (al' := fun q1 => [none, none, none, some (zi p3)]) (st' := fun q1 => [zi q1, zi p1, zr g]) (M' := fun q1 => M) ?_ ?_
  · intro q1
    refine r_iload_n C dX2_putFlag_11 rfl rfl ?_
    refine r_join (γ := Int) (pcJ := fun _ => 20) (al' := fun q2 => [none, none, none, none]) (st' := fun q2 => [zi q2, zi q1, zi p1, zr g]) (M' := fun q2 => M) ?_ ?_
    · intro q2
      refine q_callVv (av := [zi p1, zi q1, zi q2]) (rest := []) C (tX2_put g hg p1 q1 q2 M) lkX2_37 (kd_g0 hg) rfl rfl rfl (Nat.le_of_ble_eq_true rfl) ⟨by decide, by decide⟩ dX2_putFlag_20 (fun q3 _ => ?_)
      exact r_return C dX2_putFlag_23 rfl
    · intro hJq2
      refine q_if_eq (tgt := 19) C dX2_putFlag_12 (by decide) (fun _ => ?_) (fun _ => ?_)
      · refine r_iconst C dX2_putFlag_19 (by decide) ?_
        refine r_less [false, false, false, false] rfl ?_
        exact hJq2 1
      · refine r_iconst C dX2_putFlag_15 (by decide) ?_
        refine r_goto (tgt := 20) C dX2_putFlag_16 (by decide) ?_
        refine r_less [false, false, false, false] rfl ?_
        exact hJq2 0
  · intro hJq1
    refine q_if_eq (tgt := 10) C dX2_putFlag_3 (by decide) (fun _ => ?_) (fun _ => ?_)
    · refine r_iconst C dX2_putFlag_10 (by decide) ?_
      refine r_less [false, false, false, true] rfl ?_
      exact hJq1 0
    · refine r_iconst C dX2_putFlag_6 (by decide) ?_
      refine r_goto (tgt := 11) C dX2_putFlag_7 (by decide) ?_
      refine r_less [false, false, false, true] rfl ?_
      exact hJq1 1
set_option maxRecDepth 100000 in
set_option maxHeartbeats 4000000 in
theorem tX2_putPair (g : Nat) (hg : g = 62 ∨ g = 88) (p1 : Int) (p2 : Int) (p3 : Int) (M : Mem) : Cn yX2_putPair cX2_putPair 9 none 3 68 [zr g, zi p1, zi p2, zi p3] M ((fX2_putPair g p1 p2 p3 M).map oU) := by
  refine Cn_mk (own := RX2) rfl (by decide) (Nat.le_of_ble_eq_true rfl) [some (zr g), some (zi p1), some (zi p2), some (zi p3), none, none, none, none, none] rfl (fun G C hn => ?_)
  unfold fX2_putPair
  refine r_aload_n C dX2_putPair_0 rfl rfl ?_
  refine r_getp C clX2 (kd_g0 hg) (k := 1) (by decide) flX2_9 dX2_putPair_1 (pt_g0_1 hg) ?_
  refine r_iload_n C dX2_putPair_4 rfl rfl ?_
  refine r_iaload C dX2_putPair_5 (fun v1 _ => ?_)
  refine r_istore (al' := [some (zr g), some (zi p1), some (zi p2), some (zi p3), some (zi v1), none, none, none, none]) C dX2_putPair_6 (by rw [hn]; decide) rfl ?_
  refine r_aload_n C dX2_putPair_8 rfl rfl ?_
  refine r_getp C clX2 (kd_g0 hg) (k := 2) (by decide) flX2_15 dX2_putPair_9 (pt_g0_2 hg) ?_
  refine r_iload_n C dX2_putPair_12 rfl rfl ?_
  refine r_iaload C dX2_putPair_13 (fun v2 _ => ?_)
  refine r_istore (al' := [some (zr g), some (zi p1), some (zi p2), some (zi p3), some (zi v1), some (zi v2), none, none, none]) C dX2_putPair_14 (by rw [hn]; decide) rfl ?_
  refine r_aload_n C dX2_putPair_16 rfl rfl ?_
  refine r_getp C clX2 (kd_g0 hg) (k := 1) (by decide) flX2_9 dX2_putPair_17 (pt_g0_1 hg) ?_
  refine r_iload_n C dX2_putPair_20 rfl rfl ?_
  refine r_iaload C dX2_putPair_21 (fun v3 _ => ?_)
  refine r_istore (al' := [some (zr g), some (zi p1), some (zi p2), some (zi p3), some (zi v1), some (zi v2), some (zi v3), none, none]) C dX2_putPair_22 (by rw [hn]; decide) rfl ?_
  refine r_aload_n C dX2_putPair_24 rfl rfl ?_
  refine r_getp C clX2 (kd_g0 hg) (k := 2) (by decide) flX2_15 dX2_putPair_25 (pt_g0_2 hg) ?_
  refine r_iload_n C dX2_putPair_28 rfl rfl ?_
  refine r_iaload C dX2_putPair_29 (fun v4 _ => ?_)
  refine r_istore (al' := [some (zr g), some (zi p1), some (zi p2), some (zi p3), some (zi v1), some (zi v2), some (zi v3), some (zi v4), none]) C dX2_putPair_30 (by rw [hn]; decide) rfl ?_
  refine r_aload_n C dX2_putPair_32 rfl rfl ?_
  refine r_getp C clX2 (kd_g0 hg) (k := 0) (by decide) flX2_21 dX2_putPair_33 (pt_g0_0 hg) ?_
  refine r_getp C clX9 kd_44 (k := 1) (by decide) flX2_34 dX2_putPair_36 pt_44_1 ?_
  refine r_iload_n C dX2_putPair_39 rfl rfl ?_
  refine r_iaload C dX2_putPair_40 (fun v5 _ => ?_)
  refine r_join (γ := Mem) (pcJ := fun _ => 295) (al' := fun q21 => [none, none, none, none, none, none, none, none, none]) (st' := fun q21 => []) (M' := fun q21 => q21) ?_ ?_
  · intro q21
    exact r_return C dX2_putPair_295 rfl
  · intro hJq21
    refine r_ite (fun hx0 => ?_) (fun hx0 => ?_)
    · refine r_sw 96 ?_ (fun J => ?_)
      · refine r_aload_n C dX2_putPair_96 rfl rfl ?_
        refine r_iload_n C dX2_putPair_97 rfl rfl ?_
        refine r_iload C dX2_putPair_98 rfl ?_
        refine r_i2l C dX2_putPair_100 ?_
        refine r_iload C dX2_putPair_101 rfl ?_
        refine r_i2l C dX2_putPair_103 ?_
        refine r_ladd C dX2_putPair_104 ?_
        refine q_callNi (av := [zl (w64 (v1 + v3))]) (rest := [zi p1, zr g]) C (tX11_held (w64 (v1 + v3)) M) lkX2_68 rfl rfl (Nat.le_of_ble_eq_true rfl) ⟨by decide, by decide⟩ dX2_putPair_105 (fun q6 _ => ?_)
        refine r_iload C dX2_putPair_108 rfl ?_
        refine r_i2l C dX2_putPair_110 ?_
        refine r_iload C dX2_putPair_111 rfl ?_
        refine r_i2l C dX2_putPair_113 ?_
        refine r_ladd C dX2_putPair_114 ?_
        refine q_callNi (av := [zl (w64 (v2 + v4))]) (rest := [zi q6.1, zi p1, zr g]) C (tX11_held (w64 (v2 + v4)) q6.2) lkX2_68 rfl rfl (Nat.le_of_ble_eq_true rfl) ⟨by decide, by decide⟩ dX2_putPair_115 (fun q7 _ => ?_)
        refine q_callVv (av := [zi p1, zi q6.1, zi q7.1]) (rest := []) C (tX2_put g hg p1 q6.1 q7.1 q7.2) lkX2_37 (kd_g0 hg) rfl rfl rfl (Nat.le_of_ble_eq_true rfl) ⟨by decide, by decide⟩ dX2_putPair_118 (fun q8 _ => ?_)
        refine r_goto (tgt := 295) C dX2_putPair_121 (by decide) ?_
        refine r_less [false, false, false, false, false, false, false, false, false] rfl ?_
        exact hJq21 q8
      · skip
        exact r_tabIn (n := 2) C dX2_putPair_41 hx0 (by decide) (by decide) rfl (by decide) J
    refine r_ite (fun hx1 => ?_) (fun hx1 => ?_)
    · refine r_sw 124 ?_ (fun J => ?_)
      · refine r_aload_n C dX2_putPair_124 rfl rfl ?_
        refine r_iload_n C dX2_putPair_125 rfl rfl ?_
        refine r_iload C dX2_putPair_126 rfl ?_
        refine r_i2l C dX2_putPair_128 ?_
        refine r_iload C dX2_putPair_129 rfl ?_
        refine r_i2l C dX2_putPair_131 ?_
        refine r_lsub C dX2_putPair_132 ?_
        refine q_callNi (av := [zl (w64 (v1 - v4))]) (rest := [zi p1, zr g]) C (tX11_held (w64 (v1 - v4)) M) lkX2_68 rfl rfl (Nat.le_of_ble_eq_true rfl) ⟨by decide, by decide⟩ dX2_putPair_133 (fun q9 _ => ?_)
        refine r_iload C dX2_putPair_136 rfl ?_
        refine r_i2l C dX2_putPair_138 ?_
        refine r_iload C dX2_putPair_139 rfl ?_
        refine r_i2l C dX2_putPair_141 ?_
        refine r_lsub C dX2_putPair_142 ?_
        refine q_callNi (av := [zl (w64 (v2 - v3))]) (rest := [zi q9.1, zi p1, zr g]) C (tX11_held (w64 (v2 - v3)) q9.2) lkX2_68 rfl rfl (Nat.le_of_ble_eq_true rfl) ⟨by decide, by decide⟩ dX2_putPair_143 (fun q10 _ => ?_)
        refine q_callVv (av := [zi p1, zi q9.1, zi q10.1]) (rest := []) C (tX2_put g hg p1 q9.1 q10.1 q10.2) lkX2_37 (kd_g0 hg) rfl rfl rfl (Nat.le_of_ble_eq_true rfl) ⟨by decide, by decide⟩ dX2_putPair_146 (fun q11 _ => ?_)
        refine r_goto (tgt := 295) C dX2_putPair_149 (by decide) ?_
        refine r_less [false, false, false, false, false, false, false, false, false] rfl ?_
        exact hJq21 q11
      · skip
        exact r_tabIn (n := 3) C dX2_putPair_41 hx1 (by decide) (by decide) rfl (by decide) J
    refine r_ite (fun hx2 => ?_) (fun hx2 => ?_)
    · refine r_sw 152 ?_ (fun J => ?_)
      · refine r_aload_n C dX2_putPair_152 rfl rfl ?_
        refine r_iload_n C dX2_putPair_153 rfl rfl ?_
        refine r_iload_n C dX2_putPair_154 rfl rfl ?_
        refine r_iload_n C dX2_putPair_155 rfl rfl ?_
        refine q_callVv (av := [zi p1, zi p2, zi p3]) (rest := []) C (tX2_putProduct g hg p1 p2 p3 M) lkX2_72 (kd_g0 hg) rfl rfl rfl (Nat.le_of_ble_eq_true rfl) ⟨by decide, by decide⟩ dX2_putPair_156 (fun q12 _ => ?_)
        refine r_goto (tgt := 295) C dX2_putPair_159 (by decide) ?_
        refine r_less [false, false, false, false, false, false, false, false, false] rfl ?_
        exact hJq21 q12
      · skip
        exact r_tabIn (n := 4) C dX2_putPair_41 hx2 (by decide) (by decide) rfl (by decide) J
    refine r_ite (fun hx3 => ?_) (fun hx3 => ?_)
    · refine r_sw 162 ?_ (fun J => ?_)
      · refine r_aload_n C dX2_putPair_162 rfl rfl ?_
        refine r_iload_n C dX2_putPair_163 rfl rfl ?_
        refine r_iload C dX2_putPair_164 rfl ?_
        refine r_iload C dX2_putPair_166 rfl ?_
        refine r_imin C mmin_iX2_59 jm_mini_1 jm_mini_2 jm_mini_3 (by decide) (Nat.le_of_ble_eq_true rfl) dX2_putPair_168 ?_
        refine r_iload C dX2_putPair_171 rfl ?_
        refine r_iload C dX2_putPair_173 rfl ?_
        refine r_imin C mmin_iX2_59 jm_mini_1 jm_mini_2 jm_mini_3 (by decide) (Nat.le_of_ble_eq_true rfl) dX2_putPair_175 ?_
        refine q_callVv (av := [zi p1, zi (imin v1 v3), zi (imin v2 v4)]) (rest := []) C (tX2_put g hg p1 (imin v1 v3) (imin v2 v4) M) lkX2_37 (kd_g0 hg) rfl rfl rfl (Nat.le_of_ble_eq_true rfl) ⟨by decide, by decide⟩ dX2_putPair_178 (fun q13 _ => ?_)
        refine r_goto (tgt := 295) C dX2_putPair_181 (by decide) ?_
        refine r_less [false, false, false, false, false, false, false, false, false] rfl ?_
        exact hJq21 q13
      · rcases hx3 with hx3 | hx3
        · exact r_tabIn (n := 5) C dX2_putPair_41 hx3 (by decide) (by decide) rfl (by decide) J
        · exact r_tabIn (n := 10) C dX2_putPair_41 hx3 (by decide) (by decide) rfl (by decide) J
    refine r_ite (fun hx4 => ?_) (fun hx4 => ?_)
    · refine r_sw 184 ?_ (fun J => ?_)
      · refine r_aload_n C dX2_putPair_184 rfl rfl ?_
        refine r_iload_n C dX2_putPair_185 rfl rfl ?_
        refine r_iload C dX2_putPair_186 rfl ?_
        refine r_iload C dX2_putPair_188 rfl ?_
        refine r_imax C mmax_iX2_65 jm_maxi_1 jm_maxi_2 jm_maxi_3 (by decide) (Nat.le_of_ble_eq_true rfl) dX2_putPair_190 ?_
        refine r_iload C dX2_putPair_193 rfl ?_
        refine r_iload C dX2_putPair_195 rfl ?_
        refine r_imax C mmax_iX2_65 jm_maxi_1 jm_maxi_2 jm_maxi_3 (by decide) (Nat.le_of_ble_eq_true rfl) dX2_putPair_197 ?_
        refine q_callVv (av := [zi p1, zi (imax v1 v3), zi (imax v2 v4)]) (rest := []) C (tX2_put g hg p1 (imax v1 v3) (imax v2 v4) M) lkX2_37 (kd_g0 hg) rfl rfl rfl (Nat.le_of_ble_eq_true rfl) ⟨by decide, by decide⟩ dX2_putPair_200 (fun q14 _ => ?_)
        refine r_goto (tgt := 295) C dX2_putPair_203 (by decide) ?_
        refine r_less [false, false, false, false, false, false, false, false, false] rfl ?_
        exact hJq21 q14
      · rcases hx4 with hx4 | hx4
        · exact r_tabIn (n := 6) C dX2_putPair_41 hx4 (by decide) (by decide) rfl (by decide) J
        · exact r_tabIn (n := 11) C dX2_putPair_41 hx4 (by decide) (by decide) rfl (by decide) J
    refine r_ite (fun hx5 => ?_) (fun hx5 => ?_)
    · refine r_sw 206 ?_ (fun J => ?_)
      · refine r_aload_n C dX2_putPair_206 rfl rfl ?_
        refine r_iload_n C dX2_putPair_207 rfl rfl ?_
        refine r_iload C dX2_putPair_208 rfl ?_
        refine r_iload C dX2_putPair_210 rfl ?_
        refine r_join (γ := Int) (pcJ := fun _ => 220) (al' := fun q15 => [none, none, none, none, some (zi v1), none, none, some (zi v4), none]) (st' := fun q15 => [zi q15, zi p1, zr g]) (M' := fun q15 => M) ?_ ?_
        · intro q15
          refine r_iload C dX2_putPair_220 rfl ?_
          refine r_iload C dX2_putPair_222 rfl ?_
          refine r_join (γ := Int) (pcJ := fun _ => 232) (al' := fun q16 => [none, none, none, none, none, none, none, none, none]) (st' := fun q16 => [zi q16, zi q15, zi p1, zr g]) (M' := fun q16 => M) ?_ ?_
          · intro q16
            refine q_callVv (av := [zi p1, zi q15, zi q16]) (rest := []) C (tX2_putFlag g hg p1 q15 q16 M) lkX2_75 (kd_g0 hg) rfl rfl rfl (Nat.le_of_ble_eq_true rfl) ⟨by decide, by decide⟩ dX2_putPair_232 (fun q17 _ => ?_)
            refine r_goto (tgt := 295) C dX2_putPair_235 (by decide) ?_
            exact hJq21 q17
          · intro hJq16
            refine q_icmp_lt (tgt := 231) C dX2_putPair_224 (by decide) (fun _ => ?_) (fun _ => ?_)
            · refine r_iconst C dX2_putPair_231 (by decide) ?_
              refine r_less [false, false, false, false, false, false, false, false, false] rfl ?_
              exact hJq16 0
            · refine r_iconst C dX2_putPair_227 (by decide) ?_
              refine r_goto (tgt := 232) C dX2_putPair_228 (by decide) ?_
              refine r_less [false, false, false, false, false, false, false, false, false] rfl ?_
              exact hJq16 1
        · intro hJq15
          refine q_icmp_ge (tgt := 219) C dX2_putPair_212 (by decide) (fun _ => ?_) (fun _ => ?_)
          · refine r_iconst C dX2_putPair_219 (by decide) ?_
            refine r_less [false, false, false, false, true, false, false, true, false] rfl ?_
            exact hJq15 0
          · refine r_iconst C dX2_putPair_215 (by decide) ?_
            refine r_goto (tgt := 220) C dX2_putPair_216 (by decide) ?_
            refine r_less [false, false, false, false, true, false, false, true, false] rfl ?_
            exact hJq15 1
      · skip
        exact r_tabIn (n := 8) C dX2_putPair_41 hx5 (by decide) (by decide) rfl (by decide) J
    refine r_ite (fun hx6 => ?_) (fun hx6 => ?_)
    · refine r_sw 238 ?_ (fun J => ?_)
      · refine r_iload C dX2_putPair_238 rfl ?_
        refine r_iload C dX2_putPair_240 rfl ?_
        refine r_join (γ := Int) (pcJ := fun _ => 264) (al' := fun q18 => [some (zr g), some (zi p1), none, none, some (zi v1), some (zi v2), some (zi v3), some (zi v4), none]) (st' := fun q18 => [zi q18]) (M' := fun q18 => M) ?_ ?_
        · intro q18
          refine r_istore (al' := [some (zr g), some (zi p1), none, none, some (zi v1), some (zi v2), some (zi v3), some (zi v4), some (zi q18)]) C dX2_putPair_264 (by rw [hn]; decide) rfl ?_
          refine r_aload_n C dX2_putPair_266 rfl rfl ?_
          refine r_iload_n C dX2_putPair_267 rfl rfl ?_
          refine r_iload C dX2_putPair_268 rfl ?_
          refine r_iload C dX2_putPair_270 rfl ?_
          refine r_iload C dX2_putPair_272 rfl ?_
          refine r_join (γ := Int) (pcJ := fun _ => 289) (al' := fun q19 => [none, none, none, none, none, none, none, none, none]) (st' := fun q19 => [zi q19, zi q18, zi p1, zr g]) (M' := fun q19 => M) ?_ ?_
          · intro q19
            refine q_callVv (av := [zi p1, zi q18, zi q19]) (rest := []) C (tX2_putFlag g hg p1 q18 q19 M) lkX2_75 (kd_g0 hg) rfl rfl rfl (Nat.le_of_ble_eq_true rfl) ⟨by decide, by decide⟩ dX2_putPair_289 (fun q20 _ => ?_)
            refine r_goto (tgt := 295) C dX2_putPair_292 (by decide) ?_
            exact hJq21 q20
          · intro hJq19
            refine q_icmp_lt (tgt := 284) C dX2_putPair_274 (by decide) (fun _ => ?_) (fun _ => ?_)
            · refine r_iconst C dX2_putPair_284 (by decide) ?_
              refine r_goto (tgt := 289) C dX2_putPair_285 (by decide) ?_
              refine r_less [false, false, false, false, false, false, false, false, false] rfl ?_
              exact hJq19 1
            · refine r_iload C dX2_putPair_277 rfl ?_
              refine r_iload C dX2_putPair_279 rfl ?_
              refine q_icmp_ge (tgt := 288) C dX2_putPair_281 (by decide) (fun _ => ?_) (fun _ => ?_)
              · refine r_iconst C dX2_putPair_288 (by decide) ?_
                refine r_less [false, false, false, false, false, false, false, false, false] rfl ?_
                exact hJq19 0
              · refine r_iconst C dX2_putPair_284 (by decide) ?_
                refine r_goto (tgt := 289) C dX2_putPair_285 (by decide) ?_
                refine r_less [false, false, false, false, false, false, false, false, false] rfl ?_
                exact hJq19 1
        · intro hJq18
          refine q_icmp_ne (tgt := 263) C dX2_putPair_242 (by decide) (fun _ => ?_) (fun _ => ?_)
          · refine r_iconst C dX2_putPair_263 (by decide) ?_
            refine r_less [true, true, false, false, true, true, true, true, false] rfl ?_
            exact hJq18 0
          · refine r_iload C dX2_putPair_245 rfl ?_
            refine r_iload C dX2_putPair_247 rfl ?_
            refine q_icmp_ne (tgt := 263) C dX2_putPair_249 (by decide) (fun _ => ?_) (fun _ => ?_)
            · refine r_iconst C dX2_putPair_263 (by decide) ?_
              refine r_less [true, true, false, false, true, true, true, true, false] rfl ?_
              exact hJq18 0
            · refine r_iload C dX2_putPair_252 rfl ?_
              refine r_iload C dX2_putPair_254 rfl ?_
              refine q_icmp_ne (tgt := 263) C dX2_putPair_256 (by decide) (fun _ => ?_) (fun _ => ?_)
              · refine r_iconst C dX2_putPair_263 (by decide) ?_
                refine r_less [true, true, false, false, true, true, true, true, false] rfl ?_
                exact hJq18 0
              · refine r_iconst C dX2_putPair_259 (by decide) ?_
                refine r_goto (tgt := 264) C dX2_putPair_260 (by decide) ?_
                refine r_less [true, true, false, false, true, true, true, true, false] rfl ?_
                exact hJq18 1
      · skip
        exact r_tabIn (n := 9) C dX2_putPair_41 hx6 (by decide) (by decide) rfl (by decide) J
    refine r_sw 295 ?_ (fun J => ?_)
    · refine r_less [false, false, false, false, false, false, false, false, false] rfl ?_
      exact hJq21 M
    · skip
      by_cases hh : v5 = 7
      · exact r_tabIn (n := 7) C dX2_putPair_41 hh (by decide) (by decide) rfl (by decide) J
      exact r_tabOut C dX2_putPair_41 (by omega) (by decide) J
set_option maxRecDepth 100000 in
set_option maxHeartbeats 4000000 in
theorem tX2_isLow (g : Nat) (hg : g = 62 ∨ g = 88) (p1 : Int) (M : Mem) : Cn yX2_isLow cX2_isLow 2 (some .boolean) 0 0 [zr g, zi p1] M ((fX2_isLow g p1 M).map oI) := by
  refine Cn_mk (own := RX2) rfl (by decide) (Nat.le_of_ble_eq_true rfl) [some (zr g), some (zi p1)] rfl (fun G C hn => ?_)
  unfold fX2_isLow
  refine r_aload_n C dX2_isLow_0 rfl rfl ?_
  refine r_getp C clX2 (kd_g0 hg) (k := 0) (by decide) flX2_21 dX2_isLow_1 (pt_g0_0 hg) ?_
  refine r_getp C clX9 kd_44 (k := 3) (by decide) flX2_48 dX2_isLow_4 pt_44_3 ?_
  refine r_iload_n C dX2_isLow_7 rfl rfl ?_
  refine r_zaload C dX2_isLow_8 (fun v1 _ => ?_)
  refine r_join (γ := Int) (pcJ := fun _ => 41) (al' := fun q4 => [none, none]) (st' := fun q4 => [zi q4]) (M' := fun q4 => M) ?_ ?_
  · intro q4
    exact r_zreturn C dX2_isLow_41 rfl
  · intro hJq4
    refine q_if_ne (tgt := 40) C dX2_isLow_9 (by decide) (fun _ => ?_) (fun _ => ?_)
    · refine r_iconst C dX2_isLow_40 (by decide) ?_
      refine r_less [false, false] rfl ?_
      exact hJq4 0
    · refine r_aload_n C dX2_isLow_12 rfl rfl ?_
      refine r_getp C clX2 (kd_g0 hg) (k := 1) (by decide) flX2_9 dX2_isLow_13 (pt_g0_1 hg) ?_
      refine r_iload_n C dX2_isLow_16 rfl rfl ?_
      refine r_iaload C dX2_isLow_17 (fun v2 _ => ?_)
      refine r_sipush C dX2_isLow_18 (by decide) ?_
      refine q_icmp_lt (tgt := 40) C dX2_isLow_21 (by decide) (fun _ => ?_) (fun _ => ?_)
      · refine r_iconst C dX2_isLow_40 (by decide) ?_
        refine r_less [false, false] rfl ?_
        exact hJq4 0
      · refine r_aload_n C dX2_isLow_24 rfl rfl ?_
        refine r_getp C clX2 (kd_g0 hg) (k := 2) (by decide) flX2_15 dX2_isLow_25 (pt_g0_2 hg) ?_
        refine r_iload_n C dX2_isLow_28 rfl rfl ?_
        refine r_iaload C dX2_isLow_29 (fun v3 _ => ?_)
        refine r_sipush C dX2_isLow_30 (by decide) ?_
        refine q_icmp_gt (tgt := 40) C dX2_isLow_33 (by decide) (fun _ => ?_) (fun _ => ?_)
        · refine r_iconst C dX2_isLow_40 (by decide) ?_
          refine r_less [false, false] rfl ?_
          exact hJq4 0
        · refine r_iconst C dX2_isLow_36 (by decide) ?_
          refine r_goto (tgt := 41) C dX2_isLow_37 (by decide) ?_
          refine r_less [false, false] rfl ?_
          exact hJq4 1
set_option maxRecDepth 100000 in
set_option maxHeartbeats 4000000 in
theorem tX2_reckon (g : Nat) (hg : g = 62 ∨ g = 88) (M : Mem) : Cn yX2_reckon cX2_reckon 6 none 4 96 [zr g, zr 52, zr 53] M ((fX2_reckon g M).map oU) := by
  refine Cn_mk (own := RX2) rfl (by decide) (Nat.le_of_ble_eq_true rfl) [some (zr g), some (zr 52), some (zr 53), none, none, none] rfl (fun G C hn => ?_)
  unfold fX2_reckon
  refine r_iconst C dX2_reckon_0 (by decide) ?_
  refine r_istore_n (al' := [some (zr g), some (zr 52), some (zr 53), some (zi 0), none, none]) C dX2_reckon_1 rfl (by rw [hn]; decide) rfl ?_
  refine r_lp (S := Int × Mem) (R := Mem) (pcX := 257) (AL := fun s1 => [some (zr g), some (zr 52), some (zr 53), some (zi s1.1), none, none]) (MM := fun s1 => s1.2) (AX := fun q21 => [none, none, none, none, none, none]) (MX := fun q21 => q21) ?_ ?_ (0, M)
  · intro q21
    exact r_return C dX2_reckon_257 rfl
  · intro gs1 hCs1 hXs1 s1
    unfold fX2_reckon_b1
    refine r_iload_n C dX2_reckon_2 rfl rfl ?_
    refine r_aload_n C dX2_reckon_3 rfl rfl ?_
    refine r_getp C clX2 (kd_g0 hg) (k := 0) (by decide) flX2_21 dX2_reckon_4 (pt_g0_0 hg) ?_
    refine q_geti C clX9 kd_44 (k := 0) (by decide) flX2_25 dX2_reckon_7 (kz := 0) rfl (by decide) ?_
    refine q_icmp_ge (tgt := 257) C dX2_reckon_10 (by decide) (fun _ => ?_) (fun _ => ?_)
    · refine r_less [false, false, false, false, false, false] rfl ?_
      exact hXs1 s1.2
    · refine r_aload_n C dX2_reckon_13 rfl rfl ?_
      refine r_getp C clX2 (kd_g0 hg) (k := 0) (by decide) flX2_21 dX2_reckon_14 (pt_g0_0 hg) ?_
      refine r_getp C clX9 kd_44 (k := 2) (by decide) flX2_31 dX2_reckon_17 pt_44_2 ?_
      refine r_iconst C dX2_reckon_20 (by decide) ?_
      refine r_iload_n C dX2_reckon_21 rfl rfl ?_
      refine r_imul C dX2_reckon_22 ?_
      refine r_iaload C dX2_reckon_23 (fun v2 _ => ?_)
      refine r_istore (al' := [some (zr g), some (zr 52), some (zr 53), some (zi s1.1), some (zi v2), none]) C dX2_reckon_24 (by rw [hn]; decide) rfl ?_
      refine r_aload_n C dX2_reckon_26 rfl rfl ?_
      refine r_getp C clX2 (kd_g0 hg) (k := 0) (by decide) flX2_21 dX2_reckon_27 (pt_g0_0 hg) ?_
      refine r_getp C clX9 kd_44 (k := 2) (by decide) flX2_31 dX2_reckon_30 pt_44_2 ?_
      refine r_iconst C dX2_reckon_33 (by decide) ?_
      refine r_iload_n C dX2_reckon_34 rfl rfl ?_
      refine r_imul C dX2_reckon_35 ?_
      refine r_iconst C dX2_reckon_36 (by decide) ?_
      refine r_iadd C dX2_reckon_37 ?_
      refine r_iaload C dX2_reckon_38 (fun v3 _ => ?_)
      refine r_istore (al' := [some (zr g), some (zr 52), some (zr 53), some (zi s1.1), some (zi v2), some (zi v3)]) C dX2_reckon_39 (by rw [hn]; decide) rfl ?_
      refine r_aload_n C dX2_reckon_41 rfl rfl ?_
      refine r_getp C clX2 (kd_g0 hg) (k := 0) (by decide) flX2_21 dX2_reckon_42 (pt_g0_0 hg) ?_
      refine r_getp C clX9 kd_44 (k := 1) (by decide) flX2_34 dX2_reckon_45 pt_44_1 ?_
      refine r_iload_n C dX2_reckon_48 rfl rfl ?_
      refine r_iaload C dX2_reckon_49 (fun v4 _ => ?_)
      refine r_join (γ := Mem) (pcJ := fun _ => 220) (al' := fun q16 => [some (zr g), some (zr 52), some (zr 53), some (zi s1.1), none, none]) (st' := fun q16 => []) (M' := fun q16 => q16) ?_ ?_
      · intro q16
        refine r_aload_n C dX2_reckon_220 rfl rfl ?_
        refine r_getp C clX2 (kd_g0 hg) (k := 3) (by decide) flX2_18 dX2_reckon_221 (pt_g0_3 hg) ?_
        refine r_iload_n C dX2_reckon_224 rfl rfl ?_
        refine r_aload_n C dX2_reckon_225 rfl rfl ?_
        refine r_getp C clX2 (kd_g0 hg) (k := 0) (by decide) flX2_21 dX2_reckon_226 (pt_g0_0 hg) ?_
        refine r_getp C clX9 kd_44 (k := 3) (by decide) flX2_48 dX2_reckon_229 pt_44_3 ?_
        refine r_iload_n C dX2_reckon_232 rfl rfl ?_
        refine r_zaload C dX2_reckon_233 (fun v17 _ => ?_)
        refine r_join (γ := Int × Mem) (pcJ := fun _ => 250) (al' := fun q19 => [some (zr g), some (zr 52), some (zr 53), some (zi s1.1), none, none]) (st' := fun q19 => [zi q19.1, zi s1.1, zr (g + 3)]) (M' := fun q19 => q19.2) ?_ ?_
        · intro q19
          refine r_iastore C dX2_reckon_250 (fun M20 _ => ?_)
          refine r_iinc (al' := [some (zr g), some (zr 52), some (zr 53), some (zi (w32 (s1.1 + 1))), none, none]) C dX2_reckon_251 rfl (by rw [hn]; decide) rfl ?_
          refine r_goto (tgt := 2) C dX2_reckon_254 (by decide) ?_
          exact hCs1 (w32 (s1.1 + 1), M20)
        · intro hJq19
          refine q_if_ne (tgt := 245) C dX2_reckon_234 (by decide) (fun _ => ?_) (fun _ => ?_)
          · refine r_iconst C dX2_reckon_245 (by decide) ?_
            refine r_goto (tgt := 250) C dX2_reckon_246 (by decide) ?_
            exact hJq19 (1, q16)
          · refine r_aload_n C dX2_reckon_237 rfl rfl ?_
            refine r_iload_n C dX2_reckon_238 rfl rfl ?_
            refine q_callVi (av := [zi s1.1]) (rest := [zi s1.1, zr (g + 3)]) C (tX2_isLow g hg s1.1 q16) lkX2_52 (kd_g0 hg) rfl rfl rfl (Nat.le_of_ble_eq_true rfl) ⟨by decide, by decide⟩ dX2_reckon_239 (fun q18 _ => ?_)
            refine q_if_eq (tgt := 249) C dX2_reckon_242 (by decide) (fun _ => ?_) (fun _ => ?_)
            · refine r_iconst C dX2_reckon_249 (by decide) ?_
              exact hJq19 (2, q18.2)
            · refine r_iconst C dX2_reckon_245 (by decide) ?_
              refine r_goto (tgt := 250) C dX2_reckon_246 (by decide) ?_
              exact hJq19 (1, q18.2)
      · intro hJq16
        refine r_ite (fun hx0 => ?_) (fun hx0 => ?_)
        · refine r_sw 120 ?_ (fun J => ?_)
          · refine r_aload_n C dX2_reckon_120 rfl rfl ?_
            refine r_iload_n C dX2_reckon_121 rfl rfl ?_
            refine r_aload_n C dX2_reckon_122 rfl rfl ?_
            refine r_iload C dX2_reckon_123 rfl ?_
            refine r_iaload C dX2_reckon_125 (fun v5 _ => ?_)
            refine r_aload_n C dX2_reckon_126 rfl rfl ?_
            refine r_iload C dX2_reckon_127 rfl ?_
            refine r_iaload C dX2_reckon_129 (fun v6 _ => ?_)
            refine q_callVv (av := [zi s1.1, zi v5, zi v6]) (rest := []) C (tX2_put g hg s1.1 v5 v6 s1.2) lkX2_37 (kd_g0 hg) rfl rfl rfl (Nat.le_of_ble_eq_true rfl) ⟨by decide, by decide⟩ dX2_reckon_130 (fun q7 _ => ?_)
            refine r_goto (tgt := 220) C dX2_reckon_133 (by decide) ?_
            refine r_less [true, true, true, true, false, false] rfl ?_
            exact hJq16 q7
          · skip
            exact r_tabIn (n := 0) C dX2_reckon_50 hx0 (by decide) (by decide) rfl (by decide) J
        refine r_ite (fun hx1 => ?_) (fun hx1 => ?_)
        · refine r_sw 136 ?_ (fun J => ?_)
          · refine r_aload_n C dX2_reckon_136 rfl rfl ?_
            refine r_iload_n C dX2_reckon_137 rfl rfl ?_
            refine r_iload C dX2_reckon_138 rfl ?_
            refine r_iload C dX2_reckon_140 rfl ?_
            refine q_callVv (av := [zi s1.1, zi v2, zi v2]) (rest := []) C (tX2_put g hg s1.1 v2 v2 s1.2) lkX2_37 (kd_g0 hg) rfl rfl rfl (Nat.le_of_ble_eq_true rfl) ⟨by decide, by decide⟩ dX2_reckon_142 (fun q8 _ => ?_)
            refine r_goto (tgt := 220) C dX2_reckon_145 (by decide) ?_
            refine r_less [true, true, true, true, false, false] rfl ?_
            exact hJq16 q8
          · skip
            exact r_tabIn (n := 1) C dX2_reckon_50 hx1 (by decide) (by decide) rfl (by decide) J
        refine r_ite (fun hx2 => ?_) (fun hx2 => ?_)
        · refine r_sw 148 ?_ (fun J => ?_)
          · refine r_aload_n C dX2_reckon_148 rfl rfl ?_
            refine r_iload_n C dX2_reckon_149 rfl rfl ?_
            refine r_iconst C dX2_reckon_150 (by decide) ?_
            refine r_sipush C dX2_reckon_151 (by decide) ?_
            refine q_callVv (av := [zi s1.1, zi 0, zi 999]) (rest := []) C (tX2_put g hg s1.1 0 999 s1.2) lkX2_37 (kd_g0 hg) rfl rfl rfl (Nat.le_of_ble_eq_true rfl) ⟨by decide, by decide⟩ dX2_reckon_154 (fun q9 _ => ?_)
            refine r_goto (tgt := 220) C dX2_reckon_157 (by decide) ?_
            refine r_less [true, true, true, true, false, false] rfl ?_
            exact hJq16 q9
          · skip
            exact r_tabIn (n := 7) C dX2_reckon_50 hx2 (by decide) (by decide) rfl (by decide) J
        refine r_ite (fun hx3 => ?_) (fun hx3 => ?_)
        · refine r_sw 160 ?_ (fun J => ?_)
          · refine r_aload_n C dX2_reckon_160 rfl rfl ?_
            refine r_iload_n C dX2_reckon_161 rfl rfl ?_
            refine r_iconst C dX2_reckon_162 (by decide) ?_
            refine r_aload_n C dX2_reckon_163 rfl rfl ?_
            refine r_getp C clX2 (kd_g0 hg) (k := 2) (by decide) flX2_15 dX2_reckon_164 (pt_g0_2 hg) ?_
            refine r_iload C dX2_reckon_167 rfl ?_
            refine r_iaload C dX2_reckon_169 (fun v10 _ => ?_)
            refine r_isub C dX2_reckon_170 ?_
            refine r_iconst C dX2_reckon_171 (by decide) ?_
            refine r_aload_n C dX2_reckon_172 rfl rfl ?_
            refine r_getp C clX2 (kd_g0 hg) (k := 1) (by decide) flX2_9 dX2_reckon_173 (pt_g0_1 hg) ?_
            refine r_iload C dX2_reckon_176 rfl ?_
            refine r_iaload C dX2_reckon_178 (fun v11 _ => ?_)
            refine r_isub C dX2_reckon_179 ?_
            refine q_callVv (av := [zi s1.1, zi (w32 (1 - v10)), zi (w32 (1 - v11))]) (rest := []) C (tX2_put g hg s1.1 (w32 (1 - v10)) (w32 (1 - v11)) s1.2) lkX2_37 (kd_g0 hg) rfl rfl rfl (Nat.le_of_ble_eq_true rfl) ⟨by decide, by decide⟩ dX2_reckon_180 (fun q12 _ => ?_)
            refine r_goto (tgt := 220) C dX2_reckon_183 (by decide) ?_
            refine r_less [true, true, true, true, false, false] rfl ?_
            exact hJq16 q12
          · skip
            exact r_tabIn (n := 12) C dX2_reckon_50 hx3 (by decide) (by decide) rfl (by decide) J
        refine r_ite (fun hx4 => ?_) (fun hx4 => ?_)
        · refine r_sw 186 ?_ (fun J => ?_)
          · refine r_aload_n C dX2_reckon_186 rfl rfl ?_
            refine r_iload_n C dX2_reckon_187 rfl rfl ?_
            refine r_iload C dX2_reckon_188 rfl ?_
            refine r_iload C dX2_reckon_190 rfl ?_
            refine r_aload_n C dX2_reckon_192 rfl rfl ?_
            refine r_getp C clX2 (kd_g0 hg) (k := 0) (by decide) flX2_21 dX2_reckon_193 (pt_g0_0 hg) ?_
            refine r_getp C clX9 kd_44 (k := 2) (by decide) flX2_31 dX2_reckon_196 pt_44_2 ?_
            refine r_iconst C dX2_reckon_199 (by decide) ?_
            refine r_iload_n C dX2_reckon_200 rfl rfl ?_
            refine r_imul C dX2_reckon_201 ?_
            refine r_iconst C dX2_reckon_202 (by decide) ?_
            refine r_iadd C dX2_reckon_203 ?_
            refine r_iaload C dX2_reckon_204 (fun v13 _ => ?_)
            refine q_callVv (av := [zi s1.1, zi v2, zi v3, zi v13]) (rest := []) C (tX2_putPick g hg s1.1 v2 v3 v13 s1.2) lkX2_41 (kd_g0 hg) rfl rfl rfl (Nat.le_of_ble_eq_true rfl) ⟨by decide, by decide⟩ dX2_reckon_205 (fun q14 _ => ?_)
            refine r_goto (tgt := 220) C dX2_reckon_208 (by decide) ?_
            refine r_less [true, true, true, true, false, false] rfl ?_
            exact hJq16 q14
          · skip
            exact r_tabIn (n := 13) C dX2_reckon_50 hx4 (by decide) (by decide) rfl (by decide) J
        refine r_sw 211 ?_ (fun J => ?_)
        · refine r_aload_n C dX2_reckon_211 rfl rfl ?_
          refine r_iload_n C dX2_reckon_212 rfl rfl ?_
          refine r_iload C dX2_reckon_213 rfl ?_
          refine r_iload C dX2_reckon_215 rfl ?_
          refine q_callVv (av := [zi s1.1, zi v2, zi v3]) (rest := []) C (tX2_putPair g hg s1.1 v2 v3 s1.2) lkX2_45 (kd_g0 hg) rfl rfl rfl (Nat.le_of_ble_eq_true rfl) ⟨by decide, by decide⟩ dX2_reckon_217 (fun q15 _ => ?_)
          refine r_less [true, true, true, true, false, false] rfl ?_
          exact hJq16 q15
        · skip
          by_cases hh : v4 = 2
          · exact r_tabIn (n := 2) C dX2_reckon_50 hh (by decide) (by decide) rfl (by decide) J
          by_cases hh : v4 = 3
          · exact r_tabIn (n := 3) C dX2_reckon_50 hh (by decide) (by decide) rfl (by decide) J
          by_cases hh : v4 = 4
          · exact r_tabIn (n := 4) C dX2_reckon_50 hh (by decide) (by decide) rfl (by decide) J
          by_cases hh : v4 = 5
          · exact r_tabIn (n := 5) C dX2_reckon_50 hh (by decide) (by decide) rfl (by decide) J
          by_cases hh : v4 = 6
          · exact r_tabIn (n := 6) C dX2_reckon_50 hh (by decide) (by decide) rfl (by decide) J
          by_cases hh : v4 = 8
          · exact r_tabIn (n := 8) C dX2_reckon_50 hh (by decide) (by decide) rfl (by decide) J
          by_cases hh : v4 = 9
          · exact r_tabIn (n := 9) C dX2_reckon_50 hh (by decide) (by decide) rfl (by decide) J
          by_cases hh : v4 = 10
          · exact r_tabIn (n := 10) C dX2_reckon_50 hh (by decide) (by decide) rfl (by decide) J
          by_cases hh : v4 = 11
          · exact r_tabIn (n := 11) C dX2_reckon_50 hh (by decide) (by decide) rfl (by decide) J
          exact r_tabOut C dX2_reckon_50 (by omega) (by decide) J
set_option maxRecDepth 100000 in
set_option maxHeartbeats 4000000 in
theorem tX5_findStandsFor (g : Nat) (hg : g = 62 ∨ g = 88) (p1 : Int) (M : Mem) : Cn yX5_findStandsFor cX5_findStandsFor 4 none 1 21 [zr (g + 4), zi p1] M ((fX5_findStandsFor g p1 M).map oU) := by
  refine Cn_mk (own := RX5) rfl (by decide) (Nat.le_of_ble_eq_true rfl) [some (zr (g + 4)), some (zi p1), none, none] rfl (fun G C hn => ?_)
  unfold fX5_findStandsFor
  refine r_aload_n C dX5_findStandsFor_0 rfl rfl ?_
  refine r_getp C clX5 (kd_g4 hg) (k := 0) (by decide) flX5_37 dX5_findStandsFor_1 (pt_g4_0 hg) ?_
  refine r_getp C clX9 kd_44 (k := 2) (by decide) flX5_71 dX5_findStandsFor_4 pt_44_2 ?_
  refine r_iconst C dX5_findStandsFor_7 (by decide) ?_
  refine r_iload_n C dX5_findStandsFor_8 rfl rfl ?_
  refine r_imul C dX5_findStandsFor_9 ?_
  refine r_iaload C dX5_findStandsFor_10 (fun v1 _ => ?_)
  refine r_istore_n (al' := [some (zr (g + 4)), some (zi p1), some (zi v1), none]) C dX5_findStandsFor_11 rfl (by rw [hn]; decide) rfl ?_
  refine r_aload_n C dX5_findStandsFor_12 rfl rfl ?_
  refine r_getp C clX5 (kd_g4 hg) (k := 2) (by decide) flX5_9 dX5_findStandsFor_13 (pt_g4_2 hg) ?_
  refine r_iload_n C dX5_findStandsFor_16 rfl rfl ?_
  refine r_iload_n C dX5_findStandsFor_17 rfl rfl ?_
  refine r_iastore C dX5_findStandsFor_18 (fun M2 _ => ?_)
  refine r_aload_n C dX5_findStandsFor_19 rfl rfl ?_
  refine r_getp C clX5 (kd_g4 hg) (k := 0) (by decide) flX5_37 dX5_findStandsFor_20 (pt_g4_0 hg) ?_
  refine r_getp C clX9 kd_44 (k := 1) (by decide) flX5_74 dX5_findStandsFor_23 pt_44_1 ?_
  refine r_iload_n C dX5_findStandsFor_26 rfl rfl ?_
  refine r_iaload C dX5_findStandsFor_27 (fun v3 _ => ?_)
  refine r_bipush C dX5_findStandsFor_28 (by decide) ?_
  refine r_join (γ := Mem) (pcJ := fun _ => 98) (al' := fun q11 => [none, none, none, none]) (st' := fun q11 => []) (M' := fun q11 => q11) ?_ ?_
  · intro q11
    exact r_return C dX5_findStandsFor_98 rfl
  · intro hJq11
    refine q_icmp_ne (tgt := 98) C dX5_findStandsFor_30 (by decide) (fun _ => ?_) (fun _ => ?_)
    · refine r_less [false, false, false, false] rfl ?_
      exact hJq11 M2
    · refine r_aload_n C dX5_findStandsFor_33 rfl rfl ?_
      refine r_getp C clX5 (kd_g4 hg) (k := 1) (by decide) flX5_41 dX5_findStandsFor_34 (pt_g4_1 hg) ?_
      refine r_iload_n C dX5_findStandsFor_37 rfl rfl ?_
      refine q_callVi (av := [zi p1]) (rest := []) C (tX2_isKnown g hg p1 M2) lkX5_77 (kd_g0 hg) rfl rfl rfl (Nat.le_of_ble_eq_true rfl) ⟨by decide, by decide⟩ dX5_findStandsFor_38 (fun q4 _ => ?_)
      refine q_if_ne (tgt := 98) C dX5_findStandsFor_41 (by decide) (fun _ => ?_) (fun _ => ?_)
      · refine r_less [false, false, false, false] rfl ?_
        exact hJq11 q4.2
      · refine r_aload_n C dX5_findStandsFor_44 rfl rfl ?_
        refine r_getp C clX5 (kd_g4 hg) (k := 1) (by decide) flX5_41 dX5_findStandsFor_45 (pt_g4_1 hg) ?_
        refine r_iload_n C dX5_findStandsFor_48 rfl rfl ?_
        refine q_callVi (av := [zi v1]) (rest := []) C (tX2_isKnown g hg v1 q4.2) lkX5_77 (kd_g0 hg) rfl rfl rfl (Nat.le_of_ble_eq_true rfl) ⟨by decide, by decide⟩ dX5_findStandsFor_49 (fun q5 _ => ?_)
        refine q_if_eq (tgt := 98) C dX5_findStandsFor_52 (by decide) (fun _ => ?_) (fun _ => ?_)
        · refine r_less [false, false, false, false] rfl ?_
          exact hJq11 q5.2
        · refine r_aload_n C dX5_findStandsFor_55 rfl rfl ?_
          refine r_getp C clX5 (kd_g4 hg) (k := 1) (by decide) flX5_41 dX5_findStandsFor_56 (pt_g4_1 hg) ?_
          refine r_getp C clX2 (kd_g0 hg) (k := 1) (by decide) flX5_83 dX5_findStandsFor_59 (pt_g0_1 hg) ?_
          refine r_iload_n C dX5_findStandsFor_62 rfl rfl ?_
          refine r_iaload C dX5_findStandsFor_63 (fun v6 _ => ?_)
          refine r_iconst C dX5_findStandsFor_64 (by decide) ?_
          refine r_join (γ := Int) (pcJ := fun _ => 73) (al' := fun q7 => [some (zr (g + 4)), some (zi p1), none, none]) (st' := fun q7 => [zi q7]) (M' := fun q7 => q5.2) ?_ ?_
          · intro q7
            refine r_istore_n (al' := [some (zr (g + 4)), some (zi p1), none, some (zi q7)]) C dX5_findStandsFor_73 rfl (by rw [hn]; decide) rfl ?_
            refine r_aload_n C dX5_findStandsFor_74 rfl rfl ?_
            refine r_getp C clX5 (kd_g4 hg) (k := 2) (by decide) flX5_9 dX5_findStandsFor_75 (pt_g4_2 hg) ?_
            refine r_iload_n C dX5_findStandsFor_78 rfl rfl ?_
            refine r_aload_n C dX5_findStandsFor_79 rfl rfl ?_
            refine r_getp C clX5 (kd_g4 hg) (k := 2) (by decide) flX5_9 dX5_findStandsFor_80 (pt_g4_2 hg) ?_
            refine r_aload_n C dX5_findStandsFor_83 rfl rfl ?_
            refine r_getp C clX5 (kd_g4 hg) (k := 0) (by decide) flX5_37 dX5_findStandsFor_84 (pt_g4_0 hg) ?_
            refine r_getp C clX9 kd_44 (k := 2) (by decide) flX5_71 dX5_findStandsFor_87 pt_44_2 ?_
            refine r_iconst C dX5_findStandsFor_90 (by decide) ?_
            refine r_iload_n C dX5_findStandsFor_91 rfl rfl ?_
            refine r_imul C dX5_findStandsFor_92 ?_
            refine r_iload_n C dX5_findStandsFor_93 rfl rfl ?_
            refine r_iadd C dX5_findStandsFor_94 ?_
            refine r_iaload C dX5_findStandsFor_95 (fun v8 _ => ?_)
            refine r_iaload C dX5_findStandsFor_96 (fun v9 _ => ?_)
            refine r_iastore C dX5_findStandsFor_97 (fun M10 _ => ?_)
            refine r_less [false, false, false, false] rfl ?_
            exact hJq11 M10
          · intro hJq7
            refine q_icmp_ne (tgt := 72) C dX5_findStandsFor_65 (by decide) (fun _ => ?_) (fun _ => ?_)
            · refine r_iconst C dX5_findStandsFor_72 (by decide) ?_
              refine r_less [true, true, false, false] rfl ?_
              exact hJq7 2
            · refine r_iconst C dX5_findStandsFor_68 (by decide) ?_
              refine r_goto (tgt := 73) C dX5_findStandsFor_69 (by decide) ?_
              refine r_less [true, true, false, false] rfl ?_
              exact hJq7 1
set_option maxRecDepth 100000 in
set_option maxHeartbeats 4000000 in
theorem tX5_findSources (g : Nat) (hg : g = 62 ∨ g = 88) (p1 : Int) (M : Mem) : Cn yX5_findSources cX5_findSources 5 none 1 21 [zr (g + 4), zi p1] M ((fX5_findSources g p1 M).map oU) := by
  refine Cn_mk (own := RX5) rfl (by decide) (Nat.le_of_ble_eq_true rfl) [some (zr (g + 4)), some (zi p1), none, none, none] rfl (fun G C hn => ?_)
  unfold fX5_findSources
  refine r_aload_n C dX5_findSources_0 rfl rfl ?_
  refine r_getp C clX5 (kd_g4 hg) (k := 6) (by decide) flX5_18 dX5_findSources_1 (pt_g4_6 hg) ?_
  refine r_iload_n C dX5_findSources_4 rfl rfl ?_
  refine r_iconst C dX5_findSources_5 (by decide) ?_
  refine r_iastore C dX5_findSources_6 (fun M1 _ => ?_)
  refine r_aload_n C dX5_findSources_7 rfl rfl ?_
  refine r_getp C clX5 (kd_g4 hg) (k := 7) (by decide) flX5_21 dX5_findSources_8 (pt_g4_7 hg) ?_
  refine r_iload_n C dX5_findSources_11 rfl rfl ?_
  refine r_lconst C dX5_findSources_12 rfl ?_
  refine r_lastore C dX5_findSources_13 (fun M2 _ => ?_)
  refine r_aload_n C dX5_findSources_14 rfl rfl ?_
  refine r_getp C clX5 (kd_g4 hg) (k := 9) (by decide) flX5_28 dX5_findSources_15 (pt_g4_9 hg) ?_
  refine r_iload_n C dX5_findSources_18 rfl rfl ?_
  refine r_lconst C dX5_findSources_19 rfl ?_
  refine r_lastore C dX5_findSources_20 (fun M3 _ => ?_)
  refine r_iconst C dX5_findSources_21 (by decide) ?_
  refine r_istore_n (al' := [some (zr (g + 4)), some (zi p1), some (zi 0), none, none]) C dX5_findSources_22 rfl (by rw [hn]; decide) rfl ?_
  refine r_lp (S := Int × Mem) (R := Mem) (pcX := 159) (AL := fun s4 => [some (zr (g + 4)), some (zi p1), some (zi s4.1), none, none]) (MM := fun s4 => s4.2) (AX := fun q22 => [none, none, none, none, none]) (MX := fun q22 => q22) ?_ ?_ (0, M3)
  · intro q22
    exact r_return C dX5_findSources_159 rfl
  · intro gs4 hCs4 hXs4 s4
    unfold fX5_findSources_b1
    refine r_iload_n C dX5_findSources_23 rfl rfl ?_
    refine r_aload_n C dX5_findSources_24 rfl rfl ?_
    refine r_getp C clX5 (kd_g4 hg) (k := 0) (by decide) flX5_37 dX5_findSources_25 (pt_g4_0 hg) ?_
    refine r_getp C clX9 kd_44 (k := 1) (by decide) flX5_74 dX5_findSources_28 pt_44_1 ?_
    refine r_iload_n C dX5_findSources_31 rfl rfl ?_
    refine r_iaload C dX5_findSources_32 (fun v5 _ => ?_)
    refine q_callNi (av := [zi v5]) (rest := [zi s4.1]) C (tX11_argsOf v5 s4.2) lkX5_86 rfl rfl (Nat.le_of_ble_eq_true rfl) ⟨by decide, by decide⟩ dX5_findSources_33 (fun q6 _ => ?_)
    refine q_icmp_ge (tgt := 159) C dX5_findSources_36 (by decide) (fun _ => ?_) (fun _ => ?_)
    · refine r_less [false, false, false, false, false] rfl ?_
      exact hXs4 q6.2
    · refine r_aload_n C dX5_findSources_39 rfl rfl ?_
      refine r_getp C clX5 (kd_g4 hg) (k := 2) (by decide) flX5_9 dX5_findSources_40 (pt_g4_2 hg) ?_
      refine r_aload_n C dX5_findSources_43 rfl rfl ?_
      refine r_getp C clX5 (kd_g4 hg) (k := 0) (by decide) flX5_37 dX5_findSources_44 (pt_g4_0 hg) ?_
      refine r_getp C clX9 kd_44 (k := 2) (by decide) flX5_71 dX5_findSources_47 pt_44_2 ?_
      refine r_iconst C dX5_findSources_50 (by decide) ?_
      refine r_iload_n C dX5_findSources_51 rfl rfl ?_
      refine r_imul C dX5_findSources_52 ?_
      refine r_iload_n C dX5_findSources_53 rfl rfl ?_
      refine r_iadd C dX5_findSources_54 ?_
      refine r_iaload C dX5_findSources_55 (fun v7 _ => ?_)
      refine r_iaload C dX5_findSources_56 (fun v8 _ => ?_)
      refine r_istore_n (al' := [some (zr (g + 4)), some (zi p1), some (zi s4.1), some (zi v8), none]) C dX5_findSources_57 rfl (by rw [hn]; decide) rfl ?_
      refine r_aload_n C dX5_findSources_58 rfl rfl ?_
      refine r_getp C clX5 (kd_g4 hg) (k := 7) (by decide) flX5_21 dX5_findSources_59 (pt_g4_7 hg) ?_
      refine r_iload_n C dX5_findSources_62 rfl rfl ?_
      refine r_laload C dX5_findSources_63 (fun v9 _ => ?_)
      refine r_iload_n C dX5_findSources_64 rfl rfl ?_
      refine r_lushr C dX5_findSources_65 ?_
      refine r_lconst C dX5_findSources_66 rfl ?_
      refine r_land C dX5_findSources_67 ?_
      refine r_lconst C dX5_findSources_68 rfl ?_
      refine r_lcmp C dX5_findSources_69 ?_
      refine r_join (γ := Int) (pcJ := fun _ => 78) (al' := fun q10 => [some (zr (g + 4)), some (zi p1), some (zi s4.1), some (zi v8), none]) (st' := fun q10 => [zi q10]) (M' := fun q10 => q6.2) ?_ ?_
      · intro q10
        refine r_istore (al' := [some (zr (g + 4)), some (zi p1), some (zi s4.1), some (zi v8), some (zi q10)]) C dX5_findSources_78 (by rw [hn]; decide) rfl ?_
        refine r_iload C dX5_findSources_80 rfl ?_
        refine r_join (γ := Mem) (pcJ := fun _ => 153) (al' := fun q21 => [some (zr (g + 4)), some (zi p1), some (zi s4.1), none, none]) (st' := fun q21 => []) (M' := fun q21 => q21) ?_ ?_
        · intro q21
          refine r_iinc (al' := [some (zr (g + 4)), some (zi p1), some (zi (w32 (s4.1 + 1))), none, none]) C dX5_findSources_153 rfl (by rw [hn]; decide) rfl ?_
          refine r_goto (tgt := 23) C dX5_findSources_156 (by decide) ?_
          exact hCs4 (w32 (s4.1 + 1), q21)
        · intro hJq21
          refine q_if_ne (tgt := 153) C dX5_findSources_82 (by decide) (fun _ => ?_) (fun _ => ?_)
          · refine r_less [true, true, true, false, false] rfl ?_
            exact hJq21 q6.2
          · refine r_aload_n C dX5_findSources_85 rfl rfl ?_
            refine r_getp C clX5 (kd_g4 hg) (k := 1) (by decide) flX5_41 dX5_findSources_86 (pt_g4_1 hg) ?_
            refine r_iload_n C dX5_findSources_89 rfl rfl ?_
            refine q_callVi (av := [zi v8]) (rest := []) C (tX2_isKnown g hg v8 q6.2) lkX5_77 (kd_g0 hg) rfl rfl rfl (Nat.le_of_ble_eq_true rfl) ⟨by decide, by decide⟩ dX5_findSources_90 (fun q11 _ => ?_)
            refine q_if_ne (tgt := 153) C dX5_findSources_93 (by decide) (fun _ => ?_) (fun _ => ?_)
            · refine r_less [true, true, true, false, false] rfl ?_
              exact hJq21 q11.2
            · refine r_aload_n C dX5_findSources_96 rfl rfl ?_
              refine r_getp C clX5 (kd_g4 hg) (k := 5) (by decide) flX5_15 dX5_findSources_97 (pt_g4_5 hg) ?_
              refine r_iconst C dX5_findSources_100 (by decide) ?_
              refine r_iload_n C dX5_findSources_101 rfl rfl ?_
              refine r_imul C dX5_findSources_102 ?_
              refine r_aload_n C dX5_findSources_103 rfl rfl ?_
              refine r_getp C clX5 (kd_g4 hg) (k := 6) (by decide) flX5_18 dX5_findSources_104 (pt_g4_6 hg) ?_
              refine r_iload_n C dX5_findSources_107 rfl rfl ?_
              refine r_iaload C dX5_findSources_108 (fun v12 _ => ?_)
              refine r_iadd C dX5_findSources_109 ?_
              refine r_iload_n C dX5_findSources_110 rfl rfl ?_
              refine r_iastore C dX5_findSources_111 (fun M13 _ => ?_)
              refine r_aload_n C dX5_findSources_112 rfl rfl ?_
              refine r_getp C clX5 (kd_g4 hg) (k := 6) (by decide) flX5_18 dX5_findSources_113 (pt_g4_6 hg) ?_
              refine r_iload_n C dX5_findSources_116 rfl rfl ?_
              refine r_dup2 C dX5_findSources_117 rfl rfl ?_
              refine r_iaload C dX5_findSources_118 (fun v14 _ => ?_)
              refine r_iconst C dX5_findSources_119 (by decide) ?_
              refine r_iadd C dX5_findSources_120 ?_
              refine r_iastore C dX5_findSources_121 (fun M15 _ => ?_)
              refine r_aload_n C dX5_findSources_122 rfl rfl ?_
              refine r_getp C clX5 (kd_g4 hg) (k := 7) (by decide) flX5_21 dX5_findSources_123 (pt_g4_7 hg) ?_
              refine r_iload_n C dX5_findSources_126 rfl rfl ?_
              refine r_dup2 C dX5_findSources_127 rfl rfl ?_
              refine r_laload C dX5_findSources_128 (fun v16 _ => ?_)
              refine r_lconst C dX5_findSources_129 rfl ?_
              refine r_iload_n C dX5_findSources_130 rfl rfl ?_
              refine r_lshl C dX5_findSources_131 ?_
              refine r_lor C dX5_findSources_132 ?_
              refine r_lastore C dX5_findSources_133 (fun M17 _ => ?_)
              refine r_aload_n C dX5_findSources_134 rfl rfl ?_
              refine r_getp C clX5 (kd_g4 hg) (k := 9) (by decide) flX5_28 dX5_findSources_135 (pt_g4_9 hg) ?_
              refine r_iload_n C dX5_findSources_138 rfl rfl ?_
              refine r_dup2 C dX5_findSources_139 rfl rfl ?_
              refine r_laload C dX5_findSources_140 (fun v18 _ => ?_)
              refine r_lconst C dX5_findSources_141 rfl ?_
              refine r_iload_n C dX5_findSources_142 rfl rfl ?_
              refine r_lshl C dX5_findSources_143 ?_
              refine r_aload_n C dX5_findSources_144 rfl rfl ?_
              refine r_getp C clX5 (kd_g4 hg) (k := 9) (by decide) flX5_28 dX5_findSources_145 (pt_g4_9 hg) ?_
              refine r_iload_n C dX5_findSources_148 rfl rfl ?_
              refine r_laload C dX5_findSources_149 (fun v19 _ => ?_)
              refine r_lor C dX5_findSources_150 ?_
              refine r_lor C dX5_findSources_151 ?_
              refine r_lastore C dX5_findSources_152 (fun M20 _ => ?_)
              refine r_less [true, true, true, false, false] rfl ?_
              exact hJq21 M20
      · intro hJq10
        refine q_if_eq (tgt := 77) C dX5_findSources_70 (by decide) (fun _ => ?_) (fun _ => ?_)
        · refine r_iconst C dX5_findSources_77 (by decide) ?_
          exact hJq10 0
        · refine r_iconst C dX5_findSources_73 (by decide) ?_
          refine r_goto (tgt := 78) C dX5_findSources_74 (by decide) ?_
          exact hJq10 1
set_option maxRecDepth 100000 in
set_option maxHeartbeats 4000000 in
theorem tX5_keepShown (g : Nat) (hg : g = 62 ∨ g = 88) (p1 : Int) (M : Mem) : Cn yX5_keepShown cX5_keepShown 4 none 1 21 [zr (g + 4), zi p1] M ((fX5_keepShown g p1 M).map oU) := by
  refine Cn_mk (own := RX5) rfl (by decide) (Nat.le_of_ble_eq_true rfl) [some (zr (g + 4)), some (zi p1), none, none] rfl (fun G C hn => ?_)
  unfold fX5_keepShown
  refine r_aload_n C dX5_keepShown_0 rfl rfl ?_
  refine r_lconst C dX5_keepShown_1 rfl ?_
  refine q_putl C clX5 (kd_g4 hg) (k := 4) (by decide) flX5_68 rfl dX5_keepShown_2 rfl rfl (fun M1 => ?_)
  refine r_iconst C dX5_keepShown_5 (by decide) ?_
  refine r_istore_n (al' := [some (zr (g + 4)), some (zi p1), some (zi 0), none]) C dX5_keepShown_6 rfl (by rw [hn]; decide) rfl ?_
  refine r_lp (S := Int × Mem) (R := Mem) (pcX := 72) (AL := fun s2 => [some (zr (g + 4)), some (zi p1), some (zi s2.1), none]) (MM := fun s2 => s2.2) (AX := fun q9 => [some (zr (g + 4)), none, none, none]) (MX := fun q9 => q9) ?_ ?_ (0, M1)
  · intro q9
    refine r_aload_n C dX5_keepShown_72 rfl rfl ?_
    refine r_aload_n C dX5_keepShown_73 rfl rfl ?_
    refine q_getl C clX5 (kd_g4 hg) (k := 4) (by decide) flX5_68 dX5_keepShown_74 (kz := 4) rfl rfl ?_
    refine q_putl C clX5 (kd_g4 hg) (k := 3) (by decide) flX5_64 rfl dX5_keepShown_77 rfl rfl (fun M10 => ?_)
    exact r_return C dX5_keepShown_80 rfl
  · intro gs2 hCs2 hXs2 s2
    unfold fX5_keepShown_b1
    refine r_iload_n C dX5_keepShown_7 rfl rfl ?_
    refine r_aload_n C dX5_keepShown_8 rfl rfl ?_
    refine r_getp C clX5 (kd_g4 hg) (k := 0) (by decide) flX5_37 dX5_keepShown_9 (pt_g4_0 hg) ?_
    refine q_geti C clX9 kd_44 (k := 5) (by decide) flX5_90 dX5_keepShown_12 (kz := 5) rfl (by decide) ?_
    refine q_icmp_ge (tgt := 72) C dX5_keepShown_15 (by decide) (fun _ => ?_) (fun _ => ?_)
    · refine r_less [true, false, false, false] rfl ?_
      exact hXs2 s2.2
    · refine r_aload_n C dX5_keepShown_18 rfl rfl ?_
      refine r_getp C clX5 (kd_g4 hg) (k := 2) (by decide) flX5_9 dX5_keepShown_19 (pt_g4_2 hg) ?_
      refine r_aload_n C dX5_keepShown_22 rfl rfl ?_
      refine r_getp C clX5 (kd_g4 hg) (k := 0) (by decide) flX5_37 dX5_keepShown_23 (pt_g4_0 hg) ?_
      refine r_getp C clX9 kd_44 (k := 6) (by decide) flX5_93 dX5_keepShown_26 pt_44_6 ?_
      refine r_iload_n C dX5_keepShown_29 rfl rfl ?_
      refine r_iaload C dX5_keepShown_30 (fun v3 _ => ?_)
      refine r_iaload C dX5_keepShown_31 (fun v4 _ => ?_)
      refine r_istore_n (al' := [some (zr (g + 4)), some (zi p1), some (zi s2.1), some (zi v4)]) C dX5_keepShown_32 rfl (by rw [hn]; decide) rfl ?_
      refine r_iload_n C dX5_keepShown_33 rfl rfl ?_
      refine r_iconst C dX5_keepShown_34 (by decide) ?_
      refine r_join (γ := Bool) (pcJ := fun q5 => if q5 = true then 43 else 66) (al' := fun q5 => [some (zr (g + 4)), some (zi p1), some (zi s2.1), some (zi v4)]) (st' := fun q5 => []) (M' := fun q5 => s2.2) ?_ ?_
      · intro q5
        refine r_join (γ := Mem) (pcJ := fun _ => 66) (al' := fun q8 => [some (zr (g + 4)), some (zi p1), some (zi s2.1), none]) (st' := fun q8 => []) (M' := fun q8 => q8) ?_ ?_
        · intro q8
          refine r_iinc (al' := [some (zr (g + 4)), some (zi p1), some (zi (w32 (s2.1 + 1))), none]) C dX5_keepShown_66 rfl (by rw [hn]; decide) rfl ?_
          refine r_goto (tgt := 7) C dX5_keepShown_69 (by decide) ?_
          exact hCs2 (w32 (s2.1 + 1), q8)
        · intro hJq8
          refine r_itp (fun _ => ?_) (fun _ => ?_)
          · refine r_aload_n C dX5_keepShown_43 rfl rfl ?_
            refine r_getp C clX5 (kd_g4 hg) (k := 1) (by decide) flX5_41 dX5_keepShown_44 (pt_g4_1 hg) ?_
            refine r_iload_n C dX5_keepShown_47 rfl rfl ?_
            refine q_callVi (av := [zi v4]) (rest := []) C (tX2_isKnown g hg v4 s2.2) lkX5_77 (kd_g0 hg) rfl rfl rfl (Nat.le_of_ble_eq_true rfl) ⟨by decide, by decide⟩ dX5_keepShown_48 (fun q6 _ => ?_)
            refine q_if_ne (tgt := 66) C dX5_keepShown_51 (by decide) (fun _ => ?_) (fun _ => ?_)
            · refine r_less [true, true, true, false] rfl ?_
              exact hJq8 q6.2
            · refine r_aload_n C dX5_keepShown_54 rfl rfl ?_
              refine r_dup C dX5_keepShown_55 rfl ?_
              refine q_getl C clX5 (kd_g4 hg) (k := 4) (by decide) flX5_68 dX5_keepShown_56 (kz := 4) rfl rfl ?_
              refine r_lconst C dX5_keepShown_59 rfl ?_
              refine r_iload_n C dX5_keepShown_60 rfl rfl ?_
              refine r_lshl C dX5_keepShown_61 ?_
              refine r_lor C dX5_keepShown_62 ?_
              refine q_putl C clX5 (kd_g4 hg) (k := 4) (by decide) flX5_68 rfl dX5_keepShown_63 rfl rfl (fun M7 => ?_)
              refine r_less [true, true, true, false] rfl ?_
              exact hJq8 M7
          · refine r_less [true, true, true, false] rfl ?_
            exact hJq8 s2.2
      · intro hJq5
        refine q_icmp_eq (tgt := 43) C dX5_keepShown_35 (by decide) (fun _ => ?_) (fun _ => ?_)
        · exact hJq5 true
        · refine r_iload_n C dX5_keepShown_38 rfl rfl ?_
          refine r_iload_n C dX5_keepShown_39 rfl rfl ?_
          refine q_icmp_ne (tgt := 66) C dX5_keepShown_40 (by decide) (fun _ => ?_) (fun _ => ?_)
          · exact hJq5 false
          · exact hJq5 true
set_option maxRecDepth 100000 in
set_option maxHeartbeats 4000000 in
theorem tX5_isNeeded (g : Nat) (hg : g = 62 ∨ g = 88) (p1 : Int) (M : Mem) : Cn yX5_isNeeded cX5_isNeeded 2 (some .boolean) 0 0 [zr (g + 4), zi p1] M ((fX5_isNeeded g p1 M).map oI) := by
  refine Cn_mk (own := RX5) rfl (by decide) (Nat.le_of_ble_eq_true rfl) [some (zr (g + 4)), some (zi p1)] rfl (fun G C hn => ?_)
  unfold fX5_isNeeded
  refine r_aload_n C dX5_isNeeded_0 rfl rfl ?_
  refine q_getl C clX5 (kd_g4 hg) (k := 3) (by decide) flX5_64 dX5_isNeeded_1 (kz := 3) rfl rfl ?_
  refine r_iload_n C dX5_isNeeded_4 rfl rfl ?_
  refine r_lushr C dX5_isNeeded_5 ?_
  refine r_lconst C dX5_isNeeded_6 rfl ?_
  refine r_land C dX5_isNeeded_7 ?_
  refine r_lconst C dX5_isNeeded_8 rfl ?_
  refine r_lcmp C dX5_isNeeded_9 ?_
  refine r_join (γ := Int) (pcJ := fun _ => 18) (al' := fun q1 => [none, none]) (st' := fun q1 => [zi q1]) (M' := fun q1 => M) ?_ ?_
  · intro q1
    exact r_zreturn C dX5_isNeeded_18 rfl
  · intro hJq1
    refine q_if_eq (tgt := 17) C dX5_isNeeded_10 (by decide) (fun _ => ?_) (fun _ => ?_)
    · refine r_iconst C dX5_isNeeded_17 (by decide) ?_
      refine r_less [false, false] rfl ?_
      exact hJq1 0
    · refine r_iconst C dX5_isNeeded_13 (by decide) ?_
      refine r_goto (tgt := 18) C dX5_isNeeded_14 (by decide) ?_
      refine r_less [false, false] rfl ?_
      exact hJq1 1
