set_option maxRecDepth 100000 in
set_option maxHeartbeats 4000000 in
theorem tX8_put (p1 : Int) (M : Mem) : Cn yX8_put cX8_put 3 none 0 0 [zr 1, zi p1] M ((fX8_put p1 M).map oU) := by
  refine Cn_mk (own := RX8) rfl (by decide) (Nat.le_of_ble_eq_true rfl) [some (zr 1), some (zi p1), none] rfl (fun G C hn => ?_)
  unfold fX8_put
  refine r_iload_n C dX8_put_0 rfl rfl ?_
  refine r_bipush C dX8_put_1 (by decide) ?_
  refine r_join (γ := Int) (pcJ := fun _ => 23) (al' := fun q1 => [some (zr 1), some (zi p1), none]) (st' := fun q1 => [zi q1]) (M' := fun q1 => M) ?_ ?_
  · intro q1
    refine r_istore_n (al' := [some (zr 1), some (zi p1), some (zi q1)]) C dX8_put_23 rfl (by rw [hn]; decide) rfl ?_
    refine r_iload_n C dX8_put_24 rfl rfl ?_
    refine r_join (γ := Mem) (pcJ := fun _ => 59) (al' := fun q4 => [none, none, none]) (st' := fun q4 => []) (M' := fun q4 => q4) ?_ ?_
    · intro q4
      exact r_return C dX8_put_59 rfl
    · intro hJq4
      refine q_if_eq (tgt := 59) C dX8_put_25 (by decide) (fun _ => ?_) (fun _ => ?_)
      · refine r_less [false, false, false] rfl ?_
        exact hJq4 M
      · refine r_aload_n C dX8_put_28 rfl rfl ?_
        refine q_geti C clX8 kd_1 (k := 2) (by decide) flX8_33 dX8_put_29 (kz := 2) rfl (by decide) ?_
        refine r_sipush C dX8_put_32 (by decide) ?_
        refine q_icmp_ge (tgt := 59) C dX8_put_35 (by decide) (fun _ => ?_) (fun _ => ?_)
        · refine r_less [false, false, false] rfl ?_
          exact hJq4 M
        · refine r_aload_n C dX8_put_38 rfl rfl ?_
          refine r_getp C clX8 kd_1 (k := 0) (by decide) flX8_9 dX8_put_39 pt_1_0 ?_
          refine r_aload_n C dX8_put_42 rfl rfl ?_
          refine q_geti C clX8 kd_1 (k := 2) (by decide) flX8_33 dX8_put_43 (kz := 2) rfl (by decide) ?_
          refine r_iload_n C dX8_put_46 rfl rfl ?_
          refine r_i2b C dX8_put_47 ?_
          refine r_bastore C dX8_put_48 (fun M2 _ => ?_)
          refine r_aload_n C dX8_put_49 rfl rfl ?_
          refine r_dup C dX8_put_50 rfl ?_
          refine q_geti C clX8 kd_1 (k := 2) (by decide) flX8_33 dX8_put_51 (kz := 2) rfl (by decide) ?_
          refine r_iconst C dX8_put_54 (by decide) ?_
          refine r_iadd C dX8_put_55 ?_
          refine q_puti C clX8 kd_1 (k := 2) (by decide) flX8_33 rfl dX8_put_56 rfl rfl (fun M3 => ?_)
          refine r_less [false, false, false] rfl ?_
          exact hJq4 M3
  · intro hJq1
    refine q_icmp_eq (tgt := 18) C dX8_put_3 (by decide) (fun _ => ?_) (fun _ => ?_)
    · refine r_iconst C dX8_put_18 (by decide) ?_
      refine r_goto (tgt := 23) C dX8_put_19 (by decide) ?_
      exact hJq1 1
    · refine r_iload_n C dX8_put_6 rfl rfl ?_
      refine r_bipush C dX8_put_7 (by decide) ?_
      refine q_icmp_lt (tgt := 22) C dX8_put_9 (by decide) (fun _ => ?_) (fun _ => ?_)
      · refine r_iconst C dX8_put_22 (by decide) ?_
        exact hJq1 0
      · refine r_iload_n C dX8_put_12 rfl rfl ?_
        refine r_bipush C dX8_put_13 (by decide) ?_
        refine q_icmp_gt (tgt := 22) C dX8_put_15 (by decide) (fun _ => ?_) (fun _ => ?_)
        · refine r_iconst C dX8_put_22 (by decide) ?_
          exact hJq1 0
        · refine r_iconst C dX8_put_18 (by decide) ?_
          refine r_goto (tgt := 23) C dX8_put_19 (by decide) ?_
          exact hJq1 1
set_option maxRecDepth 100000 in
set_option maxHeartbeats 4000000 in
theorem tX11_feedEight (p1 : Int) (M : Mem) : Cn yX11_feedEight cX11_feedEight 4 none 1 22 [zr 0, zl p1] M ((fX11_feedEight p1 M).map oU) := by
  refine Cn_mk (own := RX11) rfl (by decide) (Nat.le_of_ble_eq_true rfl) [some (zr 0), some (zl p1), none, none] rfl (fun G C hn => ?_)
  unfold fX11_feedEight
  refine r_bipush C dX11_feedEight_0 (by decide) ?_
  refine r_istore_n (al' := [some (zr 0), some (zl p1), none, some (zi 56)]) C dX11_feedEight_2 rfl (by rw [hn]; decide) rfl ?_
  refine r_lp (S := Int × Mem) (R := Mem) (pcX := 28) (AL := fun s1 => [some (zr 0), some (zl p1), none, some (zi s1.1)]) (MM := fun s1 => s1.2) (AX := fun q3 => [none, none, none, none]) (MX := fun q3 => q3) ?_ ?_ (56, M)
  · intro q3
    exact r_return C dX11_feedEight_28 rfl
  · intro gs1 hCs1 hXs1 s1
    unfold fX11_feedEight_b1
    refine r_iload_n C dX11_feedEight_3 rfl rfl ?_
    refine q_if_lt (tgt := 28) C dX11_feedEight_4 (by decide) (fun _ => ?_) (fun _ => ?_)
    · refine r_less [false, false, false, false] rfl ?_
      exact hXs1 s1.2
    · refine r_aload_n C dX11_feedEight_7 rfl rfl ?_
      refine r_getp C clX11 kd_0 (k := 0) (by decide) flX11_14 dX11_feedEight_8 pt_0_0 ?_
      refine r_lload_n C dX11_feedEight_11 rfl rfl ?_
      refine r_iload_n C dX11_feedEight_12 rfl rfl ?_
      refine r_lushr C dX11_feedEight_13 ?_
      refine r_l2i C dX11_feedEight_14 ?_
      refine r_sipush C dX11_feedEight_15 (by decide) ?_
      refine r_iand C dX11_feedEight_18 ?_
      refine q_callVv (av := [zi (iand (w32 (lushr p1 s1.1)) 255)]) (rest := []) C (tX8_put (iand (w32 (lushr p1 s1.1)) 255) s1.2) lkX11_121 kd_1 rfl rfl rfl (Nat.le_of_ble_eq_true rfl) ⟨by decide, by decide⟩ dX11_feedEight_19 (fun q2 _ => ?_)
      refine r_iinc (al' := [some (zr 0), some (zl p1), none, some (zi (w32 (s1.1 + (-8))))]) C dX11_feedEight_22 rfl (by rw [hn]; decide) rfl ?_
      refine r_goto (tgt := 3) C dX11_feedEight_25 (by decide) ?_
      exact hCs1 (w32 (s1.1 + (-8)), q2)
set_option maxRecDepth 100000 in
set_option maxHeartbeats 4000000 in
theorem tX11_feed (p1 : Int) (p2 : Int) (p3 : Int) (M : Mem) : Cn yX11_feed cX11_feed 7 (some .int) 2 45 [zr 0, zl p1, zl p2, zl p3] M ((fX11_feed p1 p2 p3 M).map oI) := by
  refine Cn_mk (own := RX11) rfl (by decide) (Nat.le_of_ble_eq_true rfl) [some (zr 0), some (zl p1), none, some (zl p2), none, some (zl p3), none] rfl (fun G C hn => ?_)
  unfold fX11_feed
  refine r_aload_n C dX11_feed_0 rfl rfl ?_
  refine r_lload_n C dX11_feed_1 rfl rfl ?_
  refine q_callVv (av := [zl p1]) (rest := []) C (tX11_feedEight p1 M) lkX11_114 kd_0 rfl rfl rfl (Nat.le_of_ble_eq_true rfl) ⟨by decide, by decide⟩ dX11_feed_2 (fun q1 _ => ?_)
  refine r_aload_n C dX11_feed_5 rfl rfl ?_
  refine r_lload_n C dX11_feed_6 rfl rfl ?_
  refine q_callVv (av := [zl p2]) (rest := []) C (tX11_feedEight p2 q1) lkX11_114 kd_0 rfl rfl rfl (Nat.le_of_ble_eq_true rfl) ⟨by decide, by decide⟩ dX11_feed_7 (fun q2 _ => ?_)
  refine r_aload_n C dX11_feed_10 rfl rfl ?_
  refine r_lload C dX11_feed_11 rfl ?_
  refine q_callVv (av := [zl p3]) (rest := []) C (tX11_feedEight p3 q2) lkX11_114 kd_0 rfl rfl rfl (Nat.le_of_ble_eq_true rfl) ⟨by decide, by decide⟩ dX11_feed_13 (fun q3 _ => ?_)
  refine r_aload_n C dX11_feed_16 rfl rfl ?_
  refine r_getp C clX11 kd_0 (k := 0) (by decide) flX11_14 dX11_feed_17 pt_0_0 ?_
  refine q_geti C clX8 kd_1 (k := 2) (by decide) flX11_118 dX11_feed_20 (kz := 2) rfl (by decide) ?_
  exact r_ireturn C dX11_feed_23 rfl
set_option maxRecDepth 100000 in
set_option maxHeartbeats 4000000 in
theorem tX3_clear (t : Nat) (ht : t = 5 ∨ t = 119) (M : Mem) : Cn yX3_clear cX3_clear 1 none 0 0 [zr t] M ((fX3_clear t M).map oU) := by
  refine Cn_mk (own := RX3) rfl (by decide) (Nat.le_of_ble_eq_true rfl) [some (zr t)] rfl (fun G C hn => ?_)
  unfold fX3_clear
  refine r_aload_n C dX3_clear_0 rfl rfl ?_
  refine r_iconst C dX3_clear_1 (by decide) ?_
  refine q_puti C clX3 (kd_t0 ht) (k := 0) (by decide) flX3_56 rfl dX3_clear_2 rfl rfl (fun M1 => ?_)
  refine r_aload_n C dX3_clear_5 rfl rfl ?_
  refine r_iconst C dX3_clear_6 (by decide) ?_
  refine q_puti C clX3 (kd_t0 ht) (k := 10) (by decide) flX3_59 rfl dX3_clear_7 rfl rfl (fun M2 => ?_)
  refine r_aload_n C dX3_clear_10 rfl rfl ?_
  refine r_iconst C dX3_clear_11 (by decide) ?_
  refine q_puti C clX3 (kd_t0 ht) (k := 14) (by decide) flX3_49 rfl dX3_clear_12 rfl rfl (fun M3 => ?_)
  refine r_aload_n C dX3_clear_15 rfl rfl ?_
  refine r_bipush C dX3_clear_16 (by decide) ?_
  refine q_puti C clX3 (kd_t0 ht) (k := 15) (by decide) flX3_53 rfl dX3_clear_18 rfl rfl (fun M4 => ?_)
  refine r_aload_n C dX3_clear_21 rfl rfl ?_
  refine r_iconst C dX3_clear_22 (by decide) ?_
  refine q_puti C clX3 (kd_t0 ht) (k := 16) (by decide) flX3_62 rfl dX3_clear_23 rfl rfl (fun M5 => ?_)
  refine r_aload_n C dX3_clear_26 rfl rfl ?_
  refine r_iconst C dX3_clear_27 (by decide) ?_
  refine q_puti C clX3 (kd_t0 ht) (k := 17) (by decide) flX3_65 rfl dX3_clear_28 rfl rfl (fun M6 => ?_)
  exact r_return C dX3_clear_31 rfl
set_option maxRecDepth 100000 in
set_option maxHeartbeats 4000000 in
theorem tX8_rewind  (M : Mem) : Cn yX8_rewind cX8_rewind 1 none 0 0 [zr 1] M ((fX8_rewind  M).map oU) := by
  refine Cn_mk (own := RX8) rfl (by decide) (Nat.le_of_ble_eq_true rfl) [some (zr 1)] rfl (fun G C hn => ?_)
  unfold fX8_rewind
  refine r_aload_n C dX8_rewind_0 rfl rfl ?_
  refine r_iconst C dX8_rewind_1 (by decide) ?_
  refine q_puti C clX8 kd_1 (k := 3) (by decide) flX8_36 rfl dX8_rewind_2 rfl rfl (fun M1 => ?_)
  exact r_return C dX8_rewind_5 rfl
set_option maxRecDepth 100000 in
set_option maxHeartbeats 4000000 in
theorem tX8_readNumeral  (M : Mem) : Cn yX8_readNumeral cX8_readNumeral 1 none 0 0 [zr 1] M ((fX8_readNumeral  M).map oU) := by
  refine Cn_mk (own := RX8) rfl (by decide) (Nat.le_of_ble_eq_true rfl) [some (zr 1)] rfl (fun G C hn => ?_)
  unfold fX8_readNumeral
  refine r_aload_n C dX8_readNumeral_0 rfl rfl ?_
  refine r_iconst C dX8_readNumeral_1 (by decide) ?_
  refine q_puti C clX8 kd_1 (k := 6) (by decide) flX8_55 rfl dX8_readNumeral_2 rfl rfl (fun M1 => ?_)
  refine r_lp (S := Mem) (R := Mem) (pcX := 81) (AL := fun s2 => [some (zr 1)]) (MM := fun s2 => s2) (AX := fun q8 => [some (zr 1)]) (MX := fun q8 => q8) ?_ ?_ M1
  · intro q8
    refine r_aload_n C dX8_readNumeral_81 rfl rfl ?_
    refine r_aload_n C dX8_readNumeral_82 rfl rfl ?_
    refine q_geti C clX8 kd_1 (k := 3) (by decide) flX8_36 dX8_readNumeral_83 (kz := 3) rfl (by decide) ?_
    refine r_aload_n C dX8_readNumeral_86 rfl rfl ?_
    refine q_geti C clX8 kd_1 (k := 5) (by decide) flX8_39 dX8_readNumeral_87 (kz := 5) rfl (by decide) ?_
    refine r_isub C dX8_readNumeral_90 ?_
    refine r_iconst C dX8_readNumeral_91 (by decide) ?_
    refine r_join (γ := Int) (pcJ := fun _ => 100) (al' := fun q9 => [none]) (st' := fun q9 => [zi q9, zr 1]) (M' := fun q9 => q8) ?_ ?_
    · intro q9
      refine q_puti C clX8 kd_1 (k := 4) (by decide) flX8_42 rfl dX8_readNumeral_100 rfl rfl (fun M10 => ?_)
      exact r_return C dX8_readNumeral_103 rfl
    · intro hJq9
      refine q_icmp_gt (tgt := 99) C dX8_readNumeral_92 (by decide) (fun _ => ?_) (fun _ => ?_)
      · refine r_iconst C dX8_readNumeral_99 (by decide) ?_
        refine r_less [false] rfl ?_
        exact hJq9 1
      · refine r_iconst C dX8_readNumeral_95 (by decide) ?_
        refine r_goto (tgt := 100) C dX8_readNumeral_96 (by decide) ?_
        refine r_less [false] rfl ?_
        exact hJq9 2
  · intro gs2 hCs2 hXs2 s2
    unfold fX8_readNumeral_b1
    refine r_aload_n C dX8_readNumeral_5 rfl rfl ?_
    refine q_geti C clX8 kd_1 (k := 3) (by decide) flX8_36 dX8_readNumeral_6 (kz := 3) rfl (by decide) ?_
    refine r_aload_n C dX8_readNumeral_9 rfl rfl ?_
    refine q_geti C clX8 kd_1 (k := 2) (by decide) flX8_33 dX8_readNumeral_10 (kz := 2) rfl (by decide) ?_
    refine q_icmp_ge (tgt := 81) C dX8_readNumeral_13 (by decide) (fun _ => ?_) (fun _ => ?_)
    · exact hXs2 s2
    · refine r_aload_n C dX8_readNumeral_16 rfl rfl ?_
      refine r_getp C clX8 kd_1 (k := 0) (by decide) flX8_9 dX8_readNumeral_17 pt_1_0 ?_
      refine r_aload_n C dX8_readNumeral_20 rfl rfl ?_
      refine q_geti C clX8 kd_1 (k := 3) (by decide) flX8_36 dX8_readNumeral_21 (kz := 3) rfl (by decide) ?_
      refine r_baload C dX8_readNumeral_24 (fun v3 _ => ?_)
      refine r_bipush C dX8_readNumeral_25 (by decide) ?_
      refine q_icmp_lt (tgt := 81) C dX8_readNumeral_27 (by decide) (fun _ => ?_) (fun _ => ?_)
      · exact hXs2 s2
      · refine r_aload_n C dX8_readNumeral_30 rfl rfl ?_
        refine r_getp C clX8 kd_1 (k := 0) (by decide) flX8_9 dX8_readNumeral_31 pt_1_0 ?_
        refine r_aload_n C dX8_readNumeral_34 rfl rfl ?_
        refine q_geti C clX8 kd_1 (k := 3) (by decide) flX8_36 dX8_readNumeral_35 (kz := 3) rfl (by decide) ?_
        refine r_baload C dX8_readNumeral_38 (fun v4 _ => ?_)
        refine r_bipush C dX8_readNumeral_39 (by decide) ?_
        refine q_icmp_gt (tgt := 81) C dX8_readNumeral_41 (by decide) (fun _ => ?_) (fun _ => ?_)
        · exact hXs2 s2
        · refine r_aload_n C dX8_readNumeral_44 rfl rfl ?_
          refine r_aload_n C dX8_readNumeral_45 rfl rfl ?_
          refine q_geti C clX8 kd_1 (k := 6) (by decide) flX8_55 dX8_readNumeral_46 (kz := 6) rfl (by decide) ?_
          refine r_bipush C dX8_readNumeral_49 (by decide) ?_
          refine r_imul C dX8_readNumeral_51 ?_
          refine r_aload_n C dX8_readNumeral_52 rfl rfl ?_
          refine r_getp C clX8 kd_1 (k := 0) (by decide) flX8_9 dX8_readNumeral_53 pt_1_0 ?_
          refine r_aload_n C dX8_readNumeral_56 rfl rfl ?_
          refine q_geti C clX8 kd_1 (k := 3) (by decide) flX8_36 dX8_readNumeral_57 (kz := 3) rfl (by decide) ?_
          refine r_baload C dX8_readNumeral_60 (fun v5 _ => ?_)
          refine r_bipush C dX8_readNumeral_61 (by decide) ?_
          refine r_isub C dX8_readNumeral_63 ?_
          refine r_iadd C dX8_readNumeral_64 ?_
          refine q_puti C clX8 kd_1 (k := 6) (by decide) flX8_55 rfl dX8_readNumeral_65 rfl rfl (fun M6 => ?_)
          refine r_aload_n C dX8_readNumeral_68 rfl rfl ?_
          refine r_dup C dX8_readNumeral_69 rfl ?_
          refine q_geti C clX8 kd_1 (k := 3) (by decide) flX8_36 dX8_readNumeral_70 (kz := 3) rfl (by decide) ?_
          refine r_iconst C dX8_readNumeral_73 (by decide) ?_
          refine r_iadd C dX8_readNumeral_74 ?_
          refine q_puti C clX8 kd_1 (k := 3) (by decide) flX8_36 rfl dX8_readNumeral_75 rfl rfl (fun M7 => ?_)
          refine r_goto (tgt := 5) C dX8_readNumeral_78 (by decide) ?_
          exact hCs2 M7
set_option maxRecDepth 100000 in
set_option maxHeartbeats 4000000 in
theorem tX8_readWord  (M : Mem) : Cn yX8_readWord cX8_readWord 2 none 0 0 [zr 1] M ((fX8_readWord  M).map oU) := by
  refine Cn_mk (own := RX8) rfl (by decide) (Nat.le_of_ble_eq_true rfl) [some (zr 1), none] rfl (fun G C hn => ?_)
  unfold fX8_readWord
  refine r_aload_n C dX8_readWord_0 rfl rfl ?_
  refine r_lconst C dX8_readWord_1 rfl ?_
  refine q_putl C clX8 kd_1 (k := 7) (by decide) flX8_51 rfl dX8_readWord_2 rfl rfl (fun M1 => ?_)
  refine r_lp (S := Mem) (R := Mem) (pcX := 85) (AL := fun s2 => [some (zr 1), none]) (MM := fun s2 => s2) (AX := fun q8 => [some (zr 1), none]) (MX := fun q8 => q8) ?_ ?_ M1
  · intro q8
    refine r_aload_n C dX8_readWord_85 rfl rfl ?_
    refine r_aload_n C dX8_readWord_86 rfl rfl ?_
    refine q_geti C clX8 kd_1 (k := 3) (by decide) flX8_36 dX8_readWord_87 (kz := 3) rfl (by decide) ?_
    refine r_aload_n C dX8_readWord_90 rfl rfl ?_
    refine q_geti C clX8 kd_1 (k := 5) (by decide) flX8_39 dX8_readWord_91 (kz := 5) rfl (by decide) ?_
    refine r_isub C dX8_readWord_94 ?_
    refine r_bipush C dX8_readWord_95 (by decide) ?_
    refine r_join (γ := Int) (pcJ := fun _ => 105) (al' := fun q9 => [some (zr 1), none]) (st' := fun q9 => [zi q9, zr 1]) (M' := fun q9 => q8) ?_ ?_
    · intro q9
      refine q_puti C clX8 kd_1 (k := 4) (by decide) flX8_42 rfl dX8_readWord_105 rfl rfl (fun M10 => ?_)
      refine r_iconst C dX8_readWord_108 (by decide) ?_
      refine r_istore_n (al' := [some (zr 1), some (zi 0)]) C dX8_readWord_109 rfl (by rw [hn]; decide) rfl ?_
      refine r_lp (S := Int × Mem) (R := Mem) (pcX := 154) (AL := fun s11 => [some (zr 1), some (zi s11.1)]) (MM := fun s11 => s11.2) (AX := fun q16 => [none, none]) (MX := fun q16 => q16) ?_ ?_ (0, M10)
      · intro q16
        exact r_return C dX8_readWord_154 rfl
      · intro gs11 hCs11 hXs11 s11
        unfold fX8_readWord_b2
        refine r_iload_n C dX8_readWord_110 rfl rfl ?_
        refine r_bipush C dX8_readWord_111 (by decide) ?_
        refine q_icmp_ge (tgt := 154) C dX8_readWord_113 (by decide) (fun _ => ?_) (fun _ => ?_)
        · refine r_less [false, false] rfl ?_
          exact hXs11 s11.2
        · refine r_aload_n C dX8_readWord_116 rfl rfl ?_
          refine q_geti C clX8 kd_1 (k := 4) (by decide) flX8_42 dX8_readWord_117 (kz := 4) rfl (by decide) ?_
          refine r_iconst C dX8_readWord_120 (by decide) ?_
          refine q_icmp_ne (tgt := 154) C dX8_readWord_121 (by decide) (fun _ => ?_) (fun _ => ?_)
          · refine r_less [false, false] rfl ?_
            exact hXs11 s11.2
          · refine r_aload_n C dX8_readWord_124 rfl rfl ?_
            refine r_getp C clX8 kd_1 (k := 1) (by decide) flX8_15 dX8_readWord_125 pt_1_1 ?_
            refine r_iload_n C dX8_readWord_128 rfl rfl ?_
            refine r_laload C dX8_readWord_129 (fun v12 _ => ?_)
            refine r_aload_n C dX8_readWord_130 rfl rfl ?_
            refine q_getl C clX8 kd_1 (k := 7) (by decide) flX8_51 dX8_readWord_131 (kz := 7) rfl rfl ?_
            refine r_lcmp C dX8_readWord_134 ?_
            refine r_join (γ := Mem) (pcJ := fun _ => 148) (al' := fun q15 => [some (zr 1), some (zi s11.1)]) (st' := fun q15 => []) (M' := fun q15 => q15) ?_ ?_
            · intro q15
              refine r_iinc (al' := [some (zr 1), some (zi (w32 (s11.1 + 1)))]) C dX8_readWord_148 rfl (by rw [hn]; decide) rfl ?_
              refine r_goto (tgt := 110) C dX8_readWord_151 (by decide) ?_
              exact hCs11 (w32 (s11.1 + 1), q15)
            · intro hJq15
              refine q_if_ne (tgt := 148) C dX8_readWord_135 (by decide) (fun _ => ?_) (fun _ => ?_)
              · exact hJq15 s11.2
              · refine r_aload_n C dX8_readWord_138 rfl rfl ?_
                refine r_iconst C dX8_readWord_139 (by decide) ?_
                refine q_puti C clX8 kd_1 (k := 4) (by decide) flX8_42 rfl dX8_readWord_140 rfl rfl (fun M13 => ?_)
                refine r_aload_n C dX8_readWord_143 rfl rfl ?_
                refine r_iload_n C dX8_readWord_144 rfl rfl ?_
                refine q_puti C clX8 kd_1 (k := 6) (by decide) flX8_55 rfl dX8_readWord_145 rfl rfl (fun M14 => ?_)
                exact hJq15 M14
    · intro hJq9
      refine q_icmp_gt (tgt := 104) C dX8_readWord_97 (by decide) (fun _ => ?_) (fun _ => ?_)
      · refine r_iconst C dX8_readWord_104 (by decide) ?_
        exact hJq9 1
      · refine r_iconst C dX8_readWord_100 (by decide) ?_
        refine r_goto (tgt := 105) C dX8_readWord_101 (by decide) ?_
        exact hJq9 4
  · intro gs2 hCs2 hXs2 s2
    unfold fX8_readWord_b1
    refine r_aload_n C dX8_readWord_5 rfl rfl ?_
    refine q_geti C clX8 kd_1 (k := 3) (by decide) flX8_36 dX8_readWord_6 (kz := 3) rfl (by decide) ?_
    refine r_aload_n C dX8_readWord_9 rfl rfl ?_
    refine q_geti C clX8 kd_1 (k := 2) (by decide) flX8_33 dX8_readWord_10 (kz := 2) rfl (by decide) ?_
    refine q_icmp_ge (tgt := 85) C dX8_readWord_13 (by decide) (fun _ => ?_) (fun _ => ?_)
    · exact hXs2 s2
    · refine r_aload_n C dX8_readWord_16 rfl rfl ?_
      refine r_getp C clX8 kd_1 (k := 0) (by decide) flX8_9 dX8_readWord_17 pt_1_0 ?_
      refine r_aload_n C dX8_readWord_20 rfl rfl ?_
      refine q_geti C clX8 kd_1 (k := 3) (by decide) flX8_36 dX8_readWord_21 (kz := 3) rfl (by decide) ?_
      refine r_baload C dX8_readWord_24 (fun v3 _ => ?_)
      refine r_bipush C dX8_readWord_25 (by decide) ?_
      refine q_icmp_lt (tgt := 85) C dX8_readWord_27 (by decide) (fun _ => ?_) (fun _ => ?_)
      · exact hXs2 s2
      · refine r_aload_n C dX8_readWord_30 rfl rfl ?_
        refine r_getp C clX8 kd_1 (k := 0) (by decide) flX8_9 dX8_readWord_31 pt_1_0 ?_
        refine r_aload_n C dX8_readWord_34 rfl rfl ?_
        refine q_geti C clX8 kd_1 (k := 3) (by decide) flX8_36 dX8_readWord_35 (kz := 3) rfl (by decide) ?_
        refine r_baload C dX8_readWord_38 (fun v4 _ => ?_)
        refine r_bipush C dX8_readWord_39 (by decide) ?_
        refine q_icmp_gt (tgt := 85) C dX8_readWord_41 (by decide) (fun _ => ?_) (fun _ => ?_)
        · exact hXs2 s2
        · refine r_aload_n C dX8_readWord_44 rfl rfl ?_
          refine r_aload_n C dX8_readWord_45 rfl rfl ?_
          refine q_getl C clX8 kd_1 (k := 7) (by decide) flX8_51 dX8_readWord_46 (kz := 7) rfl rfl ?_
          refine r_ldc2 C klX8_31 rfl dX8_readWord_49 ?_
          refine r_lmul C dX8_readWord_52 ?_
          refine r_aload_n C dX8_readWord_53 rfl rfl ?_
          refine r_getp C clX8 kd_1 (k := 0) (by decide) flX8_9 dX8_readWord_54 pt_1_0 ?_
          refine r_aload_n C dX8_readWord_57 rfl rfl ?_
          refine q_geti C clX8 kd_1 (k := 3) (by decide) flX8_36 dX8_readWord_58 (kz := 3) rfl (by decide) ?_
          refine r_baload C dX8_readWord_61 (fun v5 _ => ?_)
          refine r_bipush C dX8_readWord_62 (by decide) ?_
          refine r_isub C dX8_readWord_64 ?_
          refine r_iconst C dX8_readWord_65 (by decide) ?_
          refine r_iadd C dX8_readWord_66 ?_
          refine r_i2l C dX8_readWord_67 ?_
          refine r_ladd C dX8_readWord_68 ?_
          refine q_putl C clX8 kd_1 (k := 7) (by decide) flX8_51 rfl dX8_readWord_69 rfl rfl (fun M6 => ?_)
          refine r_aload_n C dX8_readWord_72 rfl rfl ?_
          refine r_dup C dX8_readWord_73 rfl ?_
          refine q_geti C clX8 kd_1 (k := 3) (by decide) flX8_36 dX8_readWord_74 (kz := 3) rfl (by decide) ?_
          refine r_iconst C dX8_readWord_77 (by decide) ?_
          refine r_iadd C dX8_readWord_78 ?_
          refine q_puti C clX8 kd_1 (k := 3) (by decide) flX8_36 rfl dX8_readWord_79 rfl rfl (fun M7 => ?_)
          refine r_goto (tgt := 5) C dX8_readWord_82 (by decide) ?_
          exact hCs2 M7
set_option maxRecDepth 100000 in
set_option maxHeartbeats 4000000 in
theorem tX8_advance  (M : Mem) : Cn yX8_advance cX8_advance 2 none 1 21 [zr 1] M ((fX8_advance  M).map oU) := by
  refine Cn_mk (own := RX8) rfl (by decide) (Nat.le_of_ble_eq_true rfl) [some (zr 1), none] rfl (fun G C hn => ?_)
  unfold fX8_advance
  refine r_lp (S := Mem) (R := Mem) (pcX := 52) (AL := fun s1 => [some (zr 1), none]) (MM := fun s1 => s1) (AX := fun q6 => [some (zr 1), none]) (MX := fun q6 => q6) ?_ ?_ M
  · intro q6
    refine r_aload_n C dX8_advance_52 rfl rfl ?_
    refine r_aload_n C dX8_advance_53 rfl rfl ?_
    refine q_geti C clX8 kd_1 (k := 3) (by decide) flX8_36 dX8_advance_54 (kz := 3) rfl (by decide) ?_
    refine q_puti C clX8 kd_1 (k := 5) (by decide) flX8_39 rfl dX8_advance_57 rfl rfl (fun M7 => ?_)
    refine r_aload_n C dX8_advance_60 rfl rfl ?_
    refine q_geti C clX8 kd_1 (k := 3) (by decide) flX8_36 dX8_advance_61 (kz := 3) rfl (by decide) ?_
    refine r_aload_n C dX8_advance_64 rfl rfl ?_
    refine q_geti C clX8 kd_1 (k := 2) (by decide) flX8_33 dX8_advance_65 (kz := 2) rfl (by decide) ?_
    refine r_join (γ := Int) (pcJ := fun _ => 84) (al' := fun q9 => [some (zr 1), none]) (st' := fun q9 => [zi q9]) (M' := fun q9 => M7) ?_ ?_
    · intro q9
      refine r_istore_n (al' := [some (zr 1), some (zi q9)]) C dX8_advance_84 rfl (by rw [hn]; decide) rfl ?_
      refine r_aload_n C dX8_advance_85 rfl rfl ?_
      refine q_geti C clX8 kd_1 (k := 3) (by decide) flX8_36 dX8_advance_86 (kz := 3) rfl (by decide) ?_
      refine r_aload_n C dX8_advance_89 rfl rfl ?_
      refine q_geti C clX8 kd_1 (k := 2) (by decide) flX8_33 dX8_advance_90 (kz := 2) rfl (by decide) ?_
      refine r_join (γ := Mem) (pcJ := fun _ => 167) (al' := fun q18 => [none, none]) (st' := fun q18 => []) (M' := fun q18 => q18) ?_ ?_
      · intro q18
        exact r_return C dX8_advance_167 rfl
      · intro hJq18
        refine q_icmp_lt (tgt := 104) C dX8_advance_93 (by decide) (fun _ => ?_) (fun _ => ?_)
        · refine r_iload_n C dX8_advance_104 rfl rfl ?_
          refine r_bipush C dX8_advance_105 (by decide) ?_
          refine r_join (γ := Bool) (pcJ := fun q10 => if q10 = true then 123 else 116) (al' := fun q10 => [some (zr 1), some (zi q9)]) (st' := fun q10 => []) (M' := fun q10 => M7) ?_ ?_
          · intro q10
            refine r_itp (fun _ => ?_) (fun _ => ?_)
            · refine r_iload_n C dX8_advance_123 rfl rfl ?_
              refine r_bipush C dX8_advance_124 (by decide) ?_
              refine r_join (γ := Bool) (pcJ := fun q11 => if q11 = true then 142 else 135) (al' := fun q11 => [some (zr 1), some (zi q9)]) (st' := fun q11 => []) (M' := fun q11 => M7) ?_ ?_
              · intro q11
                refine r_itp (fun _ => ?_) (fun _ => ?_)
                · refine r_aload_n C dX8_advance_142 rfl rfl ?_
                  refine r_iload_n C dX8_advance_143 rfl rfl ?_
                  refine r_bipush C dX8_advance_144 (by decide) ?_
                  refine r_join (γ := Int) (pcJ := fun _ => 154) (al' := fun q12 => [some (zr 1), none]) (st' := fun q12 => [zi q12, zr 1]) (M' := fun q12 => M7) ?_ ?_
                  · intro q12
                    refine q_puti C clX8 kd_1 (k := 4) (by decide) flX8_42 rfl dX8_advance_154 rfl rfl (fun M13 => ?_)
                    refine r_aload_n C dX8_advance_157 rfl rfl ?_
                    refine r_dup C dX8_advance_158 rfl ?_
                    refine q_geti C clX8 kd_1 (k := 3) (by decide) flX8_36 dX8_advance_159 (kz := 3) rfl (by decide) ?_
                    refine r_iconst C dX8_advance_162 (by decide) ?_
                    refine r_iadd C dX8_advance_163 ?_
                    refine q_puti C clX8 kd_1 (k := 3) (by decide) flX8_36 rfl dX8_advance_164 rfl rfl (fun M14 => ?_)
                    refine r_less [false, false] rfl ?_
                    exact hJq18 M14
                  · intro hJq12
                    refine q_icmp_ne (tgt := 153) C dX8_advance_146 (by decide) (fun _ => ?_) (fun _ => ?_)
                    · refine r_iconst C dX8_advance_153 (by decide) ?_
                      refine r_less [true, false] rfl ?_
                      exact hJq12 1
                    · refine r_iconst C dX8_advance_149 (by decide) ?_
                      refine r_goto (tgt := 154) C dX8_advance_150 (by decide) ?_
                      refine r_less [true, false] rfl ?_
                      exact hJq12 3
                · refine r_aload_n C dX8_advance_135 rfl rfl ?_
                  refine q_callVv (av := []) (rest := []) C (tX8_readNumeral  M7) lkX8_48 kd_1 rfl rfl rfl (Nat.le_of_ble_eq_true rfl) ⟨by decide, by decide⟩ dX8_advance_136 (fun q15 _ => ?_)
                  refine r_goto (tgt := 167) C dX8_advance_139 (by decide) ?_
                  refine r_less [false, false] rfl ?_
                  exact hJq18 q15
              · intro hJq11
                refine q_icmp_lt (tgt := 142) C dX8_advance_126 (by decide) (fun _ => ?_) (fun _ => ?_)
                · exact hJq11 true
                · refine r_iload_n C dX8_advance_129 rfl rfl ?_
                  refine r_bipush C dX8_advance_130 (by decide) ?_
                  refine q_icmp_gt (tgt := 142) C dX8_advance_132 (by decide) (fun _ => ?_) (fun _ => ?_)
                  · exact hJq11 true
                  · exact hJq11 false
            · refine r_aload_n C dX8_advance_116 rfl rfl ?_
              refine q_callVv (av := []) (rest := []) C (tX8_readWord  M7) lkX8_45 kd_1 rfl rfl rfl (Nat.le_of_ble_eq_true rfl) ⟨by decide, by decide⟩ dX8_advance_117 (fun q16 _ => ?_)
              refine r_goto (tgt := 167) C dX8_advance_120 (by decide) ?_
              refine r_less [false, false] rfl ?_
              exact hJq18 q16
          · intro hJq10
            refine q_icmp_lt (tgt := 123) C dX8_advance_107 (by decide) (fun _ => ?_) (fun _ => ?_)
            · exact hJq10 true
            · refine r_iload_n C dX8_advance_110 rfl rfl ?_
              refine r_bipush C dX8_advance_111 (by decide) ?_
              refine q_icmp_gt (tgt := 123) C dX8_advance_113 (by decide) (fun _ => ?_) (fun _ => ?_)
              · exact hJq10 true
              · exact hJq10 false
        · refine r_aload_n C dX8_advance_96 rfl rfl ?_
          refine r_iconst C dX8_advance_97 (by decide) ?_
          refine q_puti C clX8 kd_1 (k := 4) (by decide) flX8_42 rfl dX8_advance_98 rfl rfl (fun M17 => ?_)
          refine r_goto (tgt := 167) C dX8_advance_101 (by decide) ?_
          refine r_less [false, false] rfl ?_
          exact hJq18 M17
    · intro hJq9
      refine q_icmp_ge (tgt := 83) C dX8_advance_68 (by decide) (fun _ => ?_) (fun _ => ?_)
      · refine r_iconst C dX8_advance_83 (by decide) ?_
        exact hJq9 0
      · refine r_aload_n C dX8_advance_71 rfl rfl ?_
        refine r_getp C clX8 kd_1 (k := 0) (by decide) flX8_9 dX8_advance_72 pt_1_0 ?_
        refine r_aload_n C dX8_advance_75 rfl rfl ?_
        refine q_geti C clX8 kd_1 (k := 3) (by decide) flX8_36 dX8_advance_76 (kz := 3) rfl (by decide) ?_
        refine r_baload C dX8_advance_79 (fun v8 _ => ?_)
        refine r_goto (tgt := 84) C dX8_advance_80 (by decide) ?_
        exact hJq9 v8
  · intro gs1 hCs1 hXs1 s1
    unfold fX8_advance_b1
    refine r_aload_n C dX8_advance_0 rfl rfl ?_
    refine q_geti C clX8 kd_1 (k := 3) (by decide) flX8_36 dX8_advance_1 (kz := 3) rfl (by decide) ?_
    refine r_aload_n C dX8_advance_4 rfl rfl ?_
    refine q_geti C clX8 kd_1 (k := 2) (by decide) flX8_33 dX8_advance_5 (kz := 2) rfl (by decide) ?_
    refine q_icmp_ge (tgt := 52) C dX8_advance_8 (by decide) (fun _ => ?_) (fun _ => ?_)
    · exact hXs1 s1
    · refine r_aload_n C dX8_advance_11 rfl rfl ?_
      refine r_getp C clX8 kd_1 (k := 0) (by decide) flX8_9 dX8_advance_12 pt_1_0 ?_
      refine r_aload_n C dX8_advance_15 rfl rfl ?_
      refine q_geti C clX8 kd_1 (k := 3) (by decide) flX8_36 dX8_advance_16 (kz := 3) rfl (by decide) ?_
      refine r_baload C dX8_advance_19 (fun v2 _ => ?_)
      refine r_bipush C dX8_advance_20 (by decide) ?_
      refine q_icmp_eq (tgt := 39) C dX8_advance_22 (by decide) (fun _ => ?_) (fun _ => ?_)
      · refine r_aload_n C dX8_advance_39 rfl rfl ?_
        refine r_dup C dX8_advance_40 rfl ?_
        refine q_geti C clX8 kd_1 (k := 3) (by decide) flX8_36 dX8_advance_41 (kz := 3) rfl (by decide) ?_
        refine r_iconst C dX8_advance_44 (by decide) ?_
        refine r_iadd C dX8_advance_45 ?_
        refine q_puti C clX8 kd_1 (k := 3) (by decide) flX8_36 rfl dX8_advance_46 rfl rfl (fun M3 => ?_)
        refine r_goto (tgt := 0) C dX8_advance_49 (by decide) ?_
        exact hCs1 M3
      · refine r_aload_n C dX8_advance_25 rfl rfl ?_
        refine r_getp C clX8 kd_1 (k := 0) (by decide) flX8_9 dX8_advance_26 pt_1_0 ?_
        refine r_aload_n C dX8_advance_29 rfl rfl ?_
        refine q_geti C clX8 kd_1 (k := 3) (by decide) flX8_36 dX8_advance_30 (kz := 3) rfl (by decide) ?_
        refine r_baload C dX8_advance_33 (fun v4 _ => ?_)
        refine r_bipush C dX8_advance_34 (by decide) ?_
        refine q_icmp_ne (tgt := 52) C dX8_advance_36 (by decide) (fun _ => ?_) (fun _ => ?_)
        · exact hXs1 s1
        · refine r_aload_n C dX8_advance_39 rfl rfl ?_
          refine r_dup C dX8_advance_40 rfl ?_
          refine q_geti C clX8 kd_1 (k := 3) (by decide) flX8_36 dX8_advance_41 (kz := 3) rfl (by decide) ?_
          refine r_iconst C dX8_advance_44 (by decide) ?_
          refine r_iadd C dX8_advance_45 ?_
          refine q_puti C clX8 kd_1 (k := 3) (by decide) flX8_36 rfl dX8_advance_46 rfl rfl (fun M5 => ?_)
          refine r_goto (tgt := 0) C dX8_advance_49 (by decide) ?_
          exact hCs1 M5
set_option maxRecDepth 100000 in
set_option maxHeartbeats 4000000 in
theorem tX3_open (t : Nat) (ht : t = 5 ∨ t = 119) (p1 : Int) (p2 : Int) (M : Mem) : Cn yX3_open cX3_open 4 (some .int) 0 0 [zr t, zi p1, zi p2] M ((fX3_open t p1 p2 M).map oI) := by
  refine Cn_mk (own := RX3) rfl (by decide) (Nat.le_of_ble_eq_true rfl) [some (zr t), some (zi p1), some (zi p2), none] rfl (fun G C hn => ?_)
  unfold fX3_open
  refine r_aload_n C dX3_open_0 rfl rfl ?_
  refine q_geti C clX3 (kd_t0 ht) (k := 0) (by decide) flX3_56 dX3_open_1 (kz := 0) rfl (by decide) ?_
  refine r_let (fun v1 _ => ?_)
  refine r_istore_n (al' := [some (zr t), some (zi p1), some (zi p2), some (zi v1)]) C dX3_open_4 rfl (by rw [hn]; decide) rfl ?_
  refine r_aload_n C dX3_open_5 rfl rfl ?_
  refine r_getp C clX3 (kd_t0 ht) (k := 1) (by decide) flX3_9 dX3_open_6 (pt_t0_1 ht) ?_
  refine r_iload_n C dX3_open_9 rfl rfl ?_
  refine r_iload_n C dX3_open_10 rfl rfl ?_
  refine r_iastore C dX3_open_11 (fun M2 _ => ?_)
  refine r_aload_n C dX3_open_12 rfl rfl ?_
  refine r_getp C clX3 (kd_t0 ht) (k := 2) (by decide) flX3_15 dX3_open_13 (pt_t0_2 ht) ?_
  refine r_iload_n C dX3_open_16 rfl rfl ?_
  refine r_iload_n C dX3_open_17 rfl rfl ?_
  refine r_iastore C dX3_open_18 (fun M3 _ => ?_)
  refine r_aload_n C dX3_open_19 rfl rfl ?_
  refine r_getp C clX3 (kd_t0 ht) (k := 8) (by decide) flX3_33 dX3_open_20 (pt_t0_8 ht) ?_
  refine r_iload_n C dX3_open_23 rfl rfl ?_
  refine r_iconst C dX3_open_24 (by decide) ?_
  refine r_iastore C dX3_open_25 (fun M4 _ => ?_)
  refine r_aload_n C dX3_open_26 rfl rfl ?_
  refine r_dup C dX3_open_27 rfl ?_
  refine q_geti C clX3 (kd_t0 ht) (k := 0) (by decide) flX3_56 dX3_open_28 (kz := 0) rfl (by decide) ?_
  refine r_iconst C dX3_open_31 (by decide) ?_
  refine r_iadd C dX3_open_32 ?_
  refine q_puti C clX3 (kd_t0 ht) (k := 0) (by decide) flX3_56 rfl dX3_open_33 rfl rfl (fun M5 => ?_)
  refine r_iload_n C dX3_open_36 rfl rfl ?_
  exact r_ireturn C dX3_open_37 rfl
set_option maxRecDepth 100000 in
set_option maxHeartbeats 4000000 in
theorem tX6_slotOf (p1 : Int) (M : Mem) : Cn yX6_slotOf cX6_slotOf 4 (some .int) 0 0 [zr 4, zl p1] M ((fX6_slotOf p1 M).map oI) := by
  refine Cn_mk (own := RX6) rfl (by decide) (Nat.le_of_ble_eq_true rfl) [some (zr 4), some (zl p1), none, none] rfl (fun G C hn => ?_)
  unfold fX6_slotOf
  refine r_iconst C dX6_slotOf_0 (by decide) ?_
  refine r_istore_n (al' := [some (zr 4), some (zl p1), none, some (zi 0)]) C dX6_slotOf_1 rfl (by rw [hn]; decide) rfl ?_
  refine r_lpr (S := Int) (X := Unit) (pcX := 29) (AL := fun s1 => [some (zr 4), some (zl p1), none, some (zi s1)]) (MM := fun s1 => M) (AX := fun q3 => [none, none, none, none]) (MX := fun q3 => M) ?_ ?_ 0
  · intro q3
    refine r_iconst C dX6_slotOf_29 (by decide) ?_
    exact r_ireturn C dX6_slotOf_30 rfl
  · intro gs1 hCs1 hXs1 s1
    unfold fX6_slotOf_b1
    refine r_iload_n C dX6_slotOf_2 rfl rfl ?_
    refine r_aload_n C dX6_slotOf_3 rfl rfl ?_
    refine q_geti C clX6 kd_4 (k := 5) (by decide) flX6_40 dX6_slotOf_4 (kz := 5) rfl (by decide) ?_
    refine q_icmp_ge (tgt := 29) C dX6_slotOf_7 (by decide) (fun _ => ?_) (fun _ => ?_)
    · refine r_less [false, false, false, false] rfl ?_
      exact hXs1 ()
    · refine r_aload_n C dX6_slotOf_10 rfl rfl ?_
      refine r_getp C clX6 kd_4 (k := 2) (by decide) flX6_18 dX6_slotOf_11 pt_4_2 ?_
      refine r_iload_n C dX6_slotOf_14 rfl rfl ?_
      refine r_laload C dX6_slotOf_15 (fun v2 _ => ?_)
      refine r_lload_n C dX6_slotOf_16 rfl rfl ?_
      refine r_lcmp C dX6_slotOf_17 ?_
      refine q_if_ne (tgt := 23) C dX6_slotOf_18 (by decide) (fun _ => ?_) (fun _ => ?_)
      · refine r_iinc (al' := [some (zr 4), some (zl p1), none, some (zi (w32 (s1 + 1)))]) C dX6_slotOf_23 rfl (by rw [hn]; decide) rfl ?_
        refine r_goto (tgt := 2) C dX6_slotOf_26 (by decide) ?_
        exact hCs1 (w32 (s1 + 1))
      · refine r_iload_n C dX6_slotOf_21 rfl rfl ?_
        exact r_ireturn C dX6_slotOf_22 rfl
set_option maxRecDepth 100000 in
set_option maxHeartbeats 4000000 in
theorem tX6_tell (p1 : Int) (p2 : Int) (p3 : Int) (M : Mem) : Cn yX6_tell cX6_tell 6 (some .int) 0 0 [zr 4, zl p1, zi p2, zi p3] M ((fX6_tell p1 p2 p3 M).map oI) := by
  refine Cn_mk (own := RX6) rfl (by decide) (Nat.le_of_ble_eq_true rfl) [some (zr 4), some (zl p1), none, some (zi p2), some (zi p3), none] rfl (fun G C hn => ?_)
  unfold fX6_tell
  refine r_aload_n C dX6_tell_0 rfl rfl ?_
  refine q_geti C clX6 kd_4 (k := 5) (by decide) flX6_40 dX6_tell_1 (kz := 5) rfl (by decide) ?_
  refine r_let (fun v1 _ => ?_)
  refine r_istore (al' := [some (zr 4), some (zl p1), none, some (zi p2), some (zi p3), some (zi v1)]) C dX6_tell_4 (by rw [hn]; decide) rfl ?_
  refine r_aload_n C dX6_tell_6 rfl rfl ?_
  refine r_getp C clX6 kd_4 (k := 2) (by decide) flX6_18 dX6_tell_7 pt_4_2 ?_
  refine r_iload C dX6_tell_10 rfl ?_
  refine r_lload_n C dX6_tell_12 rfl rfl ?_
  refine r_lastore C dX6_tell_13 (fun M2 _ => ?_)
  refine r_aload_n C dX6_tell_14 rfl rfl ?_
  refine r_getp C clX6 kd_4 (k := 3) (by decide) flX6_22 dX6_tell_15 pt_4_3 ?_
  refine r_iload C dX6_tell_18 rfl ?_
  refine r_iload_n C dX6_tell_20 rfl rfl ?_
  refine r_iastore C dX6_tell_21 (fun M3 _ => ?_)
  refine r_aload_n C dX6_tell_22 rfl rfl ?_
  refine r_getp C clX6 kd_4 (k := 4) (by decide) flX6_26 dX6_tell_23 pt_4_4 ?_
  refine r_iload C dX6_tell_26 rfl ?_
  refine r_iload C dX6_tell_28 rfl ?_
  refine r_zastore C dX6_tell_30 (fun M4 _ => ?_)
  refine r_aload_n C dX6_tell_31 rfl rfl ?_
  refine r_dup C dX6_tell_32 rfl ?_
  refine q_geti C clX6 kd_4 (k := 5) (by decide) flX6_40 dX6_tell_33 (kz := 5) rfl (by decide) ?_
  refine r_iconst C dX6_tell_36 (by decide) ?_
  refine r_iadd C dX6_tell_37 ?_
  refine q_puti C clX6 kd_4 (k := 5) (by decide) flX6_40 rfl dX6_tell_38 rfl rfl (fun M5 => ?_)
  refine r_iload C dX6_tell_41 rfl ?_
  exact r_ireturn C dX6_tell_43 rfl
set_option maxRecDepth 100000 in
set_option maxHeartbeats 4000000 in
theorem tX6_faultHere (p1 : Int) (M : Mem) : Cn yX6_faultHere cX6_faultHere 2 (some .int) 0 0 [zr 4, zi p1] M ((fX6_faultHere p1 M).map oI) := by
  refine Cn_mk (own := RX6) rfl (by decide) (Nat.le_of_ble_eq_true rfl) [some (zr 4), some (zi p1)] rfl (fun G C hn => ?_)
  unfold fX6_faultHere
  refine r_iload_n C dX6_faultHere_0 rfl rfl ?_
  refine r_bipush C dX6_faultHere_1 (by decide) ?_
  refine r_aload_n C dX6_faultHere_3 rfl rfl ?_
  refine r_getp C clX6 kd_4 (k := 0) (by decide) flX6_33 dX6_faultHere_4 pt_4_0 ?_
  refine q_geti C clX8 kd_1 (k := 5) (by decide) flX6_78 dX6_faultHere_7 (kz := 5) rfl (by decide) ?_
  refine r_imul C dX6_faultHere_10 ?_
  refine r_iadd C dX6_faultHere_11 ?_
  exact r_ireturn C dX6_faultHere_12 rfl
set_option maxRecDepth 100000 in
set_option maxHeartbeats 4000000 in
theorem tX6_readInputName (p1 : Int) (M : Mem) : Cn yX6_readInputName cX6_readInputName 3 (some .int) 2 42 [zr 4, zi p1] M ((fX6_readInputName p1 M).map oI) := by
  refine Cn_mk (own := RX6) rfl (by decide) (Nat.le_of_ble_eq_true rfl) [some (zr 4), some (zi p1), none] rfl (fun G C hn => ?_)
  unfold fX6_readInputName
  refine r_aload_n C dX6_readInputName_0 rfl rfl ?_
  refine r_getm C clX6 kd_4 (k := 1) (by decide) flX6_12 dX6_readInputName_1 rfl (fun t1 _ ht1 => ?_)
  refine r_iconst C dX6_readInputName_4 (by decide) ?_
  refine r_aload_n C dX6_readInputName_5 rfl rfl ?_
  refine r_getp C clX6 kd_4 (k := 0) (by decide) flX6_33 dX6_readInputName_6 pt_4_0 ?_
  refine q_geti C clX8 kd_1 (k := 5) (by decide) flX6_78 dX6_readInputName_9 (kz := 5) rfl (by decide) ?_
  refine q_callVi (av := [zi 0, zi (M 1 5)]) (rest := []) C (tX3_open t1 ht1 0 (M 1 5) M) lkX6_136 (kd_t0 ht1) rfl rfl rfl (Nat.le_of_ble_eq_true rfl) ⟨by decide, by decide⟩ dX6_readInputName_12 (fun q2 _ => ?_)
  refine r_istore_n (al' := [some (zr 4), some (zi p1), some (zi q2.1)]) C dX6_readInputName_15 rfl (by rw [hn]; decide) rfl ?_
  refine r_aload_n C dX6_readInputName_16 rfl rfl ?_
  refine r_getp C clX6 kd_4 (k := 0) (by decide) flX6_33 dX6_readInputName_17 pt_4_0 ?_
  refine q_callVv (av := []) (rest := []) C (tX8_advance  q2.2) lkX6_62 kd_1 rfl rfl rfl (Nat.le_of_ble_eq_true rfl) ⟨by decide, by decide⟩ dX6_readInputName_20 (fun q3 _ => ?_)
  refine r_aload_n C dX6_readInputName_23 rfl rfl ?_
  refine r_getp C clX6 kd_4 (k := 0) (by decide) flX6_33 dX6_readInputName_24 pt_4_0 ?_
  refine q_geti C clX8 kd_1 (k := 4) (by decide) flX6_65 dX6_readInputName_27 (kz := 4) rfl (by decide) ?_
  refine r_iconst C dX6_readInputName_30 (by decide) ?_
  refine q_icmp_eq (tgt := 40) C dX6_readInputName_31 (by decide) (fun _ => ?_) (fun _ => ?_)
  · refine r_aload_n C dX6_readInputName_40 rfl rfl ?_
    refine r_aload_n C dX6_readInputName_41 rfl rfl ?_
    refine r_getp C clX6 kd_4 (k := 0) (by decide) flX6_33 dX6_readInputName_42 pt_4_0 ?_
    refine q_getl C clX8 kd_1 (k := 7) (by decide) flX6_139 dX6_readInputName_45 (kz := 7) rfl rfl ?_
    refine q_callVi (av := [zl (q3 1 7)]) (rest := []) C (tX6_slotOf (q3 1 7) q3) lkX6_143 kd_4 rfl rfl rfl (Nat.le_of_ble_eq_true rfl) ⟨by decide, by decide⟩ dX6_readInputName_48 (fun q4 _ => ?_)
    refine r_iconst C dX6_readInputName_51 (by decide) ?_
    refine q_icmp_eq (tgt := 61) C dX6_readInputName_52 (by decide) (fun _ => ?_) (fun _ => ?_)
    · refine r_aload_n C dX6_readInputName_61 rfl rfl ?_
      refine q_geti C clX6 kd_4 (k := 5) (by decide) flX6_40 dX6_readInputName_62 (kz := 5) rfl (by decide) ?_
      refine r_bipush C dX6_readInputName_65 (by decide) ?_
      refine q_icmp_lt (tgt := 76) C dX6_readInputName_67 (by decide) (fun _ => ?_) (fun _ => ?_)
      · refine r_aload_n C dX6_readInputName_76 rfl rfl ?_
        refine r_getm C clX6 kd_4 (k := 1) (by decide) flX6_12 dX6_readInputName_77 rfl (fun t5 _ ht5 => ?_)
        refine r_getp C clX3 (kd_t0 ht5) (k := 9) (by decide) flX6_147 dX6_readInputName_80 (pt_t0_9 ht5) ?_
        refine r_iload_n C dX6_readInputName_83 rfl rfl ?_
        refine r_iload_n C dX6_readInputName_84 rfl rfl ?_
        refine r_iastore C dX6_readInputName_85 (fun M6 _ => ?_)
        refine r_aload_n C dX6_readInputName_86 rfl rfl ?_
        refine r_getm C clX6 kd_4 (k := 1) (by decide) flX6_12 dX6_readInputName_87 rfl (fun t7 _ ht7 => ?_)
        refine r_getp C clX3 (kd_t0 ht7) (k := 3) (by decide) flX6_150 dX6_readInputName_90 (pt_t0_3 ht7) ?_
        refine r_iload_n C dX6_readInputName_93 rfl rfl ?_
        refine r_aload_n C dX6_readInputName_94 rfl rfl ?_
        refine r_aload_n C dX6_readInputName_95 rfl rfl ?_
        refine r_getp C clX6 kd_4 (k := 0) (by decide) flX6_33 dX6_readInputName_96 pt_4_0 ?_
        refine q_getl C clX8 kd_1 (k := 7) (by decide) flX6_139 dX6_readInputName_99 (kz := 7) rfl rfl ?_
        refine r_iconst C dX6_readInputName_102 (by decide) ?_
        refine r_iconst C dX6_readInputName_103 (by decide) ?_
        refine q_callVi (av := [zl (M6 1 7), zi 0, zi 1]) (rest := [zi q2.1, zr (t7 + 3)]) C (tX6_tell (M6 1 7) 0 1 M6) lkX6_153 kd_4 rfl rfl rfl (Nat.le_of_ble_eq_true rfl) ⟨by decide, by decide⟩ dX6_readInputName_104 (fun q8 _ => ?_)
        refine r_iastore C dX6_readInputName_107 (fun M9 _ => ?_)
        refine r_iconst C dX6_readInputName_108 (by decide) ?_
        exact r_ireturn C dX6_readInputName_109 rfl
      · refine r_aload_n C dX6_readInputName_70 rfl rfl ?_
        refine r_iconst C dX6_readInputName_71 (by decide) ?_
        refine q_callVi (av := [zi 5]) (rest := []) C (tX6_faultHere 5 q4.2) lkX6_72 kd_4 rfl rfl rfl (Nat.le_of_ble_eq_true rfl) ⟨by decide, by decide⟩ dX6_readInputName_72 (fun q10 _ => ?_)
        exact r_ireturn C dX6_readInputName_75 rfl
    · refine r_aload_n C dX6_readInputName_55 rfl rfl ?_
      refine r_iconst C dX6_readInputName_56 (by decide) ?_
      refine q_callVi (av := [zi 3]) (rest := []) C (tX6_faultHere 3 q4.2) lkX6_72 kd_4 rfl rfl rfl (Nat.le_of_ble_eq_true rfl) ⟨by decide, by decide⟩ dX6_readInputName_57 (fun q11 _ => ?_)
      exact r_ireturn C dX6_readInputName_60 rfl
  · refine r_aload_n C dX6_readInputName_34 rfl rfl ?_
    refine r_iconst C dX6_readInputName_35 (by decide) ?_
    refine q_callVi (av := [zi 1]) (rest := []) C (tX6_faultHere 1 q3) lkX6_72 kd_4 rfl rfl rfl (Nat.le_of_ble_eq_true rfl) ⟨by decide, by decide⟩ dX6_readInputName_36 (fun q12 _ => ?_)
    exact r_ireturn C dX6_readInputName_39 rfl
set_option maxRecDepth 100000 in
set_option maxHeartbeats 4000000 in
theorem tX6_readNumber (p1 : Int) (p2 : Int) (M : Mem) : Cn yX6_readNumber cX6_readNumber 3 (some .int) 2 42 [zr 4, zi p1, zi p2] M ((fX6_readNumber p1 p2 M).map oI) := by
  refine Cn_mk (own := RX6) rfl (by decide) (Nat.le_of_ble_eq_true rfl) [some (zr 4), some (zi p1), some (zi p2)] rfl (fun G C hn => ?_)
  unfold fX6_readNumber
  refine r_aload_n C dX6_readNumber_0 rfl rfl ?_
  refine r_getp C clX6 kd_4 (k := 0) (by decide) flX6_33 dX6_readNumber_1 pt_4_0 ?_
  refine q_callVv (av := []) (rest := []) C (tX8_advance  M) lkX6_62 kd_1 rfl rfl rfl (Nat.le_of_ble_eq_true rfl) ⟨by decide, by decide⟩ dX6_readNumber_4 (fun q1 _ => ?_)
  refine r_aload_n C dX6_readNumber_7 rfl rfl ?_
  refine r_getp C clX6 kd_4 (k := 0) (by decide) flX6_33 dX6_readNumber_8 pt_4_0 ?_
  refine q_geti C clX8 kd_1 (k := 4) (by decide) flX6_65 dX6_readNumber_11 (kz := 4) rfl (by decide) ?_
  refine r_iconst C dX6_readNumber_14 (by decide) ?_
  refine q_icmp_eq (tgt := 24) C dX6_readNumber_15 (by decide) (fun _ => ?_) (fun _ => ?_)
  · refine r_aload_n C dX6_readNumber_24 rfl rfl ?_
    refine r_getp C clX6 kd_4 (k := 0) (by decide) flX6_33 dX6_readNumber_25 pt_4_0 ?_
    refine q_geti C clX8 kd_1 (k := 6) (by decide) flX6_87 dX6_readNumber_28 (kz := 6) rfl (by decide) ?_
    refine r_iload_n C dX6_readNumber_31 rfl rfl ?_
    refine r_join (γ := Int × Mem) (pcJ := fun _ => 55) (al' := fun q4 => [none, none, none]) (st' := fun q4 => [zi q4.1]) (M' := fun q4 => q4.2) ?_ ?_
    · intro q4
      exact r_ireturn C dX6_readNumber_55 rfl
    · intro hJq4
      refine q_icmp_lt (tgt := 46) C dX6_readNumber_32 (by decide) (fun _ => ?_) (fun _ => ?_)
      · refine r_aload_n C dX6_readNumber_46 rfl rfl ?_
        refine r_iconst C dX6_readNumber_47 (by decide) ?_
        refine q_callVi (av := [zi 4]) (rest := []) C (tX6_faultHere 4 q1) lkX6_72 kd_4 rfl rfl rfl (Nat.le_of_ble_eq_true rfl) ⟨by decide, by decide⟩ dX6_readNumber_48 (fun q2 _ => ?_)
        refine r_goto (tgt := 55) C dX6_readNumber_51 (by decide) ?_
        refine r_less [false, false, false] rfl ?_
        exact hJq4 (q2.1, q2.2)
      · refine r_aload_n C dX6_readNumber_35 rfl rfl ?_
        refine r_getp C clX6 kd_4 (k := 0) (by decide) flX6_33 dX6_readNumber_36 pt_4_0 ?_
        refine q_geti C clX8 kd_1 (k := 6) (by decide) flX6_87 dX6_readNumber_39 (kz := 6) rfl (by decide) ?_
        refine r_iload_n C dX6_readNumber_42 rfl rfl ?_
        refine q_icmp_le (tgt := 54) C dX6_readNumber_43 (by decide) (fun _ => ?_) (fun _ => ?_)
        · refine r_iconst C dX6_readNumber_54 (by decide) ?_
          refine r_less [false, false, false] rfl ?_
          exact hJq4 (0, q1)
        · refine r_aload_n C dX6_readNumber_46 rfl rfl ?_
          refine r_iconst C dX6_readNumber_47 (by decide) ?_
          refine q_callVi (av := [zi 4]) (rest := []) C (tX6_faultHere 4 q1) lkX6_72 kd_4 rfl rfl rfl (Nat.le_of_ble_eq_true rfl) ⟨by decide, by decide⟩ dX6_readNumber_48 (fun q3 _ => ?_)
          refine r_goto (tgt := 55) C dX6_readNumber_51 (by decide) ?_
          refine r_less [false, false, false] rfl ?_
          exact hJq4 (q3.1, q3.2)
  · refine r_aload_n C dX6_readNumber_18 rfl rfl ?_
    refine r_iconst C dX6_readNumber_19 (by decide) ?_
    refine q_callVi (av := [zi 1]) (rest := []) C (tX6_faultHere 1 q1) lkX6_72 kd_4 rfl rfl rfl (Nat.le_of_ble_eq_true rfl) ⟨by decide, by decide⟩ dX6_readNumber_20 (fun q5 _ => ?_)
    exact r_ireturn C dX6_readNumber_23 rfl
set_option maxRecDepth 100000 in
set_option maxHeartbeats 4000000 in
theorem tX6_readSemicolon  (M : Mem) : Cn yX6_readSemicolon cX6_readSemicolon 1 (some .int) 2 42 [zr 4] M ((fX6_readSemicolon  M).map oI) := by
  refine Cn_mk (own := RX6) rfl (by decide) (Nat.le_of_ble_eq_true rfl) [some (zr 4)] rfl (fun G C hn => ?_)
  unfold fX6_readSemicolon
  refine r_aload_n C dX6_readSemicolon_0 rfl rfl ?_
  refine r_getp C clX6 kd_4 (k := 0) (by decide) flX6_33 dX6_readSemicolon_1 pt_4_0 ?_
  refine q_callVv (av := []) (rest := []) C (tX8_advance  M) lkX6_62 kd_1 rfl rfl rfl (Nat.le_of_ble_eq_true rfl) ⟨by decide, by decide⟩ dX6_readSemicolon_4 (fun q1 _ => ?_)
  refine r_aload_n C dX6_readSemicolon_7 rfl rfl ?_
  refine r_getp C clX6 kd_4 (k := 0) (by decide) flX6_33 dX6_readSemicolon_8 pt_4_0 ?_
  refine q_geti C clX8 kd_1 (k := 4) (by decide) flX6_65 dX6_readSemicolon_11 (kz := 4) rfl (by decide) ?_
  refine r_iconst C dX6_readSemicolon_14 (by decide) ?_
  refine r_join (γ := Int × Mem) (pcJ := fun _ => 27) (al' := fun q3 => [none]) (st' := fun q3 => [zi q3.1]) (M' := fun q3 => q3.2) ?_ ?_
  · intro q3
    exact r_ireturn C dX6_readSemicolon_27 rfl
  · intro hJq3
    refine q_icmp_ne (tgt := 22) C dX6_readSemicolon_15 (by decide) (fun _ => ?_) (fun _ => ?_)
    · refine r_aload_n C dX6_readSemicolon_22 rfl rfl ?_
      refine r_iconst C dX6_readSemicolon_23 (by decide) ?_
      refine q_callVi (av := [zi 1]) (rest := []) C (tX6_faultHere 1 q1) lkX6_72 kd_4 rfl rfl rfl (Nat.le_of_ble_eq_true rfl) ⟨by decide, by decide⟩ dX6_readSemicolon_24 (fun q2 _ => ?_)
      refine r_less [false] rfl ?_
      exact hJq3 (q2.1, q2.2)
    · refine r_iconst C dX6_readSemicolon_18 (by decide) ?_
      refine r_goto (tgt := 27) C dX6_readSemicolon_19 (by decide) ?_
      refine r_less [false] rfl ?_
      exact hJq3 (0, q1)
set_option maxRecDepth 100000 in
set_option maxHeartbeats 4000000 in
theorem tX6_readInput (p1 : Int) (M : Mem) : Cn yX6_readInput cX6_readInput 4 (some .int) 3 64 [zr 4, zi p1] M ((fX6_readInput p1 M).map oI) := by
  refine Cn_mk (own := RX6) rfl (by decide) (Nat.le_of_ble_eq_true rfl) [some (zr 4), some (zi p1), none, none] rfl (fun G C hn => ?_)
  unfold fX6_readInput
  refine r_aload_n C dX6_readInput_0 rfl rfl ?_
  refine q_geti C clX6 kd_4 (k := 7) (by decide) flX6_44 dX6_readInput_1 (kz := 7) rfl (by decide) ?_
  refine q_if_le (tgt := 13) C dX6_readInput_4 (by decide) (fun _ => ?_) (fun _ => ?_)
  · refine r_aload_n C dX6_readInput_13 rfl rfl ?_
    refine r_getm C clX6 kd_4 (k := 1) (by decide) flX6_12 dX6_readInput_14 rfl (fun t1 _ ht1 => ?_)
    refine q_geti C clX3 (kd_t0 ht1) (k := 10) (by decide) flX6_115 dX6_readInput_17 (kz := 10) rfl (by decide) ?_
    refine r_bipush C dX6_readInput_20 (by decide) ?_
    refine q_icmp_lt (tgt := 31) C dX6_readInput_22 (by decide) (fun _ => ?_) (fun _ => ?_)
    · refine r_aload_n C dX6_readInput_31 rfl rfl ?_
      refine r_getm C clX6 kd_4 (k := 1) (by decide) flX6_12 dX6_readInput_32 rfl (fun t2 _ ht2 => ?_)
      refine q_geti C clX3 (kd_t0 ht2) (k := 10) (by decide) flX6_115 dX6_readInput_35 (kz := 10) rfl (by decide) ?_
      refine r_let (fun v3 _ => ?_)
      refine r_istore_n (al' := [some (zr 4), some (zi p1), some (zi v3), none]) C dX6_readInput_38 rfl (by rw [hn]; decide) rfl ?_
      refine r_aload_n C dX6_readInput_39 rfl rfl ?_
      refine r_getm C clX6 kd_4 (k := 1) (by decide) flX6_12 dX6_readInput_40 rfl (fun t4 _ ht4 => ?_)
      refine r_dup C dX6_readInput_43 rfl ?_
      refine q_geti C clX3 (kd_t0 ht4) (k := 10) (by decide) flX6_115 dX6_readInput_44 (kz := 10) rfl (by decide) ?_
      refine r_iconst C dX6_readInput_47 (by decide) ?_
      refine r_iadd C dX6_readInput_48 ?_
      refine q_puti C clX3 (kd_t0 ht4) (k := 10) (by decide) flX6_115 rfl dX6_readInput_49 rfl rfl (fun M5 => ?_)
      refine r_aload_n C dX6_readInput_52 rfl rfl ?_
      refine r_getm C clX6 kd_4 (k := 1) (by decide) flX6_12 dX6_readInput_53 rfl (fun t6 _ ht6 => ?_)
      refine r_getp C clX3 (kd_t0 ht6) (k := 11) (by decide) flX6_117 dX6_readInput_56 (pt_t0_11 ht6) ?_
      refine r_iload_n C dX6_readInput_59 rfl rfl ?_
      refine r_iload_n C dX6_readInput_60 rfl rfl ?_
      refine r_zastore C dX6_readInput_61 (fun M7 _ => ?_)
      refine r_aload_n C dX6_readInput_62 rfl rfl ?_
      refine r_iload_n C dX6_readInput_63 rfl rfl ?_
      refine q_callVi (av := [zi v3]) (rest := []) C (tX6_readInputName v3 M7) lkX6_120 kd_4 rfl rfl rfl (Nat.le_of_ble_eq_true rfl) ⟨by decide, by decide⟩ dX6_readInput_64 (fun q8 _ => ?_)
      refine r_istore_n (al' := [some (zr 4), some (zi p1), some (zi v3), some (zi q8.1)]) C dX6_readInput_67 rfl (by rw [hn]; decide) rfl ?_
      refine r_iload_n C dX6_readInput_68 rfl rfl ?_
      refine r_join (γ := Int × Mem) (pcJ := fun _ => 81) (al' := fun q10 => [some (zr 4), none, some (zi v3), some (zi q10.1)]) (st' := fun q10 => []) (M' := fun q10 => q10.2) ?_ ?_
      · intro q10
        refine r_iload_n C dX6_readInput_81 rfl rfl ?_
        refine r_join (γ := Int × Mem) (pcJ := fun _ => 116) (al' := fun q14 => [some (zr 4), none, some (zi v3), some (zi q14.1)]) (st' := fun q14 => []) (M' := fun q14 => q14.2) ?_ ?_
        · intro q14
          refine r_iload_n C dX6_readInput_116 rfl rfl ?_
          refine r_join (γ := Int × Mem) (pcJ := fun _ => 141) (al' := fun q18 => [none, none, none, some (zi q18.1)]) (st' := fun q18 => []) (M' := fun q18 => q18.2) ?_ ?_
          · intro q18
            refine r_iload_n C dX6_readInput_141 rfl rfl ?_
            exact r_ireturn C dX6_readInput_142 rfl
          · intro hJq18
            refine q_if_ne (tgt := 141) C dX6_readInput_117 (by decide) (fun _ => ?_) (fun _ => ?_)
            · refine r_less [false, false, false, true] rfl ?_
              exact hJq18 (q14.1, q14.2)
            · refine r_aload_n C dX6_readInput_120 rfl rfl ?_
              refine r_getm C clX6 kd_4 (k := 1) (by decide) flX6_12 dX6_readInput_121 rfl (fun t15 _ ht15 => ?_)
              refine r_getp C clX3 (kd_t0 ht15) (k := 13) (by decide) flX6_130 dX6_readInput_124 (pt_t0_13 ht15) ?_
              refine r_iload_n C dX6_readInput_127 rfl rfl ?_
              refine r_aload_n C dX6_readInput_128 rfl rfl ?_
              refine r_getp C clX6 kd_4 (k := 0) (by decide) flX6_33 dX6_readInput_129 pt_4_0 ?_
              refine q_geti C clX8 kd_1 (k := 6) (by decide) flX6_87 dX6_readInput_132 (kz := 6) rfl (by decide) ?_
              refine r_iastore C dX6_readInput_135 (fun M16 _ => ?_)
              refine r_aload_n C dX6_readInput_136 rfl rfl ?_
              refine q_callVi (av := []) (rest := []) C (tX6_readSemicolon  M16) lkX6_133 kd_4 rfl rfl rfl (Nat.le_of_ble_eq_true rfl) ⟨by decide, by decide⟩ dX6_readInput_137 (fun q17 _ => ?_)
              refine r_istore_n (al' := [some (zr 4), none, some (zi v3), some (zi q17.1)]) C dX6_readInput_140 rfl (by rw [hn]; decide) rfl ?_
              refine r_less [false, false, false, true] rfl ?_
              exact hJq18 (q17.1, q17.2)
        · intro hJq14
          refine q_if_ne (tgt := 116) C dX6_readInput_82 (by decide) (fun _ => ?_) (fun _ => ?_)
          · exact hJq14 (q10.1, q10.2)
          · refine r_aload_n C dX6_readInput_85 rfl rfl ?_
            refine r_getm C clX6 kd_4 (k := 1) (by decide) flX6_12 dX6_readInput_86 rfl (fun t11 _ ht11 => ?_)
            refine r_getp C clX3 (kd_t0 ht11) (k := 12) (by decide) flX6_127 dX6_readInput_89 (pt_t0_12 ht11) ?_
            refine r_iload_n C dX6_readInput_92 rfl rfl ?_
            refine r_aload_n C dX6_readInput_93 rfl rfl ?_
            refine r_getp C clX6 kd_4 (k := 0) (by decide) flX6_33 dX6_readInput_94 pt_4_0 ?_
            refine q_geti C clX8 kd_1 (k := 6) (by decide) flX6_87 dX6_readInput_97 (kz := 6) rfl (by decide) ?_
            refine r_iastore C dX6_readInput_100 (fun M12 _ => ?_)
            refine r_aload_n C dX6_readInput_101 rfl rfl ?_
            refine r_aload_n C dX6_readInput_102 rfl rfl ?_
            refine r_getp C clX6 kd_4 (k := 0) (by decide) flX6_33 dX6_readInput_103 pt_4_0 ?_
            refine q_geti C clX8 kd_1 (k := 6) (by decide) flX6_87 dX6_readInput_106 (kz := 6) rfl (by decide) ?_
            refine r_sipush C dX6_readInput_109 (by decide) ?_
            refine q_callVi (av := [zi (M12 1 6), zi 999]) (rest := []) C (tX6_readNumber (M12 1 6) 999 M12) lkX6_123 kd_4 rfl rfl rfl (Nat.le_of_ble_eq_true rfl) ⟨by decide, by decide⟩ dX6_readInput_112 (fun q13 _ => ?_)
            refine r_istore_n (al' := [some (zr 4), none, some (zi v3), some (zi q13.1)]) C dX6_readInput_115 rfl (by rw [hn]; decide) rfl ?_
            exact hJq14 (q13.1, q13.2)
      · intro hJq10
        refine q_if_ne (tgt := 81) C dX6_readInput_69 (by decide) (fun _ => ?_) (fun _ => ?_)
        · refine r_less [true, false, true, true] rfl ?_
          exact hJq10 (q8.1, q8.2)
        · refine r_aload_n C dX6_readInput_72 rfl rfl ?_
          refine r_iconst C dX6_readInput_73 (by decide) ?_
          refine r_sipush C dX6_readInput_74 (by decide) ?_
          refine q_callVi (av := [zi 0, zi 999]) (rest := []) C (tX6_readNumber 0 999 q8.2) lkX6_123 kd_4 rfl rfl rfl (Nat.le_of_ble_eq_true rfl) ⟨by decide, by decide⟩ dX6_readInput_77 (fun q9 _ => ?_)
          refine r_istore_n (al' := [some (zr 4), some (zi p1), some (zi v3), some (zi q9.1)]) C dX6_readInput_80 rfl (by rw [hn]; decide) rfl ?_
          refine r_less [true, false, true, true] rfl ?_
          exact hJq10 (q9.1, q9.2)
    · refine r_aload_n C dX6_readInput_25 rfl rfl ?_
      refine r_iconst C dX6_readInput_26 (by decide) ?_
      refine q_callVi (av := [zi 5]) (rest := []) C (tX6_faultHere 5 M) lkX6_72 kd_4 rfl rfl rfl (Nat.le_of_ble_eq_true rfl) ⟨by decide, by decide⟩ dX6_readInput_27 (fun q19 _ => ?_)
      exact r_ireturn C dX6_readInput_30 rfl
  · refine r_aload_n C dX6_readInput_7 rfl rfl ?_
    refine r_iconst C dX6_readInput_8 (by decide) ?_
    refine q_callVi (av := [zi 1]) (rest := []) C (tX6_faultHere 1 M) lkX6_72 kd_4 rfl rfl rfl (Nat.le_of_ble_eq_true rfl) ⟨by decide, by decide⟩ dX6_readInput_9 (fun q20 _ => ?_)
    exact r_ireturn C dX6_readInput_12 rfl
set_option maxRecDepth 100000 in
set_option maxHeartbeats 4000000 in
theorem tX6_readFetch  (M : Mem) : Cn yX6_readFetch cX6_readFetch 2 (some .int) 3 64 [zr 4] M ((fX6_readFetch  M).map oI) := by
  refine Cn_mk (own := RX6) rfl (by decide) (Nat.le_of_ble_eq_true rfl) [some (zr 4), none] rfl (fun G C hn => ?_)
  unfold fX6_readFetch
  refine r_aload_n C dX6_readFetch_0 rfl rfl ?_
  refine q_geti C clX6 kd_4 (k := 7) (by decide) flX6_44 dX6_readFetch_1 (kz := 7) rfl (by decide) ?_
  refine q_if_le (tgt := 13) C dX6_readFetch_4 (by decide) (fun _ => ?_) (fun _ => ?_)
  · refine r_aload_n C dX6_readFetch_13 rfl rfl ?_
    refine q_geti C clX6 kd_4 (k := 9) (by decide) flX6_50 dX6_readFetch_14 (kz := 9) rfl (by decide) ?_
    refine q_if_eq (tgt := 26) C dX6_readFetch_17 (by decide) (fun _ => ?_) (fun _ => ?_)
    · refine r_aload_n C dX6_readFetch_26 rfl rfl ?_
      refine r_iconst C dX6_readFetch_27 (by decide) ?_
      refine r_bipush C dX6_readFetch_28 (by decide) ?_
      refine q_callVi (av := [zi 1, zi 8]) (rest := []) C (tX6_readNumber 1 8 M) lkX6_123 kd_4 rfl rfl rfl (Nat.le_of_ble_eq_true rfl) ⟨by decide, by decide⟩ dX6_readFetch_30 (fun q1 _ => ?_)
      refine r_istore_n (al' := [some (zr 4), some (zi q1.1)]) C dX6_readFetch_33 rfl (by rw [hn]; decide) rfl ?_
      refine r_iload_n C dX6_readFetch_34 rfl rfl ?_
      refine r_join (γ := Int × Mem) (pcJ := fun _ => 62) (al' := fun q6 => [none, some (zi q6.1)]) (st' := fun q6 => []) (M' := fun q6 => q6.2) ?_ ?_
      · intro q6
        refine r_iload_n C dX6_readFetch_62 rfl rfl ?_
        exact r_ireturn C dX6_readFetch_63 rfl
      · intro hJq6
        refine q_if_ne (tgt := 62) C dX6_readFetch_35 (by decide) (fun _ => ?_) (fun _ => ?_)
        · refine r_less [false, true] rfl ?_
          exact hJq6 (q1.1, q1.2)
        · refine r_aload_n C dX6_readFetch_38 rfl rfl ?_
          refine r_iconst C dX6_readFetch_39 (by decide) ?_
          refine q_putz C clX6 kd_4 (k := 9) (by decide) flX6_50 rfl dX6_readFetch_40 rfl rfl (fun M2 => ?_)
          refine r_aload_n C dX6_readFetch_43 rfl rfl ?_
          refine r_getm C clX6 kd_4 (k := 1) (by decide) flX6_12 dX6_readFetch_44 rfl (fun t3 _ ht3 => ?_)
          refine r_aload_n C dX6_readFetch_47 rfl rfl ?_
          refine r_getp C clX6 kd_4 (k := 0) (by decide) flX6_33 dX6_readFetch_48 pt_4_0 ?_
          refine q_geti C clX8 kd_1 (k := 6) (by decide) flX6_87 dX6_readFetch_51 (kz := 6) rfl (by decide) ?_
          refine q_puti C clX3 (kd_t0 ht3) (k := 14) (by decide) flX6_157 rfl dX6_readFetch_54 rfl rfl (fun M4 => ?_)
          refine r_aload_n C dX6_readFetch_57 rfl rfl ?_
          refine q_callVi (av := []) (rest := []) C (tX6_readSemicolon  M4) lkX6_133 kd_4 rfl rfl rfl (Nat.le_of_ble_eq_true rfl) ⟨by decide, by decide⟩ dX6_readFetch_58 (fun q5 _ => ?_)
          refine r_istore_n (al' := [some (zr 4), some (zi q5.1)]) C dX6_readFetch_61 rfl (by rw [hn]; decide) rfl ?_
          refine r_less [false, true] rfl ?_
          exact hJq6 (q5.1, q5.2)
    · refine r_aload_n C dX6_readFetch_20 rfl rfl ?_
      refine r_iconst C dX6_readFetch_21 (by decide) ?_
      refine q_callVi (av := [zi 3]) (rest := []) C (tX6_faultHere 3 M) lkX6_72 kd_4 rfl rfl rfl (Nat.le_of_ble_eq_true rfl) ⟨by decide, by decide⟩ dX6_readFetch_22 (fun q7 _ => ?_)
      exact r_ireturn C dX6_readFetch_25 rfl
  · refine r_aload_n C dX6_readFetch_7 rfl rfl ?_
    refine r_iconst C dX6_readFetch_8 (by decide) ?_
    refine q_callVi (av := [zi 1]) (rest := []) C (tX6_faultHere 1 M) lkX6_72 kd_4 rfl rfl rfl (Nat.le_of_ble_eq_true rfl) ⟨by decide, by decide⟩ dX6_readFetch_9 (fun q8 _ => ?_)
    exact r_ireturn C dX6_readFetch_12 rfl
set_option maxRecDepth 100000 in
set_option maxHeartbeats 4000000 in
theorem tX6_readAlu  (M : Mem) : Cn yX6_readAlu cX6_readAlu 2 (some .int) 3 64 [zr 4] M ((fX6_readAlu  M).map oI) := by
  refine Cn_mk (own := RX6) rfl (by decide) (Nat.le_of_ble_eq_true rfl) [some (zr 4), none] rfl (fun G C hn => ?_)
  unfold fX6_readAlu
  refine r_aload_n C dX6_readAlu_0 rfl rfl ?_
  refine q_geti C clX6 kd_4 (k := 7) (by decide) flX6_44 dX6_readAlu_1 (kz := 7) rfl (by decide) ?_
  refine q_if_le (tgt := 13) C dX6_readAlu_4 (by decide) (fun _ => ?_) (fun _ => ?_)
  · refine r_aload_n C dX6_readAlu_13 rfl rfl ?_
    refine q_geti C clX6 kd_4 (k := 10) (by decide) flX6_54 dX6_readAlu_14 (kz := 10) rfl (by decide) ?_
    refine q_if_eq (tgt := 26) C dX6_readAlu_17 (by decide) (fun _ => ?_) (fun _ => ?_)
    · refine r_aload_n C dX6_readAlu_26 rfl rfl ?_
      refine r_iconst C dX6_readAlu_27 (by decide) ?_
      refine r_bipush C dX6_readAlu_28 (by decide) ?_
      refine q_callVi (av := [zi 1, zi 16]) (rest := []) C (tX6_readNumber 1 16 M) lkX6_123 kd_4 rfl rfl rfl (Nat.le_of_ble_eq_true rfl) ⟨by decide, by decide⟩ dX6_readAlu_30 (fun q1 _ => ?_)
      refine r_istore_n (al' := [some (zr 4), some (zi q1.1)]) C dX6_readAlu_33 rfl (by rw [hn]; decide) rfl ?_
      refine r_iload_n C dX6_readAlu_34 rfl rfl ?_
      refine r_join (γ := Int × Mem) (pcJ := fun _ => 62) (al' := fun q6 => [none, some (zi q6.1)]) (st' := fun q6 => []) (M' := fun q6 => q6.2) ?_ ?_
      · intro q6
        refine r_iload_n C dX6_readAlu_62 rfl rfl ?_
        exact r_ireturn C dX6_readAlu_63 rfl
      · intro hJq6
        refine q_if_ne (tgt := 62) C dX6_readAlu_35 (by decide) (fun _ => ?_) (fun _ => ?_)
        · refine r_less [false, true] rfl ?_
          exact hJq6 (q1.1, q1.2)
        · refine r_aload_n C dX6_readAlu_38 rfl rfl ?_
          refine r_iconst C dX6_readAlu_39 (by decide) ?_
          refine q_putz C clX6 kd_4 (k := 10) (by decide) flX6_54 rfl dX6_readAlu_40 rfl rfl (fun M2 => ?_)
          refine r_aload_n C dX6_readAlu_43 rfl rfl ?_
          refine r_getm C clX6 kd_4 (k := 1) (by decide) flX6_12 dX6_readAlu_44 rfl (fun t3 _ ht3 => ?_)
          refine r_aload_n C dX6_readAlu_47 rfl rfl ?_
          refine r_getp C clX6 kd_4 (k := 0) (by decide) flX6_33 dX6_readAlu_48 pt_4_0 ?_
          refine q_geti C clX8 kd_1 (k := 6) (by decide) flX6_87 dX6_readAlu_51 (kz := 6) rfl (by decide) ?_
          refine q_puti C clX3 (kd_t0 ht3) (k := 15) (by decide) flX6_160 rfl dX6_readAlu_54 rfl rfl (fun M4 => ?_)
          refine r_aload_n C dX6_readAlu_57 rfl rfl ?_
          refine q_callVi (av := []) (rest := []) C (tX6_readSemicolon  M4) lkX6_133 kd_4 rfl rfl rfl (Nat.le_of_ble_eq_true rfl) ⟨by decide, by decide⟩ dX6_readAlu_58 (fun q5 _ => ?_)
          refine r_istore_n (al' := [some (zr 4), some (zi q5.1)]) C dX6_readAlu_61 rfl (by rw [hn]; decide) rfl ?_
          refine r_less [false, true] rfl ?_
          exact hJq6 (q5.1, q5.2)
    · refine r_aload_n C dX6_readAlu_20 rfl rfl ?_
      refine r_iconst C dX6_readAlu_21 (by decide) ?_
      refine q_callVi (av := [zi 3]) (rest := []) C (tX6_faultHere 3 M) lkX6_72 kd_4 rfl rfl rfl (Nat.le_of_ble_eq_true rfl) ⟨by decide, by decide⟩ dX6_readAlu_22 (fun q7 _ => ?_)
      exact r_ireturn C dX6_readAlu_25 rfl
  · refine r_aload_n C dX6_readAlu_7 rfl rfl ?_
    refine r_iconst C dX6_readAlu_8 (by decide) ?_
    refine q_callVi (av := [zi 1]) (rest := []) C (tX6_faultHere 1 M) lkX6_72 kd_4 rfl rfl rfl (Nat.le_of_ble_eq_true rfl) ⟨by decide, by decide⟩ dX6_readAlu_9 (fun q8 _ => ?_)
    exact r_ireturn C dX6_readAlu_12 rfl
set_option maxRecDepth 100000 in
set_option maxHeartbeats 4000000 in
theorem tX6_takeArg (p1 : Int) (p2 : Int) (p3 : Int) (M : Mem) : Cn yX6_takeArg cX6_takeArg 5 (some .int) 1 23 [zr 4, zi p1, zi p2, zi p3] M ((fX6_takeArg p1 p2 p3 M).map oI) := by
  refine Cn_mk (own := RX6) rfl (by decide) (Nat.le_of_ble_eq_true rfl) [some (zr 4), some (zi p1), some (zi p2), some (zi p3), none] rfl (fun G C hn => ?_)
  unfold fX6_takeArg
  refine r_aload_n C dX6_takeArg_0 rfl rfl ?_
  refine r_getp C clX6 kd_4 (k := 0) (by decide) flX6_33 dX6_takeArg_1 pt_4_0 ?_
  refine q_geti C clX8 kd_1 (k := 4) (by decide) flX6_65 dX6_takeArg_4 (kz := 4) rfl (by decide) ?_
  refine r_iconst C dX6_takeArg_7 (by decide) ?_
  refine q_icmp_ne (tgt := 30) C dX6_takeArg_8 (by decide) (fun _ => ?_) (fun _ => ?_)
  · refine r_aload_n C dX6_takeArg_30 rfl rfl ?_
    refine r_getp C clX6 kd_4 (k := 0) (by decide) flX6_33 dX6_takeArg_31 pt_4_0 ?_
    refine q_geti C clX8 kd_1 (k := 4) (by decide) flX6_65 dX6_takeArg_34 (kz := 4) rfl (by decide) ?_
    refine r_iconst C dX6_takeArg_37 (by decide) ?_
    refine q_icmp_ne (tgt := 80) C dX6_takeArg_38 (by decide) (fun _ => ?_) (fun _ => ?_)
    · refine r_aload_n C dX6_takeArg_80 rfl rfl ?_
      refine r_iconst C dX6_takeArg_81 (by decide) ?_
      refine q_callVi (av := [zi 1]) (rest := []) C (tX6_faultHere 1 M) lkX6_72 kd_4 rfl rfl rfl (Nat.le_of_ble_eq_true rfl) ⟨by decide, by decide⟩ dX6_takeArg_82 (fun q1 _ => ?_)
      exact r_ireturn C dX6_takeArg_85 rfl
    · refine r_aload_n C dX6_takeArg_41 rfl rfl ?_
      refine r_aload_n C dX6_takeArg_42 rfl rfl ?_
      refine r_getp C clX6 kd_4 (k := 0) (by decide) flX6_33 dX6_takeArg_43 pt_4_0 ?_
      refine q_getl C clX8 kd_1 (k := 7) (by decide) flX6_139 dX6_takeArg_46 (kz := 7) rfl rfl ?_
      refine q_callVi (av := [zl (M 1 7)]) (rest := []) C (tX6_slotOf (M 1 7) M) lkX6_143 kd_4 rfl rfl rfl (Nat.le_of_ble_eq_true rfl) ⟨by decide, by decide⟩ dX6_takeArg_49 (fun q2 _ => ?_)
      refine r_istore (al' := [some (zr 4), some (zi p1), some (zi p2), some (zi p3), some (zi q2.1)]) C dX6_takeArg_52 (by rw [hn]; decide) rfl ?_
      refine r_iload C dX6_takeArg_54 rfl ?_
      refine r_iconst C dX6_takeArg_56 (by decide) ?_
      refine q_icmp_ne (tgt := 66) C dX6_takeArg_57 (by decide) (fun _ => ?_) (fun _ => ?_)
      · refine r_aload_n C dX6_takeArg_66 rfl rfl ?_
        refine r_aload_n C dX6_takeArg_67 rfl rfl ?_
        refine r_getp C clX6 kd_4 (k := 3) (by decide) flX6_22 dX6_takeArg_68 pt_4_3 ?_
        refine r_iload C dX6_takeArg_71 rfl ?_
        refine r_iaload C dX6_takeArg_73 (fun v3 _ => ?_)
        refine q_puti C clX6 kd_4 (k := 11) (by decide) flX6_183 rfl dX6_takeArg_74 rfl rfl (fun M4 => ?_)
        refine r_goto (tgt := 86) C dX6_takeArg_77 (by decide) ?_
        refine r_aload_n C dX6_takeArg_86 rfl rfl ?_
        refine r_getm C clX6 kd_4 (k := 1) (by decide) flX6_12 dX6_takeArg_87 rfl (fun t5 _ ht5 => ?_)
        refine r_getp C clX3 (kd_t0 ht5) (k := 6) (by decide) flX6_204 dX6_takeArg_90 (pt_t0_6 ht5) ?_
        refine r_iconst C dX6_takeArg_93 (by decide) ?_
        refine r_iload_n C dX6_takeArg_94 rfl rfl ?_
        refine r_imul C dX6_takeArg_95 ?_
        refine r_iload_n C dX6_takeArg_96 rfl rfl ?_
        refine r_iadd C dX6_takeArg_97 ?_
        refine r_iload C dX6_takeArg_98 rfl ?_
        refine r_iastore C dX6_takeArg_100 (fun M6 _ => ?_)
        refine r_aload_n C dX6_takeArg_101 rfl rfl ?_
        refine r_getm C clX6 kd_4 (k := 1) (by decide) flX6_12 dX6_takeArg_102 rfl (fun t7 _ ht7 => ?_)
        refine r_getp C clX3 (kd_t0 ht7) (k := 7) (by decide) flX6_207 dX6_takeArg_105 (pt_t0_7 ht7) ?_
        refine r_iconst C dX6_takeArg_108 (by decide) ?_
        refine r_iload_n C dX6_takeArg_109 rfl rfl ?_
        refine r_imul C dX6_takeArg_110 ?_
        refine r_iload_n C dX6_takeArg_111 rfl rfl ?_
        refine r_iadd C dX6_takeArg_112 ?_
        refine r_aload_n C dX6_takeArg_113 rfl rfl ?_
        refine r_getp C clX6 kd_4 (k := 0) (by decide) flX6_33 dX6_takeArg_114 pt_4_0 ?_
        refine q_geti C clX8 kd_1 (k := 5) (by decide) flX6_78 dX6_takeArg_117 (kz := 5) rfl (by decide) ?_
        refine r_iastore C dX6_takeArg_120 (fun M8 _ => ?_)
        refine r_iload_n C dX6_takeArg_121 rfl rfl ?_
        refine r_iconst C dX6_takeArg_122 (by decide) ?_
        refine r_join (γ := Int × Mem) (pcJ := fun _ => 144) (al' := fun q10 => [none, none, none, none, none]) (st' := fun q10 => [zi q10.1]) (M' := fun q10 => q10.2) ?_ ?_
        · intro q10
          exact r_ireturn C dX6_takeArg_144 rfl
        · intro hJq10
          refine q_icmp_eq (tgt := 134) C dX6_takeArg_123 (by decide) (fun _ => ?_) (fun _ => ?_)
          · refine r_iconst C dX6_takeArg_134 (by decide) ?_
            refine r_goto (tgt := 144) C dX6_takeArg_135 (by decide) ?_
            refine r_less [false, false, false, false, false] rfl ?_
            exact hJq10 (0, M8)
          · refine r_iload_n C dX6_takeArg_126 rfl rfl ?_
            refine r_aload_n C dX6_takeArg_127 rfl rfl ?_
            refine q_geti C clX6 kd_4 (k := 11) (by decide) flX6_183 dX6_takeArg_128 (kz := 11) rfl (by decide) ?_
            refine q_icmp_ne (tgt := 138) C dX6_takeArg_131 (by decide) (fun _ => ?_) (fun _ => ?_)
            · refine r_aload_n C dX6_takeArg_138 rfl rfl ?_
              refine r_bipush C dX6_takeArg_139 (by decide) ?_
              refine q_callVi (av := [zi 6]) (rest := []) C (tX6_faultHere 6 M8) lkX6_72 kd_4 rfl rfl rfl (Nat.le_of_ble_eq_true rfl) ⟨by decide, by decide⟩ dX6_takeArg_141 (fun q9 _ => ?_)
              refine r_less [false, false, false, false, false] rfl ?_
              exact hJq10 (q9.1, q9.2)
            · refine r_iconst C dX6_takeArg_134 (by decide) ?_
              refine r_goto (tgt := 144) C dX6_takeArg_135 (by decide) ?_
              refine r_less [false, false, false, false, false] rfl ?_
              exact hJq10 (0, M8)
      · refine r_aload_n C dX6_takeArg_60 rfl rfl ?_
        refine r_iconst C dX6_takeArg_61 (by decide) ?_
        refine q_callVi (av := [zi 2]) (rest := []) C (tX6_faultHere 2 q2.2) lkX6_72 kd_4 rfl rfl rfl (Nat.le_of_ble_eq_true rfl) ⟨by decide, by decide⟩ dX6_takeArg_62 (fun q11 _ => ?_)
        exact r_ireturn C dX6_takeArg_65 rfl
  · refine r_aload_n C dX6_takeArg_11 rfl rfl ?_
    refine r_getp C clX6 kd_4 (k := 0) (by decide) flX6_33 dX6_takeArg_12 pt_4_0 ?_
    refine q_geti C clX8 kd_1 (k := 6) (by decide) flX6_87 dX6_takeArg_15 (kz := 6) rfl (by decide) ?_
    refine r_iconst C dX6_takeArg_18 (by decide) ?_
    refine r_ixor C dX6_takeArg_19 ?_
    refine r_let (fun v12 _ => ?_)
    refine r_istore (al' := [some (zr 4), some (zi p1), some (zi p2), some (zi p3), some (zi v12)]) C dX6_takeArg_20 (by rw [hn]; decide) rfl ?_
    refine r_aload_n C dX6_takeArg_22 rfl rfl ?_
    refine r_iconst C dX6_takeArg_23 (by decide) ?_
    refine q_puti C clX6 kd_4 (k := 11) (by decide) flX6_183 rfl dX6_takeArg_24 rfl rfl (fun M13 => ?_)
    refine r_goto (tgt := 86) C dX6_takeArg_27 (by decide) ?_
    refine r_aload_n C dX6_takeArg_86 rfl rfl ?_
    refine r_getm C clX6 kd_4 (k := 1) (by decide) flX6_12 dX6_takeArg_87 rfl (fun t14 _ ht14 => ?_)
    refine r_getp C clX3 (kd_t0 ht14) (k := 6) (by decide) flX6_204 dX6_takeArg_90 (pt_t0_6 ht14) ?_
    refine r_iconst C dX6_takeArg_93 (by decide) ?_
    refine r_iload_n C dX6_takeArg_94 rfl rfl ?_
    refine r_imul C dX6_takeArg_95 ?_
    refine r_iload_n C dX6_takeArg_96 rfl rfl ?_
    refine r_iadd C dX6_takeArg_97 ?_
    refine r_iload C dX6_takeArg_98 rfl ?_
    refine r_iastore C dX6_takeArg_100 (fun M15 _ => ?_)
    refine r_aload_n C dX6_takeArg_101 rfl rfl ?_
    refine r_getm C clX6 kd_4 (k := 1) (by decide) flX6_12 dX6_takeArg_102 rfl (fun t16 _ ht16 => ?_)
    refine r_getp C clX3 (kd_t0 ht16) (k := 7) (by decide) flX6_207 dX6_takeArg_105 (pt_t0_7 ht16) ?_
    refine r_iconst C dX6_takeArg_108 (by decide) ?_
    refine r_iload_n C dX6_takeArg_109 rfl rfl ?_
    refine r_imul C dX6_takeArg_110 ?_
    refine r_iload_n C dX6_takeArg_111 rfl rfl ?_
    refine r_iadd C dX6_takeArg_112 ?_
    refine r_aload_n C dX6_takeArg_113 rfl rfl ?_
    refine r_getp C clX6 kd_4 (k := 0) (by decide) flX6_33 dX6_takeArg_114 pt_4_0 ?_
    refine q_geti C clX8 kd_1 (k := 5) (by decide) flX6_78 dX6_takeArg_117 (kz := 5) rfl (by decide) ?_
    refine r_iastore C dX6_takeArg_120 (fun M17 _ => ?_)
    refine r_iload_n C dX6_takeArg_121 rfl rfl ?_
    refine r_iconst C dX6_takeArg_122 (by decide) ?_
    refine r_join (γ := Int × Mem) (pcJ := fun _ => 144) (al' := fun q19 => [none, none, none, none, none]) (st' := fun q19 => [zi q19.1]) (M' := fun q19 => q19.2) ?_ ?_
    · intro q19
      exact r_ireturn C dX6_takeArg_144 rfl
    · intro hJq19
      refine q_icmp_eq (tgt := 134) C dX6_takeArg_123 (by decide) (fun _ => ?_) (fun _ => ?_)
      · refine r_iconst C dX6_takeArg_134 (by decide) ?_
        refine r_goto (tgt := 144) C dX6_takeArg_135 (by decide) ?_
        refine r_less [false, false, false, false, false] rfl ?_
        exact hJq19 (0, M17)
      · refine r_iload_n C dX6_takeArg_126 rfl rfl ?_
        refine r_aload_n C dX6_takeArg_127 rfl rfl ?_
        refine q_geti C clX6 kd_4 (k := 11) (by decide) flX6_183 dX6_takeArg_128 (kz := 11) rfl (by decide) ?_
        refine q_icmp_ne (tgt := 138) C dX6_takeArg_131 (by decide) (fun _ => ?_) (fun _ => ?_)
        · refine r_aload_n C dX6_takeArg_138 rfl rfl ?_
          refine r_bipush C dX6_takeArg_139 (by decide) ?_
          refine q_callVi (av := [zi 6]) (rest := []) C (tX6_faultHere 6 M17) lkX6_72 kd_4 rfl rfl rfl (Nat.le_of_ble_eq_true rfl) ⟨by decide, by decide⟩ dX6_takeArg_141 (fun q18 _ => ?_)
          refine r_less [false, false, false, false, false] rfl ?_
          exact hJq19 (q18.1, q18.2)
        · refine r_iconst C dX6_takeArg_134 (by decide) ?_
          refine r_goto (tgt := 144) C dX6_takeArg_135 (by decide) ?_
          refine r_less [false, false, false, false, false] rfl ?_
          exact hJq19 (0, M17)
set_option maxRecDepth 100000 in
set_option maxHeartbeats 4000000 in
theorem tX6_readWhen  (M : Mem) : Cn yX6_readWhen cX6_readWhen 3 (some .int) 3 62 [zr 4] M ((fX6_readWhen  M).map oI) := by
  refine Cn_mk (own := RX6) rfl (by decide) (Nat.le_of_ble_eq_true rfl) [some (zr 4), none, none] rfl (fun G C hn => ?_)
  unfold fX6_readWhen
  refine r_aload_n C dX6_readWhen_0 rfl rfl ?_
  refine q_geti C clX6 kd_4 (k := 7) (by decide) flX6_44 dX6_readWhen_1 (kz := 7) rfl (by decide) ?_
  refine r_iconst C dX6_readWhen_4 (by decide) ?_
  refine q_icmp_lt (tgt := 14) C dX6_readWhen_5 (by decide) (fun _ => ?_) (fun _ => ?_)
  · refine r_aload_n C dX6_readWhen_14 rfl rfl ?_
    refine r_getm C clX6 kd_4 (k := 1) (by decide) flX6_12 dX6_readWhen_15 rfl (fun t1 _ ht1 => ?_)
    refine r_iconst C dX6_readWhen_18 (by decide) ?_
    refine r_aload_n C dX6_readWhen_19 rfl rfl ?_
    refine r_getp C clX6 kd_4 (k := 0) (by decide) flX6_33 dX6_readWhen_20 pt_4_0 ?_
    refine q_geti C clX8 kd_1 (k := 5) (by decide) flX6_78 dX6_readWhen_23 (kz := 5) rfl (by decide) ?_
    refine q_callVi (av := [zi 5, zi (M 1 5)]) (rest := []) C (tX3_open t1 ht1 5 (M 1 5) M) lkX6_136 (kd_t0 ht1) rfl rfl rfl (Nat.le_of_ble_eq_true rfl) ⟨by decide, by decide⟩ dX6_readWhen_26 (fun q2 _ => ?_)
    refine r_istore_n (al' := [some (zr 4), some (zi q2.1), none]) C dX6_readWhen_29 rfl (by rw [hn]; decide) rfl ?_
    refine r_aload_n C dX6_readWhen_30 rfl rfl ?_
    refine r_getp C clX6 kd_4 (k := 0) (by decide) flX6_33 dX6_readWhen_31 pt_4_0 ?_
    refine q_callVv (av := []) (rest := []) C (tX8_advance  q2.2) lkX6_62 kd_1 rfl rfl rfl (Nat.le_of_ble_eq_true rfl) ⟨by decide, by decide⟩ dX6_readWhen_34 (fun q3 _ => ?_)
    refine r_aload_n C dX6_readWhen_37 rfl rfl ?_
    refine r_iload_n C dX6_readWhen_38 rfl rfl ?_
    refine r_iconst C dX6_readWhen_39 (by decide) ?_
    refine r_iconst C dX6_readWhen_40 (by decide) ?_
    refine q_callVi (av := [zi q2.1, zi 0, zi 1]) (rest := []) C (tX6_takeArg q2.1 0 1 q3) lkX6_163 kd_4 rfl rfl rfl (Nat.le_of_ble_eq_true rfl) ⟨by decide, by decide⟩ dX6_readWhen_41 (fun q4 _ => ?_)
    refine r_istore_n (al' := [some (zr 4), some (zi q2.1), some (zi q4.1)]) C dX6_readWhen_44 rfl (by rw [hn]; decide) rfl ?_
    refine r_iload_n C dX6_readWhen_45 rfl rfl ?_
    refine r_join (γ := Int × Mem) (pcJ := fun _ => 126) (al' := fun q16 => [none, none, some (zi q16.1)]) (st' := fun q16 => []) (M' := fun q16 => q16.2) ?_ ?_
    · intro q16
      refine r_iload_n C dX6_readWhen_126 rfl rfl ?_
      exact r_ireturn C dX6_readWhen_127 rfl
    · intro hJq16
      refine q_if_ne (tgt := 126) C dX6_readWhen_46 (by decide) (fun _ => ?_) (fun _ => ?_)
      · refine r_less [false, false, true] rfl ?_
        exact hJq16 (q4.1, q4.2)
      · refine r_aload_n C dX6_readWhen_49 rfl rfl ?_
        refine r_getm C clX6 kd_4 (k := 1) (by decide) flX6_12 dX6_readWhen_50 rfl (fun t5 _ ht5 => ?_)
        refine r_getp C clX3 (kd_t0 ht5) (k := 3) (by decide) flX6_150 dX6_readWhen_53 (pt_t0_3 ht5) ?_
        refine r_iload_n C dX6_readWhen_56 rfl rfl ?_
        refine r_aload_n C dX6_readWhen_57 rfl rfl ?_
        refine q_geti C clX6 kd_4 (k := 5) (by decide) flX6_40 dX6_readWhen_58 (kz := 5) rfl (by decide) ?_
        refine r_iastore C dX6_readWhen_61 (fun M6 _ => ?_)
        refine r_aload_n C dX6_readWhen_62 rfl rfl ?_
        refine r_getm C clX6 kd_4 (k := 1) (by decide) flX6_12 dX6_readWhen_63 rfl (fun t7 _ ht7 => ?_)
        refine r_getp C clX3 (kd_t0 ht7) (k := 9) (by decide) flX6_147 dX6_readWhen_66 (pt_t0_9 ht7) ?_
        refine r_iload_n C dX6_readWhen_69 rfl rfl ?_
        refine r_aload_n C dX6_readWhen_70 rfl rfl ?_
        refine r_getm C clX6 kd_4 (k := 1) (by decide) flX6_12 dX6_readWhen_71 rfl (fun t8 _ ht8 => ?_)
        refine q_geti C clX3 (kd_t0 ht8) (k := 16) (by decide) flX6_167 dX6_readWhen_74 (kz := 16) rfl (by decide) ?_
        refine r_iastore C dX6_readWhen_77 (fun M9 _ => ?_)
        refine r_aload_n C dX6_readWhen_78 rfl rfl ?_
        refine r_getm C clX6 kd_4 (k := 1) (by decide) flX6_12 dX6_readWhen_79 rfl (fun t10 _ ht10 => ?_)
        refine r_dup C dX6_readWhen_82 rfl ?_
        refine q_geti C clX3 (kd_t0 ht10) (k := 16) (by decide) flX6_167 dX6_readWhen_83 (kz := 16) rfl (by decide) ?_
        refine r_iconst C dX6_readWhen_86 (by decide) ?_
        refine r_iadd C dX6_readWhen_87 ?_
        refine q_puti C clX3 (kd_t0 ht10) (k := 16) (by decide) flX6_167 rfl dX6_readWhen_88 rfl rfl (fun M11 => ?_)
        refine r_aload_n C dX6_readWhen_91 rfl rfl ?_
        refine r_dup C dX6_readWhen_92 rfl ?_
        refine q_geti C clX6 kd_4 (k := 8) (by decide) flX6_47 dX6_readWhen_93 (kz := 8) rfl (by decide) ?_
        refine r_iconst C dX6_readWhen_96 (by decide) ?_
        refine r_iadd C dX6_readWhen_97 ?_
        refine q_puti C clX6 kd_4 (k := 8) (by decide) flX6_47 rfl dX6_readWhen_98 rfl rfl (fun M12 => ?_)
        refine r_aload_n C dX6_readWhen_101 rfl rfl ?_
        refine r_getp C clX6 kd_4 (k := 6) (by decide) flX6_30 dX6_readWhen_102 pt_4_6 ?_
        refine r_aload_n C dX6_readWhen_105 rfl rfl ?_
        refine q_geti C clX6 kd_4 (k := 7) (by decide) flX6_44 dX6_readWhen_106 (kz := 7) rfl (by decide) ?_
        refine r_iload_n C dX6_readWhen_109 rfl rfl ?_
        refine r_iastore C dX6_readWhen_110 (fun M13 _ => ?_)
        refine r_aload_n C dX6_readWhen_111 rfl rfl ?_
        refine r_dup C dX6_readWhen_112 rfl ?_
        refine q_geti C clX6 kd_4 (k := 7) (by decide) flX6_44 dX6_readWhen_113 (kz := 7) rfl (by decide) ?_
        refine r_iconst C dX6_readWhen_116 (by decide) ?_
        refine r_iadd C dX6_readWhen_117 ?_
        refine q_puti C clX6 kd_4 (k := 7) (by decide) flX6_44 rfl dX6_readWhen_118 rfl rfl (fun M14 => ?_)
        refine r_aload_n C dX6_readWhen_121 rfl rfl ?_
        refine q_callVi (av := []) (rest := []) C (tX6_readSemicolon  M14) lkX6_133 kd_4 rfl rfl rfl (Nat.le_of_ble_eq_true rfl) ⟨by decide, by decide⟩ dX6_readWhen_122 (fun q15 _ => ?_)
        refine r_istore_n (al' := [some (zr 4), some (zi q2.1), some (zi q15.1)]) C dX6_readWhen_125 rfl (by rw [hn]; decide) rfl ?_
        refine r_less [false, false, true] rfl ?_
        exact hJq16 (q15.1, q15.2)
  · refine r_aload_n C dX6_readWhen_8 rfl rfl ?_
    refine r_iconst C dX6_readWhen_9 (by decide) ?_
    refine q_callVi (av := [zi 5]) (rest := []) C (tX6_faultHere 5 M) lkX6_72 kd_4 rfl rfl rfl (Nat.le_of_ble_eq_true rfl) ⟨by decide, by decide⟩ dX6_readWhen_10 (fun q17 _ => ?_)
    exact r_ireturn C dX6_readWhen_13 rfl
set_option maxRecDepth 100000 in
set_option maxHeartbeats 4000000 in
theorem tX6_readElse  (M : Mem) : Cn yX6_readElse cX6_readElse 2 (some .int) 3 62 [zr 4] M ((fX6_readElse  M).map oI) := by
  refine Cn_mk (own := RX6) rfl (by decide) (Nat.le_of_ble_eq_true rfl) [some (zr 4), none] rfl (fun G C hn => ?_)
  unfold fX6_readElse
  refine r_aload_n C dX6_readElse_0 rfl rfl ?_
  refine q_geti C clX6 kd_4 (k := 7) (by decide) flX6_44 dX6_readElse_1 (kz := 7) rfl (by decide) ?_
  refine r_join (γ := Int) (pcJ := fun _ => 22) (al' := fun q2 => [some (zr 4), none]) (st' := fun q2 => [zi q2]) (M' := fun q2 => M) ?_ ?_
  · intro q2
    refine r_istore_n (al' := [some (zr 4), some (zi q2)]) C dX6_readElse_22 rfl (by rw [hn]; decide) rfl ?_
    refine r_iload_n C dX6_readElse_23 rfl rfl ?_
    refine r_iconst C dX6_readElse_24 (by decide) ?_
    refine q_icmp_eq (tgt := 54) C dX6_readElse_25 (by decide) (fun _ => ?_) (fun _ => ?_)
    · refine r_aload_n C dX6_readElse_54 rfl rfl ?_
      refine r_iconst C dX6_readElse_55 (by decide) ?_
      refine q_callVi (av := [zi 1]) (rest := []) C (tX6_faultHere 1 M) lkX6_72 kd_4 rfl rfl rfl (Nat.le_of_ble_eq_true rfl) ⟨by decide, by decide⟩ dX6_readElse_56 (fun q3 _ => ?_)
      exact r_ireturn C dX6_readElse_59 rfl
    · refine r_aload_n C dX6_readElse_28 rfl rfl ?_
      refine r_getm C clX6 kd_4 (k := 1) (by decide) flX6_12 dX6_readElse_29 rfl (fun t4 _ ht4 => ?_)
      refine r_getp C clX3 (kd_t0 ht4) (k := 1) (by decide) flX6_170 dX6_readElse_32 (pt_t0_1 ht4) ?_
      refine r_iload_n C dX6_readElse_35 rfl rfl ?_
      refine r_iaload C dX6_readElse_36 (fun v5 _ => ?_)
      refine r_iconst C dX6_readElse_37 (by decide) ?_
      refine q_icmp_ne (tgt := 54) C dX6_readElse_38 (by decide) (fun _ => ?_) (fun _ => ?_)
      · refine r_aload_n C dX6_readElse_54 rfl rfl ?_
        refine r_iconst C dX6_readElse_55 (by decide) ?_
        refine q_callVi (av := [zi 1]) (rest := []) C (tX6_faultHere 1 M) lkX6_72 kd_4 rfl rfl rfl (Nat.le_of_ble_eq_true rfl) ⟨by decide, by decide⟩ dX6_readElse_56 (fun q6 _ => ?_)
        exact r_ireturn C dX6_readElse_59 rfl
      · refine r_aload_n C dX6_readElse_41 rfl rfl ?_
        refine r_getm C clX6 kd_4 (k := 1) (by decide) flX6_12 dX6_readElse_42 rfl (fun t7 _ ht7 => ?_)
        refine r_getp C clX3 (kd_t0 ht7) (k := 8) (by decide) flX6_173 dX6_readElse_45 (pt_t0_8 ht7) ?_
        refine r_iload_n C dX6_readElse_48 rfl rfl ?_
        refine r_iaload C dX6_readElse_49 (fun v8 _ => ?_)
        refine r_iconst C dX6_readElse_50 (by decide) ?_
        refine q_icmp_eq (tgt := 60) C dX6_readElse_51 (by decide) (fun _ => ?_) (fun _ => ?_)
        · refine r_aload_n C dX6_readElse_60 rfl rfl ?_
          refine r_getm C clX6 kd_4 (k := 1) (by decide) flX6_12 dX6_readElse_61 rfl (fun t9 _ ht9 => ?_)
          refine r_getp C clX3 (kd_t0 ht9) (k := 8) (by decide) flX6_173 dX6_readElse_64 (pt_t0_8 ht9) ?_
          refine r_iload_n C dX6_readElse_67 rfl rfl ?_
          refine r_aload_n C dX6_readElse_68 rfl rfl ?_
          refine r_getm C clX6 kd_4 (k := 1) (by decide) flX6_12 dX6_readElse_69 rfl (fun t10 _ ht10 => ?_)
          refine r_bipush C dX6_readElse_72 (by decide) ?_
          refine r_aload_n C dX6_readElse_74 rfl rfl ?_
          refine r_getp C clX6 kd_4 (k := 0) (by decide) flX6_33 dX6_readElse_75 pt_4_0 ?_
          refine q_geti C clX8 kd_1 (k := 5) (by decide) flX6_78 dX6_readElse_78 (kz := 5) rfl (by decide) ?_
          refine q_callVi (av := [zi 6, zi (M 1 5)]) (rest := [zi q2, zr (t9 + 8)]) C (tX3_open t10 ht10 6 (M 1 5) M) lkX6_136 (kd_t0 ht10) rfl rfl rfl (Nat.le_of_ble_eq_true rfl) ⟨by decide, by decide⟩ dX6_readElse_81 (fun q11 _ => ?_)
          refine r_iastore C dX6_readElse_84 (fun M12 _ => ?_)
          refine r_aload_n C dX6_readElse_85 rfl rfl ?_
          refine r_aload_n C dX6_readElse_86 rfl rfl ?_
          refine r_getm C clX6 kd_4 (k := 1) (by decide) flX6_12 dX6_readElse_87 rfl (fun t13 _ ht13 => ?_)
          refine r_getp C clX3 (kd_t0 ht13) (k := 3) (by decide) flX6_150 dX6_readElse_90 (pt_t0_3 ht13) ?_
          refine r_iload_n C dX6_readElse_93 rfl rfl ?_
          refine r_iaload C dX6_readElse_94 (fun v14 _ => ?_)
          refine q_puti C clX6 kd_4 (k := 5) (by decide) flX6_40 rfl dX6_readElse_95 rfl rfl (fun M15 => ?_)
          refine r_aload_n C dX6_readElse_98 rfl rfl ?_
          refine q_callVi (av := []) (rest := []) C (tX6_readSemicolon  M15) lkX6_133 kd_4 rfl rfl rfl (Nat.le_of_ble_eq_true rfl) ⟨by decide, by decide⟩ dX6_readElse_99 (fun q16 _ => ?_)
          exact r_ireturn C dX6_readElse_102 rfl
        · refine r_aload_n C dX6_readElse_54 rfl rfl ?_
          refine r_iconst C dX6_readElse_55 (by decide) ?_
          refine q_callVi (av := [zi 1]) (rest := []) C (tX6_faultHere 1 M) lkX6_72 kd_4 rfl rfl rfl (Nat.le_of_ble_eq_true rfl) ⟨by decide, by decide⟩ dX6_readElse_56 (fun q17 _ => ?_)
          exact r_ireturn C dX6_readElse_59 rfl
  · intro hJq2
    refine q_if_le (tgt := 21) C dX6_readElse_4 (by decide) (fun _ => ?_) (fun _ => ?_)
    · refine r_iconst C dX6_readElse_21 (by decide) ?_
      exact hJq2 (-1)
    · refine r_aload_n C dX6_readElse_7 rfl rfl ?_
      refine r_getp C clX6 kd_4 (k := 6) (by decide) flX6_30 dX6_readElse_8 pt_4_6 ?_
      refine r_aload_n C dX6_readElse_11 rfl rfl ?_
      refine q_geti C clX6 kd_4 (k := 7) (by decide) flX6_44 dX6_readElse_12 (kz := 7) rfl (by decide) ?_
      refine r_iconst C dX6_readElse_15 (by decide) ?_
      refine r_isub C dX6_readElse_16 ?_
      refine r_iaload C dX6_readElse_17 (fun v1 _ => ?_)
      refine r_goto (tgt := 22) C dX6_readElse_18 (by decide) ?_
      exact hJq2 v1
set_option maxRecDepth 100000 in
set_option maxHeartbeats 4000000 in
theorem tX6_readTimes  (M : Mem) : Cn yX6_readTimes cX6_readTimes 3 (some .int) 3 64 [zr 4] M ((fX6_readTimes  M).map oI) := by
  refine Cn_mk (own := RX6) rfl (by decide) (Nat.le_of_ble_eq_true rfl) [some (zr 4), none, none] rfl (fun G C hn => ?_)
  unfold fX6_readTimes
  refine r_aload_n C dX6_readTimes_0 rfl rfl ?_
  refine q_geti C clX6 kd_4 (k := 7) (by decide) flX6_44 dX6_readTimes_1 (kz := 7) rfl (by decide) ?_
  refine r_iconst C dX6_readTimes_4 (by decide) ?_
  refine q_icmp_lt (tgt := 14) C dX6_readTimes_5 (by decide) (fun _ => ?_) (fun _ => ?_)
  · refine r_aload_n C dX6_readTimes_14 rfl rfl ?_
    refine r_getm C clX6 kd_4 (k := 1) (by decide) flX6_12 dX6_readTimes_15 rfl (fun t1 _ ht1 => ?_)
    refine r_bipush C dX6_readTimes_18 (by decide) ?_
    refine r_aload_n C dX6_readTimes_20 rfl rfl ?_
    refine r_getp C clX6 kd_4 (k := 0) (by decide) flX6_33 dX6_readTimes_21 pt_4_0 ?_
    refine q_geti C clX8 kd_1 (k := 5) (by decide) flX6_78 dX6_readTimes_24 (kz := 5) rfl (by decide) ?_
    refine q_callVi (av := [zi 7, zi (M 1 5)]) (rest := []) C (tX3_open t1 ht1 7 (M 1 5) M) lkX6_136 (kd_t0 ht1) rfl rfl rfl (Nat.le_of_ble_eq_true rfl) ⟨by decide, by decide⟩ dX6_readTimes_27 (fun q2 _ => ?_)
    refine r_istore_n (al' := [some (zr 4), some (zi q2.1), none]) C dX6_readTimes_30 rfl (by rw [hn]; decide) rfl ?_
    refine r_aload_n C dX6_readTimes_31 rfl rfl ?_
    refine r_iconst C dX6_readTimes_32 (by decide) ?_
    refine r_bipush C dX6_readTimes_33 (by decide) ?_
    refine q_callVi (av := [zi 2, zi 9]) (rest := []) C (tX6_readNumber 2 9 q2.2) lkX6_123 kd_4 rfl rfl rfl (Nat.le_of_ble_eq_true rfl) ⟨by decide, by decide⟩ dX6_readTimes_35 (fun q3 _ => ?_)
    refine r_istore_n (al' := [some (zr 4), some (zi q2.1), some (zi q3.1)]) C dX6_readTimes_38 rfl (by rw [hn]; decide) rfl ?_
    refine r_iload_n C dX6_readTimes_39 rfl rfl ?_
    refine r_join (γ := Int × Mem) (pcJ := fun _ => 84) (al' := fun q9 => [none, none, some (zi q9.1)]) (st' := fun q9 => []) (M' := fun q9 => q9.2) ?_ ?_
    · intro q9
      refine r_iload_n C dX6_readTimes_84 rfl rfl ?_
      exact r_ireturn C dX6_readTimes_85 rfl
    · intro hJq9
      refine q_if_ne (tgt := 84) C dX6_readTimes_40 (by decide) (fun _ => ?_) (fun _ => ?_)
      · refine r_less [false, false, true] rfl ?_
        exact hJq9 (q3.1, q3.2)
      · refine r_aload_n C dX6_readTimes_43 rfl rfl ?_
        refine r_getm C clX6 kd_4 (k := 1) (by decide) flX6_12 dX6_readTimes_44 rfl (fun t4 _ ht4 => ?_)
        refine r_getp C clX3 (kd_t0 ht4) (k := 9) (by decide) flX6_147 dX6_readTimes_47 (pt_t0_9 ht4) ?_
        refine r_iload_n C dX6_readTimes_50 rfl rfl ?_
        refine r_aload_n C dX6_readTimes_51 rfl rfl ?_
        refine r_getp C clX6 kd_4 (k := 0) (by decide) flX6_33 dX6_readTimes_52 pt_4_0 ?_
        refine q_geti C clX8 kd_1 (k := 6) (by decide) flX6_87 dX6_readTimes_55 (kz := 6) rfl (by decide) ?_
        refine r_iastore C dX6_readTimes_58 (fun M5 _ => ?_)
        refine r_aload_n C dX6_readTimes_59 rfl rfl ?_
        refine r_getp C clX6 kd_4 (k := 6) (by decide) flX6_30 dX6_readTimes_60 pt_4_6 ?_
        refine r_aload_n C dX6_readTimes_63 rfl rfl ?_
        refine q_geti C clX6 kd_4 (k := 7) (by decide) flX6_44 dX6_readTimes_64 (kz := 7) rfl (by decide) ?_
        refine r_iload_n C dX6_readTimes_67 rfl rfl ?_
        refine r_iastore C dX6_readTimes_68 (fun M6 _ => ?_)
        refine r_aload_n C dX6_readTimes_69 rfl rfl ?_
        refine r_dup C dX6_readTimes_70 rfl ?_
        refine q_geti C clX6 kd_4 (k := 7) (by decide) flX6_44 dX6_readTimes_71 (kz := 7) rfl (by decide) ?_
        refine r_iconst C dX6_readTimes_74 (by decide) ?_
        refine r_iadd C dX6_readTimes_75 ?_
        refine q_puti C clX6 kd_4 (k := 7) (by decide) flX6_44 rfl dX6_readTimes_76 rfl rfl (fun M7 => ?_)
        refine r_aload_n C dX6_readTimes_79 rfl rfl ?_
        refine q_callVi (av := []) (rest := []) C (tX6_readSemicolon  M7) lkX6_133 kd_4 rfl rfl rfl (Nat.le_of_ble_eq_true rfl) ⟨by decide, by decide⟩ dX6_readTimes_80 (fun q8 _ => ?_)
        refine r_istore_n (al' := [some (zr 4), some (zi q2.1), some (zi q8.1)]) C dX6_readTimes_83 rfl (by rw [hn]; decide) rfl ?_
        refine r_less [false, false, true] rfl ?_
        exact hJq9 (q8.1, q8.2)
  · refine r_aload_n C dX6_readTimes_8 rfl rfl ?_
    refine r_iconst C dX6_readTimes_9 (by decide) ?_
    refine q_callVi (av := [zi 5]) (rest := []) C (tX6_faultHere 5 M) lkX6_72 kd_4 rfl rfl rfl (Nat.le_of_ble_eq_true rfl) ⟨by decide, by decide⟩ dX6_readTimes_10 (fun q10 _ => ?_)
    exact r_ireturn C dX6_readTimes_13 rfl
set_option maxRecDepth 100000 in
set_option maxHeartbeats 4000000 in
theorem tX6_readEnd  (M : Mem) : Cn yX6_readEnd cX6_readEnd 4 (some .int) 3 62 [zr 4] M ((fX6_readEnd  M).map oI) := by
  refine Cn_mk (own := RX6) rfl (by decide) (Nat.le_of_ble_eq_true rfl) [some (zr 4), none, none, none] rfl (fun G C hn => ?_)
  unfold fX6_readEnd
  refine r_aload_n C dX6_readEnd_0 rfl rfl ?_
  refine q_geti C clX6 kd_4 (k := 7) (by decide) flX6_44 dX6_readEnd_1 (kz := 7) rfl (by decide) ?_
  refine q_if_ne (tgt := 13) C dX6_readEnd_4 (by decide) (fun _ => ?_) (fun _ => ?_)
  · refine r_aload_n C dX6_readEnd_13 rfl rfl ?_
    refine r_dup C dX6_readEnd_14 rfl ?_
    refine q_geti C clX6 kd_4 (k := 7) (by decide) flX6_44 dX6_readEnd_15 (kz := 7) rfl (by decide) ?_
    refine r_iconst C dX6_readEnd_18 (by decide) ?_
    refine r_isub C dX6_readEnd_19 ?_
    refine q_puti C clX6 kd_4 (k := 7) (by decide) flX6_44 rfl dX6_readEnd_20 rfl rfl (fun M1 => ?_)
    refine r_aload_n C dX6_readEnd_23 rfl rfl ?_
    refine r_getp C clX6 kd_4 (k := 6) (by decide) flX6_30 dX6_readEnd_24 pt_4_6 ?_
    refine r_aload_n C dX6_readEnd_27 rfl rfl ?_
    refine q_geti C clX6 kd_4 (k := 7) (by decide) flX6_44 dX6_readEnd_28 (kz := 7) rfl (by decide) ?_
    refine r_iaload C dX6_readEnd_31 (fun v2 _ => ?_)
    refine r_istore_n (al' := [some (zr 4), some (zi v2), none, none]) C dX6_readEnd_32 rfl (by rw [hn]; decide) rfl ?_
    refine r_aload_n C dX6_readEnd_33 rfl rfl ?_
    refine r_getm C clX6 kd_4 (k := 1) (by decide) flX6_12 dX6_readEnd_34 rfl (fun t3 _ ht3 => ?_)
    refine r_bipush C dX6_readEnd_37 (by decide) ?_
    refine r_aload_n C dX6_readEnd_39 rfl rfl ?_
    refine r_getp C clX6 kd_4 (k := 0) (by decide) flX6_33 dX6_readEnd_40 pt_4_0 ?_
    refine q_geti C clX8 kd_1 (k := 5) (by decide) flX6_78 dX6_readEnd_43 (kz := 5) rfl (by decide) ?_
    refine q_callVi (av := [zi 8, zi (M1 1 5)]) (rest := []) C (tX3_open t3 ht3 8 (M1 1 5) M1) lkX6_136 (kd_t0 ht3) rfl rfl rfl (Nat.le_of_ble_eq_true rfl) ⟨by decide, by decide⟩ dX6_readEnd_46 (fun q4 _ => ?_)
    refine r_istore_n (al' := [some (zr 4), some (zi v2), some (zi q4.1), none]) C dX6_readEnd_49 rfl (by rw [hn]; decide) rfl ?_
    refine r_aload_n C dX6_readEnd_50 rfl rfl ?_
    refine r_getm C clX6 kd_4 (k := 1) (by decide) flX6_12 dX6_readEnd_51 rfl (fun t5 _ ht5 => ?_)
    refine r_getp C clX3 (kd_t0 ht5) (k := 8) (by decide) flX6_173 dX6_readEnd_54 (pt_t0_8 ht5) ?_
    refine r_iload_n C dX6_readEnd_57 rfl rfl ?_
    refine r_iload_n C dX6_readEnd_58 rfl rfl ?_
    refine r_iastore C dX6_readEnd_59 (fun M6 _ => ?_)
    refine r_aload_n C dX6_readEnd_60 rfl rfl ?_
    refine r_getm C clX6 kd_4 (k := 1) (by decide) flX6_12 dX6_readEnd_61 rfl (fun t7 _ ht7 => ?_)
    refine r_getp C clX3 (kd_t0 ht7) (k := 1) (by decide) flX6_170 dX6_readEnd_64 (pt_t0_1 ht7) ?_
    refine r_iload_n C dX6_readEnd_67 rfl rfl ?_
    refine r_iaload C dX6_readEnd_68 (fun v8 _ => ?_)
    refine r_iconst C dX6_readEnd_69 (by decide) ?_
    refine r_join (γ := Mem) (pcJ := fun _ => 125) (al' := fun q18 => [some (zr 4), none, none, none]) (st' := fun q18 => []) (M' := fun q18 => q18) ?_ ?_
    · intro q18
      refine r_aload_n C dX6_readEnd_125 rfl rfl ?_
      refine q_callVi (av := []) (rest := []) C (tX6_readSemicolon  q18) lkX6_133 kd_4 rfl rfl rfl (Nat.le_of_ble_eq_true rfl) ⟨by decide, by decide⟩ dX6_readEnd_126 (fun q19 _ => ?_)
      exact r_ireturn C dX6_readEnd_129 rfl
    · intro hJq18
      refine q_icmp_ne (tgt := 125) C dX6_readEnd_70 (by decide) (fun _ => ?_) (fun _ => ?_)
      · refine r_less [true, false, false, false] rfl ?_
        exact hJq18 M6
      · refine r_aload_n C dX6_readEnd_73 rfl rfl ?_
        refine r_getm C clX6 kd_4 (k := 1) (by decide) flX6_12 dX6_readEnd_74 rfl (fun t9 _ ht9 => ?_)
        refine r_getp C clX3 (kd_t0 ht9) (k := 8) (by decide) flX6_173 dX6_readEnd_77 (pt_t0_8 ht9) ?_
        refine r_iload_n C dX6_readEnd_80 rfl rfl ?_
        refine r_iaload C dX6_readEnd_81 (fun v10 _ => ?_)
        refine r_istore_n (al' := [some (zr 4), some (zi v2), some (zi q4.1), some (zi v10)]) C dX6_readEnd_82 rfl (by rw [hn]; decide) rfl ?_
        refine r_aload_n C dX6_readEnd_83 rfl rfl ?_
        refine r_getm C clX6 kd_4 (k := 1) (by decide) flX6_12 dX6_readEnd_84 rfl (fun t11 _ ht11 => ?_)
        refine r_getp C clX3 (kd_t0 ht11) (k := 8) (by decide) flX6_173 dX6_readEnd_87 (pt_t0_8 ht11) ?_
        refine r_iload_n C dX6_readEnd_90 rfl rfl ?_
        refine r_iconst C dX6_readEnd_91 (by decide) ?_
        refine r_join (γ := Int) (pcJ := fun _ => 100) (al' := fun q12 => [some (zr 4), some (zi v2), some (zi q4.1), none]) (st' := fun q12 => [zi q12, zr (t11 + 8)]) (M' := fun q12 => M6) ?_ ?_
        · intro q12
          refine r_iload_n C dX6_readEnd_100 rfl rfl ?_
          refine r_iastore C dX6_readEnd_101 (fun M13 _ => ?_)
          refine r_aload_n C dX6_readEnd_102 rfl rfl ?_
          refine r_aload_n C dX6_readEnd_103 rfl rfl ?_
          refine r_getm C clX6 kd_4 (k := 1) (by decide) flX6_12 dX6_readEnd_104 rfl (fun t14 _ ht14 => ?_)
          refine r_getp C clX3 (kd_t0 ht14) (k := 3) (by decide) flX6_150 dX6_readEnd_107 (pt_t0_3 ht14) ?_
          refine r_iload_n C dX6_readEnd_110 rfl rfl ?_
          refine r_iaload C dX6_readEnd_111 (fun v15 _ => ?_)
          refine q_puti C clX6 kd_4 (k := 5) (by decide) flX6_40 rfl dX6_readEnd_112 rfl rfl (fun M16 => ?_)
          refine r_aload_n C dX6_readEnd_115 rfl rfl ?_
          refine r_dup C dX6_readEnd_116 rfl ?_
          refine q_geti C clX6 kd_4 (k := 8) (by decide) flX6_47 dX6_readEnd_117 (kz := 8) rfl (by decide) ?_
          refine r_iconst C dX6_readEnd_120 (by decide) ?_
          refine r_isub C dX6_readEnd_121 ?_
          refine q_puti C clX6 kd_4 (k := 8) (by decide) flX6_47 rfl dX6_readEnd_122 rfl rfl (fun M17 => ?_)
          refine r_less [true, false, false, false] rfl ?_
          exact hJq18 M17
        · intro hJq12
          refine q_icmp_ne (tgt := 99) C dX6_readEnd_92 (by decide) (fun _ => ?_) (fun _ => ?_)
          · refine r_iload_n C dX6_readEnd_99 rfl rfl ?_
            refine r_less [true, true, true, false] rfl ?_
            exact hJq12 v10
          · refine r_iload_n C dX6_readEnd_95 rfl rfl ?_
            refine r_goto (tgt := 100) C dX6_readEnd_96 (by decide) ?_
            refine r_less [true, true, true, false] rfl ?_
            exact hJq12 v2
  · refine r_aload_n C dX6_readEnd_7 rfl rfl ?_
    refine r_iconst C dX6_readEnd_8 (by decide) ?_
    refine q_callVi (av := [zi 1]) (rest := []) C (tX6_faultHere 1 M) lkX6_72 kd_4 rfl rfl rfl (Nat.le_of_ble_eq_true rfl) ⟨by decide, by decide⟩ dX6_readEnd_9 (fun q20 _ => ?_)
    exact r_ireturn C dX6_readEnd_12 rfl
set_option maxRecDepth 100000 in
set_option maxHeartbeats 4000000 in
theorem tX6_readShow  (M : Mem) : Cn yX6_readShow cX6_readShow 3 (some .int) 3 62 [zr 4] M ((fX6_readShow  M).map oI) := by
  refine Cn_mk (own := RX6) rfl (by decide) (Nat.le_of_ble_eq_true rfl) [some (zr 4), none, none] rfl (fun G C hn => ?_)
  unfold fX6_readShow
  refine r_aload_n C dX6_readShow_0 rfl rfl ?_
  refine q_geti C clX6 kd_4 (k := 8) (by decide) flX6_47 dX6_readShow_1 (kz := 8) rfl (by decide) ?_
  refine q_if_le (tgt := 13) C dX6_readShow_4 (by decide) (fun _ => ?_) (fun _ => ?_)
  · refine r_aload_n C dX6_readShow_13 rfl rfl ?_
    refine r_getm C clX6 kd_4 (k := 1) (by decide) flX6_12 dX6_readShow_14 rfl (fun t1 _ ht1 => ?_)
    refine r_bipush C dX6_readShow_17 (by decide) ?_
    refine r_aload_n C dX6_readShow_19 rfl rfl ?_
    refine r_getp C clX6 kd_4 (k := 0) (by decide) flX6_33 dX6_readShow_20 pt_4_0 ?_
    refine q_geti C clX8 kd_1 (k := 5) (by decide) flX6_78 dX6_readShow_23 (kz := 5) rfl (by decide) ?_
    refine q_callVi (av := [zi 9, zi (M 1 5)]) (rest := []) C (tX3_open t1 ht1 9 (M 1 5) M) lkX6_136 (kd_t0 ht1) rfl rfl rfl (Nat.le_of_ble_eq_true rfl) ⟨by decide, by decide⟩ dX6_readShow_26 (fun q2 _ => ?_)
    refine r_istore_n (al' := [some (zr 4), some (zi q2.1), none]) C dX6_readShow_29 rfl (by rw [hn]; decide) rfl ?_
    refine r_aload_n C dX6_readShow_30 rfl rfl ?_
    refine r_getp C clX6 kd_4 (k := 0) (by decide) flX6_33 dX6_readShow_31 pt_4_0 ?_
    refine q_callVv (av := []) (rest := []) C (tX8_advance  q2.2) lkX6_62 kd_1 rfl rfl rfl (Nat.le_of_ble_eq_true rfl) ⟨by decide, by decide⟩ dX6_readShow_34 (fun q3 _ => ?_)
    refine r_aload_n C dX6_readShow_37 rfl rfl ?_
    refine r_iload_n C dX6_readShow_38 rfl rfl ?_
    refine r_iconst C dX6_readShow_39 (by decide) ?_
    refine r_iconst C dX6_readShow_40 (by decide) ?_
    refine q_callVi (av := [zi q2.1, zi 0, zi 0]) (rest := []) C (tX6_takeArg q2.1 0 0 q3) lkX6_163 kd_4 rfl rfl rfl (Nat.le_of_ble_eq_true rfl) ⟨by decide, by decide⟩ dX6_readShow_41 (fun q4 _ => ?_)
    refine r_istore_n (al' := [some (zr 4), some (zi q2.1), some (zi q4.1)]) C dX6_readShow_44 rfl (by rw [hn]; decide) rfl ?_
    refine r_iload_n C dX6_readShow_45 rfl rfl ?_
    refine r_join (γ := Int × Mem) (pcJ := fun _ => 57) (al' := fun q6 => [none, none, none]) (st' := fun q6 => [zi q6.1]) (M' := fun q6 => q6.2) ?_ ?_
    · intro q6
      exact r_ireturn C dX6_readShow_57 rfl
    · intro hJq6
      refine q_if_ne (tgt := 56) C dX6_readShow_46 (by decide) (fun _ => ?_) (fun _ => ?_)
      · refine r_iload_n C dX6_readShow_56 rfl rfl ?_
        refine r_less [false, false, false] rfl ?_
        exact hJq6 (q4.1, q4.2)
      · refine r_aload_n C dX6_readShow_49 rfl rfl ?_
        refine q_callVi (av := []) (rest := []) C (tX6_readSemicolon  q4.2) lkX6_133 kd_4 rfl rfl rfl (Nat.le_of_ble_eq_true rfl) ⟨by decide, by decide⟩ dX6_readShow_50 (fun q5 _ => ?_)
        refine r_goto (tgt := 57) C dX6_readShow_53 (by decide) ?_
        refine r_less [false, false, false] rfl ?_
        exact hJq6 (q5.1, q5.2)
  · refine r_aload_n C dX6_readShow_7 rfl rfl ?_
    refine r_iconst C dX6_readShow_8 (by decide) ?_
    refine q_callVi (av := [zi 1]) (rest := []) C (tX6_faultHere 1 M) lkX6_72 kd_4 rfl rfl rfl (Nat.le_of_ble_eq_true rfl) ⟨by decide, by decide⟩ dX6_readShow_9 (fun q7 _ => ?_)
    exact r_ireturn C dX6_readShow_12 rfl
set_option maxRecDepth 100000 in
set_option maxHeartbeats 4000000 in
theorem tX8_isWord (p1 : Int) (M : Mem) : Cn yX8_isWord cX8_isWord 2 (some .boolean) 0 0 [zr 1, zi p1] M ((fX8_isWord p1 M).map oI) := by
  refine Cn_mk (own := RX8) rfl (by decide) (Nat.le_of_ble_eq_true rfl) [some (zr 1), some (zi p1)] rfl (fun G C hn => ?_)
  unfold fX8_isWord
  refine r_aload_n C dX8_isWord_0 rfl rfl ?_
  refine q_geti C clX8 kd_1 (k := 4) (by decide) flX8_42 dX8_isWord_1 (kz := 4) rfl (by decide) ?_
  refine r_iconst C dX8_isWord_4 (by decide) ?_
  refine r_join (γ := Int) (pcJ := fun _ => 21) (al' := fun q1 => [none, none]) (st' := fun q1 => [zi q1]) (M' := fun q1 => M) ?_ ?_
  · intro q1
    exact r_zreturn C dX8_isWord_21 rfl
  · intro hJq1
    refine q_icmp_ne (tgt := 20) C dX8_isWord_5 (by decide) (fun _ => ?_) (fun _ => ?_)
    · refine r_iconst C dX8_isWord_20 (by decide) ?_
      refine r_less [false, false] rfl ?_
      exact hJq1 0
    · refine r_aload_n C dX8_isWord_8 rfl rfl ?_
      refine q_geti C clX8 kd_1 (k := 6) (by decide) flX8_55 dX8_isWord_9 (kz := 6) rfl (by decide) ?_
      refine r_iload_n C dX8_isWord_12 rfl rfl ?_
      refine q_icmp_ne (tgt := 20) C dX8_isWord_13 (by decide) (fun _ => ?_) (fun _ => ?_)
      · refine r_iconst C dX8_isWord_20 (by decide) ?_
        refine r_less [false, false] rfl ?_
        exact hJq1 0
      · refine r_iconst C dX8_isWord_16 (by decide) ?_
        refine r_goto (tgt := 21) C dX8_isWord_17 (by decide) ?_
        refine r_less [false, false] rfl ?_
        exact hJq1 1
set_option maxRecDepth 100000 in
set_option maxHeartbeats 4000000 in
theorem tX11_typeMade (p1 : Int) (M : Mem) : Cn yX11_typeMade cX11_typeMade 1 (some .int) 0 0 [zi p1] M ((fX11_typeMade p1 M).map oI) := by
  refine Cn_mk (own := RX11) rfl (by decide) (Nat.le_of_ble_eq_true rfl) [some (zi p1)] rfl (fun G C hn => ?_)
  unfold fX11_typeMade
  refine r_iload_n C dX11_typeMade_0 rfl rfl ?_
  refine r_bipush C dX11_typeMade_1 (by decide) ?_
  refine r_join (γ := Int) (pcJ := fun _ => 17) (al' := fun q1 => [none]) (st' := fun q1 => [zi q1]) (M' := fun q1 => M) ?_ ?_
  · intro q1
    exact r_ireturn C dX11_typeMade_17 rfl
  · intro hJq1
    refine q_icmp_lt (tgt := 16) C dX11_typeMade_3 (by decide) (fun _ => ?_) (fun _ => ?_)
    · refine r_iconst C dX11_typeMade_16 (by decide) ?_
      refine r_less [false] rfl ?_
      exact hJq1 0
    · refine r_iload_n C dX11_typeMade_6 rfl rfl ?_
      refine r_bipush C dX11_typeMade_7 (by decide) ?_
      refine q_icmp_gt (tgt := 16) C dX11_typeMade_9 (by decide) (fun _ => ?_) (fun _ => ?_)
      · refine r_iconst C dX11_typeMade_16 (by decide) ?_
        refine r_less [false] rfl ?_
        exact hJq1 0
      · refine r_iconst C dX11_typeMade_12 (by decide) ?_
        refine r_goto (tgt := 17) C dX11_typeMade_13 (by decide) ?_
        refine r_less [false] rfl ?_
        exact hJq1 1
set_option maxRecDepth 100000 in
set_option maxHeartbeats 4000000 in
theorem tX11_argsOf (p1 : Int) (M : Mem) : Cn yX11_argsOf cX11_argsOf 1 (some .int) 0 0 [zi p1] M ((fX11_argsOf p1 M).map oI) := by
  refine Cn_mk (own := RX11) rfl (by decide) (Nat.le_of_ble_eq_true rfl) [some (zi p1)] rfl (fun G C hn => ?_)
  unfold fX11_argsOf
  refine r_iload_n C dX11_argsOf_0 rfl rfl ?_
  refine r_ite (fun hx0 => ?_) (fun hx0 => ?_)
  · refine r_sw 76 ?_ (fun J => ?_)
    · refine r_iconst C dX11_argsOf_76 (by decide) ?_
      exact r_ireturn C dX11_argsOf_77 rfl
    · rcases hx0 with hx0 | hx0
      · exact r_tabIn (n := 0) C dX11_argsOf_1 hx0 (by decide) (by decide) rfl (by decide) J
      · exact r_tabIn (n := 1) C dX11_argsOf_1 hx0 (by decide) (by decide) rfl (by decide) J
  refine r_ite (fun hx1 => ?_) (fun hx1 => ?_)
  · refine r_sw 78 ?_ (fun J => ?_)
    · refine r_iconst C dX11_argsOf_78 (by decide) ?_
      exact r_ireturn C dX11_argsOf_79 rfl
    · rcases hx1 with hx1 | hx1 | hx1
      · exact r_tabIn (n := 7) C dX11_argsOf_1 hx1 (by decide) (by decide) rfl (by decide) J
      · exact r_tabIn (n := 12) C dX11_argsOf_1 hx1 (by decide) (by decide) rfl (by decide) J
      · exact r_tabIn (n := 14) C dX11_argsOf_1 hx1 (by decide) (by decide) rfl (by decide) J
  refine r_ite (fun hx2 => ?_) (fun hx2 => ?_)
  · refine r_sw 80 ?_ (fun J => ?_)
    · refine r_iconst C dX11_argsOf_80 (by decide) ?_
      exact r_ireturn C dX11_argsOf_81 rfl
    · skip
      exact r_tabIn (n := 13) C dX11_argsOf_1 hx2 (by decide) (by decide) rfl (by decide) J
  refine r_sw 82 ?_ (fun J => ?_)
  · refine r_iconst C dX11_argsOf_82 (by decide) ?_
    exact r_ireturn C dX11_argsOf_83 rfl
  · skip
    by_cases hh : p1 = 2
    · exact r_tabIn (n := 2) C dX11_argsOf_1 hh (by decide) (by decide) rfl (by decide) J
    by_cases hh : p1 = 3
    · exact r_tabIn (n := 3) C dX11_argsOf_1 hh (by decide) (by decide) rfl (by decide) J
    by_cases hh : p1 = 4
    · exact r_tabIn (n := 4) C dX11_argsOf_1 hh (by decide) (by decide) rfl (by decide) J
    by_cases hh : p1 = 5
    · exact r_tabIn (n := 5) C dX11_argsOf_1 hh (by decide) (by decide) rfl (by decide) J
    by_cases hh : p1 = 6
    · exact r_tabIn (n := 6) C dX11_argsOf_1 hh (by decide) (by decide) rfl (by decide) J
    by_cases hh : p1 = 8
    · exact r_tabIn (n := 8) C dX11_argsOf_1 hh (by decide) (by decide) rfl (by decide) J
    by_cases hh : p1 = 9
    · exact r_tabIn (n := 9) C dX11_argsOf_1 hh (by decide) (by decide) rfl (by decide) J
    by_cases hh : p1 = 10
    · exact r_tabIn (n := 10) C dX11_argsOf_1 hh (by decide) (by decide) rfl (by decide) J
    by_cases hh : p1 = 11
    · exact r_tabIn (n := 11) C dX11_argsOf_1 hh (by decide) (by decide) rfl (by decide) J
    exact r_tabOut C dX11_argsOf_1 (by omega) (by decide) J
set_option maxRecDepth 100000 in
set_option maxHeartbeats 4000000 in
theorem tX11_typeTaken (p1 : Int) (M : Mem) : Cn yX11_typeTaken cX11_typeTaken 1 (some .int) 0 0 [zi p1] M ((fX11_typeTaken p1 M).map oI) := by
  refine Cn_mk (own := RX11) rfl (by decide) (Nat.le_of_ble_eq_true rfl) [some (zi p1)] rfl (fun G C hn => ?_)
  unfold fX11_typeTaken
  refine r_iload_n C dX11_typeTaken_0 rfl rfl ?_
  refine r_bipush C dX11_typeTaken_1 (by decide) ?_
  refine r_join (γ := Int) (pcJ := fun _ => 23) (al' := fun q1 => [none]) (st' := fun q1 => [zi q1]) (M' := fun q1 => M) ?_ ?_
  · intro q1
    exact r_ireturn C dX11_typeTaken_23 rfl
  · intro hJq1
    refine q_icmp_eq (tgt := 18) C dX11_typeTaken_3 (by decide) (fun _ => ?_) (fun _ => ?_)
    · refine r_iconst C dX11_typeTaken_18 (by decide) ?_
      refine r_goto (tgt := 23) C dX11_typeTaken_19 (by decide) ?_
      refine r_less [false] rfl ?_
      exact hJq1 1
    · refine r_iload_n C dX11_typeTaken_6 rfl rfl ?_
      refine r_bipush C dX11_typeTaken_7 (by decide) ?_
      refine q_icmp_eq (tgt := 18) C dX11_typeTaken_9 (by decide) (fun _ => ?_) (fun _ => ?_)
      · refine r_iconst C dX11_typeTaken_18 (by decide) ?_
        refine r_goto (tgt := 23) C dX11_typeTaken_19 (by decide) ?_
        refine r_less [false] rfl ?_
        exact hJq1 1
      · refine r_iload_n C dX11_typeTaken_12 rfl rfl ?_
        refine r_bipush C dX11_typeTaken_13 (by decide) ?_
        refine q_icmp_ne (tgt := 22) C dX11_typeTaken_15 (by decide) (fun _ => ?_) (fun _ => ?_)
        · refine r_iconst C dX11_typeTaken_22 (by decide) ?_
          refine r_less [false] rfl ?_
          exact hJq1 0
        · refine r_iconst C dX11_typeTaken_18 (by decide) ?_
          refine r_goto (tgt := 23) C dX11_typeTaken_19 (by decide) ?_
          refine r_less [false] rfl ?_
          exact hJq1 1
set_option maxRecDepth 100000 in
set_option maxHeartbeats 4000000 in
theorem tX6_typeWanted (p1 : Int) (p2 : Int) (p3 : Int) (M : Mem) : Cn yX6_typeWanted cX6_typeWanted 4 (some .int) 1 20 [zr 4, zi p1, zi p2, zi p3] M ((fX6_typeWanted p1 p2 p3 M).map oI) := by
  refine Cn_mk (own := RX6) rfl (by decide) (Nat.le_of_ble_eq_true rfl) [some (zr 4), some (zi p1), some (zi p2), some (zi p3)] rfl (fun G C hn => ?_)
  unfold fX6_typeWanted
  refine r_iload_n C dX6_typeWanted_0 rfl rfl ?_
  refine r_bipush C dX6_typeWanted_1 (by decide) ?_
  refine q_icmp_ne (tgt := 8) C dX6_typeWanted_3 (by decide) (fun _ => ?_) (fun _ => ?_)
  · refine r_iload_n C dX6_typeWanted_8 rfl rfl ?_
    refine r_bipush C dX6_typeWanted_9 (by decide) ?_
    refine q_icmp_eq (tgt := 19) C dX6_typeWanted_11 (by decide) (fun _ => ?_) (fun _ => ?_)
    · refine r_iload_n C dX6_typeWanted_19 rfl rfl ?_
      refine r_ite (fun hx0 => ?_) (fun hx0 => ?_)
      · refine r_sw 48 ?_ (fun J => ?_)
        · refine r_iconst C dX6_typeWanted_48 (by decide) ?_
          exact r_ireturn C dX6_typeWanted_49 rfl
        · skip
          exact r_look C dX6_typeWanted_20 (by decide) (by rw [hx0]) (by decide) J
      refine r_ite (fun hx1 => ?_) (fun hx1 => ?_)
      · refine r_sw 50 ?_ (fun J => ?_)
        · refine r_iload_n C dX6_typeWanted_50 rfl rfl ?_
          exact r_ireturn C dX6_typeWanted_51 rfl
        · skip
          exact r_look C dX6_typeWanted_20 (by decide) (by rw [hx1]) (by decide) J
      refine r_look (off := 32) (tgt := 52) C dX6_typeWanted_20 (by decide) (by simp [Op.lookupswitch.offset, Ne.symm hx0, Ne.symm hx1]) (by decide) ?_
      refine r_aload_n C dX6_typeWanted_52 rfl rfl ?_
      refine q_geti C clX6 kd_4 (k := 11) (by decide) flX6_183 dX6_typeWanted_53 (kz := 11) rfl (by decide) ?_
      exact r_ireturn C dX6_typeWanted_56 rfl
    · refine r_iload_n C dX6_typeWanted_14 rfl rfl ?_
      refine q_callNi (av := [zi p1]) (rest := []) C (tX11_typeTaken p1 M) lkX6_201 rfl rfl (Nat.le_of_ble_eq_true rfl) ⟨by decide, by decide⟩ dX6_typeWanted_15 (fun q1 _ => ?_)
      exact r_ireturn C dX6_typeWanted_18 rfl
  · refine r_iload_n C dX6_typeWanted_6 rfl rfl ?_
    exact r_ireturn C dX6_typeWanted_7 rfl
set_option maxRecDepth 100000 in
set_option maxHeartbeats 4000000 in
theorem tX6_readOp (p1 : Int) (p2 : Int) (M : Mem) : Cn yX6_readOp cX6_readOp 7 (some .int) 2 47 [zr 4, zi p1, zi p2] M ((fX6_readOp p1 p2 M).map oI) := by
  refine Cn_mk (own := RX6) rfl (by decide) (Nat.le_of_ble_eq_true rfl) [some (zr 4), some (zi p1), some (zi p2), none, none, none, none] rfl (fun G C hn => ?_)
  unfold fX6_readOp
  refine r_aload_n C dX6_readOp_0 rfl rfl ?_
  refine r_getp C clX6 kd_4 (k := 0) (by decide) flX6_33 dX6_readOp_1 pt_4_0 ?_
  refine q_callVv (av := []) (rest := []) C (tX8_advance  M) lkX6_62 kd_1 rfl rfl rfl (Nat.le_of_ble_eq_true rfl) ⟨by decide, by decide⟩ dX6_readOp_4 (fun q1 _ => ?_)
  refine r_aload_n C dX6_readOp_7 rfl rfl ?_
  refine r_getp C clX6 kd_4 (k := 0) (by decide) flX6_33 dX6_readOp_8 pt_4_0 ?_
  refine q_geti C clX8 kd_1 (k := 4) (by decide) flX6_65 dX6_readOp_11 (kz := 4) rfl (by decide) ?_
  refine r_iconst C dX6_readOp_14 (by decide) ?_
  refine q_icmp_ne (tgt := 30) C dX6_readOp_15 (by decide) (fun _ => ?_) (fun _ => ?_)
  · refine r_aload_n C dX6_readOp_30 rfl rfl ?_
    refine r_iconst C dX6_readOp_31 (by decide) ?_
    refine q_callVi (av := [zi 1]) (rest := []) C (tX6_faultHere 1 q1) lkX6_72 kd_4 rfl rfl rfl (Nat.le_of_ble_eq_true rfl) ⟨by decide, by decide⟩ dX6_readOp_32 (fun q2 _ => ?_)
    exact r_ireturn C dX6_readOp_35 rfl
  · refine r_aload_n C dX6_readOp_18 rfl rfl ?_
    refine r_getp C clX6 kd_4 (k := 0) (by decide) flX6_33 dX6_readOp_19 pt_4_0 ?_
    refine q_geti C clX8 kd_1 (k := 6) (by decide) flX6_87 dX6_readOp_22 (kz := 6) rfl (by decide) ?_
    refine r_bipush C dX6_readOp_25 (by decide) ?_
    refine q_icmp_ge (tgt := 36) C dX6_readOp_27 (by decide) (fun _ => ?_) (fun _ => ?_)
    · refine r_aload_n C dX6_readOp_36 rfl rfl ?_
      refine r_getp C clX6 kd_4 (k := 0) (by decide) flX6_33 dX6_readOp_37 pt_4_0 ?_
      refine q_geti C clX8 kd_1 (k := 6) (by decide) flX6_87 dX6_readOp_40 (kz := 6) rfl (by decide) ?_
      refine r_bipush C dX6_readOp_43 (by decide) ?_
      refine r_isub C dX6_readOp_45 ?_
      refine r_iconst C dX6_readOp_46 (by decide) ?_
      refine r_iadd C dX6_readOp_47 ?_
      refine r_let (fun v3 _ => ?_)
      refine r_istore_n (al' := [some (zr 4), some (zi p1), some (zi p2), some (zi v3), none, none, none]) C dX6_readOp_48 rfl (by rw [hn]; decide) rfl ?_
      refine r_iload_n C dX6_readOp_49 rfl rfl ?_
      refine r_bipush C dX6_readOp_50 (by decide) ?_
      refine r_join (γ := Int) (pcJ := fun _ => 66) (al' := fun q4 => [some (zr 4), some (zi p1), some (zi p2), some (zi v3), none, none, none]) (st' := fun q4 => [zi q4]) (M' := fun q4 => q1) ?_ ?_
      · intro q4
        refine r_istore (al' := [some (zr 4), some (zi p1), some (zi p2), some (zi v3), some (zi q4), none, none]) C dX6_readOp_66 (by rw [hn]; decide) rfl ?_
        refine r_iload C dX6_readOp_68 rfl ?_
        refine r_join (γ := Bool × Mem) (pcJ := fun q6 => if q6.1 = true then 93 else 86) (al' := fun q6 => [some (zr 4), some (zi p1), some (zi p2), some (zi v3), some (zi q4), none, none]) (st' := fun q6 => []) (M' := fun q6 => q6.2) ?_ ?_
        · intro q6
          refine r_itp (fun _ => ?_) (fun _ => ?_)
          · refine r_aload_n C dX6_readOp_93 rfl rfl ?_
            refine r_getm C clX6 kd_4 (k := 1) (by decide) flX6_12 dX6_readOp_94 rfl (fun t7 _ ht7 => ?_)
            refine r_getp C clX3 (kd_t0 ht7) (k := 4) (by decide) flX6_189 dX6_readOp_97 (pt_t0_4 ht7) ?_
            refine r_iload_n C dX6_readOp_100 rfl rfl ?_
            refine r_iload_n C dX6_readOp_101 rfl rfl ?_
            refine r_iastore C dX6_readOp_102 (fun M8 _ => ?_)
            refine r_aload_n C dX6_readOp_103 rfl rfl ?_
            refine r_getm C clX6 kd_4 (k := 1) (by decide) flX6_12 dX6_readOp_104 rfl (fun t9 _ ht9 => ?_)
            refine r_getp C clX3 (kd_t0 ht9) (k := 5) (by decide) flX6_192 dX6_readOp_107 (pt_t0_5 ht9) ?_
            refine r_iload_n C dX6_readOp_110 rfl rfl ?_
            refine r_aload_n C dX6_readOp_111 rfl rfl ?_
            refine r_getp C clX6 kd_4 (k := 0) (by decide) flX6_33 dX6_readOp_112 pt_4_0 ?_
            refine q_geti C clX8 kd_1 (k := 5) (by decide) flX6_78 dX6_readOp_115 (kz := 5) rfl (by decide) ?_
            refine r_iastore C dX6_readOp_118 (fun M10 _ => ?_)
            refine r_iconst C dX6_readOp_119 (by decide) ?_
            refine r_istore (al' := [some (zr 4), some (zi p1), some (zi p2), some (zi v3), some (zi q4), some (zi 0), none]) C dX6_readOp_120 (by rw [hn]; decide) rfl ?_
            refine r_iconst C dX6_readOp_122 (by decide) ?_
            refine r_istore (al' := [some (zr 4), some (zi p1), some (zi p2), some (zi v3), some (zi q4), some (zi 0), some (zi 0)]) C dX6_readOp_123 (by rw [hn]; decide) rfl ?_
            refine r_lp (S := Int × Int × Mem) (R := Int × Mem) (pcX := 169) (AL := fun s11 => [some (zr 4), some (zi p1), some (zi p2), some (zi v3), some (zi q4), some (zi s11.1), some (zi s11.2.1)]) (MM := fun s11 => s11.2.2) (AX := fun q16 => [some (zr 4), none, none, some (zi v3), some (zi q4), some (zi q16.1), none]) (MX := fun q16 => q16.2) ?_ ?_ (0, 0, M10)
            · intro q16
              refine r_iload C dX6_readOp_169 rfl ?_
              refine r_join (γ := Mem) (pcJ := fun _ => 182) (al' := fun q19 => [none, none, none, none, none, some (zi q16.1), none]) (st' := fun q19 => []) (M' := fun q19 => q19) ?_ ?_
              · intro q19
                refine r_iload C dX6_readOp_182 rfl ?_
                exact r_ireturn C dX6_readOp_184 rfl
              · intro hJq19
                refine q_if_ne (tgt := 182) C dX6_readOp_171 (by decide) (fun _ => ?_) (fun _ => ?_)
                · refine r_less [false, false, false, false, false, true, false] rfl ?_
                  exact hJq19 q16.2
                · refine r_aload_n C dX6_readOp_174 rfl rfl ?_
                  refine r_iload_n C dX6_readOp_175 rfl rfl ?_
                  refine q_callNi (av := [zi v3]) (rest := [zr 4]) C (tX11_typeMade v3 q16.2) lkX6_186 rfl rfl (Nat.le_of_ble_eq_true rfl) ⟨by decide, by decide⟩ dX6_readOp_176 (fun q17 _ => ?_)
                  refine q_puti C clX6 kd_4 (k := 11) (by decide) flX6_183 rfl dX6_readOp_179 rfl rfl (fun M18 => ?_)
                  refine r_less [false, false, false, false, false, true, false] rfl ?_
                  exact hJq19 M18
            · intro gs11 hCs11 hXs11 s11
              unfold fX6_readOp_b1
              refine r_iload C dX6_readOp_125 rfl ?_
              refine r_iload_n C dX6_readOp_127 rfl rfl ?_
              refine q_callNi (av := [zi v3]) (rest := [zi s11.2.1]) C (tX11_argsOf v3 s11.2.2) lkX6_195 rfl rfl (Nat.le_of_ble_eq_true rfl) ⟨by decide, by decide⟩ dX6_readOp_128 (fun q12 _ => ?_)
              refine q_icmp_ge (tgt := 169) C dX6_readOp_131 (by decide) (fun _ => ?_) (fun _ => ?_)
              · refine r_less [true, false, false, true, true, true, false] rfl ?_
                exact hXs11 (s11.1, q12.2)
              · refine r_iload C dX6_readOp_134 rfl ?_
                refine q_if_ne (tgt := 169) C dX6_readOp_136 (by decide) (fun _ => ?_) (fun _ => ?_)
                · refine r_less [true, false, false, true, true, true, false] rfl ?_
                  exact hXs11 (s11.1, q12.2)
                · refine r_aload_n C dX6_readOp_139 rfl rfl ?_
                  refine r_getp C clX6 kd_4 (k := 0) (by decide) flX6_33 dX6_readOp_140 pt_4_0 ?_
                  refine q_callVv (av := []) (rest := []) C (tX8_advance  q12.2) lkX6_62 kd_1 rfl rfl rfl (Nat.le_of_ble_eq_true rfl) ⟨by decide, by decide⟩ dX6_readOp_143 (fun q13 _ => ?_)
                  refine r_aload_n C dX6_readOp_146 rfl rfl ?_
                  refine r_iload_n C dX6_readOp_147 rfl rfl ?_
                  refine r_iload C dX6_readOp_148 rfl ?_
                  refine r_aload_n C dX6_readOp_150 rfl rfl ?_
                  refine r_iload_n C dX6_readOp_151 rfl rfl ?_
                  refine r_iload C dX6_readOp_152 rfl ?_
                  refine r_iload_n C dX6_readOp_154 rfl rfl ?_
                  refine q_callVi (av := [zi v3, zi s11.2.1, zi p2]) (rest := [zi s11.2.1, zi p1, zr 4]) C (tX6_typeWanted v3 s11.2.1 p2 q13) lkX6_198 kd_4 rfl rfl rfl (Nat.le_of_ble_eq_true rfl) ⟨by decide, by decide⟩ dX6_readOp_155 (fun q14 _ => ?_)
                  refine q_callVi (av := [zi p1, zi s11.2.1, zi q14.1]) (rest := []) C (tX6_takeArg p1 s11.2.1 q14.1 q14.2) lkX6_163 kd_4 rfl rfl rfl (Nat.le_of_ble_eq_true rfl) ⟨by decide, by decide⟩ dX6_readOp_158 (fun q15 _ => ?_)
                  refine r_istore (al' := [some (zr 4), some (zi p1), some (zi p2), some (zi v3), some (zi q4), some (zi q15.1), some (zi s11.2.1)]) C dX6_readOp_161 (by rw [hn]; decide) rfl ?_
                  refine r_iinc (al' := [some (zr 4), some (zi p1), some (zi p2), some (zi v3), some (zi q4), some (zi q15.1), some (zi (w32 (s11.2.1 + 1)))]) C dX6_readOp_163 rfl (by rw [hn]; decide) rfl ?_
                  refine r_goto (tgt := 125) C dX6_readOp_166 (by decide) ?_
                  exact hCs11 (q15.1, w32 (s11.2.1 + 1), q15.2)
          · refine r_aload_n C dX6_readOp_86 rfl rfl ?_
            refine r_bipush C dX6_readOp_87 (by decide) ?_
            refine q_callVi (av := [zi 6]) (rest := []) C (tX6_faultHere 6 q6.2) lkX6_72 kd_4 rfl rfl rfl (Nat.le_of_ble_eq_true rfl) ⟨by decide, by decide⟩ dX6_readOp_89 (fun q20 _ => ?_)
            exact r_ireturn C dX6_readOp_92 rfl
        · intro hJq6
          refine q_if_ne (tgt := 93) C dX6_readOp_70 (by decide) (fun _ => ?_) (fun _ => ?_)
          · exact hJq6 (true, q1)
          · refine r_iload_n C dX6_readOp_73 rfl rfl ?_
            refine r_iconst C dX6_readOp_74 (by decide) ?_
            refine q_icmp_eq (tgt := 93) C dX6_readOp_75 (by decide) (fun _ => ?_) (fun _ => ?_)
            · exact hJq6 (true, q1)
            · refine r_iload_n C dX6_readOp_78 rfl rfl ?_
              refine r_iload_n C dX6_readOp_79 rfl rfl ?_
              refine q_callNi (av := [zi v3]) (rest := [zi p2]) C (tX11_typeMade v3 q1) lkX6_186 rfl rfl (Nat.le_of_ble_eq_true rfl) ⟨by decide, by decide⟩ dX6_readOp_80 (fun q5 _ => ?_)
              refine q_icmp_eq (tgt := 93) C dX6_readOp_83 (by decide) (fun _ => ?_) (fun _ => ?_)
              · exact hJq6 (true, q5.2)
              · exact hJq6 (false, q5.2)
      · intro hJq4
        refine q_icmp_eq (tgt := 61) C dX6_readOp_52 (by decide) (fun _ => ?_) (fun _ => ?_)
        · refine r_iconst C dX6_readOp_61 (by decide) ?_
          refine r_goto (tgt := 66) C dX6_readOp_62 (by decide) ?_
          exact hJq4 1
        · refine r_iload_n C dX6_readOp_55 rfl rfl ?_
          refine r_bipush C dX6_readOp_56 (by decide) ?_
          refine q_icmp_ne (tgt := 65) C dX6_readOp_58 (by decide) (fun _ => ?_) (fun _ => ?_)
          · refine r_iconst C dX6_readOp_65 (by decide) ?_
            exact hJq4 0
          · refine r_iconst C dX6_readOp_61 (by decide) ?_
            refine r_goto (tgt := 66) C dX6_readOp_62 (by decide) ?_
            exact hJq4 1
    · refine r_aload_n C dX6_readOp_30 rfl rfl ?_
      refine r_iconst C dX6_readOp_31 (by decide) ?_
      refine q_callVi (av := [zi 1]) (rest := []) C (tX6_faultHere 1 q1) lkX6_72 kd_4 rfl rfl rfl (Nat.le_of_ble_eq_true rfl) ⟨by decide, by decide⟩ dX6_readOp_32 (fun q21 _ => ?_)
      exact r_ireturn C dX6_readOp_35 rfl
set_option maxRecDepth 100000 in
set_option maxHeartbeats 4000000 in
theorem tX6_readIs  (M : Mem) : Cn yX6_readIs cX6_readIs 6 (some .int) 3 73 [zr 4] M ((fX6_readIs  M).map oI) := by
  refine Cn_mk (own := RX6) rfl (by decide) (Nat.le_of_ble_eq_true rfl) [some (zr 4), none, none, none, none, none] rfl (fun G C hn => ?_)
  unfold fX6_readIs
  refine r_aload_n C dX6_readIs_0 rfl rfl ?_
  refine r_aload_n C dX6_readIs_1 rfl rfl ?_
  refine r_getp C clX6 kd_4 (k := 0) (by decide) flX6_33 dX6_readIs_2 pt_4_0 ?_
  refine q_getl C clX8 kd_1 (k := 7) (by decide) flX6_139 dX6_readIs_5 (kz := 7) rfl rfl ?_
  refine q_callVi (av := [zl (M 1 7)]) (rest := []) C (tX6_slotOf (M 1 7) M) lkX6_143 kd_4 rfl rfl rfl (Nat.le_of_ble_eq_true rfl) ⟨by decide, by decide⟩ dX6_readIs_8 (fun q1 _ => ?_)
  refine r_istore_n (al' := [some (zr 4), some (zi q1.1), none, none, none, none]) C dX6_readIs_11 rfl (by rw [hn]; decide) rfl ?_
  refine r_iload_n C dX6_readIs_12 rfl rfl ?_
  refine r_iconst C dX6_readIs_13 (by decide) ?_
  refine r_join (γ := Bool) (pcJ := fun q3 => if q3 = true then 32 else 26) (al' := fun q3 => [some (zr 4), some (zi q1.1), none, none, none, none]) (st' := fun q3 => []) (M' := fun q3 => q1.2) ?_ ?_
  · intro q3
    refine r_itp (fun _ => ?_) (fun _ => ?_)
    · refine r_iload_n C dX6_readIs_32 rfl rfl ?_
      refine r_iconst C dX6_readIs_33 (by decide) ?_
      refine r_join (γ := Bool) (pcJ := fun q4 => if q4 = true then 52 else 46) (al' := fun q4 => [some (zr 4), some (zi q1.1), none, none, none, none]) (st' := fun q4 => []) (M' := fun q4 => q1.2) ?_ ?_
      · intro q4
        refine r_itp (fun _ => ?_) (fun _ => ?_)
        · refine r_aload_n C dX6_readIs_52 rfl rfl ?_
          refine r_getp C clX6 kd_4 (k := 0) (by decide) flX6_33 dX6_readIs_53 pt_4_0 ?_
          refine q_getl C clX8 kd_1 (k := 7) (by decide) flX6_139 dX6_readIs_56 (kz := 7) rfl rfl ?_
          refine r_letl (fun v5 _ => ?_)
          refine r_lstore_n (al' := [some (zr 4), some (zi q1.1), some (zl v5), none, none, none]) C dX6_readIs_59 rfl (by rw [hn]; decide) rfl ?_
          refine r_aload_n C dX6_readIs_60 rfl rfl ?_
          refine r_getm C clX6 kd_4 (k := 1) (by decide) flX6_12 dX6_readIs_61 rfl (fun t6 _ ht6 => ?_)
          refine r_iconst C dX6_readIs_64 (by decide) ?_
          refine r_aload_n C dX6_readIs_65 rfl rfl ?_
          refine r_getp C clX6 kd_4 (k := 0) (by decide) flX6_33 dX6_readIs_66 pt_4_0 ?_
          refine q_geti C clX8 kd_1 (k := 5) (by decide) flX6_78 dX6_readIs_69 (kz := 5) rfl (by decide) ?_
          refine q_callVi (av := [zi 4, zi (q1.2 1 5)]) (rest := []) C (tX3_open t6 ht6 4 (q1.2 1 5) q1.2) lkX6_136 (kd_t0 ht6) rfl rfl rfl (Nat.le_of_ble_eq_true rfl) ⟨by decide, by decide⟩ dX6_readIs_72 (fun q7 _ => ?_)
          refine r_istore (al' := [some (zr 4), some (zi q1.1), some (zl v5), none, some (zi q7.1), none]) C dX6_readIs_75 (by rw [hn]; decide) rfl ?_
          refine r_aload_n C dX6_readIs_77 rfl rfl ?_
          refine r_getp C clX6 kd_4 (k := 0) (by decide) flX6_33 dX6_readIs_78 pt_4_0 ?_
          refine q_callVv (av := []) (rest := []) C (tX8_advance  q7.2) lkX6_62 kd_1 rfl rfl rfl (Nat.le_of_ble_eq_true rfl) ⟨by decide, by decide⟩ dX6_readIs_81 (fun q8 _ => ?_)
          refine r_aload_n C dX6_readIs_84 rfl rfl ?_
          refine r_getp C clX6 kd_4 (k := 0) (by decide) flX6_33 dX6_readIs_85 pt_4_0 ?_
          refine r_iconst C dX6_readIs_88 (by decide) ?_
          refine q_callVi (av := [zi 4]) (rest := []) C (tX8_isWord 4 q8) lkX6_176 kd_1 rfl rfl rfl (Nat.le_of_ble_eq_true rfl) ⟨by decide, by decide⟩ dX6_readIs_89 (fun q9 _ => ?_)
          refine q_if_ne (tgt := 101) C dX6_readIs_92 (by decide) (fun _ => ?_) (fun _ => ?_)
          · refine r_aload_n C dX6_readIs_101 rfl rfl ?_
            refine r_iload C dX6_readIs_102 rfl ?_
            refine r_iload_n C dX6_readIs_104 rfl rfl ?_
            refine r_iconst C dX6_readIs_105 (by decide) ?_
            refine r_join (γ := Int) (pcJ := fun _ => 119) (al' := fun q11 => [some (zr 4), some (zi q1.1), some (zl v5), none, some (zi q7.1), none]) (st' := fun q11 => [zi q11, zi q7.1, zr 4]) (M' := fun q11 => q9.2) ?_ ?_
            · intro q11
              refine q_callVi (av := [zi q7.1, zi q11]) (rest := []) C (tX6_readOp q7.1 q11 q9.2) lkX6_180 kd_4 rfl rfl rfl (Nat.le_of_ble_eq_true rfl) ⟨by decide, by decide⟩ dX6_readIs_119 (fun q12 _ => ?_)
              refine r_istore (al' := [some (zr 4), some (zi q1.1), some (zl v5), none, some (zi q7.1), some (zi q12.1)]) C dX6_readIs_122 (by rw [hn]; decide) rfl ?_
              refine r_iload C dX6_readIs_124 rfl ?_
              refine r_join (γ := Int × Mem) (pcJ := fun _ => 135) (al' := fun q14 => [some (zr 4), some (zi q1.1), some (zl v5), none, some (zi q7.1), some (zi q14.1)]) (st' := fun q14 => []) (M' := fun q14 => q14.2) ?_ ?_
              · intro q14
                refine r_iload C dX6_readIs_135 rfl ?_
                refine r_join (γ := Mem) (pcJ := fun _ => 169) (al' := fun q19 => [none, none, none, none, none, some (zi q14.1)]) (st' := fun q19 => []) (M' := fun q19 => q19) ?_ ?_
                · intro q19
                  refine r_iload C dX6_readIs_169 rfl ?_
                  exact r_ireturn C dX6_readIs_171 rfl
                · intro hJq19
                  refine q_if_ne (tgt := 169) C dX6_readIs_137 (by decide) (fun _ => ?_) (fun _ => ?_)
                  · refine r_less [false, false, false, false, false, true] rfl ?_
                    exact hJq19 q14.2
                  · refine r_aload_n C dX6_readIs_140 rfl rfl ?_
                    refine r_getm C clX6 kd_4 (k := 1) (by decide) flX6_12 dX6_readIs_141 rfl (fun t15 _ ht15 => ?_)
                    refine r_getp C clX3 (kd_t0 ht15) (k := 3) (by decide) flX6_150 dX6_readIs_144 (pt_t0_3 ht15) ?_
                    refine r_iload C dX6_readIs_147 rfl ?_
                    refine r_iload_n C dX6_readIs_149 rfl rfl ?_
                    refine r_iconst C dX6_readIs_150 (by decide) ?_
                    refine r_join (γ := Int × Mem) (pcJ := fun _ => 168) (al' := fun q17 => [none, none, none, none, none, some (zi q14.1)]) (st' := fun q17 => [zi q17.1, zi q7.1, zr (t15 + 3)]) (M' := fun q17 => q17.2) ?_ ?_
                    · intro q17
                      refine r_iastore C dX6_readIs_168 (fun M18 _ => ?_)
                      exact hJq19 M18
                    · intro hJq17
                      refine q_icmp_ne (tgt := 167) C dX6_readIs_151 (by decide) (fun _ => ?_) (fun _ => ?_)
                      · refine r_iload_n C dX6_readIs_167 rfl rfl ?_
                        refine r_less [false, false, false, false, false, true] rfl ?_
                        exact hJq17 (q1.1, q14.2)
                      · refine r_aload_n C dX6_readIs_154 rfl rfl ?_
                        refine r_lload_n C dX6_readIs_155 rfl rfl ?_
                        refine r_aload_n C dX6_readIs_156 rfl rfl ?_
                        refine q_geti C clX6 kd_4 (k := 11) (by decide) flX6_183 dX6_readIs_157 (kz := 11) rfl (by decide) ?_
                        refine r_iconst C dX6_readIs_160 (by decide) ?_
                        refine q_callVi (av := [zl v5, zi (q14.2 4 11), zi 0]) (rest := [zi q7.1, zr (t15 + 3)]) C (tX6_tell v5 (q14.2 4 11) 0 q14.2) lkX6_153 kd_4 rfl rfl rfl (Nat.le_of_ble_eq_true rfl) ⟨by decide, by decide⟩ dX6_readIs_161 (fun q16 _ => ?_)
                        refine r_goto (tgt := 168) C dX6_readIs_164 (by decide) ?_
                        refine r_less [false, false, false, false, false, true] rfl ?_
                        exact hJq17 (q16.1, q16.2)
              · intro hJq14
                refine q_if_ne (tgt := 135) C dX6_readIs_126 (by decide) (fun _ => ?_) (fun _ => ?_)
                · exact hJq14 (q12.1, q12.2)
                · refine r_aload_n C dX6_readIs_129 rfl rfl ?_
                  refine q_callVi (av := []) (rest := []) C (tX6_readSemicolon  q12.2) lkX6_133 kd_4 rfl rfl rfl (Nat.le_of_ble_eq_true rfl) ⟨by decide, by decide⟩ dX6_readIs_130 (fun q13 _ => ?_)
                  refine r_istore (al' := [some (zr 4), some (zi q1.1), some (zl v5), none, some (zi q7.1), some (zi q13.1)]) C dX6_readIs_133 (by rw [hn]; decide) rfl ?_
                  exact hJq14 (q13.1, q13.2)
            · intro hJq11
              refine q_icmp_ne (tgt := 113) C dX6_readIs_106 (by decide) (fun _ => ?_) (fun _ => ?_)
              · refine r_aload_n C dX6_readIs_113 rfl rfl ?_
                refine r_getp C clX6 kd_4 (k := 3) (by decide) flX6_22 dX6_readIs_114 pt_4_3 ?_
                refine r_iload_n C dX6_readIs_117 rfl rfl ?_
                refine r_iaload C dX6_readIs_118 (fun v10 _ => ?_)
                exact hJq11 v10
              · refine r_iconst C dX6_readIs_109 (by decide) ?_
                refine r_goto (tgt := 119) C dX6_readIs_110 (by decide) ?_
                exact hJq11 2
          · refine r_aload_n C dX6_readIs_95 rfl rfl ?_
            refine r_iconst C dX6_readIs_96 (by decide) ?_
            refine q_callVi (av := [zi 1]) (rest := []) C (tX6_faultHere 1 q9.2) lkX6_72 kd_4 rfl rfl rfl (Nat.le_of_ble_eq_true rfl) ⟨by decide, by decide⟩ dX6_readIs_97 (fun q20 _ => ?_)
            exact r_ireturn C dX6_readIs_100 rfl
        · refine r_aload_n C dX6_readIs_46 rfl rfl ?_
          refine r_iconst C dX6_readIs_47 (by decide) ?_
          refine q_callVi (av := [zi 5]) (rest := []) C (tX6_faultHere 5 q1.2) lkX6_72 kd_4 rfl rfl rfl (Nat.le_of_ble_eq_true rfl) ⟨by decide, by decide⟩ dX6_readIs_48 (fun q21 _ => ?_)
          exact r_ireturn C dX6_readIs_51 rfl
      · intro hJq4
        refine q_icmp_ne (tgt := 52) C dX6_readIs_34 (by decide) (fun _ => ?_) (fun _ => ?_)
        · exact hJq4 true
        · refine r_aload_n C dX6_readIs_37 rfl rfl ?_
          refine q_geti C clX6 kd_4 (k := 5) (by decide) flX6_40 dX6_readIs_38 (kz := 5) rfl (by decide) ?_
          refine r_bipush C dX6_readIs_41 (by decide) ?_
          refine q_icmp_lt (tgt := 52) C dX6_readIs_43 (by decide) (fun _ => ?_) (fun _ => ?_)
          · exact hJq4 true
          · exact hJq4 false
    · refine r_aload_n C dX6_readIs_26 rfl rfl ?_
      refine r_iconst C dX6_readIs_27 (by decide) ?_
      refine q_callVi (av := [zi 3]) (rest := []) C (tX6_faultHere 3 q1.2) lkX6_72 kd_4 rfl rfl rfl (Nat.le_of_ble_eq_true rfl) ⟨by decide, by decide⟩ dX6_readIs_28 (fun q22 _ => ?_)
      exact r_ireturn C dX6_readIs_31 rfl
  · intro hJq3
    refine q_icmp_eq (tgt := 32) C dX6_readIs_14 (by decide) (fun _ => ?_) (fun _ => ?_)
    · exact hJq3 true
    · refine r_aload_n C dX6_readIs_17 rfl rfl ?_
      refine r_getp C clX6 kd_4 (k := 4) (by decide) flX6_26 dX6_readIs_18 pt_4_4 ?_
      refine r_iload_n C dX6_readIs_21 rfl rfl ?_
      refine r_zaload C dX6_readIs_22 (fun v2 _ => ?_)
      refine q_if_eq (tgt := 32) C dX6_readIs_23 (by decide) (fun _ => ?_) (fun _ => ?_)
      · exact hJq3 true
      · exact hJq3 false
set_option maxRecDepth 100000 in
set_option maxHeartbeats 4000000 in
theorem tX6_readLine  (M : Mem) : Cn yX6_readLine cX6_readLine 1 (some .int) 4 98 [zr 4] M ((fX6_readLine  M).map oI) := by
  refine Cn_mk (own := RX6) rfl (by decide) (Nat.le_of_ble_eq_true rfl) [some (zr 4)] rfl (fun G C hn => ?_)
  unfold fX6_readLine
  refine r_aload_n C dX6_readLine_0 rfl rfl ?_
  refine r_getm C clX6 kd_4 (k := 1) (by decide) flX6_12 dX6_readLine_1 rfl (fun t1 _ ht1 => ?_)
  refine q_geti C clX3 (kd_t0 ht1) (k := 0) (by decide) flX6_81 dX6_readLine_4 (kz := 0) rfl (by decide) ?_
  refine r_sipush C dX6_readLine_7 (by decide) ?_
  refine q_icmp_lt (tgt := 19) C dX6_readLine_10 (by decide) (fun _ => ?_) (fun _ => ?_)
  · refine r_aload_n C dX6_readLine_19 rfl rfl ?_
    refine r_getp C clX6 kd_4 (k := 0) (by decide) flX6_33 dX6_readLine_20 pt_4_0 ?_
    refine q_geti C clX8 kd_1 (k := 4) (by decide) flX6_65 dX6_readLine_23 (kz := 4) rfl (by decide) ?_
    refine r_iconst C dX6_readLine_26 (by decide) ?_
    refine q_icmp_ne (tgt := 35) C dX6_readLine_27 (by decide) (fun _ => ?_) (fun _ => ?_)
    · refine r_aload_n C dX6_readLine_35 rfl rfl ?_
      refine r_getp C clX6 kd_4 (k := 0) (by decide) flX6_33 dX6_readLine_36 pt_4_0 ?_
      refine q_geti C clX8 kd_1 (k := 4) (by decide) flX6_65 dX6_readLine_39 (kz := 4) rfl (by decide) ?_
      refine r_iconst C dX6_readLine_42 (by decide) ?_
      refine q_icmp_eq (tgt := 52) C dX6_readLine_43 (by decide) (fun _ => ?_) (fun _ => ?_)
      · refine r_aload_n C dX6_readLine_52 rfl rfl ?_
        refine r_getp C clX6 kd_4 (k := 0) (by decide) flX6_33 dX6_readLine_53 pt_4_0 ?_
        refine q_geti C clX8 kd_1 (k := 6) (by decide) flX6_87 dX6_readLine_56 (kz := 6) rfl (by decide) ?_
        refine r_ite (fun hx0 => ?_) (fun hx0 => ?_)
        · refine r_sw 112 ?_ (fun J => ?_)
          · refine r_aload_n C dX6_readLine_112 rfl rfl ?_
            refine r_aload_n C dX6_readLine_113 rfl rfl ?_
            refine r_getp C clX6 kd_4 (k := 0) (by decide) flX6_33 dX6_readLine_114 pt_4_0 ?_
            refine q_geti C clX8 kd_1 (k := 6) (by decide) flX6_87 dX6_readLine_117 (kz := 6) rfl (by decide) ?_
            refine r_join (γ := Int) (pcJ := fun _ => 128) (al' := fun q2 => [none]) (st' := fun q2 => [zi q2, zr 4]) (M' := fun q2 => M) ?_ ?_
            · intro q2
              refine q_callVi (av := [zi q2]) (rest := []) C (tX6_readInput q2 M) lkX6_90 kd_4 rfl rfl rfl (Nat.le_of_ble_eq_true rfl) ⟨by decide, by decide⟩ dX6_readLine_128 (fun q3 _ => ?_)
              exact r_ireturn C dX6_readLine_131 rfl
            · intro hJq2
              refine q_if_ne (tgt := 127) C dX6_readLine_120 (by decide) (fun _ => ?_) (fun _ => ?_)
              · refine r_iconst C dX6_readLine_127 (by decide) ?_
                refine r_less [false] rfl ?_
                exact hJq2 0
              · refine r_iconst C dX6_readLine_123 (by decide) ?_
                refine r_goto (tgt := 128) C dX6_readLine_124 (by decide) ?_
                refine r_less [false] rfl ?_
                exact hJq2 1
          · rcases hx0 with hx0 | hx0
            · exact r_tabIn (n := 0) C dX6_readLine_59 hx0 (by decide) (by decide) rfl (by decide) J
            · exact r_tabIn (n := 1) C dX6_readLine_59 hx0 (by decide) (by decide) rfl (by decide) J
        refine r_ite (fun hx1 => ?_) (fun hx1 => ?_)
        · refine r_sw 132 ?_ (fun J => ?_)
          · refine r_aload_n C dX6_readLine_132 rfl rfl ?_
            refine q_callVi (av := []) (rest := []) C (tX6_readFetch  M) lkX6_94 kd_4 rfl rfl rfl (Nat.le_of_ble_eq_true rfl) ⟨by decide, by decide⟩ dX6_readLine_133 (fun q4 _ => ?_)
            exact r_ireturn C dX6_readLine_136 rfl
          · skip
            exact r_tabIn (n := 2) C dX6_readLine_59 hx1 (by decide) (by decide) rfl (by decide) J
        refine r_ite (fun hx2 => ?_) (fun hx2 => ?_)
        · refine r_sw 137 ?_ (fun J => ?_)
          · refine r_aload_n C dX6_readLine_137 rfl rfl ?_
            refine q_callVi (av := []) (rest := []) C (tX6_readAlu  M) lkX6_97 kd_4 rfl rfl rfl (Nat.le_of_ble_eq_true rfl) ⟨by decide, by decide⟩ dX6_readLine_138 (fun q5 _ => ?_)
            exact r_ireturn C dX6_readLine_141 rfl
          · skip
            exact r_tabIn (n := 3) C dX6_readLine_59 hx2 (by decide) (by decide) rfl (by decide) J
        refine r_ite (fun hx3 => ?_) (fun hx3 => ?_)
        · refine r_sw 142 ?_ (fun J => ?_)
          · refine r_aload_n C dX6_readLine_142 rfl rfl ?_
            refine q_callVi (av := []) (rest := []) C (tX6_readWhen  M) lkX6_100 kd_4 rfl rfl rfl (Nat.le_of_ble_eq_true rfl) ⟨by decide, by decide⟩ dX6_readLine_143 (fun q6 _ => ?_)
            exact r_ireturn C dX6_readLine_146 rfl
          · skip
            exact r_tabIn (n := 5) C dX6_readLine_59 hx3 (by decide) (by decide) rfl (by decide) J
        refine r_ite (fun hx4 => ?_) (fun hx4 => ?_)
        · refine r_sw 147 ?_ (fun J => ?_)
          · refine r_aload_n C dX6_readLine_147 rfl rfl ?_
            refine q_callVi (av := []) (rest := []) C (tX6_readElse  M) lkX6_103 kd_4 rfl rfl rfl (Nat.le_of_ble_eq_true rfl) ⟨by decide, by decide⟩ dX6_readLine_148 (fun q7 _ => ?_)
            exact r_ireturn C dX6_readLine_151 rfl
          · skip
            exact r_tabIn (n := 6) C dX6_readLine_59 hx4 (by decide) (by decide) rfl (by decide) J
        refine r_ite (fun hx5 => ?_) (fun hx5 => ?_)
        · refine r_sw 152 ?_ (fun J => ?_)
          · refine r_aload_n C dX6_readLine_152 rfl rfl ?_
            refine q_callVi (av := []) (rest := []) C (tX6_readTimes  M) lkX6_106 kd_4 rfl rfl rfl (Nat.le_of_ble_eq_true rfl) ⟨by decide, by decide⟩ dX6_readLine_153 (fun q8 _ => ?_)
            exact r_ireturn C dX6_readLine_156 rfl
          · skip
            exact r_tabIn (n := 7) C dX6_readLine_59 hx5 (by decide) (by decide) rfl (by decide) J
        refine r_ite (fun hx6 => ?_) (fun hx6 => ?_)
        · refine r_sw 157 ?_ (fun J => ?_)
          · refine r_aload_n C dX6_readLine_157 rfl rfl ?_
            refine q_callVi (av := []) (rest := []) C (tX6_readEnd  M) lkX6_109 kd_4 rfl rfl rfl (Nat.le_of_ble_eq_true rfl) ⟨by decide, by decide⟩ dX6_readLine_158 (fun q9 _ => ?_)
            exact r_ireturn C dX6_readLine_161 rfl
          · skip
            exact r_tabIn (n := 8) C dX6_readLine_59 hx6 (by decide) (by decide) rfl (by decide) J
        refine r_ite (fun hx7 => ?_) (fun hx7 => ?_)
        · refine r_sw 162 ?_ (fun J => ?_)
          · refine r_aload_n C dX6_readLine_162 rfl rfl ?_
            refine q_callVi (av := []) (rest := []) C (tX6_readShow  M) lkX6_112 kd_4 rfl rfl rfl (Nat.le_of_ble_eq_true rfl) ⟨by decide, by decide⟩ dX6_readLine_163 (fun q10 _ => ?_)
            exact r_ireturn C dX6_readLine_166 rfl
          · skip
            exact r_tabIn (n := 9) C dX6_readLine_59 hx7 (by decide) (by decide) rfl (by decide) J
        refine r_sw 167 ?_ (fun J => ?_)
        · refine r_aload_n C dX6_readLine_167 rfl rfl ?_
          refine r_iconst C dX6_readLine_168 (by decide) ?_
          refine q_callVi (av := [zi 1]) (rest := []) C (tX6_faultHere 1 M) lkX6_72 kd_4 rfl rfl rfl (Nat.le_of_ble_eq_true rfl) ⟨by decide, by decide⟩ dX6_readLine_169 (fun q11 _ => ?_)
          exact r_ireturn C dX6_readLine_172 rfl
        · skip
          by_cases hh : (M 1 6) = 4
          · exact r_tabIn (n := 4) C dX6_readLine_59 hh (by decide) (by decide) rfl (by decide) J
          exact r_tabOut C dX6_readLine_59 (by omega) (by decide) J
      · refine r_aload_n C dX6_readLine_46 rfl rfl ?_
        refine r_iconst C dX6_readLine_47 (by decide) ?_
        refine q_callVi (av := [zi 1]) (rest := []) C (tX6_faultHere 1 M) lkX6_72 kd_4 rfl rfl rfl (Nat.le_of_ble_eq_true rfl) ⟨by decide, by decide⟩ dX6_readLine_48 (fun q12 _ => ?_)
        exact r_ireturn C dX6_readLine_51 rfl
    · refine r_aload_n C dX6_readLine_30 rfl rfl ?_
      refine q_callVi (av := []) (rest := []) C (tX6_readIs  M) lkX6_84 kd_4 rfl rfl rfl (Nat.le_of_ble_eq_true rfl) ⟨by decide, by decide⟩ dX6_readLine_31 (fun q13 _ => ?_)
      exact r_ireturn C dX6_readLine_34 rfl
  · refine r_aload_n C dX6_readLine_13 rfl rfl ?_
    refine r_iconst C dX6_readLine_14 (by decide) ?_
    refine q_callVi (av := [zi 5]) (rest := []) C (tX6_faultHere 5 M) lkX6_72 kd_4 rfl rfl rfl (Nat.le_of_ble_eq_true rfl) ⟨by decide, by decide⟩ dX6_readLine_15 (fun q14 _ => ?_)
    exact r_ireturn C dX6_readLine_18 rfl
set_option maxRecDepth 100000 in
set_option maxHeartbeats 4000000 in
theorem tX6_parse  (M : Mem) : Cn yX6_parse cX6_parse 3 (some .int) 5 118 [zr 4] M ((fX6_parse  M).map oI) := by
  refine Cn_mk (own := RX6) rfl (by decide) (Nat.le_of_ble_eq_true rfl) [some (zr 4), none, none] rfl (fun G C hn => ?_)
  unfold fX6_parse
  refine r_aload_n C dX6_parse_0 rfl rfl ?_
  refine r_getm C clX6 kd_4 (k := 1) (by decide) flX6_12 dX6_parse_1 rfl (fun t1 _ ht1 => ?_)
  refine q_callVv (av := []) (rest := []) C (tX3_clear t1 ht1 M) lkX6_37 (kd_t0 ht1) rfl rfl rfl (Nat.le_of_ble_eq_true rfl) ⟨by decide, by decide⟩ dX6_parse_4 (fun q2 _ => ?_)
  refine r_aload_n C dX6_parse_7 rfl rfl ?_
  refine r_iconst C dX6_parse_8 (by decide) ?_
  refine q_puti C clX6 kd_4 (k := 5) (by decide) flX6_40 rfl dX6_parse_9 rfl rfl (fun M3 => ?_)
  refine r_aload_n C dX6_parse_12 rfl rfl ?_
  refine r_iconst C dX6_parse_13 (by decide) ?_
  refine q_puti C clX6 kd_4 (k := 7) (by decide) flX6_44 rfl dX6_parse_14 rfl rfl (fun M4 => ?_)
  refine r_aload_n C dX6_parse_17 rfl rfl ?_
  refine r_iconst C dX6_parse_18 (by decide) ?_
  refine q_puti C clX6 kd_4 (k := 8) (by decide) flX6_47 rfl dX6_parse_19 rfl rfl (fun M5 => ?_)
  refine r_aload_n C dX6_parse_22 rfl rfl ?_
  refine r_iconst C dX6_parse_23 (by decide) ?_
  refine q_putz C clX6 kd_4 (k := 9) (by decide) flX6_50 rfl dX6_parse_24 rfl rfl (fun M6 => ?_)
  refine r_aload_n C dX6_parse_27 rfl rfl ?_
  refine r_iconst C dX6_parse_28 (by decide) ?_
  refine q_putz C clX6 kd_4 (k := 10) (by decide) flX6_54 rfl dX6_parse_29 rfl rfl (fun M7 => ?_)
  refine r_aload_n C dX6_parse_32 rfl rfl ?_
  refine r_getp C clX6 kd_4 (k := 0) (by decide) flX6_33 dX6_parse_33 pt_4_0 ?_
  refine q_callVv (av := []) (rest := []) C (tX8_rewind  M7) lkX6_57 kd_1 rfl rfl rfl (Nat.le_of_ble_eq_true rfl) ⟨by decide, by decide⟩ dX6_parse_36 (fun q8 _ => ?_)
  refine r_iconst C dX6_parse_39 (by decide) ?_
  refine r_istore_n (al' := [some (zr 4), some (zi 0), none]) C dX6_parse_40 rfl (by rw [hn]; decide) rfl ?_
  refine r_aload_n C dX6_parse_41 rfl rfl ?_
  refine r_getp C clX6 kd_4 (k := 0) (by decide) flX6_33 dX6_parse_42 pt_4_0 ?_
  refine q_callVv (av := []) (rest := []) C (tX8_advance  q8) lkX6_62 kd_1 rfl rfl rfl (Nat.le_of_ble_eq_true rfl) ⟨by decide, by decide⟩ dX6_parse_45 (fun q9 _ => ?_)
  refine r_iconst C dX6_parse_48 (by decide) ?_
  refine r_istore_n (al' := [some (zr 4), some (zi 0), some (zi 0)]) C dX6_parse_49 rfl (by rw [hn]; decide) rfl ?_
  refine r_lp (S := Int × Int × Mem) (R := Int × Mem) (pcX := 93) (AL := fun s10 => [some (zr 4), some (zi s10.1), some (zi s10.2.1)]) (MM := fun s10 => s10.2.2) (AX := fun q14 => [some (zr 4), some (zi q14.1), none]) (MX := fun q14 => q14.2) ?_ ?_ (0, 0, q9)
  · intro q14
    refine r_iload_n C dX6_parse_93 rfl rfl ?_
    refine r_join (γ := Int × Mem) (pcJ := fun _ => 110) (al' := fun q16 => [some (zr 4), some (zi q16.1), none]) (st' := fun q16 => []) (M' := fun q16 => q16.2) ?_ ?_
    · intro q16
      refine r_aload_n C dX6_parse_110 rfl rfl ?_
      refine r_getm C clX6 kd_4 (k := 1) (by decide) flX6_12 dX6_parse_111 rfl (fun t17 _ ht17 => ?_)
      refine r_aload_n C dX6_parse_114 rfl rfl ?_
      refine q_geti C clX6 kd_4 (k := 5) (by decide) flX6_40 dX6_parse_115 (kz := 5) rfl (by decide) ?_
      refine q_puti C clX3 (kd_t0 ht17) (k := 17) (by decide) flX6_76 rfl dX6_parse_118 rfl rfl (fun M18 => ?_)
      refine r_iload_n C dX6_parse_121 rfl rfl ?_
      exact r_ireturn C dX6_parse_122 rfl
    · intro hJq16
      refine q_if_ne (tgt := 110) C dX6_parse_94 (by decide) (fun _ => ?_) (fun _ => ?_)
      · exact hJq16 (q14.1, q14.2)
      · refine r_aload_n C dX6_parse_97 rfl rfl ?_
        refine q_geti C clX6 kd_4 (k := 7) (by decide) flX6_44 dX6_parse_98 (kz := 7) rfl (by decide) ?_
        refine q_if_le (tgt := 110) C dX6_parse_101 (by decide) (fun _ => ?_) (fun _ => ?_)
        · exact hJq16 (q14.1, q14.2)
        · refine r_aload_n C dX6_parse_104 rfl rfl ?_
          refine r_iconst C dX6_parse_105 (by decide) ?_
          refine q_callVi (av := [zi 1]) (rest := []) C (tX6_faultHere 1 q14.2) lkX6_72 kd_4 rfl rfl rfl (Nat.le_of_ble_eq_true rfl) ⟨by decide, by decide⟩ dX6_parse_106 (fun q15 _ => ?_)
          refine r_istore_n (al' := [some (zr 4), some (zi q15.1), none]) C dX6_parse_109 rfl (by rw [hn]; decide) rfl ?_
          exact hJq16 (q15.1, q15.2)
  · intro gs10 hCs10 hXs10 s10
    unfold fX6_parse_b1
    refine r_iload_n C dX6_parse_50 rfl rfl ?_
    refine r_sipush C dX6_parse_51 (by decide) ?_
    refine q_icmp_ge (tgt := 93) C dX6_parse_54 (by decide) (fun _ => ?_) (fun _ => ?_)
    · refine r_less [true, true, false] rfl ?_
      exact hXs10 (s10.1, s10.2.2)
    · refine r_iload_n C dX6_parse_57 rfl rfl ?_
      refine q_if_ne (tgt := 93) C dX6_parse_58 (by decide) (fun _ => ?_) (fun _ => ?_)
      · refine r_less [true, true, false] rfl ?_
        exact hXs10 (s10.1, s10.2.2)
      · refine r_aload_n C dX6_parse_61 rfl rfl ?_
        refine r_getp C clX6 kd_4 (k := 0) (by decide) flX6_33 dX6_parse_62 pt_4_0 ?_
        refine q_geti C clX8 kd_1 (k := 4) (by decide) flX6_65 dX6_parse_65 (kz := 4) rfl (by decide) ?_
        refine q_if_eq (tgt := 93) C dX6_parse_68 (by decide) (fun _ => ?_) (fun _ => ?_)
        · refine r_less [true, true, false] rfl ?_
          exact hXs10 (s10.1, s10.2.2)
        · refine r_aload_n C dX6_parse_71 rfl rfl ?_
          refine q_callVi (av := []) (rest := []) C (tX6_readLine  s10.2.2) lkX6_68 kd_4 rfl rfl rfl (Nat.le_of_ble_eq_true rfl) ⟨by decide, by decide⟩ dX6_parse_72 (fun q11 _ => ?_)
          refine r_istore_n (al' := [some (zr 4), some (zi q11.1), some (zi s10.2.1)]) C dX6_parse_75 rfl (by rw [hn]; decide) rfl ?_
          refine r_iload_n C dX6_parse_76 rfl rfl ?_
          refine r_join (γ := Mem) (pcJ := fun _ => 87) (al' := fun q13 => [some (zr 4), some (zi q11.1), some (zi s10.2.1)]) (st' := fun q13 => []) (M' := fun q13 => q13) ?_ ?_
          · intro q13
            refine r_iinc (al' := [some (zr 4), some (zi q11.1), some (zi (w32 (s10.2.1 + 1)))]) C dX6_parse_87 rfl (by rw [hn]; decide) rfl ?_
            refine r_goto (tgt := 50) C dX6_parse_90 (by decide) ?_
            exact hCs10 (q11.1, w32 (s10.2.1 + 1), q13)
          · intro hJq13
            refine q_if_ne (tgt := 87) C dX6_parse_77 (by decide) (fun _ => ?_) (fun _ => ?_)
            · exact hJq13 q11.2
            · refine r_aload_n C dX6_parse_80 rfl rfl ?_
              refine r_getp C clX6 kd_4 (k := 0) (by decide) flX6_33 dX6_parse_81 pt_4_0 ?_
              refine q_callVv (av := []) (rest := []) C (tX8_advance  q11.2) lkX6_62 kd_1 rfl rfl rfl (Nat.le_of_ble_eq_true rfl) ⟨by decide, by decide⟩ dX6_parse_84 (fun q12 _ => ?_)
              exact hJq13 q12
set_option maxRecDepth 100000 in
set_option maxHeartbeats 4000000 in
theorem tX8_wipe  (M : Mem) : Cn yX8_wipe cX8_wipe 1 none 0 0 [zr 1] M ((fX8_wipe  M).map oU) := by
  refine Cn_mk (own := RX8) rfl (by decide) (Nat.le_of_ble_eq_true rfl) [some (zr 1)] rfl (fun G C hn => ?_)
  unfold fX8_wipe
  refine r_aload_n C dX8_wipe_0 rfl rfl ?_
  refine r_iconst C dX8_wipe_1 (by decide) ?_
  refine q_puti C clX8 kd_1 (k := 2) (by decide) flX8_33 rfl dX8_wipe_2 rfl rfl (fun M1 => ?_)
  exact r_return C dX8_wipe_5 rfl
set_option maxRecDepth 100000 in
set_option maxHeartbeats 4000000 in
theorem tX9_single (p1 : Int) (p2 : Int) (p3 : Int) (p4 : Int) (M : Mem) : Cn yX9_single cX9_single 7 (some .int) 1 20 [zr 23, zi p1, zi p2, zi p3, zi p4] M ((fX9_single p1 p2 p3 p4 M).map oI) := by
  refine Cn_mk (own := RX9) rfl (by decide) (Nat.le_of_ble_eq_true rfl) [some (zr 23), some (zi p1), some (zi p2), some (zi p3), some (zi p4), none, none] rfl (fun G C hn => ?_)
  unfold fX9_single
  refine r_iconst C dX9_single_0 (by decide) ?_
  refine r_istore (al' := [some (zr 23), some (zi p1), some (zi p2), some (zi p3), some (zi p4), some (zi 0), none]) C dX9_single_1 (by rw [hn]; decide) rfl ?_
  refine r_lpr (S := Int) (X := Unit) (pcX := 76) (AL := fun s1 => [some (zr 23), some (zi p1), some (zi p2), some (zi p3), some (zi p4), some (zi s1), none]) (MM := fun s1 => M) (AX := fun q7 => [some (zr 23), some (zi p1), some (zi p2), some (zi p3), some (zi p4), none, none]) (MX := fun q7 => M) ?_ ?_ 0
  · intro q7
    refine r_aload_n C dX9_single_76 rfl rfl ?_
    refine q_geti C clX9 kd_23 (k := 0) (by decide) flX9_31 dX9_single_77 (kz := 0) rfl (by decide) ?_
    refine r_bipush C dX9_single_80 (by decide) ?_
    refine q_icmp_lt (tgt := 87) C dX9_single_82 (by decide) (fun _ => ?_) (fun _ => ?_)
    · refine r_aload_n C dX9_single_87 rfl rfl ?_
      refine q_geti C clX9 kd_23 (k := 0) (by decide) flX9_31 dX9_single_88 (kz := 0) rfl (by decide) ?_
      refine r_let (fun v8 _ => ?_)
      refine r_istore (al' := [some (zr 23), some (zi p1), some (zi p2), some (zi p3), some (zi p4), some (zi v8), none]) C dX9_single_91 (by rw [hn]; decide) rfl ?_
      refine r_aload_n C dX9_single_93 rfl rfl ?_
      refine r_getp C clX9 kd_23 (k := 1) (by decide) flX9_9 dX9_single_94 pt_23_1 ?_
      refine r_iload C dX9_single_97 rfl ?_
      refine r_iload_n C dX9_single_99 rfl rfl ?_
      refine r_iastore C dX9_single_100 (fun M9 _ => ?_)
      refine r_aload_n C dX9_single_101 rfl rfl ?_
      refine r_getp C clX9 kd_23 (k := 2) (by decide) flX9_15 dX9_single_102 pt_23_2 ?_
      refine r_iconst C dX9_single_105 (by decide) ?_
      refine r_iload C dX9_single_106 rfl ?_
      refine r_imul C dX9_single_108 ?_
      refine r_iload_n C dX9_single_109 rfl rfl ?_
      refine r_iastore C dX9_single_110 (fun M10 _ => ?_)
      refine r_aload_n C dX9_single_111 rfl rfl ?_
      refine r_getp C clX9 kd_23 (k := 2) (by decide) flX9_15 dX9_single_112 pt_23_2 ?_
      refine r_iconst C dX9_single_115 (by decide) ?_
      refine r_iload C dX9_single_116 rfl ?_
      refine r_imul C dX9_single_118 ?_
      refine r_iconst C dX9_single_119 (by decide) ?_
      refine r_iadd C dX9_single_120 ?_
      refine r_iload_n C dX9_single_121 rfl rfl ?_
      refine r_iastore C dX9_single_122 (fun M11 _ => ?_)
      refine r_aload_n C dX9_single_123 rfl rfl ?_
      refine r_getp C clX9 kd_23 (k := 2) (by decide) flX9_15 dX9_single_124 pt_23_2 ?_
      refine r_iconst C dX9_single_127 (by decide) ?_
      refine r_iload C dX9_single_128 rfl ?_
      refine r_imul C dX9_single_130 ?_
      refine r_iconst C dX9_single_131 (by decide) ?_
      refine r_iadd C dX9_single_132 ?_
      refine r_iload C dX9_single_133 rfl ?_
      refine r_iastore C dX9_single_135 (fun M12 _ => ?_)
      refine r_aload_n C dX9_single_136 rfl rfl ?_
      refine r_getp C clX9 kd_23 (k := 3) (by decide) flX9_18 dX9_single_137 pt_23_3 ?_
      refine r_iload C dX9_single_140 rfl ?_
      refine r_iload_n C dX9_single_142 rfl rfl ?_
      refine q_callNi (av := [zi p1]) (rest := [zi v8, zr 26]) C (tX11_typeMade p1 M12) lkX9_57 rfl rfl (Nat.le_of_ble_eq_true rfl) ⟨by decide, by decide⟩ dX9_single_143 (fun q13 _ => ?_)
      refine r_iconst C dX9_single_146 (by decide) ?_
      refine r_join (γ := Int) (pcJ := fun _ => 170) (al' := fun q15 => [some (zr 23), some (zi p1), none, none, none, some (zi v8), none]) (st' := fun q15 => [zi q15, zi v8, zr 26]) (M' := fun q15 => q13.2) ?_ ?_
      · intro q15
        refine r_zastore C dX9_single_170 (fun M16 _ => ?_)
        refine r_aload_n C dX9_single_171 rfl rfl ?_
        refine r_getp C clX9 kd_23 (k := 4) (by decide) flX9_22 dX9_single_172 pt_23_4 ?_
        refine r_iload C dX9_single_175 rfl ?_
        refine r_iconst C dX9_single_177 (by decide) ?_
        refine r_zastore C dX9_single_178 (fun M17 _ => ?_)
        refine r_iconst C dX9_single_179 (by decide) ?_
        refine r_istore (al' := [some (zr 23), some (zi p1), none, none, none, some (zi v8), some (zi 0)]) C dX9_single_180 (by rw [hn]; decide) rfl ?_
        refine r_lp (S := Int × Mem) (R := Mem) (pcX := 239) (AL := fun s18 => [some (zr 23), some (zi p1), none, none, none, some (zi v8), some (zi s18.1)]) (MM := fun s18 => s18.2) (AX := fun q25 => [some (zr 23), none, none, none, none, some (zi v8), none]) (MX := fun q25 => q25) ?_ ?_ (0, M17)
        · intro q25
          refine r_aload_n C dX9_single_239 rfl rfl ?_
          refine r_dup C dX9_single_240 rfl ?_
          refine q_geti C clX9 kd_23 (k := 0) (by decide) flX9_31 dX9_single_241 (kz := 0) rfl (by decide) ?_
          refine r_iconst C dX9_single_244 (by decide) ?_
          refine r_iadd C dX9_single_245 ?_
          refine q_puti C clX9 kd_23 (k := 0) (by decide) flX9_31 rfl dX9_single_246 rfl rfl (fun M26 => ?_)
          refine r_iload C dX9_single_249 rfl ?_
          exact r_ireturn C dX9_single_251 rfl
        · intro gs18 hCs18 hXs18 s18
          unfold fX9_single_b2
          refine r_iload C dX9_single_182 rfl ?_
          refine r_iload_n C dX9_single_184 rfl rfl ?_
          refine q_callNi (av := [zi p1]) (rest := [zi s18.1]) C (tX11_argsOf p1 s18.2) lkX9_61 rfl rfl (Nat.le_of_ble_eq_true rfl) ⟨by decide, by decide⟩ dX9_single_185 (fun q19 _ => ?_)
          refine q_icmp_ge (tgt := 239) C dX9_single_188 (by decide) (fun _ => ?_) (fun _ => ?_)
          · refine r_less [true, false, false, false, false, true, false] rfl ?_
            exact hXs18 q19.2
          · refine r_aload_n C dX9_single_191 rfl rfl ?_
            refine r_getp C clX9 kd_23 (k := 4) (by decide) flX9_22 dX9_single_192 pt_23_4 ?_
            refine r_iload C dX9_single_195 rfl ?_
            refine r_aload_n C dX9_single_197 rfl rfl ?_
            refine r_getp C clX9 kd_23 (k := 4) (by decide) flX9_22 dX9_single_198 pt_23_4 ?_
            refine r_iload C dX9_single_201 rfl ?_
            refine r_zaload C dX9_single_203 (fun v20 _ => ?_)
            refine r_join (γ := Int) (pcJ := fun _ => 232) (al' := fun q23 => [some (zr 23), some (zi p1), none, none, none, some (zi v8), some (zi s18.1)]) (st' := fun q23 => [zi q23, zi v8, zr 27]) (M' := fun q23 => q19.2) ?_ ?_
            · intro q23
              refine r_zastore C dX9_single_232 (fun M24 _ => ?_)
              refine r_iinc (al' := [some (zr 23), some (zi p1), none, none, none, some (zi v8), some (zi (w32 (s18.1 + 1)))]) C dX9_single_233 rfl (by rw [hn]; decide) rfl ?_
              refine r_goto (tgt := 182) C dX9_single_236 (by decide) ?_
              exact hCs18 (w32 (s18.1 + 1), M24)
            · intro hJq23
              refine q_if_eq (tgt := 231) C dX9_single_204 (by decide) (fun _ => ?_) (fun _ => ?_)
              · refine r_iconst C dX9_single_231 (by decide) ?_
                exact hJq23 0
              · refine r_aload_n C dX9_single_207 rfl rfl ?_
                refine r_getp C clX9 kd_23 (k := 4) (by decide) flX9_22 dX9_single_208 pt_23_4 ?_
                refine r_aload_n C dX9_single_211 rfl rfl ?_
                refine r_getp C clX9 kd_23 (k := 2) (by decide) flX9_15 dX9_single_212 pt_23_2 ?_
                refine r_iconst C dX9_single_215 (by decide) ?_
                refine r_iload C dX9_single_216 rfl ?_
                refine r_imul C dX9_single_218 ?_
                refine r_iload C dX9_single_219 rfl ?_
                refine r_iadd C dX9_single_221 ?_
                refine r_iaload C dX9_single_222 (fun v21 _ => ?_)
                refine r_zaload C dX9_single_223 (fun v22 _ => ?_)
                refine q_if_eq (tgt := 231) C dX9_single_224 (by decide) (fun _ => ?_) (fun _ => ?_)
                · refine r_iconst C dX9_single_231 (by decide) ?_
                  exact hJq23 0
                · refine r_iconst C dX9_single_227 (by decide) ?_
                  refine r_goto (tgt := 232) C dX9_single_228 (by decide) ?_
                  exact hJq23 1
      · intro hJq15
        refine q_icmp_eq (tgt := 165) C dX9_single_147 (by decide) (fun _ => ?_) (fun _ => ?_)
        · refine r_iconst C dX9_single_165 (by decide) ?_
          refine r_goto (tgt := 170) C dX9_single_166 (by decide) ?_
          refine r_less [true, true, false, false, false, true, false] rfl ?_
          exact hJq15 1
        · refine r_iload_n C dX9_single_150 rfl rfl ?_
          refine r_bipush C dX9_single_151 (by decide) ?_
          refine q_icmp_ne (tgt := 169) C dX9_single_153 (by decide) (fun _ => ?_) (fun _ => ?_)
          · refine r_iconst C dX9_single_169 (by decide) ?_
            refine r_less [true, true, false, false, false, true, false] rfl ?_
            exact hJq15 0
          · refine r_aload_n C dX9_single_156 rfl rfl ?_
            refine r_getp C clX9 kd_23 (k := 3) (by decide) flX9_18 dX9_single_157 pt_23_3 ?_
            refine r_iload_n C dX9_single_160 rfl rfl ?_
            refine r_zaload C dX9_single_161 (fun v14 _ => ?_)
            refine q_if_eq (tgt := 169) C dX9_single_162 (by decide) (fun _ => ?_) (fun _ => ?_)
            · refine r_iconst C dX9_single_169 (by decide) ?_
              refine r_less [true, true, false, false, false, true, false] rfl ?_
              exact hJq15 0
            · refine r_iconst C dX9_single_165 (by decide) ?_
              refine r_goto (tgt := 170) C dX9_single_166 (by decide) ?_
              refine r_less [true, true, false, false, false, true, false] rfl ?_
              exact hJq15 1
    · refine r_iconst C dX9_single_85 (by decide) ?_
      exact r_ireturn C dX9_single_86 rfl
  · intro gs1 hCs1 hXs1 s1
    unfold fX9_single_b1
    refine r_iload C dX9_single_3 rfl ?_
    refine r_aload_n C dX9_single_5 rfl rfl ?_
    refine q_geti C clX9 kd_23 (k := 0) (by decide) flX9_31 dX9_single_6 (kz := 0) rfl (by decide) ?_
    refine q_icmp_ge (tgt := 76) C dX9_single_9 (by decide) (fun _ => ?_) (fun _ => ?_)
    · refine r_less [true, true, true, true, true, false, false] rfl ?_
      exact hXs1 ()
    · refine r_iconst C dX9_single_12 (by decide) ?_
      refine r_iload C dX9_single_13 rfl ?_
      refine r_imul C dX9_single_15 ?_
      refine r_let (fun v2 _ => ?_)
      refine r_istore (al' := [some (zr 23), some (zi p1), some (zi p2), some (zi p3), some (zi p4), some (zi s1), some (zi v2)]) C dX9_single_16 (by rw [hn]; decide) rfl ?_
      refine r_aload_n C dX9_single_18 rfl rfl ?_
      refine r_getp C clX9 kd_23 (k := 1) (by decide) flX9_9 dX9_single_19 pt_23_1 ?_
      refine r_iload C dX9_single_22 rfl ?_
      refine r_iaload C dX9_single_24 (fun v3 _ => ?_)
      refine r_iload_n C dX9_single_25 rfl rfl ?_
      refine q_icmp_ne (tgt := 70) C dX9_single_26 (by decide) (fun _ => ?_) (fun _ => ?_)
      · refine r_iinc (al' := [some (zr 23), some (zi p1), some (zi p2), some (zi p3), some (zi p4), some (zi (w32 (s1 + 1))), some (zi v2)]) C dX9_single_70 rfl (by rw [hn]; decide) rfl ?_
        refine r_goto (tgt := 3) C dX9_single_73 (by decide) ?_
        refine r_less [true, true, true, true, true, true, false] rfl ?_
        exact hCs1 (w32 (s1 + 1))
      · refine r_aload_n C dX9_single_29 rfl rfl ?_
        refine r_getp C clX9 kd_23 (k := 2) (by decide) flX9_15 dX9_single_30 pt_23_2 ?_
        refine r_iload C dX9_single_33 rfl ?_
        refine r_iaload C dX9_single_35 (fun v4 _ => ?_)
        refine r_iload_n C dX9_single_36 rfl rfl ?_
        refine q_icmp_ne (tgt := 70) C dX9_single_37 (by decide) (fun _ => ?_) (fun _ => ?_)
        · refine r_iinc (al' := [some (zr 23), some (zi p1), some (zi p2), some (zi p3), some (zi p4), some (zi (w32 (s1 + 1))), some (zi v2)]) C dX9_single_70 rfl (by rw [hn]; decide) rfl ?_
          refine r_goto (tgt := 3) C dX9_single_73 (by decide) ?_
          refine r_less [true, true, true, true, true, true, false] rfl ?_
          exact hCs1 (w32 (s1 + 1))
        · refine r_aload_n C dX9_single_40 rfl rfl ?_
          refine r_getp C clX9 kd_23 (k := 2) (by decide) flX9_15 dX9_single_41 pt_23_2 ?_
          refine r_iload C dX9_single_44 rfl ?_
          refine r_iconst C dX9_single_46 (by decide) ?_
          refine r_iadd C dX9_single_47 ?_
          refine r_iaload C dX9_single_48 (fun v5 _ => ?_)
          refine r_iload_n C dX9_single_49 rfl rfl ?_
          refine q_icmp_ne (tgt := 70) C dX9_single_50 (by decide) (fun _ => ?_) (fun _ => ?_)
          · refine r_iinc (al' := [some (zr 23), some (zi p1), some (zi p2), some (zi p3), some (zi p4), some (zi (w32 (s1 + 1))), some (zi v2)]) C dX9_single_70 rfl (by rw [hn]; decide) rfl ?_
            refine r_goto (tgt := 3) C dX9_single_73 (by decide) ?_
            refine r_less [true, true, true, true, true, true, false] rfl ?_
            exact hCs1 (w32 (s1 + 1))
          · refine r_aload_n C dX9_single_53 rfl rfl ?_
            refine r_getp C clX9 kd_23 (k := 2) (by decide) flX9_15 dX9_single_54 pt_23_2 ?_
            refine r_iload C dX9_single_57 rfl ?_
            refine r_iconst C dX9_single_59 (by decide) ?_
            refine r_iadd C dX9_single_60 ?_
            refine r_iaload C dX9_single_61 (fun v6 _ => ?_)
            refine r_iload C dX9_single_62 rfl ?_
            refine q_icmp_ne (tgt := 70) C dX9_single_64 (by decide) (fun _ => ?_) (fun _ => ?_)
            · refine r_iinc (al' := [some (zr 23), some (zi p1), some (zi p2), some (zi p3), some (zi p4), some (zi (w32 (s1 + 1))), some (zi v2)]) C dX9_single_70 rfl (by rw [hn]; decide) rfl ?_
              refine r_goto (tgt := 3) C dX9_single_73 (by decide) ?_
              refine r_less [true, true, true, true, true, true, false] rfl ?_
              exact hCs1 (w32 (s1 + 1))
            · refine r_iload C dX9_single_67 rfl ?_
              exact r_ireturn C dX9_single_69 rfl
