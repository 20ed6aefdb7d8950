set_option maxRecDepth 100000 in
set_option maxHeartbeats 4000000 in
theorem tX5_findUsers (g : Nat) (hg : g = 62 ∨ g = 88) (M : Mem) : Cn yX5_findUsers cX5_findUsers 4 none 1 21 [zr (g + 4)] M ((fX5_findUsers g M).map oU) := by
  refine Cn_mk (own := RX5) rfl (by decide) (Nat.le_of_ble_eq_true rfl) [some (zr (g + 4)), none, none, none] rfl (fun G C hn => ?_)
  unfold fX5_findUsers
  refine r_aload_n C dX5_findUsers_0 rfl rfl ?_
  refine r_getp C clX5 (kd_g4 hg) (k := 0) (by decide) flX5_37 dX5_findUsers_1 (pt_g4_0 hg) ?_
  refine q_geti C clX9 kd_44 (k := 0) (by decide) flX5_45 dX5_findUsers_4 (kz := 0) rfl (by decide) ?_
  refine r_iconst C dX5_findUsers_7 (by decide) ?_
  refine r_isub C dX5_findUsers_8 ?_
  refine r_let (fun v1 _ => ?_)
  refine r_istore_n (al' := [some (zr (g + 4)), some (zi v1), none, none]) C dX5_findUsers_9 rfl (by rw [hn]; decide) rfl ?_
  refine r_lp (S := Int × Mem) (R := Mem) (pcX := 137) (AL := fun s2 => [some (zr (g + 4)), some (zi s2.1), none, none]) (MM := fun s2 => s2.2) (AX := fun q20 => [none, none, none, none]) (MX := fun q20 => q20) ?_ ?_ (v1, M)
  · intro q20
    exact r_return C dX5_findUsers_137 rfl
  · intro gs2 hCs2 hXs2 s2
    unfold fX5_findUsers_b1
    refine r_iload_n C dX5_findUsers_10 rfl rfl ?_
    refine q_if_lt (tgt := 137) C dX5_findUsers_11 (by decide) (fun _ => ?_) (fun _ => ?_)
    · refine r_less [false, false, false, false] rfl ?_
      exact hXs2 s2.2
    · refine r_aload_n C dX5_findUsers_14 rfl rfl ?_
      refine r_iload_n C dX5_findUsers_15 rfl rfl ?_
      refine q_callVi (av := [zi s2.1]) (rest := []) C (tX5_isNeeded g hg s2.1 s2.2) lkX5_96 (kd_g4 hg) rfl rfl rfl (Nat.le_of_ble_eq_true rfl) ⟨by decide, by decide⟩ dX5_findUsers_16 (fun q3 _ => ?_)
      refine q_if_ne (tgt := 25) C dX5_findUsers_19 (by decide) (fun _ => ?_) (fun _ => ?_)
      · refine r_aload_n C dX5_findUsers_25 rfl rfl ?_
        refine r_dup C dX5_findUsers_26 rfl ?_
        refine q_getl C clX5 (kd_g4 hg) (k := 3) (by decide) flX5_64 dX5_findUsers_27 (kz := 3) rfl rfl ?_
        refine r_aload_n C dX5_findUsers_30 rfl rfl ?_
        refine r_getp C clX5 (kd_g4 hg) (k := 7) (by decide) flX5_21 dX5_findUsers_31 (pt_g4_7 hg) ?_
        refine r_iload_n C dX5_findUsers_34 rfl rfl ?_
        refine r_laload C dX5_findUsers_35 (fun v4 _ => ?_)
        refine r_lor C dX5_findUsers_36 ?_
        refine q_putl C clX5 (kd_g4 hg) (k := 3) (by decide) flX5_64 rfl dX5_findUsers_37 rfl rfl (fun M5 => ?_)
        refine r_aload_n C dX5_findUsers_40 rfl rfl ?_
        refine r_getp C clX5 (kd_g4 hg) (k := 11) (by decide) flX5_34 dX5_findUsers_41 (pt_g4_11 hg) ?_
        refine r_iload_n C dX5_findUsers_44 rfl rfl ?_
        refine r_dup2 C dX5_findUsers_45 rfl rfl ?_
        refine r_iaload C dX5_findUsers_46 (fun v6 _ => ?_)
        refine r_iconst C dX5_findUsers_47 (by decide) ?_
        refine r_iadd C dX5_findUsers_48 ?_
        refine r_iastore C dX5_findUsers_49 (fun M7 _ => ?_)
        refine r_iconst C dX5_findUsers_50 (by decide) ?_
        refine r_istore_n (al' := [some (zr (g + 4)), some (zi s2.1), some (zi 0), none]) C dX5_findUsers_51 rfl (by rw [hn]; decide) rfl ?_
        refine r_lp (S := Int × Mem) (R := Mem) (pcX := 131) (AL := fun s8 => [some (zr (g + 4)), some (zi s2.1), some (zi s8.1), none]) (MM := fun s8 => s8.2) (AX := fun q19 => [some (zr (g + 4)), some (zi s2.1), none, none]) (MX := fun q19 => q19) ?_ ?_ (0, M7)
        · intro q19
          refine r_iinc (al' := [some (zr (g + 4)), some (zi (w32 (s2.1 + (-1)))), none, none]) C dX5_findUsers_131 rfl (by rw [hn]; decide) rfl ?_
          refine r_goto (tgt := 10) C dX5_findUsers_134 (by decide) ?_
          exact hCs2 (w32 (s2.1 + (-1)), q19)
        · intro gs8 hCs8 hXs8 s8
          unfold fX5_findUsers_b2
          refine r_iload_n C dX5_findUsers_52 rfl rfl ?_
          refine r_aload_n C dX5_findUsers_53 rfl rfl ?_
          refine r_getp C clX5 (kd_g4 hg) (k := 6) (by decide) flX5_18 dX5_findUsers_54 (pt_g4_6 hg) ?_
          refine r_iload_n C dX5_findUsers_57 rfl rfl ?_
          refine r_iaload C dX5_findUsers_58 (fun v9 _ => ?_)
          refine q_icmp_ge (tgt := 131) C dX5_findUsers_59 (by decide) (fun _ => ?_) (fun _ => ?_)
          · refine r_less [true, true, false, false] rfl ?_
            exact hXs8 s8.2
          · refine r_aload_n C dX5_findUsers_62 rfl rfl ?_
            refine r_getp C clX5 (kd_g4 hg) (k := 5) (by decide) flX5_15 dX5_findUsers_63 (pt_g4_5 hg) ?_
            refine r_iconst C dX5_findUsers_66 (by decide) ?_
            refine r_iload_n C dX5_findUsers_67 rfl rfl ?_
            refine r_imul C dX5_findUsers_68 ?_
            refine r_iload_n C dX5_findUsers_69 rfl rfl ?_
            refine r_iadd C dX5_findUsers_70 ?_
            refine r_iaload C dX5_findUsers_71 (fun v10 _ => ?_)
            refine r_istore_n (al' := [some (zr (g + 4)), some (zi s2.1), some (zi s8.1), some (zi v10)]) C dX5_findUsers_72 rfl (by rw [hn]; decide) rfl ?_
            refine r_aload_n C dX5_findUsers_73 rfl rfl ?_
            refine r_getp C clX5 (kd_g4 hg) (k := 8) (by decide) flX5_25 dX5_findUsers_74 (pt_g4_8 hg) ?_
            refine r_iload_n C dX5_findUsers_77 rfl rfl ?_
            refine r_dup2 C dX5_findUsers_78 rfl rfl ?_
            refine r_laload C dX5_findUsers_79 (fun v11 _ => ?_)
            refine r_lconst C dX5_findUsers_80 rfl ?_
            refine r_iload_n C dX5_findUsers_81 rfl rfl ?_
            refine r_lshl C dX5_findUsers_82 ?_
            refine r_lor C dX5_findUsers_83 ?_
            refine r_lastore C dX5_findUsers_84 (fun M12 _ => ?_)
            refine r_aload_n C dX5_findUsers_85 rfl rfl ?_
            refine r_getp C clX5 (kd_g4 hg) (k := 10) (by decide) flX5_31 dX5_findUsers_86 (pt_g4_10 hg) ?_
            refine r_iload_n C dX5_findUsers_89 rfl rfl ?_
            refine r_dup2 C dX5_findUsers_90 rfl rfl ?_
            refine r_laload C dX5_findUsers_91 (fun v13 _ => ?_)
            refine r_lconst C dX5_findUsers_92 rfl ?_
            refine r_iload_n C dX5_findUsers_93 rfl rfl ?_
            refine r_lshl C dX5_findUsers_94 ?_
            refine r_aload_n C dX5_findUsers_95 rfl rfl ?_
            refine r_getp C clX5 (kd_g4 hg) (k := 10) (by decide) flX5_31 dX5_findUsers_96 (pt_g4_10 hg) ?_
            refine r_iload_n C dX5_findUsers_99 rfl rfl ?_
            refine r_laload C dX5_findUsers_100 (fun v14 _ => ?_)
            refine r_lor C dX5_findUsers_101 ?_
            refine r_lor C dX5_findUsers_102 ?_
            refine r_lastore C dX5_findUsers_103 (fun M15 _ => ?_)
            refine r_aload_n C dX5_findUsers_104 rfl rfl ?_
            refine r_getp C clX5 (kd_g4 hg) (k := 11) (by decide) flX5_34 dX5_findUsers_105 (pt_g4_11 hg) ?_
            refine r_iload_n C dX5_findUsers_108 rfl rfl ?_
            refine r_aload_n C dX5_findUsers_109 rfl rfl ?_
            refine r_getp C clX5 (kd_g4 hg) (k := 11) (by decide) flX5_34 dX5_findUsers_110 (pt_g4_11 hg) ?_
            refine r_iload_n C dX5_findUsers_113 rfl rfl ?_
            refine r_iaload C dX5_findUsers_114 (fun v16 _ => ?_)
            refine r_aload_n C dX5_findUsers_115 rfl rfl ?_
            refine r_getp C clX5 (kd_g4 hg) (k := 11) (by decide) flX5_34 dX5_findUsers_116 (pt_g4_11 hg) ?_
            refine r_iload_n C dX5_findUsers_119 rfl rfl ?_
            refine r_iaload C dX5_findUsers_120 (fun v17 _ => ?_)
            refine r_imax C mmax_iX5_99 jm_maxi_1 jm_maxi_2 jm_maxi_3 (by decide) (Nat.le_of_ble_eq_true rfl) dX5_findUsers_121 ?_
            refine r_iastore C dX5_findUsers_124 (fun M18 _ => ?_)
            refine r_iinc (al' := [some (zr (g + 4)), some (zi s2.1), some (zi (w32 (s8.1 + 1))), some (zi v10)]) C dX5_findUsers_125 rfl (by rw [hn]; decide) rfl ?_
            refine r_goto (tgt := 52) C dX5_findUsers_128 (by decide) ?_
            refine r_less [true, true, true, false] rfl ?_
            exact hCs8 (w32 (s8.1 + 1), M18)
      · refine r_goto (tgt := 131) C dX5_findUsers_22 (by decide) ?_
        refine r_iinc (al' := [some (zr (g + 4)), some (zi (w32 (s2.1 + (-1)))), none, none]) C dX5_findUsers_131 rfl (by rw [hn]; decide) rfl ?_
        refine r_goto (tgt := 10) C dX5_findUsers_134 (by decide) ?_
        exact hCs2 (w32 (s2.1 + (-1)), q3.2)
set_option maxRecDepth 100000 in
set_option maxHeartbeats 4000000 in
theorem tX5_reckon (g : Nat) (hg : g = 62 ∨ g = 88) (p1 : Int) (M : Mem) : Cn yX5_reckon cX5_reckon 3 none 2 45 [zr (g + 4), zi p1] M ((fX5_reckon g p1 M).map oU) := by
  refine Cn_mk (own := RX5) rfl (by decide) (Nat.le_of_ble_eq_true rfl) [some (zr (g + 4)), some (zi p1), none] rfl (fun G C hn => ?_)
  unfold fX5_reckon
  refine r_iconst C dX5_reckon_0 (by decide) ?_
  refine r_istore_n (al' := [some (zr (g + 4)), some (zi p1), some (zi 0)]) C dX5_reckon_1 rfl (by rw [hn]; decide) rfl ?_
  refine r_lp (S := Int × Mem) (R := Mem) (pcX := 50) (AL := fun s1 => [some (zr (g + 4)), some (zi p1), some (zi s1.1)]) (MM := fun s1 => s1.2) (AX := fun q7 => [some (zr (g + 4)), some (zi p1), none]) (MX := fun q7 => q7) ?_ ?_ (0, M)
  · intro q7
    refine r_aload_n C dX5_reckon_50 rfl rfl ?_
    refine r_iload_n C dX5_reckon_51 rfl rfl ?_
    refine q_callVv (av := [zi p1]) (rest := []) C (tX5_keepShown g hg p1 q7) lkX5_58 (kd_g4 hg) rfl rfl rfl (Nat.le_of_ble_eq_true rfl) ⟨by decide, by decide⟩ dX5_reckon_52 (fun q8 _ => ?_)
    refine r_aload_n C dX5_reckon_55 rfl rfl ?_
    refine q_callVv (av := []) (rest := []) C (tX5_findUsers g hg q8) lkX5_61 (kd_g4 hg) rfl rfl rfl (Nat.le_of_ble_eq_true rfl) ⟨by decide, by decide⟩ dX5_reckon_56 (fun q9 _ => ?_)
    exact r_return C dX5_reckon_59 rfl
  · intro gs1 hCs1 hXs1 s1
    unfold fX5_reckon_b1
    refine r_iload_n C dX5_reckon_2 rfl rfl ?_
    refine r_aload_n C dX5_reckon_3 rfl rfl ?_
    refine r_getp C clX5 (kd_g4 hg) (k := 0) (by decide) flX5_37 dX5_reckon_4 (pt_g4_0 hg) ?_
    refine q_geti C clX9 kd_44 (k := 0) (by decide) flX5_45 dX5_reckon_7 (kz := 0) rfl (by decide) ?_
    refine q_icmp_ge (tgt := 50) C dX5_reckon_10 (by decide) (fun _ => ?_) (fun _ => ?_)
    · refine r_less [true, true, false] rfl ?_
      exact hXs1 s1.2
    · refine r_aload_n C dX5_reckon_13 rfl rfl ?_
      refine r_iload_n C dX5_reckon_14 rfl rfl ?_
      refine q_callVv (av := [zi s1.1]) (rest := []) C (tX5_findStandsFor g hg s1.1 s1.2) lkX5_51 (kd_g4 hg) rfl rfl rfl (Nat.le_of_ble_eq_true rfl) ⟨by decide, by decide⟩ dX5_reckon_15 (fun q2 _ => ?_)
      refine r_aload_n C dX5_reckon_18 rfl rfl ?_
      refine r_iload_n C dX5_reckon_19 rfl rfl ?_
      refine q_callVv (av := [zi s1.1]) (rest := []) C (tX5_findSources g hg s1.1 q2) lkX5_55 (kd_g4 hg) rfl rfl rfl (Nat.le_of_ble_eq_true rfl) ⟨by decide, by decide⟩ dX5_reckon_20 (fun q3 _ => ?_)
      refine r_aload_n C dX5_reckon_23 rfl rfl ?_
      refine r_getp C clX5 (kd_g4 hg) (k := 8) (by decide) flX5_25 dX5_reckon_24 (pt_g4_8 hg) ?_
      refine r_iload_n C dX5_reckon_27 rfl rfl ?_
      refine r_lconst C dX5_reckon_28 rfl ?_
      refine r_lastore C dX5_reckon_29 (fun M4 _ => ?_)
      refine r_aload_n C dX5_reckon_30 rfl rfl ?_
      refine r_getp C clX5 (kd_g4 hg) (k := 10) (by decide) flX5_31 dX5_reckon_31 (pt_g4_10 hg) ?_
      refine r_iload_n C dX5_reckon_34 rfl rfl ?_
      refine r_lconst C dX5_reckon_35 rfl ?_
      refine r_lastore C dX5_reckon_36 (fun M5 _ => ?_)
      refine r_aload_n C dX5_reckon_37 rfl rfl ?_
      refine r_getp C clX5 (kd_g4 hg) (k := 11) (by decide) flX5_34 dX5_reckon_38 (pt_g4_11 hg) ?_
      refine r_iload_n C dX5_reckon_41 rfl rfl ?_
      refine r_iconst C dX5_reckon_42 (by decide) ?_
      refine r_iastore C dX5_reckon_43 (fun M6 _ => ?_)
      refine r_iinc (al' := [some (zr (g + 4)), some (zi p1), some (zi (w32 (s1.1 + 1)))]) C dX5_reckon_44 rfl (by rw [hn]; decide) rfl ?_
      refine r_goto (tgt := 2) C dX5_reckon_47 (by decide) ?_
      exact hCs1 (w32 (s1.1 + 1), M6)
set_option maxRecDepth 100000 in
set_option maxHeartbeats 4000000 in
theorem tX5_isKept (g : Nat) (hg : g = 62 ∨ g = 88) (p1 : Int) (M : Mem) : Cn yX5_isKept cX5_isKept 2 (some .boolean) 0 0 [zr (g + 4), zi p1] M ((fX5_isKept g p1 M).map oI) := by
  refine Cn_mk (own := RX5) rfl (by decide) (Nat.le_of_ble_eq_true rfl) [some (zr (g + 4)), some (zi p1)] rfl (fun G C hn => ?_)
  unfold fX5_isKept
  refine r_aload_n C dX5_isKept_0 rfl rfl ?_
  refine q_getl C clX5 (kd_g4 hg) (k := 4) (by decide) flX5_68 dX5_isKept_1 (kz := 4) rfl rfl ?_
  refine r_iload_n C dX5_isKept_4 rfl rfl ?_
  refine r_lushr C dX5_isKept_5 ?_
  refine r_lconst C dX5_isKept_6 rfl ?_
  refine r_land C dX5_isKept_7 ?_
  refine r_lconst C dX5_isKept_8 rfl ?_
  refine r_lcmp C dX5_isKept_9 ?_
  refine r_join (γ := Int) (pcJ := fun _ => 18) (al' := fun q1 => [none, none]) (st' := fun q1 => [zi q1]) (M' := fun q1 => M) ?_ ?_
  · intro q1
    exact r_zreturn C dX5_isKept_18 rfl
  · intro hJq1
    refine q_if_eq (tgt := 17) C dX5_isKept_10 (by decide) (fun _ => ?_) (fun _ => ?_)
    · refine r_iconst C dX5_isKept_17 (by decide) ?_
      refine r_less [false, false] rfl ?_
      exact hJq1 0
    · refine r_iconst C dX5_isKept_13 (by decide) ?_
      refine r_goto (tgt := 18) C dX5_isKept_14 (by decide) ?_
      refine r_less [false, false] rfl ?_
      exact hJq1 1
set_option maxRecDepth 100000 in
set_option maxHeartbeats 4000000 in
theorem tX7_growth (g : Nat) (hg : g = 62 ∨ g = 88) (p1 : Int) (p2 : Int) (M : Mem) : Cn yX7_growth cX7_growth 9 (some .int) 1 21 [zr (g + 13), zi p1, zl p2] M ((fX7_growth g p1 p2 M).map oI) := by
  refine Cn_mk (own := RX7) rfl (by decide) (Nat.le_of_ble_eq_true rfl) [some (zr (g + 13)), some (zi p1), some (zl p2), none, none, none, none, none, none] rfl (fun G C hn => ?_)
  unfold fX7_growth
  refine r_lload_n C dX7_growth_0 rfl rfl ?_
  refine r_lconst C dX7_growth_1 rfl ?_
  refine r_iload_n C dX7_growth_2 rfl rfl ?_
  refine r_lshl C dX7_growth_3 ?_
  refine r_lor C dX7_growth_4 ?_
  refine r_letl (fun v1 _ => ?_)
  refine r_lstore (al' := [some (zr (g + 13)), some (zi p1), some (zl p2), none, some (zl v1), none, none, none, none]) C dX7_growth_5 (by rw [hn]; decide) rfl ?_
  refine r_aload_n C dX7_growth_7 rfl rfl ?_
  refine r_getp C clX7 (kd_g13 hg) (k := 1) (by decide) flX7_53 dX7_growth_8 (pt_g13_1 hg) ?_
  refine r_getp C clX2 (kd_g0 hg) (k := 3) (by decide) flX7_100 dX7_growth_11 (pt_g0_3 hg) ?_
  refine r_iload_n C dX7_growth_14 rfl rfl ?_
  refine r_iaload C dX7_growth_15 (fun v2 _ => ?_)
  refine r_istore (al' := [some (zr (g + 13)), some (zi p1), some (zl p2), none, some (zl v1), none, some (zi v2), none, none]) C dX7_growth_16 (by rw [hn]; decide) rfl ?_
  refine r_iconst C dX7_growth_18 (by decide) ?_
  refine r_istore (al' := [some (zr (g + 13)), some (zi p1), some (zl p2), none, some (zl v1), none, some (zi v2), some (zi 0), none]) C dX7_growth_19 (by rw [hn]; decide) rfl ?_
  refine r_less [true, true, false, false, true, false, true, true, false] rfl ?_
  refine r_lp (S := Int × Int × Mem) (R := Int × Mem) (pcX := 106) (AL := fun s3 => [some (zr (g + 13)), some (zi p1), none, none, some (zl v1), none, some (zi s3.1), some (zi s3.2.1), none]) (MM := fun s3 => s3.2.2) (AX := fun q11 => [none, none, none, none, none, none, some (zi q11.1), none, none]) (MX := fun q11 => q11.2) ?_ ?_ (v2, 0, M)
  · intro q11
    refine r_iload C dX7_growth_106 rfl ?_
    exact r_ireturn C dX7_growth_108 rfl
  · intro gs3 hCs3 hXs3 s3
    unfold fX7_growth_b1
    refine r_iload C dX7_growth_21 rfl ?_
    refine r_aload_n C dX7_growth_23 rfl rfl ?_
    refine r_getp C clX7 (kd_g13 hg) (k := 2) (by decide) flX7_57 dX7_growth_24 (pt_g13_2 hg) ?_
    refine r_getp C clX5 (kd_g4 hg) (k := 6) (by decide) flX7_105 dX7_growth_27 (pt_g4_6 hg) ?_
    refine r_iload_n C dX7_growth_30 rfl rfl ?_
    refine r_iaload C dX7_growth_31 (fun v4 _ => ?_)
    refine q_icmp_ge (tgt := 106) C dX7_growth_32 (by decide) (fun _ => ?_) (fun _ => ?_)
    · refine r_less [false, false, false, false, false, false, true, false, false] rfl ?_
      exact hXs3 (s3.1, s3.2.2)
    · refine r_aload_n C dX7_growth_35 rfl rfl ?_
      refine r_getp C clX7 (kd_g13 hg) (k := 2) (by decide) flX7_57 dX7_growth_36 (pt_g13_2 hg) ?_
      refine r_getp C clX5 (kd_g4 hg) (k := 5) (by decide) flX7_108 dX7_growth_39 (pt_g4_5 hg) ?_
      refine r_iconst C dX7_growth_42 (by decide) ?_
      refine r_iload_n C dX7_growth_43 rfl rfl ?_
      refine r_imul C dX7_growth_44 ?_
      refine r_iload C dX7_growth_45 rfl ?_
      refine r_iadd C dX7_growth_47 ?_
      refine r_iaload C dX7_growth_48 (fun v5 _ => ?_)
      refine r_istore (al' := [some (zr (g + 13)), some (zi p1), none, none, some (zl v1), none, some (zi s3.1), some (zi s3.2.1), some (zi v5)]) C dX7_growth_49 (by rw [hn]; decide) rfl ?_
      refine r_aload_n C dX7_growth_51 rfl rfl ?_
      refine r_getp C clX7 (kd_g13 hg) (k := 2) (by decide) flX7_57 dX7_growth_52 (pt_g13_2 hg) ?_
      refine r_getp C clX5 (kd_g4 hg) (k := 8) (by decide) flX7_111 dX7_growth_55 (pt_g4_8 hg) ?_
      refine r_iload C dX7_growth_58 rfl ?_
      refine r_laload C dX7_growth_60 (fun v6 _ => ?_)
      refine r_lload C dX7_growth_61 rfl ?_
      refine r_ldc2 C klX7_80 rfl dX7_growth_63 ?_
      refine r_lxor C dX7_growth_66 ?_
      refine r_land C dX7_growth_67 ?_
      refine r_lconst C dX7_growth_68 rfl ?_
      refine r_lcmp C dX7_growth_69 ?_
      refine r_join (γ := Int × Mem) (pcJ := fun _ => 100) (al' := fun q10 => [some (zr (g + 13)), some (zi p1), none, none, some (zl v1), none, some (zi q10.1), some (zi s3.2.1), none]) (st' := fun q10 => []) (M' := fun q10 => q10.2) ?_ ?_
      · intro q10
        refine r_iinc (al' := [some (zr (g + 13)), some (zi p1), none, none, some (zl v1), none, some (zi q10.1), some (zi (w32 (s3.2.1 + 1))), none]) C dX7_growth_100 rfl (by rw [hn]; decide) rfl ?_
        refine r_goto (tgt := 21) C dX7_growth_103 (by decide) ?_
        exact hCs3 (q10.1, w32 (s3.2.1 + 1), q10.2)
      · intro hJq10
        refine q_if_ne (tgt := 100) C dX7_growth_70 (by decide) (fun _ => ?_) (fun _ => ?_)
        · refine r_less [true, true, false, false, true, false, true, true, false] rfl ?_
          exact hJq10 (s3.1, s3.2.2)
        · refine r_aload_n C dX7_growth_73 rfl rfl ?_
          refine r_getp C clX7 (kd_g13 hg) (k := 2) (by decide) flX7_57 dX7_growth_74 (pt_g13_2 hg) ?_
          refine r_iload C dX7_growth_77 rfl ?_
          refine q_callVi (av := [zi v5]) (rest := []) C (tX5_isKept g hg v5 s3.2.2) lkX7_114 (kd_g4 hg) rfl rfl rfl (Nat.le_of_ble_eq_true rfl) ⟨by decide, by decide⟩ dX7_growth_79 (fun q7 _ => ?_)
          refine q_if_ne (tgt := 100) C dX7_growth_82 (by decide) (fun _ => ?_) (fun _ => ?_)
          · refine r_less [true, true, false, false, true, false, true, true, false] rfl ?_
            exact hJq10 (s3.1, q7.2)
          · refine r_iload C dX7_growth_85 rfl ?_
            refine r_aload_n C dX7_growth_87 rfl rfl ?_
            refine r_getp C clX7 (kd_g13 hg) (k := 1) (by decide) flX7_53 dX7_growth_88 (pt_g13_1 hg) ?_
            refine r_getp C clX2 (kd_g0 hg) (k := 3) (by decide) flX7_100 dX7_growth_91 (pt_g0_3 hg) ?_
            refine r_iload C dX7_growth_94 rfl ?_
            refine r_iaload C dX7_growth_96 (fun v8 _ => ?_)
            refine r_isub C dX7_growth_97 ?_
            refine r_let (fun v9 _ => ?_)
            refine r_istore (al' := [some (zr (g + 13)), some (zi p1), none, none, some (zl v1), none, some (zi v9), some (zi s3.2.1), some (zi v5)]) C dX7_growth_98 (by rw [hn]; decide) rfl ?_
            refine r_less [true, true, false, false, true, false, true, true, false] rfl ?_
            exact hJq10 (v9, q7.2)
set_option maxRecDepth 100000 in
set_option maxHeartbeats 4000000 in
theorem tX7_goesAhead (g : Nat) (hg : g = 62 ∨ g = 88) (p1 : Int) (p2 : Int) (p3 : Int) (p4 : Int) (M : Mem) : Cn yX7_goesAhead cX7_goesAhead 7 (some .boolean) 2 49 [zr (g + 13), zi p1, zi p2, zi p3, zl p4] M ((fX7_goesAhead g p1 p2 p3 p4 M).map oI) := by
  refine Cn_mk (own := RX7) rfl (by decide) (Nat.le_of_ble_eq_true rfl) [some (zr (g + 13)), some (zi p1), some (zi p2), some (zi p3), some (zl p4), none, none] rfl (fun G C hn => ?_)
  unfold fX7_goesAhead
  refine r_iload_n C dX7_goesAhead_0 rfl rfl ?_
  refine r_ite (fun hx0 => ?_) (fun hx0 => ?_)
  · refine r_sw 32 ?_ (fun J => ?_)
    · refine r_aload_n C dX7_goesAhead_32 rfl rfl ?_
      refine r_iload_n C dX7_goesAhead_33 rfl rfl ?_
      refine r_lload C dX7_goesAhead_34 rfl ?_
      refine q_callVi (av := [zi p1, zl p4]) (rest := []) C (tX7_growth g hg p1 p4 M) lkX7_90 (kd_g13 hg) rfl rfl rfl (Nat.le_of_ble_eq_true rfl) ⟨by decide, by decide⟩ dX7_goesAhead_36 (fun q1 _ => ?_)
      refine r_aload_n C dX7_goesAhead_39 rfl rfl ?_
      refine r_iload_n C dX7_goesAhead_40 rfl rfl ?_
      refine r_lload C dX7_goesAhead_41 rfl ?_
      refine q_callVi (av := [zi p2, zl p4]) (rest := [zi q1.1]) C (tX7_growth g hg p2 p4 q1.2) lkX7_90 (kd_g13 hg) rfl rfl rfl (Nat.le_of_ble_eq_true rfl) ⟨by decide, by decide⟩ dX7_goesAhead_43 (fun q2 _ => ?_)
      refine r_isub C dX7_goesAhead_46 ?_
      refine r_let (fun v3 _ => ?_)
      refine r_istore (al' := [some (zr (g + 13)), some (zi p1), some (zi p2), some (zi p3), some (zl p4), none, some (zi v3)]) C dX7_goesAhead_47 (by rw [hn]; decide) rfl ?_
      refine r_iload C dX7_goesAhead_49 rfl ?_
      refine r_join (γ := Int) (pcJ := fun _ => 85) (al' := fun q6 => [none, none, none, none, none, none, none]) (st' := fun q6 => [zi q6]) (M' := fun q6 => q2.2) ?_ ?_
      · intro q6
        exact r_zreturn C dX7_goesAhead_85 rfl
      · intro hJq6
        refine q_if_lt (tgt := 80) C dX7_goesAhead_51 (by decide) (fun _ => ?_) (fun _ => ?_)
        · refine r_iconst C dX7_goesAhead_80 (by decide) ?_
          refine r_goto (tgt := 85) C dX7_goesAhead_81 (by decide) ?_
          refine r_less [false, false, false, false, false, false, false] rfl ?_
          exact hJq6 1
        · refine r_iload C dX7_goesAhead_54 rfl ?_
          refine q_if_ne (tgt := 84) C dX7_goesAhead_56 (by decide) (fun _ => ?_) (fun _ => ?_)
          · refine r_iconst C dX7_goesAhead_84 (by decide) ?_
            refine r_less [false, false, false, false, false, false, false] rfl ?_
            exact hJq6 0
          · refine r_aload_n C dX7_goesAhead_59 rfl rfl ?_
            refine r_getp C clX7 (kd_g13 hg) (k := 2) (by decide) flX7_57 dX7_goesAhead_60 (pt_g13_2 hg) ?_
            refine r_getp C clX5 (kd_g4 hg) (k := 11) (by decide) flX7_94 dX7_goesAhead_63 (pt_g4_11 hg) ?_
            refine r_iload_n C dX7_goesAhead_66 rfl rfl ?_
            refine r_iaload C dX7_goesAhead_67 (fun v4 _ => ?_)
            refine r_aload_n C dX7_goesAhead_68 rfl rfl ?_
            refine r_getp C clX7 (kd_g13 hg) (k := 2) (by decide) flX7_57 dX7_goesAhead_69 (pt_g13_2 hg) ?_
            refine r_getp C clX5 (kd_g4 hg) (k := 11) (by decide) flX7_94 dX7_goesAhead_72 (pt_g4_11 hg) ?_
            refine r_iload_n C dX7_goesAhead_75 rfl rfl ?_
            refine r_iaload C dX7_goesAhead_76 (fun v5 _ => ?_)
            refine q_icmp_le (tgt := 84) C dX7_goesAhead_77 (by decide) (fun _ => ?_) (fun _ => ?_)
            · refine r_iconst C dX7_goesAhead_84 (by decide) ?_
              refine r_less [false, false, false, false, false, false, false] rfl ?_
              exact hJq6 0
            · refine r_iconst C dX7_goesAhead_80 (by decide) ?_
              refine r_goto (tgt := 85) C dX7_goesAhead_81 (by decide) ?_
              refine r_less [false, false, false, false, false, false, false] rfl ?_
              exact hJq6 1
    · skip
      exact r_tabIn (n := 0) C dX7_goesAhead_1 hx0 (by decide) (by decide) rfl (by decide) J
  refine r_ite (fun hx1 => ?_) (fun hx1 => ?_)
  · refine r_sw 86 ?_ (fun J => ?_)
    · refine r_aload_n C dX7_goesAhead_86 rfl rfl ?_
      refine r_getp C clX7 (kd_g13 hg) (k := 2) (by decide) flX7_57 dX7_goesAhead_87 (pt_g13_2 hg) ?_
      refine r_getp C clX5 (kd_g4 hg) (k := 11) (by decide) flX7_94 dX7_goesAhead_90 (pt_g4_11 hg) ?_
      refine r_iload_n C dX7_goesAhead_93 rfl rfl ?_
      refine r_iaload C dX7_goesAhead_94 (fun v7 _ => ?_)
      refine r_aload_n C dX7_goesAhead_95 rfl rfl ?_
      refine r_getp C clX7 (kd_g13 hg) (k := 2) (by decide) flX7_57 dX7_goesAhead_96 (pt_g13_2 hg) ?_
      refine r_getp C clX5 (kd_g4 hg) (k := 11) (by decide) flX7_94 dX7_goesAhead_99 (pt_g4_11 hg) ?_
      refine r_iload_n C dX7_goesAhead_102 rfl rfl ?_
      refine r_iaload C dX7_goesAhead_103 (fun v8 _ => ?_)
      refine r_join (γ := Int) (pcJ := fun _ => 112) (al' := fun q9 => [none, none, none, none, none, none, none]) (st' := fun q9 => [zi q9]) (M' := fun q9 => M) ?_ ?_
      · intro q9
        exact r_zreturn C dX7_goesAhead_112 rfl
      · intro hJq9
        refine q_icmp_le (tgt := 111) C dX7_goesAhead_104 (by decide) (fun _ => ?_) (fun _ => ?_)
        · refine r_iconst C dX7_goesAhead_111 (by decide) ?_
          refine r_less [false, false, false, false, false, false, false] rfl ?_
          exact hJq9 0
        · refine r_iconst C dX7_goesAhead_107 (by decide) ?_
          refine r_goto (tgt := 112) C dX7_goesAhead_108 (by decide) ?_
          refine r_less [false, false, false, false, false, false, false] rfl ?_
          exact hJq9 1
    · skip
      exact r_tabIn (n := 2) C dX7_goesAhead_1 hx1 (by decide) (by decide) rfl (by decide) J
  refine r_ite (fun hx2 => ?_) (fun hx2 => ?_)
  · refine r_sw 113 ?_ (fun J => ?_)
    · refine r_aload_n C dX7_goesAhead_113 rfl rfl ?_
      refine r_getp C clX7 (kd_g13 hg) (k := 0) (by decide) flX7_49 dX7_goesAhead_114 (pt_g13_0 hg) ?_
      refine r_getp C clX9 kd_44 (k := 1) (by decide) flX7_97 dX7_goesAhead_117 pt_44_1 ?_
      refine r_iload_n C dX7_goesAhead_120 rfl rfl ?_
      refine r_iaload C dX7_goesAhead_121 (fun v10 _ => ?_)
      refine r_bipush C dX7_goesAhead_122 (by decide) ?_
      refine r_join (γ := Int) (pcJ := fun _ => 146) (al' := fun q12 => [none, none, none, none, none, none, none]) (st' := fun q12 => [zi q12]) (M' := fun q12 => M) ?_ ?_
      · intro q12
        exact r_zreturn C dX7_goesAhead_146 rfl
      · intro hJq12
        refine q_icmp_ne (tgt := 145) C dX7_goesAhead_124 (by decide) (fun _ => ?_) (fun _ => ?_)
        · refine r_iconst C dX7_goesAhead_145 (by decide) ?_
          refine r_less [false, false, false, false, false, false, false] rfl ?_
          exact hJq12 0
        · refine r_aload_n C dX7_goesAhead_127 rfl rfl ?_
          refine r_getp C clX7 (kd_g13 hg) (k := 0) (by decide) flX7_49 dX7_goesAhead_128 (pt_g13_0 hg) ?_
          refine r_getp C clX9 kd_44 (k := 1) (by decide) flX7_97 dX7_goesAhead_131 pt_44_1 ?_
          refine r_iload_n C dX7_goesAhead_134 rfl rfl ?_
          refine r_iaload C dX7_goesAhead_135 (fun v11 _ => ?_)
          refine r_bipush C dX7_goesAhead_136 (by decide) ?_
          refine q_icmp_eq (tgt := 145) C dX7_goesAhead_138 (by decide) (fun _ => ?_) (fun _ => ?_)
          · refine r_iconst C dX7_goesAhead_145 (by decide) ?_
            refine r_less [false, false, false, false, false, false, false] rfl ?_
            exact hJq12 0
          · refine r_iconst C dX7_goesAhead_141 (by decide) ?_
            refine r_goto (tgt := 146) C dX7_goesAhead_142 (by decide) ?_
            refine r_less [false, false, false, false, false, false, false] rfl ?_
            exact hJq12 1
    · skip
      exact r_tabIn (n := 3) C dX7_goesAhead_1 hx2 (by decide) (by decide) rfl (by decide) J
  refine r_sw 147 ?_ (fun J => ?_)
  · refine r_iconst C dX7_goesAhead_147 (by decide) ?_
    exact r_zreturn C dX7_goesAhead_148 rfl
  · skip
    by_cases hh : p3 = 1
    · exact r_tabIn (n := 1) C dX7_goesAhead_1 hh (by decide) (by decide) rfl (by decide) J
    exact r_tabOut C dX7_goesAhead_1 (by omega) (by decide) J
set_option maxRecDepth 100000 in
set_option maxHeartbeats 4000000 in
theorem tX7_putAt (g : Nat) (hg : g = 62 ∨ g = 88) (p1 : Int) (p2 : Int) (M : Mem) : Cn yX7_putAt cX7_putAt 3 none 0 0 [zr (g + 13), zi p1, zi p2] M ((fX7_putAt g p1 p2 M).map oU) := by
  refine Cn_mk (own := RX7) rfl (by decide) (Nat.le_of_ble_eq_true rfl) [some (zr (g + 13)), some (zi p1), some (zi p2)] rfl (fun G C hn => ?_)
  unfold fX7_putAt
  refine r_aload_n C dX7_putAt_0 rfl rfl ?_
  refine r_getp C clX7 (kd_g13 hg) (k := 3) (by decide) flX7_9 dX7_putAt_1 (pt_g13_3 hg) ?_
  refine r_iload_n C dX7_putAt_4 rfl rfl ?_
  refine r_iload_n C dX7_putAt_5 rfl rfl ?_
  refine r_iastore C dX7_putAt_6 (fun M1 _ => ?_)
  refine r_aload_n C dX7_putAt_7 rfl rfl ?_
  refine r_getp C clX7 (kd_g13 hg) (k := 5) (by decide) flX7_15 dX7_putAt_8 (pt_g13_5 hg) ?_
  refine r_iload_n C dX7_putAt_11 rfl rfl ?_
  refine r_iload_n C dX7_putAt_12 rfl rfl ?_
  refine r_iastore C dX7_putAt_13 (fun M2 _ => ?_)
  exact r_return C dX7_putAt_14 rfl
set_option maxRecDepth 100000 in
set_option maxHeartbeats 4000000 in
theorem tX7_arrange (g : Nat) (hg : g = 62 ∨ g = 88) (p1 : Int) (M : Mem) : Cn yX7_arrange cX7_arrange 8 none 3 75 [zr (g + 13), zi p1] M ((fX7_arrange g p1 M).map oU) := by
  refine Cn_mk (own := RX7) rfl (by decide) (Nat.le_of_ble_eq_true rfl) [some (zr (g + 13)), some (zi p1), none, none, none, none, none, none] rfl (fun G C hn => ?_)
  unfold fX7_arrange
  refine r_lconst C dX7_arrange_0 rfl ?_
  refine r_lstore_n (al' := [some (zr (g + 13)), some (zi p1), some (zl 0), none, none, none, none, none]) C dX7_arrange_1 rfl (by rw [hn]; decide) rfl ?_
  refine r_aload_n C dX7_arrange_2 rfl rfl ?_
  refine r_iconst C dX7_arrange_3 (by decide) ?_
  refine q_puti C clX7 (kd_g13 hg) (k := 4) (by decide) flX7_61 rfl dX7_arrange_4 rfl rfl (fun M1 => ?_)
  refine r_iconst C dX7_arrange_7 (by decide) ?_
  refine r_istore (al' := [some (zr (g + 13)), some (zi p1), some (zl 0), none, some (zi 0), none, none, none]) C dX7_arrange_8 (by rw [hn]; decide) rfl ?_
  refine r_lp (S := Int × Int × Mem) (R := Mem) (pcX := 164) (AL := fun s2 => [some (zr (g + 13)), some (zi p1), some (zl s2.1), none, some (zi s2.2.1), none, none, none]) (MM := fun s2 => s2.2.2) (AX := fun q16 => [none, none, none, none, none, none, none, none]) (MX := fun q16 => q16) ?_ ?_ (0, 0, M1)
  · intro q16
    exact r_return C dX7_arrange_164 rfl
  · intro gs2 hCs2 hXs2 s2
    unfold fX7_arrange_b1
    refine r_iload C dX7_arrange_10 rfl ?_
    refine r_aload_n C dX7_arrange_12 rfl rfl ?_
    refine r_getp C clX7 (kd_g13 hg) (k := 0) (by decide) flX7_49 dX7_arrange_13 (pt_g13_0 hg) ?_
    refine q_geti C clX9 kd_44 (k := 0) (by decide) flX7_65 dX7_arrange_16 (kz := 0) rfl (by decide) ?_
    refine q_icmp_ge (tgt := 164) C dX7_arrange_19 (by decide) (fun _ => ?_) (fun _ => ?_)
    · refine r_less [false, false, false, false, false, false, false, false] rfl ?_
      exact hXs2 s2.2.2
    · refine r_iconst C dX7_arrange_22 (by decide) ?_
      refine r_istore (al' := [some (zr (g + 13)), some (zi p1), some (zl s2.1), none, some (zi s2.2.1), some (zi (-1)), none, none]) C dX7_arrange_23 (by rw [hn]; decide) rfl ?_
      refine r_iconst C dX7_arrange_25 (by decide) ?_
      refine r_istore (al' := [some (zr (g + 13)), some (zi p1), some (zl s2.1), none, some (zi s2.2.1), some (zi (-1)), some (zi 0), none]) C dX7_arrange_26 (by rw [hn]; decide) rfl ?_
      refine r_lp (S := Int × Int × Mem) (R := Int × Mem) (pcX := 125) (AL := fun s3 => [some (zr (g + 13)), some (zi p1), some (zl s2.1), none, some (zi s2.2.1), some (zi s3.1), some (zi s3.2.1), none]) (MM := fun s3 => s3.2.2) (AX := fun q11 => [some (zr (g + 13)), some (zi p1), some (zl s2.1), none, some (zi s2.2.1), some (zi q11.1), none, none]) (MX := fun q11 => q11.2) ?_ ?_ ((-1), 0, s2.2.2)
      · intro q11
        refine r_iload C dX7_arrange_125 rfl ?_
        refine r_iconst C dX7_arrange_127 (by decide) ?_
        refine r_join (γ := Int × Mem) (pcJ := fun _ => 158) (al' := fun q15 => [some (zr (g + 13)), some (zi p1), some (zl q15.1), none, some (zi s2.2.1), none, none, none]) (st' := fun q15 => []) (M' := fun q15 => q15.2) ?_ ?_
        · intro q15
          refine r_iinc (al' := [some (zr (g + 13)), some (zi p1), some (zl q15.1), none, some (zi (w32 (s2.2.1 + 1))), none, none, none]) C dX7_arrange_158 rfl (by rw [hn]; decide) rfl ?_
          refine r_goto (tgt := 10) C dX7_arrange_161 (by decide) ?_
          exact hCs2 (q15.1, w32 (s2.2.1 + 1), q15.2)
        · intro hJq15
          refine q_icmp_eq (tgt := 158) C dX7_arrange_128 (by decide) (fun _ => ?_) (fun _ => ?_)
          · refine r_less [true, true, true, false, true, false, false, false] rfl ?_
            exact hJq15 (s2.1, q11.2)
          · refine r_aload_n C dX7_arrange_131 rfl rfl ?_
            refine r_aload_n C dX7_arrange_132 rfl rfl ?_
            refine q_geti C clX7 (kd_g13 hg) (k := 4) (by decide) flX7_61 dX7_arrange_133 (kz := 4) rfl (by decide) ?_
            refine r_iload C dX7_arrange_136 rfl ?_
            refine q_callVv (av := [zi (q11.2 (g + 13) 4), zi q11.1]) (rest := []) C (tX7_putAt g hg (q11.2 (g + 13) 4) q11.1 q11.2) lkX7_86 (kd_g13 hg) rfl rfl rfl (Nat.le_of_ble_eq_true rfl) ⟨by decide, by decide⟩ dX7_arrange_138 (fun q12 _ => ?_)
            refine r_aload_n C dX7_arrange_141 rfl rfl ?_
            refine r_dup C dX7_arrange_142 rfl ?_
            refine q_geti C clX7 (kd_g13 hg) (k := 4) (by decide) flX7_61 dX7_arrange_143 (kz := 4) rfl (by decide) ?_
            refine r_iconst C dX7_arrange_146 (by decide) ?_
            refine r_iadd C dX7_arrange_147 ?_
            refine q_puti C clX7 (kd_g13 hg) (k := 4) (by decide) flX7_61 rfl dX7_arrange_148 rfl rfl (fun M13 => ?_)
            refine r_lload_n C dX7_arrange_151 rfl rfl ?_
            refine r_lconst C dX7_arrange_152 rfl ?_
            refine r_iload C dX7_arrange_153 rfl ?_
            refine r_lshl C dX7_arrange_155 ?_
            refine r_lor C dX7_arrange_156 ?_
            refine r_letl (fun v14 _ => ?_)
            refine r_lstore_n (al' := [some (zr (g + 13)), some (zi p1), some (zl v14), none, some (zi s2.2.1), some (zi q11.1), none, none]) C dX7_arrange_157 rfl (by rw [hn]; decide) rfl ?_
            refine r_less [true, true, true, false, true, false, false, false] rfl ?_
            exact hJq15 (v14, M13)
      · intro gs3 hCs3 hXs3 s3
        unfold fX7_arrange_b2
        refine r_iload C dX7_arrange_28 rfl ?_
        refine r_aload_n C dX7_arrange_30 rfl rfl ?_
        refine r_getp C clX7 (kd_g13 hg) (k := 0) (by decide) flX7_49 dX7_arrange_31 (pt_g13_0 hg) ?_
        refine q_geti C clX9 kd_44 (k := 0) (by decide) flX7_65 dX7_arrange_34 (kz := 0) rfl (by decide) ?_
        refine q_icmp_ge (tgt := 125) C dX7_arrange_37 (by decide) (fun _ => ?_) (fun _ => ?_)
        · refine r_less [true, true, true, false, true, true, false, false] rfl ?_
          exact hXs3 (s3.1, s3.2.2)
        · refine r_aload_n C dX7_arrange_40 rfl rfl ?_
          refine r_getp C clX7 (kd_g13 hg) (k := 2) (by decide) flX7_57 dX7_arrange_41 (pt_g13_2 hg) ?_
          refine r_iload C dX7_arrange_44 rfl ?_
          refine q_callVi (av := [zi s3.2.1]) (rest := []) C (tX5_isNeeded g hg s3.2.1 s3.2.2) lkX7_70 (kd_g4 hg) rfl rfl rfl (Nat.le_of_ble_eq_true rfl) ⟨by decide, by decide⟩ dX7_arrange_46 (fun q4 _ => ?_)
          refine r_join (γ := Int) (pcJ := fun _ => 89) (al' := fun q6 => [some (zr (g + 13)), some (zi p1), some (zl s2.1), none, some (zi s2.2.1), some (zi s3.1), some (zi s3.2.1), none]) (st' := fun q6 => [zi q6]) (M' := fun q6 => q4.2) ?_ ?_
          · intro q6
            refine r_istore (al' := [some (zr (g + 13)), some (zi p1), some (zl s2.1), none, some (zi s2.2.1), some (zi s3.1), some (zi s3.2.1), some (zi q6)]) C dX7_arrange_89 (by rw [hn]; decide) rfl ?_
            refine r_iload C dX7_arrange_91 rfl ?_
            refine r_join (γ := Int × Mem) (pcJ := fun _ => 119) (al' := fun q10 => [some (zr (g + 13)), some (zi p1), some (zl s2.1), none, some (zi s2.2.1), some (zi q10.1), some (zi s3.2.1), none]) (st' := fun q10 => []) (M' := fun q10 => q10.2) ?_ ?_
            · intro q10
              refine r_iinc (al' := [some (zr (g + 13)), some (zi p1), some (zl s2.1), none, some (zi s2.2.1), some (zi q10.1), some (zi (w32 (s3.2.1 + 1))), none]) C dX7_arrange_119 rfl (by rw [hn]; decide) rfl ?_
              refine r_goto (tgt := 28) C dX7_arrange_122 (by decide) ?_
              exact hCs3 (q10.1, w32 (s3.2.1 + 1), q10.2)
            · intro hJq10
              refine q_if_eq (tgt := 119) C dX7_arrange_93 (by decide) (fun _ => ?_) (fun _ => ?_)
              · refine r_less [true, true, true, false, true, true, true, false] rfl ?_
                exact hJq10 (s3.1, q4.2)
              · refine r_iload C dX7_arrange_96 rfl ?_
                refine r_iconst C dX7_arrange_98 (by decide) ?_
                refine q_icmp_eq (tgt := 115) C dX7_arrange_99 (by decide) (fun _ => ?_) (fun _ => ?_)
                · refine r_iload C dX7_arrange_115 rfl ?_
                  refine r_let (fun v7 _ => ?_)
                  refine r_istore (al' := [some (zr (g + 13)), some (zi p1), some (zl s2.1), none, some (zi s2.2.1), some (zi v7), some (zi s3.2.1), some (zi q6)]) C dX7_arrange_117 (by rw [hn]; decide) rfl ?_
                  refine r_less [true, true, true, false, true, true, true, false] rfl ?_
                  exact hJq10 (v7, q4.2)
                · refine r_aload_n C dX7_arrange_102 rfl rfl ?_
                  refine r_iload C dX7_arrange_103 rfl ?_
                  refine r_iload C dX7_arrange_105 rfl ?_
                  refine r_iload_n C dX7_arrange_107 rfl rfl ?_
                  refine r_lload_n C dX7_arrange_108 rfl rfl ?_
                  refine q_callVi (av := [zi s3.2.1, zi s3.1, zi p1, zl s2.1]) (rest := []) C (tX7_goesAhead g hg s3.2.1 s3.1 p1 s2.1 q4.2) lkX7_82 (kd_g13 hg) rfl rfl rfl (Nat.le_of_ble_eq_true rfl) ⟨by decide, by decide⟩ dX7_arrange_109 (fun q8 _ => ?_)
                  refine q_if_eq (tgt := 119) C dX7_arrange_112 (by decide) (fun _ => ?_) (fun _ => ?_)
                  · refine r_less [true, true, true, false, true, true, true, false] rfl ?_
                    exact hJq10 (s3.1, q8.2)
                  · refine r_iload C dX7_arrange_115 rfl ?_
                    refine r_let (fun v9 _ => ?_)
                    refine r_istore (al' := [some (zr (g + 13)), some (zi p1), some (zl s2.1), none, some (zi s2.2.1), some (zi v9), some (zi s3.2.1), some (zi q6)]) C dX7_arrange_117 (by rw [hn]; decide) rfl ?_
                    refine r_less [true, true, true, false, true, true, true, false] rfl ?_
                    exact hJq10 (v9, q8.2)
          · intro hJq6
            refine q_if_eq (tgt := 88) C dX7_arrange_49 (by decide) (fun _ => ?_) (fun _ => ?_)
            · refine r_iconst C dX7_arrange_88 (by decide) ?_
              exact hJq6 0
            · refine r_lload_n C dX7_arrange_52 rfl rfl ?_
              refine r_iload C dX7_arrange_53 rfl ?_
              refine r_lushr C dX7_arrange_55 ?_
              refine r_lconst C dX7_arrange_56 rfl ?_
              refine r_land C dX7_arrange_57 ?_
              refine r_lconst C dX7_arrange_58 rfl ?_
              refine r_lcmp C dX7_arrange_59 ?_
              refine q_if_ne (tgt := 88) C dX7_arrange_60 (by decide) (fun _ => ?_) (fun _ => ?_)
              · refine r_iconst C dX7_arrange_88 (by decide) ?_
                exact hJq6 0
              · refine r_aload_n C dX7_arrange_63 rfl rfl ?_
                refine r_getp C clX7 (kd_g13 hg) (k := 2) (by decide) flX7_57 dX7_arrange_64 (pt_g13_2 hg) ?_
                refine r_getp C clX5 (kd_g4 hg) (k := 7) (by decide) flX7_76 dX7_arrange_67 (pt_g4_7 hg) ?_
                refine r_iload C dX7_arrange_70 rfl ?_
                refine r_laload C dX7_arrange_72 (fun v5 _ => ?_)
                refine r_lload_n C dX7_arrange_73 rfl rfl ?_
                refine r_ldc2 C klX7_80 rfl dX7_arrange_74 ?_
                refine r_lxor C dX7_arrange_77 ?_
                refine r_land C dX7_arrange_78 ?_
                refine r_lconst C dX7_arrange_79 rfl ?_
                refine r_lcmp C dX7_arrange_80 ?_
                refine q_if_ne (tgt := 88) C dX7_arrange_81 (by decide) (fun _ => ?_) (fun _ => ?_)
                · refine r_iconst C dX7_arrange_88 (by decide) ?_
                  exact hJq6 0
                · refine r_iconst C dX7_arrange_84 (by decide) ?_
                  refine r_goto (tgt := 89) C dX7_arrange_85 (by decide) ?_
                  exact hJq6 1
set_option maxRecDepth 100000 in
set_option maxHeartbeats 4000000 in
theorem tX7_findEnds (g : Nat) (hg : g = 62 ∨ g = 88) (M : Mem) : Cn yX7_findEnds cX7_findEnds 5 none 1 21 [zr (g + 13)] M ((fX7_findEnds g M).map oU) := by
  refine Cn_mk (own := RX7) rfl (by decide) (Nat.le_of_ble_eq_true rfl) [some (zr (g + 13)), none, none, none, none] rfl (fun G C hn => ?_)
  unfold fX7_findEnds
  refine r_iconst C dX7_findEnds_0 (by decide) ?_
  refine r_istore_n (al' := [some (zr (g + 13)), some (zi 0), none, none, none]) C dX7_findEnds_1 rfl (by rw [hn]; decide) rfl ?_
  refine r_lp (S := Int × Mem) (R := Mem) (pcX := 102) (AL := fun s1 => [some (zr (g + 13)), some (zi s1.1), none, none, none]) (MM := fun s1 => s1.2) (AX := fun q12 => [none, none, none, none, none]) (MX := fun q12 => q12) ?_ ?_ (0, M)
  · intro q12
    exact r_return C dX7_findEnds_102 rfl
  · intro gs1 hCs1 hXs1 s1
    unfold fX7_findEnds_b1
    refine r_iload_n C dX7_findEnds_2 rfl rfl ?_
    refine r_aload_n C dX7_findEnds_3 rfl rfl ?_
    refine q_geti C clX7 (kd_g13 hg) (k := 4) (by decide) flX7_61 dX7_findEnds_4 (kz := 4) rfl (by decide) ?_
    refine q_icmp_ge (tgt := 102) C dX7_findEnds_7 (by decide) (fun _ => ?_) (fun _ => ?_)
    · refine r_less [false, false, false, false, false] rfl ?_
      exact hXs1 s1.2
    · refine r_aload_n C dX7_findEnds_10 rfl rfl ?_
      refine r_getp C clX7 (kd_g13 hg) (k := 3) (by decide) flX7_9 dX7_findEnds_11 (pt_g13_3 hg) ?_
      refine r_iload_n C dX7_findEnds_14 rfl rfl ?_
      refine r_iaload C dX7_findEnds_15 (fun v2 _ => ?_)
      refine r_istore_n (al' := [some (zr (g + 13)), some (zi s1.1), some (zi v2), none, none]) C dX7_findEnds_16 rfl (by rw [hn]; decide) rfl ?_
      refine r_aload_n C dX7_findEnds_17 rfl rfl ?_
      refine r_getp C clX7 (kd_g13 hg) (k := 6) (by decide) flX7_18 dX7_findEnds_18 (pt_g13_6 hg) ?_
      refine r_iload_n C dX7_findEnds_21 rfl rfl ?_
      refine r_aload_n C dX7_findEnds_22 rfl rfl ?_
      refine r_getp C clX7 (kd_g13 hg) (k := 2) (by decide) flX7_57 dX7_findEnds_23 (pt_g13_2 hg) ?_
      refine r_iload_n C dX7_findEnds_26 rfl rfl ?_
      refine q_callVi (av := [zi v2]) (rest := [zi v2, zr (g + 16)]) C (tX5_isKept g hg v2 s1.2) lkX7_114 (kd_g4 hg) rfl rfl rfl (Nat.le_of_ble_eq_true rfl) ⟨by decide, by decide⟩ dX7_findEnds_27 (fun q3 _ => ?_)
      refine r_join (γ := Int) (pcJ := fun _ => 41) (al' := fun q4 => [some (zr (g + 13)), some (zi s1.1), some (zi v2), none, none]) (st' := fun q4 => [zi q4, zi v2, zr (g + 16)]) (M' := fun q4 => q3.2) ?_ ?_
      · intro q4
        refine r_iastore C dX7_findEnds_41 (fun M5 _ => ?_)
        refine r_iconst C dX7_findEnds_42 (by decide) ?_
        refine r_istore_n (al' := [some (zr (g + 13)), some (zi s1.1), some (zi v2), some (zi 0), none]) C dX7_findEnds_43 rfl (by rw [hn]; decide) rfl ?_
        refine r_lp (S := Int × Mem) (R := Mem) (pcX := 96) (AL := fun s6 => [some (zr (g + 13)), some (zi s1.1), some (zi v2), some (zi s6.1), none]) (MM := fun s6 => s6.2) (AX := fun q11 => [some (zr (g + 13)), some (zi s1.1), none, none, none]) (MX := fun q11 => q11) ?_ ?_ (0, M5)
        · intro q11
          refine r_iinc (al' := [some (zr (g + 13)), some (zi (w32 (s1.1 + 1))), none, none, none]) C dX7_findEnds_96 rfl (by rw [hn]; decide) rfl ?_
          refine r_goto (tgt := 2) C dX7_findEnds_99 (by decide) ?_
          exact hCs1 (w32 (s1.1 + 1), q11)
        · intro gs6 hCs6 hXs6 s6
          unfold fX7_findEnds_b2
          refine r_iload_n C dX7_findEnds_44 rfl rfl ?_
          refine r_aload_n C dX7_findEnds_45 rfl rfl ?_
          refine r_getp C clX7 (kd_g13 hg) (k := 2) (by decide) flX7_57 dX7_findEnds_46 (pt_g13_2 hg) ?_
          refine r_getp C clX5 (kd_g4 hg) (k := 6) (by decide) flX7_105 dX7_findEnds_49 (pt_g4_6 hg) ?_
          refine r_iload_n C dX7_findEnds_52 rfl rfl ?_
          refine r_iaload C dX7_findEnds_53 (fun v7 _ => ?_)
          refine q_icmp_ge (tgt := 96) C dX7_findEnds_54 (by decide) (fun _ => ?_) (fun _ => ?_)
          · refine r_less [true, true, false, false, false] rfl ?_
            exact hXs6 s6.2
          · refine r_aload_n C dX7_findEnds_57 rfl rfl ?_
            refine r_getp C clX7 (kd_g13 hg) (k := 2) (by decide) flX7_57 dX7_findEnds_58 (pt_g13_2 hg) ?_
            refine r_getp C clX5 (kd_g4 hg) (k := 5) (by decide) flX7_108 dX7_findEnds_61 (pt_g4_5 hg) ?_
            refine r_iconst C dX7_findEnds_64 (by decide) ?_
            refine r_iload_n C dX7_findEnds_65 rfl rfl ?_
            refine r_imul C dX7_findEnds_66 ?_
            refine r_iload_n C dX7_findEnds_67 rfl rfl ?_
            refine r_iadd C dX7_findEnds_68 ?_
            refine r_iaload C dX7_findEnds_69 (fun v8 _ => ?_)
            refine r_istore (al' := [some (zr (g + 13)), some (zi s1.1), some (zi v2), some (zi s6.1), some (zi v8)]) C dX7_findEnds_70 (by rw [hn]; decide) rfl ?_
            refine r_aload_n C dX7_findEnds_72 rfl rfl ?_
            refine r_getp C clX7 (kd_g13 hg) (k := 6) (by decide) flX7_18 dX7_findEnds_73 (pt_g13_6 hg) ?_
            refine r_iload C dX7_findEnds_76 rfl ?_
            refine r_aload_n C dX7_findEnds_78 rfl rfl ?_
            refine r_getp C clX7 (kd_g13 hg) (k := 6) (by decide) flX7_18 dX7_findEnds_79 (pt_g13_6 hg) ?_
            refine r_iload C dX7_findEnds_82 rfl ?_
            refine r_iaload C dX7_findEnds_84 (fun v9 _ => ?_)
            refine r_iload_n C dX7_findEnds_85 rfl rfl ?_
            refine r_imax C mmax_iX7_129 jm_maxi_1 jm_maxi_2 jm_maxi_3 (by decide) (Nat.le_of_ble_eq_true rfl) dX7_findEnds_86 ?_
            refine r_iastore C dX7_findEnds_89 (fun M10 _ => ?_)
            refine r_iinc (al' := [some (zr (g + 13)), some (zi s1.1), some (zi v2), some (zi (w32 (s6.1 + 1))), some (zi v8)]) C dX7_findEnds_90 rfl (by rw [hn]; decide) rfl ?_
            refine r_goto (tgt := 44) C dX7_findEnds_93 (by decide) ?_
            refine r_less [true, true, true, true, false] rfl ?_
            exact hCs6 (w32 (s6.1 + 1), M10)
      · intro hJq4
        refine q_if_eq (tgt := 40) C dX7_findEnds_30 (by decide) (fun _ => ?_) (fun _ => ?_)
        · refine r_iload_n C dX7_findEnds_40 rfl rfl ?_
          exact hJq4 s1.1
        · refine r_aload_n C dX7_findEnds_33 rfl rfl ?_
          refine q_geti C clX7 (kd_g13 hg) (k := 4) (by decide) flX7_61 dX7_findEnds_34 (kz := 4) rfl (by decide) ?_
          refine r_goto (tgt := 41) C dX7_findEnds_37 (by decide) ?_
          exact hJq4 (q3.2 (g + 13) 4)
set_option maxRecDepth 100000 in
set_option maxHeartbeats 4000000 in
theorem tX7_fileOf (g : Nat) (hg : g = 62 ∨ g = 88) (p1 : Int) (M : Mem) : Cn yX7_fileOf cX7_fileOf 2 (some .int) 0 0 [zr (g + 13), zi p1] M ((fX7_fileOf g p1 M).map oI) := by
  refine Cn_mk (own := RX7) rfl (by decide) (Nat.le_of_ble_eq_true rfl) [some (zr (g + 13)), some (zi p1)] rfl (fun G C hn => ?_)
  unfold fX7_fileOf
  refine r_aload_n C dX7_fileOf_0 rfl rfl ?_
  refine r_getp C clX7 (kd_g13 hg) (k := 0) (by decide) flX7_49 dX7_fileOf_1 (pt_g13_0 hg) ?_
  refine r_getp C clX9 kd_44 (k := 4) (by decide) flX7_142 dX7_fileOf_4 pt_44_4 ?_
  refine r_iload_n C dX7_fileOf_7 rfl rfl ?_
  refine r_zaload C dX7_fileOf_8 (fun v1 _ => ?_)
  refine r_join (γ := Int) (pcJ := fun _ => 17) (al' := fun q2 => [none, none]) (st' := fun q2 => [zi q2]) (M' := fun q2 => M) ?_ ?_
  · intro q2
    exact r_ireturn C dX7_fileOf_17 rfl
  · intro hJq2
    refine q_if_eq (tgt := 16) C dX7_fileOf_9 (by decide) (fun _ => ?_) (fun _ => ?_)
    · refine r_iconst C dX7_fileOf_16 (by decide) ?_
      refine r_less [false, false] rfl ?_
      exact hJq2 1
    · refine r_iconst C dX7_fileOf_12 (by decide) ?_
      refine r_goto (tgt := 17) C dX7_fileOf_13 (by decide) ?_
      refine r_less [false, false] rfl ?_
      exact hJq2 0
set_option maxRecDepth 100000 in
set_option maxHeartbeats 4000000 in
theorem tX7_pressureAt (g : Nat) (hg : g = 62 ∨ g = 88) (p1 : Int) (p2 : Int) (M : Mem) : Cn yX7_pressureAt cX7_pressureAt 6 (some .int) 1 21 [zr (g + 13), zi p1, zi p2] M ((fX7_pressureAt g p1 p2 M).map oI) := by
  refine Cn_mk (own := RX7) rfl (by decide) (Nat.le_of_ble_eq_true rfl) [some (zr (g + 13)), some (zi p1), some (zi p2), none, none, none] rfl (fun G C hn => ?_)
  unfold fX7_pressureAt
  refine r_iconst C dX7_pressureAt_0 (by decide) ?_
  refine r_istore_n (al' := [some (zr (g + 13)), some (zi p1), some (zi p2), some (zi 0), none, none]) C dX7_pressureAt_1 rfl (by rw [hn]; decide) rfl ?_
  refine r_iconst C dX7_pressureAt_2 (by decide) ?_
  refine r_istore (al' := [some (zr (g + 13)), some (zi p1), some (zi p2), some (zi 0), some (zi 0), none]) C dX7_pressureAt_3 (by rw [hn]; decide) rfl ?_
  refine r_lp (S := Int × Int × Mem) (R := Int × Mem) (pcX := 65) (AL := fun s1 => [some (zr (g + 13)), some (zi p1), some (zi p2), some (zi s1.1), some (zi s1.2.1), none]) (MM := fun s1 => s1.2.2) (AX := fun q9 => [none, none, none, some (zi q9.1), none, none]) (MX := fun q9 => q9.2) ?_ ?_ (0, 0, M)
  · intro q9
    refine r_iload_n C dX7_pressureAt_65 rfl rfl ?_
    exact r_ireturn C dX7_pressureAt_66 rfl
  · intro gs1 hCs1 hXs1 s1
    unfold fX7_pressureAt_b1
    refine r_iload C dX7_pressureAt_5 rfl ?_
    refine r_iload_n C dX7_pressureAt_7 rfl rfl ?_
    refine q_icmp_gt (tgt := 65) C dX7_pressureAt_8 (by decide) (fun _ => ?_) (fun _ => ?_)
    · refine r_less [false, false, false, true, false, false] rfl ?_
      exact hXs1 (s1.1, s1.2.2)
    · refine r_aload_n C dX7_pressureAt_11 rfl rfl ?_
      refine r_getp C clX7 (kd_g13 hg) (k := 3) (by decide) flX7_9 dX7_pressureAt_12 (pt_g13_3 hg) ?_
      refine r_iload C dX7_pressureAt_15 rfl ?_
      refine r_iaload C dX7_pressureAt_17 (fun v2 _ => ?_)
      refine r_istore (al' := [some (zr (g + 13)), some (zi p1), some (zi p2), some (zi s1.1), some (zi s1.2.1), some (zi v2)]) C dX7_pressureAt_18 (by rw [hn]; decide) rfl ?_
      refine r_aload_n C dX7_pressureAt_20 rfl rfl ?_
      refine r_getp C clX7 (kd_g13 hg) (k := 6) (by decide) flX7_18 dX7_pressureAt_21 (pt_g13_6 hg) ?_
      refine r_iload C dX7_pressureAt_24 rfl ?_
      refine r_iaload C dX7_pressureAt_26 (fun v3 _ => ?_)
      refine r_iload_n C dX7_pressureAt_27 rfl rfl ?_
      refine r_join (γ := Bool × Mem) (pcJ := fun q5 => if q5.1 = true then 59 else 46) (al' := fun q5 => [some (zr (g + 13)), some (zi p1), some (zi p2), some (zi s1.1), some (zi s1.2.1), some (zi v2)]) (st' := fun q5 => []) (M' := fun q5 => q5.2) ?_ ?_
      · intro q5
        refine r_join (γ := Int) (pcJ := fun _ => 59) (al' := fun q8 => [some (zr (g + 13)), some (zi p1), some (zi p2), some (zi q8), some (zi s1.2.1), none]) (st' := fun q8 => []) (M' := fun q8 => q5.2) ?_ ?_
        · intro q8
          refine r_iinc (al' := [some (zr (g + 13)), some (zi p1), some (zi p2), some (zi q8), some (zi (w32 (s1.2.1 + 1))), none]) C dX7_pressureAt_59 rfl (by rw [hn]; decide) rfl ?_
          refine r_goto (tgt := 5) C dX7_pressureAt_62 (by decide) ?_
          exact hCs1 (q8, w32 (s1.2.1 + 1), q5.2)
        · intro hJq8
          refine r_itp (fun _ => ?_) (fun _ => ?_)
          · refine r_less [true, true, true, true, true, false] rfl ?_
            exact hJq8 s1.1
          · refine r_iload_n C dX7_pressureAt_46 rfl rfl ?_
            refine r_aload_n C dX7_pressureAt_47 rfl rfl ?_
            refine r_getp C clX7 (kd_g13 hg) (k := 1) (by decide) flX7_53 dX7_pressureAt_48 (pt_g13_1 hg) ?_
            refine r_getp C clX2 (kd_g0 hg) (k := 3) (by decide) flX7_100 dX7_pressureAt_51 (pt_g0_3 hg) ?_
            refine r_iload C dX7_pressureAt_54 rfl ?_
            refine r_iaload C dX7_pressureAt_56 (fun v6 _ => ?_)
            refine r_iadd C dX7_pressureAt_57 ?_
            refine r_let (fun v7 _ => ?_)
            refine r_istore_n (al' := [some (zr (g + 13)), some (zi p1), some (zi p2), some (zi v7), some (zi s1.2.1), some (zi v2)]) C dX7_pressureAt_58 rfl (by rw [hn]; decide) rfl ?_
            refine r_less [true, true, true, true, true, false] rfl ?_
            exact hJq8 v7
      · intro hJq5
        refine q_icmp_le (tgt := 59) C dX7_pressureAt_28 (by decide) (fun _ => ?_) (fun _ => ?_)
        · exact hJq5 (true, s1.2.2)
        · refine r_iload_n C dX7_pressureAt_31 rfl rfl ?_
          refine r_iconst C dX7_pressureAt_32 (by decide) ?_
          refine q_icmp_eq (tgt := 46) C dX7_pressureAt_33 (by decide) (fun _ => ?_) (fun _ => ?_)
          · exact hJq5 (false, s1.2.2)
          · refine r_iload_n C dX7_pressureAt_36 rfl rfl ?_
            refine r_aload_n C dX7_pressureAt_37 rfl rfl ?_
            refine r_iload C dX7_pressureAt_38 rfl ?_
            refine q_callVi (av := [zi v2]) (rest := [zi p2]) C (tX7_fileOf g hg v2 s1.2.2) lkX7_138 (kd_g13 hg) rfl rfl rfl (Nat.le_of_ble_eq_true rfl) ⟨by decide, by decide⟩ dX7_pressureAt_40 (fun q4 _ => ?_)
            refine q_icmp_ne (tgt := 59) C dX7_pressureAt_43 (by decide) (fun _ => ?_) (fun _ => ?_)
            · exact hJq5 (true, q4.2)
            · exact hJq5 (false, q4.2)
set_option maxRecDepth 100000 in
set_option maxHeartbeats 4000000 in
theorem tX7_findPressures (g : Nat) (hg : g = 62 ∨ g = 88) (M : Mem) : Cn yX7_findPressures cX7_findPressures 3 none 2 46 [zr (g + 13)] M ((fX7_findPressures g M).map oU) := by
  refine Cn_mk (own := RX7) rfl (by decide) (Nat.le_of_ble_eq_true rfl) [some (zr (g + 13)), none, none] rfl (fun G C hn => ?_)
  unfold fX7_findPressures
  refine r_iconst C dX7_findPressures_0 (by decide) ?_
  refine r_istore_n (al' := [some (zr (g + 13)), some (zi 0), none]) C dX7_findPressures_1 rfl (by rw [hn]; decide) rfl ?_
  refine r_lp (S := Int × Mem) (R := Mem) (pcX := 79) (AL := fun s1 => [some (zr (g + 13)), some (zi s1.1), none]) (MM := fun s1 => s1.2) (AX := fun q10 => [none, none, none]) (MX := fun q10 => q10) ?_ ?_ (0, M)
  · intro q10
    exact r_return C dX7_findPressures_79 rfl
  · intro gs1 hCs1 hXs1 s1
    unfold fX7_findPressures_b1
    refine r_iload_n C dX7_findPressures_2 rfl rfl ?_
    refine r_iconst C dX7_findPressures_3 (by decide) ?_
    refine q_icmp_gt (tgt := 79) C dX7_findPressures_4 (by decide) (fun _ => ?_) (fun _ => ?_)
    · refine r_less [false, false, false] rfl ?_
      exact hXs1 s1.2
    · refine r_aload_n C dX7_findPressures_7 rfl rfl ?_
      refine r_getp C clX7 (kd_g13 hg) (k := 8) (by decide) flX7_24 dX7_findPressures_8 (pt_g13_8 hg) ?_
      refine r_iload_n C dX7_findPressures_11 rfl rfl ?_
      refine r_iconst C dX7_findPressures_12 (by decide) ?_
      refine r_iastore C dX7_findPressures_13 (fun M2 _ => ?_)
      refine r_iconst C dX7_findPressures_14 (by decide) ?_
      refine r_istore_n (al' := [some (zr (g + 13)), some (zi s1.1), some (zi 0)]) C dX7_findPressures_15 rfl (by rw [hn]; decide) rfl ?_
      refine r_lp (S := Int × Mem) (R := Mem) (pcX := 73) (AL := fun s3 => [some (zr (g + 13)), some (zi s1.1), some (zi s3.1)]) (MM := fun s3 => s3.2) (AX := fun q9 => [some (zr (g + 13)), some (zi s1.1), none]) (MX := fun q9 => q9) ?_ ?_ (0, M2)
      · intro q9
        refine r_iinc (al' := [some (zr (g + 13)), some (zi (w32 (s1.1 + 1))), none]) C dX7_findPressures_73 rfl (by rw [hn]; decide) rfl ?_
        refine r_goto (tgt := 2) C dX7_findPressures_76 (by decide) ?_
        exact hCs1 (w32 (s1.1 + 1), q9)
      · intro gs3 hCs3 hXs3 s3
        unfold fX7_findPressures_b2
        refine r_iload_n C dX7_findPressures_16 rfl rfl ?_
        refine r_aload_n C dX7_findPressures_17 rfl rfl ?_
        refine q_geti C clX7 (kd_g13 hg) (k := 4) (by decide) flX7_61 dX7_findPressures_18 (kz := 4) rfl (by decide) ?_
        refine q_icmp_ge (tgt := 73) C dX7_findPressures_21 (by decide) (fun _ => ?_) (fun _ => ?_)
        · refine r_less [true, true, false] rfl ?_
          exact hXs3 s3.2
        · refine r_aload_n C dX7_findPressures_24 rfl rfl ?_
          refine r_getp C clX7 (kd_g13 hg) (k := 7) (by decide) flX7_21 dX7_findPressures_25 (pt_g13_7 hg) ?_
          refine r_bipush C dX7_findPressures_28 (by decide) ?_
          refine r_iload_n C dX7_findPressures_30 rfl rfl ?_
          refine r_imul C dX7_findPressures_31 ?_
          refine r_iload_n C dX7_findPressures_32 rfl rfl ?_
          refine r_iadd C dX7_findPressures_33 ?_
          refine r_aload_n C dX7_findPressures_34 rfl rfl ?_
          refine r_iload_n C dX7_findPressures_35 rfl rfl ?_
          refine r_iload_n C dX7_findPressures_36 rfl rfl ?_
          refine q_callVi (av := [zi s3.1, zi s1.1]) (rest := [zi (w32 ((w32 (64 * s1.1)) + s3.1)), zr (g + 17)]) C (tX7_pressureAt g hg s3.1 s1.1 s3.2) lkX7_135 (kd_g13 hg) rfl rfl rfl (Nat.le_of_ble_eq_true rfl) ⟨by decide, by decide⟩ dX7_findPressures_37 (fun q4 _ => ?_)
          refine r_iastore C dX7_findPressures_40 (fun M5 _ => ?_)
          refine r_aload_n C dX7_findPressures_41 rfl rfl ?_
          refine r_getp C clX7 (kd_g13 hg) (k := 8) (by decide) flX7_24 dX7_findPressures_42 (pt_g13_8 hg) ?_
          refine r_iload_n C dX7_findPressures_45 rfl rfl ?_
          refine r_aload_n C dX7_findPressures_46 rfl rfl ?_
          refine r_getp C clX7 (kd_g13 hg) (k := 8) (by decide) flX7_24 dX7_findPressures_47 (pt_g13_8 hg) ?_
          refine r_iload_n C dX7_findPressures_50 rfl rfl ?_
          refine r_iaload C dX7_findPressures_51 (fun v6 _ => ?_)
          refine r_aload_n C dX7_findPressures_52 rfl rfl ?_
          refine r_getp C clX7 (kd_g13 hg) (k := 7) (by decide) flX7_21 dX7_findPressures_53 (pt_g13_7 hg) ?_
          refine r_bipush C dX7_findPressures_56 (by decide) ?_
          refine r_iload_n C dX7_findPressures_58 rfl rfl ?_
          refine r_imul C dX7_findPressures_59 ?_
          refine r_iload_n C dX7_findPressures_60 rfl rfl ?_
          refine r_iadd C dX7_findPressures_61 ?_
          refine r_iaload C dX7_findPressures_62 (fun v7 _ => ?_)
          refine r_imax C mmax_iX7_129 jm_maxi_1 jm_maxi_2 jm_maxi_3 (by decide) (Nat.le_of_ble_eq_true rfl) dX7_findPressures_63 ?_
          refine r_iastore C dX7_findPressures_66 (fun M8 _ => ?_)
          refine r_iinc (al' := [some (zr (g + 13)), some (zi s1.1), some (zi (w32 (s3.1 + 1)))]) C dX7_findPressures_67 rfl (by rw [hn]; decide) rfl ?_
          refine r_goto (tgt := 16) C dX7_findPressures_70 (by decide) ?_
          exact hCs3 (w32 (s3.1 + 1), M8)
set_option maxRecDepth 100000 in
set_option maxHeartbeats 4000000 in
theorem tX7_halfOf (g : Nat) (hg : g = 62 ∨ g = 88) (p1 : Int) (M : Mem) : Cn yX7_halfOf cX7_halfOf 2 (some .int) 1 21 [zr (g + 13), zi p1] M ((fX7_halfOf g p1 M).map oI) := by
  refine Cn_mk (own := RX7) rfl (by decide) (Nat.le_of_ble_eq_true rfl) [some (zr (g + 13)), some (zi p1)] rfl (fun G C hn => ?_)
  unfold fX7_halfOf
  refine r_sipush C dX7_halfOf_0 (by decide) ?_
  refine r_aload_n C dX7_halfOf_3 rfl rfl ?_
  refine r_iload_n C dX7_halfOf_4 rfl rfl ?_
  refine q_callVi (av := [zi p1]) (rest := [zi 130]) C (tX7_fileOf g hg p1 M) lkX7_138 (kd_g13 hg) rfl rfl rfl (Nat.le_of_ble_eq_true rfl) ⟨by decide, by decide⟩ dX7_halfOf_5 (fun q1 _ => ?_)
  refine r_imul C dX7_halfOf_8 ?_
  refine r_aload_n C dX7_halfOf_9 rfl rfl ?_
  refine r_getp C clX7 (kd_g13 hg) (k := 9) (by decide) flX7_27 dX7_halfOf_10 (pt_g13_9 hg) ?_
  refine r_iload_n C dX7_halfOf_13 rfl rfl ?_
  refine r_iaload C dX7_halfOf_14 (fun v2 _ => ?_)
  refine r_iadd C dX7_halfOf_15 ?_
  exact r_ireturn C dX7_halfOf_16 rfl
set_option maxRecDepth 100000 in
set_option maxHeartbeats 4000000 in
theorem tX7_mark (g : Nat) (hg : g = 62 ∨ g = 88) (p1 : Int) (p2 : Int) (M : Mem) : Cn yX7_mark cX7_mark 4 none 2 42 [zr (g + 13), zi p1, zi p2] M ((fX7_mark g p1 p2 M).map oU) := by
  refine Cn_mk (own := RX7) rfl (by decide) (Nat.le_of_ble_eq_true rfl) [some (zr (g + 13)), some (zi p1), some (zi p2), none] rfl (fun G C hn => ?_)
  unfold fX7_mark
  refine r_iconst C dX7_mark_0 (by decide) ?_
  refine r_istore_n (al' := [some (zr (g + 13)), some (zi p1), some (zi p2), some (zi 0)]) C dX7_mark_1 rfl (by rw [hn]; decide) rfl ?_
  refine r_lp (S := Int × Mem) (R := Mem) (pcX := 34) (AL := fun s1 => [some (zr (g + 13)), some (zi p1), some (zi p2), some (zi s1.1)]) (MM := fun s1 => s1.2) (AX := fun q5 => [none, none, none, none]) (MX := fun q5 => q5) ?_ ?_ (0, M)
  · intro q5
    exact r_return C dX7_mark_34 rfl
  · intro gs1 hCs1 hXs1 s1
    unfold fX7_mark_b1
    refine r_iload_n C dX7_mark_2 rfl rfl ?_
    refine r_aload_n C dX7_mark_3 rfl rfl ?_
    refine r_getp C clX7 (kd_g13 hg) (k := 1) (by decide) flX7_53 dX7_mark_4 (pt_g13_1 hg) ?_
    refine r_getp C clX2 (kd_g0 hg) (k := 3) (by decide) flX7_100 dX7_mark_7 (pt_g0_3 hg) ?_
    refine r_iload_n C dX7_mark_10 rfl rfl ?_
    refine r_iaload C dX7_mark_11 (fun v2 _ => ?_)
    refine q_icmp_ge (tgt := 34) C dX7_mark_12 (by decide) (fun _ => ?_) (fun _ => ?_)
    · refine r_less [false, false, false, false] rfl ?_
      exact hXs1 s1.2
    · refine r_aload_n C dX7_mark_15 rfl rfl ?_
      refine r_getp C clX7 (kd_g13 hg) (k := 10) (by decide) flX7_30 dX7_mark_16 (pt_g13_10 hg) ?_
      refine r_aload_n C dX7_mark_19 rfl rfl ?_
      refine r_iload_n C dX7_mark_20 rfl rfl ?_
      refine q_callVi (av := [zi p1]) (rest := [zr (g + 20)]) C (tX7_halfOf g hg p1 s1.2) lkX7_152 (kd_g13 hg) rfl rfl rfl (Nat.le_of_ble_eq_true rfl) ⟨by decide, by decide⟩ dX7_mark_21 (fun q3 _ => ?_)
      refine r_iload_n C dX7_mark_24 rfl rfl ?_
      refine r_iadd C dX7_mark_25 ?_
      refine r_iload_n C dX7_mark_26 rfl rfl ?_
      refine r_zastore C dX7_mark_27 (fun M4 _ => ?_)
      refine r_iinc (al' := [some (zr (g + 13)), some (zi p1), some (zi p2), some (zi (w32 (s1.1 + 1)))]) C dX7_mark_28 rfl (by rw [hn]; decide) rfl ?_
      refine r_goto (tgt := 2) C dX7_mark_31 (by decide) ?_
      exact hCs1 (w32 (s1.1 + 1), M4)
set_option maxRecDepth 100000 in
set_option maxHeartbeats 4000000 in
theorem tX7_lowestFree (g : Nat) (hg : g = 62 ∨ g = 88) (p1 : Int) (p2 : Int) (M : Mem) : Cn yX7_lowestFree cX7_lowestFree 5 (some .int) 0 0 [zr (g + 13), zi p1, zi p2] M ((fX7_lowestFree g p1 p2 M).map oI) := by
  refine Cn_mk (own := RX7) rfl (by decide) (Nat.le_of_ble_eq_true rfl) [some (zr (g + 13)), some (zi p1), some (zi p2), none, none] rfl (fun G C hn => ?_)
  unfold fX7_lowestFree
  refine r_iconst C dX7_lowestFree_0 (by decide) ?_
  refine r_istore_n (al' := [some (zr (g + 13)), some (zi p1), some (zi p2), some (zi 0), none]) C dX7_lowestFree_1 rfl (by rw [hn]; decide) rfl ?_
  refine r_lpr (S := Int) (X := Unit) (pcX := 53) (AL := fun s1 => [some (zr (g + 13)), some (zi p1), some (zi p2), some (zi s1), none]) (MM := fun s1 => M) (AX := fun q7 => [none, none, none, none, none]) (MX := fun q7 => M) ?_ ?_ 0
  · intro q7
    refine r_iconst C dX7_lowestFree_53 (by decide) ?_
    exact r_ireturn C dX7_lowestFree_54 rfl
  · intro gs1 hCs1 hXs1 s1
    unfold fX7_lowestFree_b1
    refine r_iload_n C dX7_lowestFree_2 rfl rfl ?_
    refine r_iload_n C dX7_lowestFree_3 rfl rfl ?_
    refine r_iadd C dX7_lowestFree_4 ?_
    refine r_sipush C dX7_lowestFree_5 (by decide) ?_
    refine q_icmp_gt (tgt := 53) C dX7_lowestFree_8 (by decide) (fun _ => ?_) (fun _ => ?_)
    · refine r_less [false, false, false, false, false] rfl ?_
      exact hXs1 ()
    · refine r_sipush C dX7_lowestFree_11 (by decide) ?_
      refine r_iload_n C dX7_lowestFree_14 rfl rfl ?_
      refine r_imul C dX7_lowestFree_15 ?_
      refine r_iload_n C dX7_lowestFree_16 rfl rfl ?_
      refine r_iadd C dX7_lowestFree_17 ?_
      refine r_let (fun v2 _ => ?_)
      refine r_istore (al' := [some (zr (g + 13)), some (zi p1), some (zi p2), some (zi s1), some (zi v2)]) C dX7_lowestFree_18 (by rw [hn]; decide) rfl ?_
      refine r_aload_n C dX7_lowestFree_20 rfl rfl ?_
      refine r_getp C clX7 (kd_g13 hg) (k := 10) (by decide) flX7_30 dX7_lowestFree_21 (pt_g13_10 hg) ?_
      refine r_iload C dX7_lowestFree_24 rfl ?_
      refine r_zaload C dX7_lowestFree_26 (fun v3 _ => ?_)
      refine q_if_ne (tgt := 46) C dX7_lowestFree_27 (by decide) (fun _ => ?_) (fun _ => ?_)
      · refine r_iload_n C dX7_lowestFree_46 rfl rfl ?_
        refine r_iload_n C dX7_lowestFree_47 rfl rfl ?_
        refine r_iadd C dX7_lowestFree_48 ?_
        refine r_let (fun v4 _ => ?_)
        refine r_istore_n (al' := [some (zr (g + 13)), some (zi p1), some (zi p2), some (zi v4), some (zi v2)]) C dX7_lowestFree_49 rfl (by rw [hn]; decide) rfl ?_
        refine r_goto (tgt := 2) C dX7_lowestFree_50 (by decide) ?_
        refine r_less [true, true, true, true, false] rfl ?_
        exact hCs1 v4
      · refine r_aload_n C dX7_lowestFree_30 rfl rfl ?_
        refine r_getp C clX7 (kd_g13 hg) (k := 10) (by decide) flX7_30 dX7_lowestFree_31 (pt_g13_10 hg) ?_
        refine r_iload C dX7_lowestFree_34 rfl ?_
        refine r_iload_n C dX7_lowestFree_36 rfl rfl ?_
        refine r_iadd C dX7_lowestFree_37 ?_
        refine r_iconst C dX7_lowestFree_38 (by decide) ?_
        refine r_isub C dX7_lowestFree_39 ?_
        refine r_zaload C dX7_lowestFree_40 (fun v5 _ => ?_)
        refine q_if_ne (tgt := 46) C dX7_lowestFree_41 (by decide) (fun _ => ?_) (fun _ => ?_)
        · refine r_iload_n C dX7_lowestFree_46 rfl rfl ?_
          refine r_iload_n C dX7_lowestFree_47 rfl rfl ?_
          refine r_iadd C dX7_lowestFree_48 ?_
          refine r_let (fun v6 _ => ?_)
          refine r_istore_n (al' := [some (zr (g + 13)), some (zi p1), some (zi p2), some (zi v6), some (zi v2)]) C dX7_lowestFree_49 rfl (by rw [hn]; decide) rfl ?_
          refine r_goto (tgt := 2) C dX7_lowestFree_50 (by decide) ?_
          refine r_less [true, true, true, true, false] rfl ?_
          exact hCs1 v6
        · refine r_iload_n C dX7_lowestFree_44 rfl rfl ?_
          exact r_ireturn C dX7_lowestFree_45 rfl
set_option maxRecDepth 100000 in
set_option maxHeartbeats 4000000 in
theorem tX7_giveRegisters (g : Nat) (hg : g = 62 ∨ g = 88) (M : Mem) : Cn yX7_giveRegisters cX7_giveRegisters 4 none 3 65 [zr (g + 13)] M ((fX7_giveRegisters g M).map oU) := by
  refine Cn_mk (own := RX7) rfl (by decide) (Nat.le_of_ble_eq_true rfl) [some (zr (g + 13)), none, none, none] rfl (fun G C hn => ?_)
  unfold fX7_giveRegisters
  refine r_iconst C dX7_giveRegisters_0 (by decide) ?_
  refine r_istore_n (al' := [some (zr (g + 13)), some (zi 0), none, none]) C dX7_giveRegisters_1 rfl (by rw [hn]; decide) rfl ?_
  refine r_lp (S := Int × Mem) (R := Mem) (pcX := 22) (AL := fun s1 => [some (zr (g + 13)), some (zi s1.1), none, none]) (MM := fun s1 => s1.2) (AX := fun q3 => [some (zr (g + 13)), none, none, none]) (MX := fun q3 => q3) ?_ ?_ (0, M)
  · intro q3
    refine r_aload_n C dX7_giveRegisters_22 rfl rfl ?_
    refine r_getp C clX7 (kd_g13 hg) (k := 11) (by decide) flX7_34 dX7_giveRegisters_23 (pt_g13_11 hg) ?_
    refine r_iconst C dX7_giveRegisters_26 (by decide) ?_
    refine r_iconst C dX7_giveRegisters_27 (by decide) ?_
    refine r_iastore C dX7_giveRegisters_28 (fun M4 _ => ?_)
    refine r_aload_n C dX7_giveRegisters_29 rfl rfl ?_
    refine r_getp C clX7 (kd_g13 hg) (k := 11) (by decide) flX7_34 dX7_giveRegisters_30 (pt_g13_11 hg) ?_
    refine r_iconst C dX7_giveRegisters_33 (by decide) ?_
    refine r_iconst C dX7_giveRegisters_34 (by decide) ?_
    refine r_iastore C dX7_giveRegisters_35 (fun M5 _ => ?_)
    refine r_iconst C dX7_giveRegisters_36 (by decide) ?_
    refine r_istore_n (al' := [some (zr (g + 13)), some (zi 0), none, none]) C dX7_giveRegisters_37 rfl (by rw [hn]; decide) rfl ?_
    refine r_lp (S := Int × Mem) (R := Mem) (pcX := 161) (AL := fun s6 => [some (zr (g + 13)), some (zi s6.1), none, none]) (MM := fun s6 => s6.2) (AX := fun q24 => [none, none, none, none]) (MX := fun q24 => q24) ?_ ?_ (0, M5)
    · intro q24
      exact r_return C dX7_giveRegisters_161 rfl
    · intro gs6 hCs6 hXs6 s6
      unfold fX7_giveRegisters_b2
      refine r_iload_n C dX7_giveRegisters_38 rfl rfl ?_
      refine r_aload_n C dX7_giveRegisters_39 rfl rfl ?_
      refine q_geti C clX7 (kd_g13 hg) (k := 4) (by decide) flX7_61 dX7_giveRegisters_40 (kz := 4) rfl (by decide) ?_
      refine q_icmp_ge (tgt := 161) C dX7_giveRegisters_43 (by decide) (fun _ => ?_) (fun _ => ?_)
      · refine r_less [false, false, false, false] rfl ?_
        exact hXs6 s6.2
      · refine r_iconst C dX7_giveRegisters_46 (by decide) ?_
        refine r_istore_n (al' := [some (zr (g + 13)), some (zi s6.1), some (zi 0), none]) C dX7_giveRegisters_47 rfl (by rw [hn]; decide) rfl ?_
        refine r_lp (S := Int × Mem) (R := Mem) (pcX := 85) (AL := fun s7 => [some (zr (g + 13)), some (zi s6.1), some (zi s7.1), none]) (MM := fun s7 => s7.2) (AX := fun q13 => [some (zr (g + 13)), some (zi s6.1), none, none]) (MX := fun q13 => q13) ?_ ?_ (0, s6.2)
        · intro q13
          refine r_aload_n C dX7_giveRegisters_85 rfl rfl ?_
          refine r_getp C clX7 (kd_g13 hg) (k := 3) (by decide) flX7_9 dX7_giveRegisters_86 (pt_g13_3 hg) ?_
          refine r_iload_n C dX7_giveRegisters_89 rfl rfl ?_
          refine r_iaload C dX7_giveRegisters_90 (fun v14 _ => ?_)
          refine r_istore_n (al' := [some (zr (g + 13)), some (zi s6.1), some (zi v14), none]) C dX7_giveRegisters_91 rfl (by rw [hn]; decide) rfl ?_
          refine r_aload_n C dX7_giveRegisters_92 rfl rfl ?_
          refine r_iload_n C dX7_giveRegisters_93 rfl rfl ?_
          refine q_callVi (av := [zi v14]) (rest := []) C (tX7_fileOf g hg v14 q13) lkX7_138 (kd_g13 hg) rfl rfl rfl (Nat.le_of_ble_eq_true rfl) ⟨by decide, by decide⟩ dX7_giveRegisters_94 (fun q15 _ => ?_)
          refine r_istore_n (al' := [some (zr (g + 13)), some (zi s6.1), some (zi v14), some (zi q15.1)]) C dX7_giveRegisters_97 rfl (by rw [hn]; decide) rfl ?_
          refine r_aload_n C dX7_giveRegisters_98 rfl rfl ?_
          refine r_getp C clX7 (kd_g13 hg) (k := 9) (by decide) flX7_27 dX7_giveRegisters_99 (pt_g13_9 hg) ?_
          refine r_iload_n C dX7_giveRegisters_102 rfl rfl ?_
          refine r_aload_n C dX7_giveRegisters_103 rfl rfl ?_
          refine r_iload_n C dX7_giveRegisters_104 rfl rfl ?_
          refine r_aload_n C dX7_giveRegisters_105 rfl rfl ?_
          refine r_getp C clX7 (kd_g13 hg) (k := 1) (by decide) flX7_53 dX7_giveRegisters_106 (pt_g13_1 hg) ?_
          refine r_getp C clX2 (kd_g0 hg) (k := 3) (by decide) flX7_100 dX7_giveRegisters_109 (pt_g0_3 hg) ?_
          refine r_iload_n C dX7_giveRegisters_112 rfl rfl ?_
          refine r_iaload C dX7_giveRegisters_113 (fun v16 _ => ?_)
          refine q_callVi (av := [zi q15.1, zi v16]) (rest := [zi v14, zr (g + 19)]) C (tX7_lowestFree g hg q15.1 v16 q15.2) lkX7_149 (kd_g13 hg) rfl rfl rfl (Nat.le_of_ble_eq_true rfl) ⟨by decide, by decide⟩ dX7_giveRegisters_114 (fun q17 _ => ?_)
          refine r_iastore C dX7_giveRegisters_117 (fun M18 _ => ?_)
          refine r_aload_n C dX7_giveRegisters_118 rfl rfl ?_
          refine r_iload_n C dX7_giveRegisters_119 rfl rfl ?_
          refine r_iconst C dX7_giveRegisters_120 (by decide) ?_
          refine q_callVv (av := [zi v14, zi 1]) (rest := []) C (tX7_mark g hg v14 1 M18) lkX7_145 (kd_g13 hg) rfl rfl rfl (Nat.le_of_ble_eq_true rfl) ⟨by decide, by decide⟩ dX7_giveRegisters_121 (fun q19 _ => ?_)
          refine r_aload_n C dX7_giveRegisters_124 rfl rfl ?_
          refine r_getp C clX7 (kd_g13 hg) (k := 11) (by decide) flX7_34 dX7_giveRegisters_125 (pt_g13_11 hg) ?_
          refine r_iload_n C dX7_giveRegisters_128 rfl rfl ?_
          refine r_aload_n C dX7_giveRegisters_129 rfl rfl ?_
          refine r_getp C clX7 (kd_g13 hg) (k := 11) (by decide) flX7_34 dX7_giveRegisters_130 (pt_g13_11 hg) ?_
          refine r_iload_n C dX7_giveRegisters_133 rfl rfl ?_
          refine r_iaload C dX7_giveRegisters_134 (fun v20 _ => ?_)
          refine r_aload_n C dX7_giveRegisters_135 rfl rfl ?_
          refine r_getp C clX7 (kd_g13 hg) (k := 9) (by decide) flX7_27 dX7_giveRegisters_136 (pt_g13_9 hg) ?_
          refine r_iload_n C dX7_giveRegisters_139 rfl rfl ?_
          refine r_iaload C dX7_giveRegisters_140 (fun v21 _ => ?_)
          refine r_aload_n C dX7_giveRegisters_141 rfl rfl ?_
          refine r_getp C clX7 (kd_g13 hg) (k := 1) (by decide) flX7_53 dX7_giveRegisters_142 (pt_g13_1 hg) ?_
          refine r_getp C clX2 (kd_g0 hg) (k := 3) (by decide) flX7_100 dX7_giveRegisters_145 (pt_g0_3 hg) ?_
          refine r_iload_n C dX7_giveRegisters_148 rfl rfl ?_
          refine r_iaload C dX7_giveRegisters_149 (fun v22 _ => ?_)
          refine r_iadd C dX7_giveRegisters_150 ?_
          refine r_imax C mmax_iX7_129 jm_maxi_1 jm_maxi_2 jm_maxi_3 (by decide) (Nat.le_of_ble_eq_true rfl) dX7_giveRegisters_151 ?_
          refine r_iastore C dX7_giveRegisters_154 (fun M23 _ => ?_)
          refine r_iinc (al' := [some (zr (g + 13)), some (zi (w32 (s6.1 + 1))), some (zi v14), some (zi q15.1)]) C dX7_giveRegisters_155 rfl (by rw [hn]; decide) rfl ?_
          refine r_goto (tgt := 38) C dX7_giveRegisters_158 (by decide) ?_
          refine r_less [true, true, false, false] rfl ?_
          exact hCs6 (w32 (s6.1 + 1), M23)
        · intro gs7 hCs7 hXs7 s7
          unfold fX7_giveRegisters_b3
          refine r_iload_n C dX7_giveRegisters_48 rfl rfl ?_
          refine r_iload_n C dX7_giveRegisters_49 rfl rfl ?_
          refine q_icmp_ge (tgt := 85) C dX7_giveRegisters_50 (by decide) (fun _ => ?_) (fun _ => ?_)
          · refine r_less [true, true, false, false] rfl ?_
            exact hXs7 s7.2
          · refine r_aload_n C dX7_giveRegisters_53 rfl rfl ?_
            refine r_getp C clX7 (kd_g13 hg) (k := 6) (by decide) flX7_18 dX7_giveRegisters_54 (pt_g13_6 hg) ?_
            refine r_aload_n C dX7_giveRegisters_57 rfl rfl ?_
            refine r_getp C clX7 (kd_g13 hg) (k := 3) (by decide) flX7_9 dX7_giveRegisters_58 (pt_g13_3 hg) ?_
            refine r_iload_n C dX7_giveRegisters_61 rfl rfl ?_
            refine r_iaload C dX7_giveRegisters_62 (fun v8 _ => ?_)
            refine r_iaload C dX7_giveRegisters_63 (fun v9 _ => ?_)
            refine r_iload_n C dX7_giveRegisters_64 rfl rfl ?_
            refine r_join (γ := Mem) (pcJ := fun _ => 79) (al' := fun q12 => [some (zr (g + 13)), some (zi s6.1), some (zi s7.1), none]) (st' := fun q12 => []) (M' := fun q12 => q12) ?_ ?_
            · intro q12
              refine r_iinc (al' := [some (zr (g + 13)), some (zi s6.1), some (zi (w32 (s7.1 + 1))), none]) C dX7_giveRegisters_79 rfl (by rw [hn]; decide) rfl ?_
              refine r_goto (tgt := 48) C dX7_giveRegisters_82 (by decide) ?_
              exact hCs7 (w32 (s7.1 + 1), q12)
            · intro hJq12
              refine q_icmp_ne (tgt := 79) C dX7_giveRegisters_65 (by decide) (fun _ => ?_) (fun _ => ?_)
              · exact hJq12 s7.2
              · refine r_aload_n C dX7_giveRegisters_68 rfl rfl ?_
                refine r_aload_n C dX7_giveRegisters_69 rfl rfl ?_
                refine r_getp C clX7 (kd_g13 hg) (k := 3) (by decide) flX7_9 dX7_giveRegisters_70 (pt_g13_3 hg) ?_
                refine r_iload_n C dX7_giveRegisters_73 rfl rfl ?_
                refine r_iaload C dX7_giveRegisters_74 (fun v10 _ => ?_)
                refine r_iconst C dX7_giveRegisters_75 (by decide) ?_
                refine q_callVv (av := [zi v10, zi 0]) (rest := []) C (tX7_mark g hg v10 0 s7.2) lkX7_145 (kd_g13 hg) rfl rfl rfl (Nat.le_of_ble_eq_true rfl) ⟨by decide, by decide⟩ dX7_giveRegisters_76 (fun q11 _ => ?_)
                exact hJq12 q11
  · intro gs1 hCs1 hXs1 s1
    unfold fX7_giveRegisters_b1
    refine r_iload_n C dX7_giveRegisters_2 rfl rfl ?_
    refine r_sipush C dX7_giveRegisters_3 (by decide) ?_
    refine q_icmp_ge (tgt := 22) C dX7_giveRegisters_6 (by decide) (fun _ => ?_) (fun _ => ?_)
    · refine r_less [true, false, false, false] rfl ?_
      exact hXs1 s1.2
    · refine r_aload_n C dX7_giveRegisters_9 rfl rfl ?_
      refine r_getp C clX7 (kd_g13 hg) (k := 10) (by decide) flX7_30 dX7_giveRegisters_10 (pt_g13_10 hg) ?_
      refine r_iload_n C dX7_giveRegisters_13 rfl rfl ?_
      refine r_iconst C dX7_giveRegisters_14 (by decide) ?_
      refine r_zastore C dX7_giveRegisters_15 (fun M2 _ => ?_)
      refine r_iinc (al' := [some (zr (g + 13)), some (zi (w32 (s1.1 + 1))), none, none]) C dX7_giveRegisters_16 rfl (by rw [hn]; decide) rfl ?_
      refine r_goto (tgt := 2) C dX7_giveRegisters_19 (by decide) ?_
      exact hCs1 (w32 (s1.1 + 1), M2)
set_option maxRecDepth 100000 in
set_option maxHeartbeats 4000000 in
theorem tX7_joins (g : Nat) (hg : g = 62 ∨ g = 88) (p1 : Int) (p2 : Int) (p3 : Int) (M : Mem) : Cn yX7_joins cX7_joins 7 (some .boolean) 0 0 [zr (g + 13), zi p1, zi p2, zi p3] M ((fX7_joins g p1 p2 p3 M).map oI) := by
  refine Cn_mk (own := RX7) rfl (by decide) (Nat.le_of_ble_eq_true rfl) [some (zr (g + 13)), some (zi p1), some (zi p2), some (zi p3), none, none, none] rfl (fun G C hn => ?_)
  unfold fX7_joins
  refine r_aload_n C dX7_joins_0 rfl rfl ?_
  refine q_geti C clX7 (kd_g13 hg) (k := 16) (by decide) flX7_155 dX7_joins_1 (kz := 16) rfl (by decide) ?_
  refine q_if_ne (tgt := 9) C dX7_joins_4 (by decide) (fun _ => ?_) (fun _ => ?_)
  · refine r_aload_n C dX7_joins_9 rfl rfl ?_
    refine q_geti C clX7 (kd_g13 hg) (k := 16) (by decide) flX7_155 dX7_joins_10 (kz := 16) rfl (by decide) ?_
    refine r_iconst C dX7_joins_13 (by decide) ?_
    refine r_isub C dX7_joins_14 ?_
    refine r_let (fun v1 _ => ?_)
    refine r_istore (al' := [some (zr (g + 13)), some (zi p1), some (zi p2), some (zi p3), some (zi v1), none, none]) C dX7_joins_15 (by rw [hn]; decide) rfl ?_
    refine r_aload_n C dX7_joins_17 rfl rfl ?_
    refine r_getp C clX7 (kd_g13 hg) (k := 0) (by decide) flX7_49 dX7_joins_18 (pt_g13_0 hg) ?_
    refine r_getp C clX9 kd_44 (k := 1) (by decide) flX7_97 dX7_joins_21 pt_44_1 ?_
    refine r_aload_n C dX7_joins_24 rfl rfl ?_
    refine r_getp C clX7 (kd_g13 hg) (k := 3) (by decide) flX7_9 dX7_joins_25 (pt_g13_3 hg) ?_
    refine r_aload_n C dX7_joins_28 rfl rfl ?_
    refine r_getp C clX7 (kd_g13 hg) (k := 13) (by decide) flX7_40 dX7_joins_29 (pt_g13_13 hg) ?_
    refine r_iload C dX7_joins_32 rfl ?_
    refine r_iaload C dX7_joins_34 (fun v2 _ => ?_)
    refine r_iaload C dX7_joins_35 (fun v3 _ => ?_)
    refine r_iaload C dX7_joins_36 (fun v4 _ => ?_)
    refine r_bipush C dX7_joins_37 (by decide) ?_
    refine r_join (γ := Int) (pcJ := fun _ => 47) (al' := fun q5 => [some (zr (g + 13)), some (zi p1), some (zi p2), some (zi p3), some (zi v1), none, none]) (st' := fun q5 => [zi q5]) (M' := fun q5 => M) ?_ ?_
    · intro q5
      refine r_istore (al' := [some (zr (g + 13)), some (zi p1), some (zi p2), some (zi p3), some (zi v1), some (zi q5), none]) C dX7_joins_47 (by rw [hn]; decide) rfl ?_
      refine r_iload C dX7_joins_49 rfl ?_
      refine r_iload_n C dX7_joins_51 rfl rfl ?_
      refine q_icmp_ne (tgt := 66) C dX7_joins_52 (by decide) (fun _ => ?_) (fun _ => ?_)
      · refine r_iconst C dX7_joins_66 (by decide) ?_
        exact r_zreturn C dX7_joins_67 rfl
      · refine r_aload_n C dX7_joins_55 rfl rfl ?_
        refine r_getp C clX7 (kd_g13 hg) (k := 14) (by decide) flX7_43 dX7_joins_56 (pt_g13_14 hg) ?_
        refine r_iload C dX7_joins_59 rfl ?_
        refine r_iaload C dX7_joins_61 (fun v6 _ => ?_)
        refine r_iload_n C dX7_joins_62 rfl rfl ?_
        refine q_icmp_lt (tgt := 68) C dX7_joins_63 (by decide) (fun _ => ?_) (fun _ => ?_)
        · refine r_iconst C dX7_joins_68 (by decide) ?_
          refine r_istore (al' := [some (zr (g + 13)), some (zi p1), some (zi p2), some (zi p3), some (zi v1), some (zi q5), some (zi 0)]) C dX7_joins_69 (by rw [hn]; decide) rfl ?_
          refine r_less [true, true, true, false, true, false, true] rfl ?_
          refine r_lpr (S := Int) (X := Unit) (pcX := 121) (AL := fun s7 => [some (zr (g + 13)), some (zi p1), some (zi p2), none, some (zi v1), none, some (zi s7)]) (MM := fun s7 => M) (AX := fun q11 => [none, none, none, none, none, none, none]) (MX := fun q11 => M) ?_ ?_ 0
          · intro q11
            refine r_iconst C dX7_joins_121 (by decide) ?_
            exact r_zreturn C dX7_joins_122 rfl
          · intro gs7 hCs7 hXs7 s7
            unfold fX7_joins_b1
            refine r_iload C dX7_joins_71 rfl ?_
            refine r_aload_n C dX7_joins_73 rfl rfl ?_
            refine r_getp C clX7 (kd_g13 hg) (k := 2) (by decide) flX7_57 dX7_joins_74 (pt_g13_2 hg) ?_
            refine r_getp C clX5 (kd_g4 hg) (k := 6) (by decide) flX7_105 dX7_joins_77 (pt_g4_6 hg) ?_
            refine r_iload_n C dX7_joins_80 rfl rfl ?_
            refine r_iaload C dX7_joins_81 (fun v8 _ => ?_)
            refine q_icmp_ge (tgt := 121) C dX7_joins_82 (by decide) (fun _ => ?_) (fun _ => ?_)
            · refine r_less [false, false, false, false, false, false, false] rfl ?_
              exact hXs7 ()
            · refine r_iload_n C dX7_joins_85 rfl rfl ?_
              refine q_if_eq (tgt := 121) C dX7_joins_86 (by decide) (fun _ => ?_) (fun _ => ?_)
              · refine r_less [false, false, false, false, false, false, false] rfl ?_
                exact hXs7 ()
              · refine r_aload_n C dX7_joins_89 rfl rfl ?_
                refine r_getp C clX7 (kd_g13 hg) (k := 12) (by decide) flX7_37 dX7_joins_90 (pt_g13_12 hg) ?_
                refine r_aload_n C dX7_joins_93 rfl rfl ?_
                refine r_getp C clX7 (kd_g13 hg) (k := 2) (by decide) flX7_57 dX7_joins_94 (pt_g13_2 hg) ?_
                refine r_getp C clX5 (kd_g4 hg) (k := 5) (by decide) flX7_108 dX7_joins_97 (pt_g4_5 hg) ?_
                refine r_iconst C dX7_joins_100 (by decide) ?_
                refine r_iload_n C dX7_joins_101 rfl rfl ?_
                refine r_imul C dX7_joins_102 ?_
                refine r_iload C dX7_joins_103 rfl ?_
                refine r_iadd C dX7_joins_105 ?_
                refine r_iaload C dX7_joins_106 (fun v9 _ => ?_)
                refine r_iaload C dX7_joins_107 (fun v10 _ => ?_)
                refine r_iload C dX7_joins_108 rfl ?_
                refine q_icmp_ne (tgt := 115) C dX7_joins_110 (by decide) (fun _ => ?_) (fun _ => ?_)
                · refine r_iinc (al' := [some (zr (g + 13)), some (zi p1), some (zi p2), none, some (zi v1), none, some (zi (w32 (s7 + 1)))]) C dX7_joins_115 rfl (by rw [hn]; decide) rfl ?_
                  refine r_goto (tgt := 71) C dX7_joins_118 (by decide) ?_
                  exact hCs7 (w32 (s7 + 1))
                · refine r_iconst C dX7_joins_113 (by decide) ?_
                  exact r_zreturnB C dX7_joins_114 rfl
        · refine r_iconst C dX7_joins_66 (by decide) ?_
          exact r_zreturn C dX7_joins_67 rfl
    · intro hJq5
      refine q_icmp_ne (tgt := 46) C dX7_joins_39 (by decide) (fun _ => ?_) (fun _ => ?_)
      · refine r_iconst C dX7_joins_46 (by decide) ?_
        exact hJq5 0
      · refine r_iconst C dX7_joins_42 (by decide) ?_
        refine r_goto (tgt := 47) C dX7_joins_43 (by decide) ?_
        exact hJq5 1
  · refine r_iconst C dX7_joins_7 (by decide) ?_
    exact r_zreturn C dX7_joins_8 rfl
set_option maxRecDepth 100000 in
set_option maxHeartbeats 4000000 in
theorem tX7_cyclesOf (g : Nat) (hg : g = 62 ∨ g = 88) (p1 : Int) (M : Mem) : Cn yX7_cyclesOf cX7_cyclesOf 3 (some .int) 0 0 [zr (g + 13), zi p1] M ((fX7_cyclesOf g p1 M).map oI) := by
  refine Cn_mk (own := RX7) rfl (by decide) (Nat.le_of_ble_eq_true rfl) [some (zr (g + 13)), some (zi p1), none] rfl (fun G C hn => ?_)
  unfold fX7_cyclesOf
  refine r_aload_n C dX7_cyclesOf_0 rfl rfl ?_
  refine r_getp C clX7 (kd_g13 hg) (k := 0) (by decide) flX7_49 dX7_cyclesOf_1 (pt_g13_0 hg) ?_
  refine r_getp C clX9 kd_44 (k := 1) (by decide) flX7_97 dX7_cyclesOf_4 pt_44_1 ?_
  refine r_iload_n C dX7_cyclesOf_7 rfl rfl ?_
  refine r_iaload C dX7_cyclesOf_8 (fun v1 _ => ?_)
  refine r_istore_n (al' := [some (zr (g + 13)), some (zi p1), some (zi v1)]) C dX7_cyclesOf_9 rfl (by rw [hn]; decide) rfl ?_
  refine r_iload_n C dX7_cyclesOf_10 rfl rfl ?_
  refine r_bipush C dX7_cyclesOf_11 (by decide) ?_
  refine q_icmp_ne (tgt := 18) C dX7_cyclesOf_13 (by decide) (fun _ => ?_) (fun _ => ?_)
  · refine r_aload_n C dX7_cyclesOf_18 rfl rfl ?_
    refine r_getp C clX7 (kd_g13 hg) (k := 0) (by decide) flX7_49 dX7_cyclesOf_19 (pt_g13_0 hg) ?_
    refine r_getp C clX9 kd_44 (k := 4) (by decide) flX7_142 dX7_cyclesOf_22 pt_44_4 ?_
    refine r_iload_n C dX7_cyclesOf_25 rfl rfl ?_
    refine r_zaload C dX7_cyclesOf_26 (fun v2 _ => ?_)
    refine q_if_ne (tgt := 34) C dX7_cyclesOf_27 (by decide) (fun _ => ?_) (fun _ => ?_)
    · refine r_iconst C dX7_cyclesOf_34 (by decide) ?_
      exact r_ireturn C dX7_cyclesOf_35 rfl
    · refine r_iload_n C dX7_cyclesOf_30 rfl rfl ?_
      refine q_if_ne (tgt := 36) C dX7_cyclesOf_31 (by decide) (fun _ => ?_) (fun _ => ?_)
      · refine r_iload_n C dX7_cyclesOf_36 rfl rfl ?_
        refine r_iconst C dX7_cyclesOf_37 (by decide) ?_
        refine r_join (γ := Int) (pcJ := fun _ => 64) (al' := fun q5 => [none, none, none]) (st' := fun q5 => [zi q5]) (M' := fun q5 => M) ?_ ?_
        · intro q5
          exact r_ireturn C dX7_cyclesOf_64 rfl
        · intro hJq5
          refine q_icmp_ne (tgt := 55) C dX7_cyclesOf_38 (by decide) (fun _ => ?_) (fun _ => ?_)
          · refine r_aload_n C dX7_cyclesOf_55 rfl rfl ?_
            refine r_getp C clX7 (kd_g13 hg) (k := 1) (by decide) flX7_53 dX7_cyclesOf_56 (pt_g13_1 hg) ?_
            refine r_getp C clX2 (kd_g0 hg) (k := 3) (by decide) flX7_100 dX7_cyclesOf_59 (pt_g0_3 hg) ?_
            refine r_iload_n C dX7_cyclesOf_62 rfl rfl ?_
            refine r_iaload C dX7_cyclesOf_63 (fun v3 _ => ?_)
            refine r_less [false, false, false] rfl ?_
            exact hJq5 v3
          · refine r_iconst C dX7_cyclesOf_41 (by decide) ?_
            refine r_aload_n C dX7_cyclesOf_42 rfl rfl ?_
            refine r_getp C clX7 (kd_g13 hg) (k := 1) (by decide) flX7_53 dX7_cyclesOf_43 (pt_g13_1 hg) ?_
            refine r_getp C clX2 (kd_g0 hg) (k := 3) (by decide) flX7_100 dX7_cyclesOf_46 (pt_g0_3 hg) ?_
            refine r_iload_n C dX7_cyclesOf_49 rfl rfl ?_
            refine r_iaload C dX7_cyclesOf_50 (fun v4 _ => ?_)
            refine r_imul C dX7_cyclesOf_51 ?_
            refine r_goto (tgt := 64) C dX7_cyclesOf_52 (by decide) ?_
            refine r_less [false, false, false] rfl ?_
            exact hJq5 (w32 (2 * v4))
      · refine r_iconst C dX7_cyclesOf_34 (by decide) ?_
        exact r_ireturn C dX7_cyclesOf_35 rfl
  · refine r_iconst C dX7_cyclesOf_16 (by decide) ?_
    exact r_ireturn C dX7_cyclesOf_17 rfl
set_option maxRecDepth 100000 in
set_option maxHeartbeats 4000000 in
theorem tX7_cutClauses (g : Nat) (hg : g = 62 ∨ g = 88) (p1 : Int) (p2 : Int) (M : Mem) : Cn yX7_cutClauses cX7_cutClauses 6 none 1 26 [zr (g + 13), zi p1, zi p2] M ((fX7_cutClauses g p1 p2 M).map oU) := by
  refine Cn_mk (own := RX7) rfl (by decide) (Nat.le_of_ble_eq_true rfl) [some (zr (g + 13)), some (zi p1), some (zi p2), none, none, none] rfl (fun G C hn => ?_)
  unfold fX7_cutClauses
  refine r_aload_n C dX7_cutClauses_0 rfl rfl ?_
  refine r_iconst C dX7_cutClauses_1 (by decide) ?_
  refine q_puti C clX7 (kd_g13 hg) (k := 16) (by decide) flX7_155 rfl dX7_cutClauses_2 rfl rfl (fun M1 => ?_)
  refine r_aload_n C dX7_cutClauses_5 rfl rfl ?_
  refine r_iconst C dX7_cutClauses_6 (by decide) ?_
  refine q_puti C clX7 (kd_g13 hg) (k := 17) (by decide) flX7_158 rfl dX7_cutClauses_7 rfl rfl (fun M2 => ?_)
  refine r_iconst C dX7_cutClauses_10 (by decide) ?_
  refine r_istore_n (al' := [some (zr (g + 13)), some (zi p1), some (zi p2), some (zi 0), none, none]) C dX7_cutClauses_11 rfl (by rw [hn]; decide) rfl ?_
  refine r_lp (S := Int × Mem) (R := Mem) (pcX := 208) (AL := fun s3 => [some (zr (g + 13)), some (zi p1), some (zi p2), some (zi s3.1), none, none]) (MM := fun s3 => s3.2) (AX := fun q25 => [none, none, none, none, none, none]) (MX := fun q25 => q25) ?_ ?_ (0, M2)
  · intro q25
    exact r_return C dX7_cutClauses_208 rfl
  · intro gs3 hCs3 hXs3 s3
    unfold fX7_cutClauses_b1
    refine r_iload_n C dX7_cutClauses_12 rfl rfl ?_
    refine r_aload_n C dX7_cutClauses_13 rfl rfl ?_
    refine q_geti C clX7 (kd_g13 hg) (k := 4) (by decide) flX7_61 dX7_cutClauses_14 (kz := 4) rfl (by decide) ?_
    refine q_icmp_ge (tgt := 208) C dX7_cutClauses_17 (by decide) (fun _ => ?_) (fun _ => ?_)
    · refine r_less [false, false, false, false, false, false] rfl ?_
      exact hXs3 s3.2
    · refine r_aload_n C dX7_cutClauses_20 rfl rfl ?_
      refine r_getp C clX7 (kd_g13 hg) (k := 3) (by decide) flX7_9 dX7_cutClauses_21 (pt_g13_3 hg) ?_
      refine r_iload_n C dX7_cutClauses_24 rfl rfl ?_
      refine r_iaload C dX7_cutClauses_25 (fun v4 _ => ?_)
      refine r_istore (al' := [some (zr (g + 13)), some (zi p1), some (zi p2), some (zi s3.1), some (zi v4), none]) C dX7_cutClauses_26 (by rw [hn]; decide) rfl ?_
      refine r_aload_n C dX7_cutClauses_28 rfl rfl ?_
      refine r_getp C clX7 (kd_g13 hg) (k := 0) (by decide) flX7_49 dX7_cutClauses_29 (pt_g13_0 hg) ?_
      refine r_getp C clX9 kd_44 (k := 1) (by decide) flX7_97 dX7_cutClauses_32 pt_44_1 ?_
      refine r_iload C dX7_cutClauses_35 rfl ?_
      refine r_iaload C dX7_cutClauses_37 (fun v5 _ => ?_)
      refine r_bipush C dX7_cutClauses_38 (by decide) ?_
      refine r_join (γ := Int) (pcJ := fun _ => 48) (al' := fun q6 => [some (zr (g + 13)), some (zi p1), some (zi p2), some (zi s3.1), some (zi v4), none]) (st' := fun q6 => [zi q6]) (M' := fun q6 => s3.2) ?_ ?_
      · intro q6
        refine r_istore (al' := [some (zr (g + 13)), some (zi p1), some (zi p2), some (zi s3.1), some (zi v4), some (zi q6)]) C dX7_cutClauses_48 (by rw [hn]; decide) rfl ?_
        refine r_aload_n C dX7_cutClauses_50 rfl rfl ?_
        refine r_iload C dX7_cutClauses_51 rfl ?_
        refine r_iload C dX7_cutClauses_53 rfl ?_
        refine r_iload C dX7_cutClauses_55 rfl ?_
        refine r_join (γ := Int) (pcJ := fun _ => 65) (al' := fun q7 => [some (zr (g + 13)), some (zi p1), some (zi p2), some (zi s3.1), some (zi v4), some (zi q6)]) (st' := fun q7 => [zi q7, zi q6, zi v4, zr (g + 13)]) (M' := fun q7 => s3.2) ?_ ?_
        · intro q7
          refine q_callVi (av := [zi v4, zi q6, zi q7]) (rest := []) C (tX7_joins g hg v4 q6 q7 s3.2) lkX7_161 (kd_g13 hg) rfl rfl rfl (Nat.le_of_ble_eq_true rfl) ⟨by decide, by decide⟩ dX7_cutClauses_65 (fun q8 _ => ?_)
          refine r_join (γ := Mem) (pcJ := fun _ => 139) (al' := fun q16 => [some (zr (g + 13)), some (zi p1), some (zi p2), some (zi s3.1), some (zi v4), none]) (st' := fun q16 => []) (M' := fun q16 => q16) ?_ ?_
          · intro q16
            refine r_aload_n C dX7_cutClauses_139 rfl rfl ?_
            refine r_getp C clX7 (kd_g13 hg) (k := 12) (by decide) flX7_37 dX7_cutClauses_140 (pt_g13_12 hg) ?_
            refine r_iload C dX7_cutClauses_143 rfl ?_
            refine r_aload_n C dX7_cutClauses_145 rfl rfl ?_
            refine q_geti C clX7 (kd_g13 hg) (k := 16) (by decide) flX7_155 dX7_cutClauses_146 (kz := 16) rfl (by decide) ?_
            refine r_iconst C dX7_cutClauses_149 (by decide) ?_
            refine r_isub C dX7_cutClauses_150 ?_
            refine r_iastore C dX7_cutClauses_151 (fun M17 _ => ?_)
            refine r_aload_n C dX7_cutClauses_152 rfl rfl ?_
            refine r_getp C clX7 (kd_g13 hg) (k := 14) (by decide) flX7_43 dX7_cutClauses_153 (pt_g13_14 hg) ?_
            refine r_aload_n C dX7_cutClauses_156 rfl rfl ?_
            refine q_geti C clX7 (kd_g13 hg) (k := 16) (by decide) flX7_155 dX7_cutClauses_157 (kz := 16) rfl (by decide) ?_
            refine r_iconst C dX7_cutClauses_160 (by decide) ?_
            refine r_isub C dX7_cutClauses_161 ?_
            refine r_dup2 C dX7_cutClauses_162 rfl rfl ?_
            refine r_iaload C dX7_cutClauses_163 (fun v18 _ => ?_)
            refine r_iconst C dX7_cutClauses_164 (by decide) ?_
            refine r_iadd C dX7_cutClauses_165 ?_
            refine r_iastore C dX7_cutClauses_166 (fun M19 _ => ?_)
            refine r_aload_n C dX7_cutClauses_167 rfl rfl ?_
            refine r_getp C clX7 (kd_g13 hg) (k := 15) (by decide) flX7_46 dX7_cutClauses_168 (pt_g13_15 hg) ?_
            refine r_aload_n C dX7_cutClauses_171 rfl rfl ?_
            refine q_geti C clX7 (kd_g13 hg) (k := 16) (by decide) flX7_155 dX7_cutClauses_172 (kz := 16) rfl (by decide) ?_
            refine r_iconst C dX7_cutClauses_175 (by decide) ?_
            refine r_isub C dX7_cutClauses_176 ?_
            refine r_dup2 C dX7_cutClauses_177 rfl rfl ?_
            refine r_iaload C dX7_cutClauses_178 (fun v20 _ => ?_)
            refine r_aload_n C dX7_cutClauses_179 rfl rfl ?_
            refine r_iload C dX7_cutClauses_180 rfl ?_
            refine q_callVi (av := [zi v4]) (rest := [zi v20, zi (w32 ((M19 (g + 13) 16) - 1)), zr (g + 25)]) C (tX7_cyclesOf g hg v4 M19) lkX7_165 (kd_g13 hg) rfl rfl rfl (Nat.le_of_ble_eq_true rfl) ⟨by decide, by decide⟩ dX7_cutClauses_182 (fun q21 _ => ?_)
            refine r_iadd C dX7_cutClauses_185 ?_
            refine r_iastore C dX7_cutClauses_186 (fun M22 _ => ?_)
            refine r_aload_n C dX7_cutClauses_187 rfl rfl ?_
            refine r_dup C dX7_cutClauses_188 rfl ?_
            refine q_geti C clX7 (kd_g13 hg) (k := 17) (by decide) flX7_158 dX7_cutClauses_189 (kz := 17) rfl (by decide) ?_
            refine r_aload_n C dX7_cutClauses_192 rfl rfl ?_
            refine r_iload C dX7_cutClauses_193 rfl ?_
            refine q_callVi (av := [zi v4]) (rest := [zi (M22 (g + 13) 17), zr (g + 13)]) C (tX7_cyclesOf g hg v4 M22) lkX7_165 (kd_g13 hg) rfl rfl rfl (Nat.le_of_ble_eq_true rfl) ⟨by decide, by decide⟩ dX7_cutClauses_195 (fun q23 _ => ?_)
            refine r_iadd C dX7_cutClauses_198 ?_
            refine q_puti C clX7 (kd_g13 hg) (k := 17) (by decide) flX7_158 rfl dX7_cutClauses_199 rfl rfl (fun M24 => ?_)
            refine r_iinc (al' := [some (zr (g + 13)), some (zi p1), some (zi p2), some (zi (w32 (s3.1 + 1))), some (zi v4), none]) C dX7_cutClauses_202 rfl (by rw [hn]; decide) rfl ?_
            refine r_goto (tgt := 12) C dX7_cutClauses_205 (by decide) ?_
            refine r_less [true, true, true, true, false, false] rfl ?_
            exact hCs3 (w32 (s3.1 + 1), M24)
          · intro hJq16
            refine q_if_ne (tgt := 139) C dX7_cutClauses_68 (by decide) (fun _ => ?_) (fun _ => ?_)
            · refine r_less [true, true, true, true, true, false] rfl ?_
              exact hJq16 q8.2
            · refine r_aload_n C dX7_cutClauses_71 rfl rfl ?_
              refine r_getp C clX7 (kd_g13 hg) (k := 13) (by decide) flX7_40 dX7_cutClauses_72 (pt_g13_13 hg) ?_
              refine r_aload_n C dX7_cutClauses_75 rfl rfl ?_
              refine q_geti C clX7 (kd_g13 hg) (k := 16) (by decide) flX7_155 dX7_cutClauses_76 (kz := 16) rfl (by decide) ?_
              refine r_iload_n C dX7_cutClauses_79 rfl rfl ?_
              refine r_iastore C dX7_cutClauses_80 (fun M9 _ => ?_)
              refine r_aload_n C dX7_cutClauses_81 rfl rfl ?_
              refine r_getp C clX7 (kd_g13 hg) (k := 14) (by decide) flX7_43 dX7_cutClauses_82 (pt_g13_14 hg) ?_
              refine r_aload_n C dX7_cutClauses_85 rfl rfl ?_
              refine q_geti C clX7 (kd_g13 hg) (k := 16) (by decide) flX7_155 dX7_cutClauses_86 (kz := 16) rfl (by decide) ?_
              refine r_iconst C dX7_cutClauses_89 (by decide) ?_
              refine r_iastore C dX7_cutClauses_90 (fun M10 _ => ?_)
              refine r_aload_n C dX7_cutClauses_91 rfl rfl ?_
              refine r_getp C clX7 (kd_g13 hg) (k := 15) (by decide) flX7_46 dX7_cutClauses_92 (pt_g13_15 hg) ?_
              refine r_aload_n C dX7_cutClauses_95 rfl rfl ?_
              refine q_geti C clX7 (kd_g13 hg) (k := 16) (by decide) flX7_155 dX7_cutClauses_96 (kz := 16) rfl (by decide) ?_
              refine r_iload C dX7_cutClauses_99 rfl ?_
              refine r_join (γ := Int) (pcJ := fun _ => 110) (al' := fun q11 => [some (zr (g + 13)), some (zi p1), some (zi p2), some (zi s3.1), some (zi v4), none]) (st' := fun q11 => [zi q11, zi (M10 (g + 13) 16), zr (g + 25)]) (M' := fun q11 => M10) ?_ ?_
              · intro q11
                refine r_iastore C dX7_cutClauses_110 (fun M12 _ => ?_)
                refine r_aload_n C dX7_cutClauses_111 rfl rfl ?_
                refine r_dup C dX7_cutClauses_112 rfl ?_
                refine q_geti C clX7 (kd_g13 hg) (k := 17) (by decide) flX7_158 dX7_cutClauses_113 (kz := 17) rfl (by decide) ?_
                refine r_aload_n C dX7_cutClauses_116 rfl rfl ?_
                refine r_getp C clX7 (kd_g13 hg) (k := 15) (by decide) flX7_46 dX7_cutClauses_117 (pt_g13_15 hg) ?_
                refine r_aload_n C dX7_cutClauses_120 rfl rfl ?_
                refine q_geti C clX7 (kd_g13 hg) (k := 16) (by decide) flX7_155 dX7_cutClauses_121 (kz := 16) rfl (by decide) ?_
                refine r_iaload C dX7_cutClauses_124 (fun v13 _ => ?_)
                refine r_iadd C dX7_cutClauses_125 ?_
                refine q_puti C clX7 (kd_g13 hg) (k := 17) (by decide) flX7_158 rfl dX7_cutClauses_126 rfl rfl (fun M14 => ?_)
                refine r_aload_n C dX7_cutClauses_129 rfl rfl ?_
                refine r_dup C dX7_cutClauses_130 rfl ?_
                refine q_geti C clX7 (kd_g13 hg) (k := 16) (by decide) flX7_155 dX7_cutClauses_131 (kz := 16) rfl (by decide) ?_
                refine r_iconst C dX7_cutClauses_134 (by decide) ?_
                refine r_iadd C dX7_cutClauses_135 ?_
                refine q_puti C clX7 (kd_g13 hg) (k := 16) (by decide) flX7_155 rfl dX7_cutClauses_136 rfl rfl (fun M15 => ?_)
                exact hJq16 M15
              · intro hJq11
                refine q_if_eq (tgt := 109) C dX7_cutClauses_101 (by decide) (fun _ => ?_) (fun _ => ?_)
                · refine r_iconst C dX7_cutClauses_109 (by decide) ?_
                  refine r_less [true, true, true, true, true, false] rfl ?_
                  exact hJq11 2
                · refine r_bipush C dX7_cutClauses_104 (by decide) ?_
                  refine r_goto (tgt := 110) C dX7_cutClauses_106 (by decide) ?_
                  refine r_less [true, true, true, true, true, false] rfl ?_
                  exact hJq11 12
        · intro hJq7
          refine q_if_eq (tgt := 64) C dX7_cutClauses_57 (by decide) (fun _ => ?_) (fun _ => ?_)
          · refine r_iload_n C dX7_cutClauses_64 rfl rfl ?_
            exact hJq7 p2
          · refine r_iload_n C dX7_cutClauses_60 rfl rfl ?_
            refine r_goto (tgt := 65) C dX7_cutClauses_61 (by decide) ?_
            exact hJq7 p1
      · intro hJq6
        refine q_icmp_ne (tgt := 47) C dX7_cutClauses_40 (by decide) (fun _ => ?_) (fun _ => ?_)
        · refine r_iconst C dX7_cutClauses_47 (by decide) ?_
          exact hJq6 0
        · refine r_iconst C dX7_cutClauses_43 (by decide) ?_
          refine r_goto (tgt := 48) C dX7_cutClauses_44 (by decide) ?_
          exact hJq6 1
set_option maxRecDepth 100000 in
set_option maxHeartbeats 4000000 in
theorem tX7_settle (g : Nat) (hg : g = 62 ∨ g = 88) (p1 : Int) (p2 : Int) (M : Mem) : Cn yX7_settle cX7_settle 3 none 4 88 [zr (g + 13), zi p1, zi p2] M ((fX7_settle g p1 p2 M).map oU) := by
  refine Cn_mk (own := RX7) rfl (by decide) (Nat.le_of_ble_eq_true rfl) [some (zr (g + 13)), some (zi p1), some (zi p2)] rfl (fun G C hn => ?_)
  unfold fX7_settle
  refine r_aload_n C dX7_settle_0 rfl rfl ?_
  refine q_callVv (av := []) (rest := []) C (tX7_findEnds g hg M) lkX7_117 (kd_g13 hg) rfl rfl rfl (Nat.le_of_ble_eq_true rfl) ⟨by decide, by decide⟩ dX7_settle_1 (fun q1 _ => ?_)
  refine r_aload_n C dX7_settle_4 rfl rfl ?_
  refine q_callVv (av := []) (rest := []) C (tX7_findPressures g hg q1) lkX7_120 (kd_g13 hg) rfl rfl rfl (Nat.le_of_ble_eq_true rfl) ⟨by decide, by decide⟩ dX7_settle_5 (fun q2 _ => ?_)
  refine r_aload_n C dX7_settle_8 rfl rfl ?_
  refine q_callVv (av := []) (rest := []) C (tX7_giveRegisters g hg q2) lkX7_123 (kd_g13 hg) rfl rfl rfl (Nat.le_of_ble_eq_true rfl) ⟨by decide, by decide⟩ dX7_settle_9 (fun q3 _ => ?_)
  refine r_aload_n C dX7_settle_12 rfl rfl ?_
  refine r_iload_n C dX7_settle_13 rfl rfl ?_
  refine r_iload_n C dX7_settle_14 rfl rfl ?_
  refine q_callVv (av := [zi p1, zi p2]) (rest := []) C (tX7_cutClauses g hg p1 p2 q3) lkX7_126 (kd_g13 hg) rfl rfl rfl (Nat.le_of_ble_eq_true rfl) ⟨by decide, by decide⟩ dX7_settle_15 (fun q4 _ => ?_)
  exact r_return C dX7_settle_18 rfl
set_option maxRecDepth 100000 in
set_option maxHeartbeats 4000000 in
theorem tX11_refresh  (M : Mem) : Cn yX11_refresh cX11_refresh 1 none 5 121 [zr 0] M ((fX11_refresh  M).map oU) := by
  refine Cn_mk (own := RX11) rfl (by decide) (Nat.le_of_ble_eq_true rfl) [some (zr 0)] rfl (fun G C hn => ?_)
  unfold fX11_refresh
  refine r_aload_n C dX11_refresh_0 rfl rfl ?_
  refine r_getp C clX11 kd_0 (k := 6) (by decide) flX11_62 dX11_refresh_1 pt_0_6 ?_
  refine r_aload_n C dX11_refresh_4 rfl rfl ?_
  refine r_getp C clX11 kd_0 (k := 4) (by decide) flX11_44 dX11_refresh_5 pt_0_4 ?_
  refine r_getp C clX0 kd_51 (k := 0) (by decide) flX11_148 dX11_refresh_8 pt_51_0 ?_
  refine r_aload_n C dX11_refresh_11 rfl rfl ?_
  refine r_getp C clX11 kd_0 (k := 4) (by decide) flX11_44 dX11_refresh_12 pt_0_4 ?_
  refine r_getp C clX0 kd_51 (k := 1) (by decide) flX11_152 dX11_refresh_15 pt_51_1 ?_
  refine q_callVv (av := [zr 52, zr 53]) (rest := []) C (tX2_reckon 62 (Or.inl rfl) M) lkX11_155 kd_62 rfl rfl rfl (Nat.le_of_ble_eq_true rfl) ⟨by decide, by decide⟩ dX11_refresh_18 (fun q1 _ => ?_)
  refine r_aload_n C dX11_refresh_21 rfl rfl ?_
  refine r_getp C clX11 kd_0 (k := 7) (by decide) flX11_71 dX11_refresh_22 pt_0_7 ?_
  refine r_iconst C dX11_refresh_25 (by decide) ?_
  refine q_callVv (av := [zi (-1)]) (rest := []) C (tX5_reckon 62 (Or.inl rfl) (-1) q1) lkX11_159 kd_66 rfl rfl rfl (Nat.le_of_ble_eq_true rfl) ⟨by decide, by decide⟩ dX11_refresh_26 (fun q2 _ => ?_)
  refine r_aload_n C dX11_refresh_29 rfl rfl ?_
  refine r_getp C clX11 kd_0 (k := 8) (by decide) flX11_80 dX11_refresh_30 pt_0_8 ?_
  refine r_aload_n C dX11_refresh_33 rfl rfl ?_
  refine q_geti C clX11 kd_0 (k := 14) (by decide) flX11_107 dX11_refresh_34 (kz := 14) rfl (by decide) ?_
  refine q_callVv (av := [zi (q2 0 14)]) (rest := []) C (tX7_arrange 62 (Or.inl rfl) (q2 0 14) q2) lkX11_161 kd_75 rfl rfl rfl (Nat.le_of_ble_eq_true rfl) ⟨by decide, by decide⟩ dX11_refresh_37 (fun q3 _ => ?_)
  refine r_aload_n C dX11_refresh_40 rfl rfl ?_
  refine r_getp C clX11 kd_0 (k := 8) (by decide) flX11_80 dX11_refresh_41 pt_0_8 ?_
  refine r_aload_n C dX11_refresh_44 rfl rfl ?_
  refine r_getm C clX11 kd_0 (k := 13) (by decide) flX11_103 dX11_refresh_45 rfl (fun t4 _ ht4 => ?_)
  refine q_geti C clX3 (kd_t0 ht4) (k := 14) (by decide) flX11_164 dX11_refresh_48 (kz := 14) rfl (by decide) ?_
  refine r_aload_n C dX11_refresh_51 rfl rfl ?_
  refine r_getm C clX11 kd_0 (k := 13) (by decide) flX11_103 dX11_refresh_52 rfl (fun t5 _ ht5 => ?_)
  refine q_geti C clX3 (kd_t0 ht5) (k := 15) (by decide) flX11_167 dX11_refresh_55 (kz := 15) rfl (by decide) ?_
  refine q_callVv (av := [zi (q3 t4 14), zi (q3 t5 15)]) (rest := []) C (tX7_settle 62 (Or.inl rfl) (q3 t4 14) (q3 t5 15) q3) lkX11_170 kd_75 rfl rfl rfl (Nat.le_of_ble_eq_true rfl) ⟨by decide, by decide⟩ dX11_refresh_58 (fun q6 _ => ?_)
  refine r_aload_n C dX11_refresh_61 rfl rfl ?_
  refine r_bipush C dX11_refresh_62 (by decide) ?_
  refine q_puti C clX11 kd_0 (k := 15) (by decide) flX11_111 rfl dX11_refresh_64 rfl rfl (fun M7 => ?_)
  exact r_return C dX11_refresh_67 rfl
set_option maxRecDepth 100000 in
set_option maxHeartbeats 4000000 in
theorem tX11_shader  (M : Mem) : Cn yX11_shader cX11_shader 3 (some .int) 6 141 [zr 0] M ((fX11_shader  M).map oI) := by
  refine Cn_mk (own := RX11) rfl (by decide) (Nat.le_of_ble_eq_true rfl) [some (zr 0), none, none] rfl (fun G C hn => ?_)
  unfold fX11_shader
  refine r_aload_n C dX11_shader_0 rfl rfl ?_
  refine r_getp C clX11 kd_0 (k := 1) (by decide) flX11_23 dX11_shader_1 pt_0_1 ?_
  refine q_callVi (av := []) (rest := []) C (tX6_parse  M) lkX11_125 kd_4 rfl rfl rfl (Nat.le_of_ble_eq_true rfl) ⟨by decide, by decide⟩ dX11_shader_4 (fun q1 _ => ?_)
  refine r_istore_n (al' := [some (zr 0), some (zi q1.1), none]) C dX11_shader_7 rfl (by rw [hn]; decide) rfl ?_
  refine r_aload_n C dX11_shader_8 rfl rfl ?_
  refine r_getp C clX11 kd_0 (k := 0) (by decide) flX11_14 dX11_shader_9 pt_0_0 ?_
  refine q_callVv (av := []) (rest := []) C (tX8_wipe  q1.2) lkX11_129 kd_1 rfl rfl rfl (Nat.le_of_ble_eq_true rfl) ⟨by decide, by decide⟩ dX11_shader_12 (fun q2 _ => ?_)
  refine r_iload_n C dX11_shader_15 rfl rfl ?_
  refine r_join (γ := Int × Mem) (pcJ := fun _ => 34) (al' := fun q5 => [some (zr 0), some (zi q5.1), none]) (st' := fun q5 => []) (M' := fun q5 => q5.2) ?_ ?_
  · intro q5
    refine r_iload_n C dX11_shader_34 rfl rfl ?_
    refine r_join (γ := Mem) (pcJ := fun _ => 91) (al' := fun q14 => [none, some (zi q5.1), none]) (st' := fun q14 => []) (M' := fun q14 => q14) ?_ ?_
    · intro q14
      refine r_iload_n C dX11_shader_91 rfl rfl ?_
      exact r_ireturn C dX11_shader_92 rfl
    · intro hJq14
      refine q_if_ne (tgt := 91) C dX11_shader_35 (by decide) (fun _ => ?_) (fun _ => ?_)
      · refine r_less [false, true, false] rfl ?_
        exact hJq14 q5.2
      · refine r_aload_n C dX11_shader_38 rfl rfl ?_
        refine r_getm C clX11 kd_0 (k := 13) (by decide) flX11_103 dX11_shader_39 rfl (fun t6 _ ht6 => ?_)
        refine r_astore_n (al' := [some (zr 0), some (zi q5.1), some (zr t6)]) C dX11_shader_42 rfl (by rw [hn]; decide) rfl ?_
        refine r_aload_n C dX11_shader_43 rfl rfl ?_
        refine r_aload_n C dX11_shader_44 rfl rfl ?_
        refine r_getp C clX11 kd_0 (k := 1) (by decide) flX11_23 dX11_shader_45 pt_0_1 ?_
        refine r_getm C clX6 kd_4 (k := 1) (by decide) flX11_132 dX11_shader_48 rfl (fun t7 _ ht7 => ?_)
        refine q_putm C clX11 kd_0 (k := 13) (by decide) flX11_103 rfl dX11_shader_51 rfl rfl ht7 (fun M8 => ?_)
        refine r_aload_n C dX11_shader_54 rfl rfl ?_
        refine r_getp C clX11 kd_0 (k := 1) (by decide) flX11_23 dX11_shader_55 pt_0_1 ?_
        refine r_aload_n C dX11_shader_58 rfl rfl ?_
        refine q_putm C clX6 kd_4 (k := 1) (by decide) flX11_132 rfl dX11_shader_59 rfl rfl ht6 (fun M9 => ?_)
        refine r_aload_n C dX11_shader_62 rfl rfl ?_
        refine r_getp C clX11 kd_0 (k := 3) (by decide) flX11_37 dX11_shader_63 pt_0_3 ?_
        refine r_aload_n C dX11_shader_66 rfl rfl ?_
        refine r_getp C clX11 kd_0 (k := 2) (by decide) flX11_30 dX11_shader_67 pt_0_2 ?_
        refine r_getp C clX10 kd_22 (k := 0) (by decide) flX11_137 dX11_shader_70 pt_22_0 ?_
        refine q_callVv (av := [zr 23]) (rest := []) C (tX9_copyFrom  M9) lkX11_138 kd_44 rfl rfl rfl (Nat.le_of_ble_eq_true rfl) ⟨by decide, by decide⟩ dX11_shader_73 (fun q10 _ => ?_)
        refine r_aload_n C dX11_shader_76 rfl rfl ?_
        refine r_getp C clX11 kd_0 (k := 4) (by decide) flX11_44 dX11_shader_77 pt_0_4 ?_
        refine r_aload_n C dX11_shader_80 rfl rfl ?_
        refine r_getm C clX11 kd_0 (k := 13) (by decide) flX11_103 dX11_shader_81 rfl (fun t11 _ ht11 => ?_)
        refine q_callVv (av := [zr t11]) (rest := []) C (tX0_start t11 ht11 q10) lkX11_141 kd_51 rfl rfl rfl (Nat.le_of_ble_eq_true rfl) ⟨by decide, by decide⟩ dX11_shader_84 (fun q12 _ => ?_)
        refine r_aload_n C dX11_shader_87 rfl rfl ?_
        refine q_callVv (av := []) (rest := []) C (tX11_refresh  q12) lkX11_145 kd_0 rfl rfl rfl (Nat.le_of_ble_eq_true rfl) ⟨by decide, by decide⟩ dX11_shader_88 (fun q13 _ => ?_)
        refine r_less [false, true, false] rfl ?_
        exact hJq14 q13
  · intro hJq5
    refine q_if_ne (tgt := 34) C dX11_shader_16 (by decide) (fun _ => ?_) (fun _ => ?_)
    · exact hJq5 (q1.1, q2)
    · refine r_aload_n C dX11_shader_19 rfl rfl ?_
      refine r_getp C clX11 kd_0 (k := 2) (by decide) flX11_30 dX11_shader_20 pt_0_2 ?_
      refine r_aload_n C dX11_shader_23 rfl rfl ?_
      refine r_getp C clX11 kd_0 (k := 1) (by decide) flX11_23 dX11_shader_24 pt_0_1 ?_
      refine r_getm C clX6 kd_4 (k := 1) (by decide) flX11_132 dX11_shader_27 rfl (fun t3 _ ht3 => ?_)
      refine q_callVi (av := [zr t3]) (rest := []) C (tX10_work t3 ht3 q2) lkX11_133 kd_22 rfl rfl rfl (Nat.le_of_ble_eq_true rfl) ⟨by decide, by decide⟩ dX11_shader_30 (fun q4 _ => ?_)
      refine r_istore_n (al' := [some (zr 0), some (zi q4.1), none]) C dX11_shader_33 rfl (by rw [hn]; decide) rfl ?_
      exact hJq5 (q4.1, q4.2)
set_option maxRecDepth 100000 in
set_option maxHeartbeats 4000000 in
theorem tX11_isInput (p1 : Int) (M : Mem) : Cn yX11_isInput cX11_isInput 2 (some .boolean) 0 0 [zr 0, zi p1] M ((fX11_isInput p1 M).map oI) := by
  refine Cn_mk (own := RX11) rfl (by decide) (Nat.le_of_ble_eq_true rfl) [some (zr 0), some (zi p1)] rfl (fun G C hn => ?_)
  unfold fX11_isInput
  refine r_iload_n C dX11_isInput_0 rfl rfl ?_
  refine r_join (γ := Int) (pcJ := fun _ => 20) (al' := fun q2 => [none, none]) (st' := fun q2 => [zi q2]) (M' := fun q2 => M) ?_ ?_
  · intro q2
    exact r_zreturn C dX11_isInput_20 rfl
  · intro hJq2
    refine q_if_lt (tgt := 19) C dX11_isInput_1 (by decide) (fun _ => ?_) (fun _ => ?_)
    · refine r_iconst C dX11_isInput_19 (by decide) ?_
      refine r_less [false, false] rfl ?_
      exact hJq2 0
    · refine r_iload_n C dX11_isInput_4 rfl rfl ?_
      refine r_aload_n C dX11_isInput_5 rfl rfl ?_
      refine r_getm C clX11 kd_0 (k := 13) (by decide) flX11_103 dX11_isInput_6 rfl (fun t1 _ ht1 => ?_)
      refine q_geti C clX3 (kd_t0 ht1) (k := 10) (by decide) flX11_358 dX11_isInput_9 (kz := 10) rfl (by decide) ?_
      refine q_icmp_ge (tgt := 19) C dX11_isInput_12 (by decide) (fun _ => ?_) (fun _ => ?_)
      · refine r_iconst C dX11_isInput_19 (by decide) ?_
        refine r_less [false, false] rfl ?_
        exact hJq2 0
      · refine r_iconst C dX11_isInput_15 (by decide) ?_
        refine r_goto (tgt := 20) C dX11_isInput_16 (by decide) ?_
        refine r_less [false, false] rfl ?_
        exact hJq2 1
set_option maxRecDepth 100000 in
set_option maxHeartbeats 4000000 in
theorem tX11_isLane (p1 : Int) (M : Mem) : Cn yX11_isLane cX11_isLane 1 (some .boolean) 0 0 [zi p1] M ((fX11_isLane p1 M).map oI) := by
  refine Cn_mk (own := RX11) rfl (by decide) (Nat.le_of_ble_eq_true rfl) [some (zi p1)] rfl (fun G C hn => ?_)
  unfold fX11_isLane
  refine r_iload_n C dX11_isLane_0 rfl rfl ?_
  refine r_join (γ := Int) (pcJ := fun _ => 14) (al' := fun q1 => [none]) (st' := fun q1 => [zi q1]) (M' := fun q1 => M) ?_ ?_
  · intro q1
    exact r_zreturn C dX11_isLane_14 rfl
  · intro hJq1
    refine q_if_lt (tgt := 13) C dX11_isLane_1 (by decide) (fun _ => ?_) (fun _ => ?_)
    · refine r_iconst C dX11_isLane_13 (by decide) ?_
      refine r_less [false] rfl ?_
      exact hJq1 0
    · refine r_iload_n C dX11_isLane_4 rfl rfl ?_
      refine r_iconst C dX11_isLane_5 (by decide) ?_
      refine q_icmp_ge (tgt := 13) C dX11_isLane_6 (by decide) (fun _ => ?_) (fun _ => ?_)
      · refine r_iconst C dX11_isLane_13 (by decide) ?_
        refine r_less [false] rfl ?_
        exact hJq1 0
      · refine r_iconst C dX11_isLane_9 (by decide) ?_
        refine r_goto (tgt := 14) C dX11_isLane_10 (by decide) ?_
        refine r_less [false] rfl ?_
        exact hJq1 1
set_option maxRecDepth 100000 in
set_option maxHeartbeats 4000000 in
theorem tX11_set (p1 : Int) (p2 : Int) (p3 : Int) (M : Mem) : Cn yX11_set cX11_set 6 (some .int) 1 21 [zr 0, zi p1, zi p2, zi p3] M ((fX11_set p1 p2 p3 M).map oI) := by
  refine Cn_mk (own := RX11) rfl (by decide) (Nat.le_of_ble_eq_true rfl) [some (zr 0), some (zi p1), some (zi p2), some (zi p3), none, none] rfl (fun G C hn => ?_)
  unfold fX11_set
  refine r_aload_n C dX11_set_0 rfl rfl ?_
  refine r_iload_n C dX11_set_1 rfl rfl ?_
  refine q_callVi (av := [zi p1]) (rest := []) C (tX11_isInput p1 M) lkX11_174 kd_0 rfl rfl rfl (Nat.le_of_ble_eq_true rfl) ⟨by decide, by decide⟩ dX11_set_2 (fun q1 _ => ?_)
  refine q_if_eq (tgt := 41) C dX11_set_5 (by decide) (fun _ => ?_) (fun _ => ?_)
  · refine r_iconst C dX11_set_41 (by decide) ?_
    exact r_ireturn C dX11_set_42 rfl
  · refine r_iload_n C dX11_set_8 rfl rfl ?_
    refine q_callSi (av := [zi p2]) (rest := []) C (tX11_isLane p2 q1.2) lkX11_178 rfl rfl (Nat.le_of_ble_eq_true rfl) ⟨by decide, by decide⟩ dX11_set_9 (fun q2 _ => ?_)
    refine q_if_eq (tgt := 41) C dX11_set_12 (by decide) (fun _ => ?_) (fun _ => ?_)
    · refine r_iconst C dX11_set_41 (by decide) ?_
      exact r_ireturn C dX11_set_42 rfl
    · refine r_iload_n C dX11_set_15 rfl rfl ?_
      refine r_aload_n C dX11_set_16 rfl rfl ?_
      refine r_getp C clX11 kd_0 (k := 4) (by decide) flX11_44 dX11_set_17 pt_0_4 ?_
      refine r_getp C clX0 kd_51 (k := 0) (by decide) flX11_148 dX11_set_20 pt_51_0 ?_
      refine r_iload_n C dX11_set_23 rfl rfl ?_
      refine r_iaload C dX11_set_24 (fun v3 _ => ?_)
      refine q_icmp_lt (tgt := 41) C dX11_set_25 (by decide) (fun _ => ?_) (fun _ => ?_)
      · refine r_iconst C dX11_set_41 (by decide) ?_
        exact r_ireturn C dX11_set_42 rfl
      · refine r_iload_n C dX11_set_28 rfl rfl ?_
        refine r_aload_n C dX11_set_29 rfl rfl ?_
        refine r_getp C clX11 kd_0 (k := 4) (by decide) flX11_44 dX11_set_30 pt_0_4 ?_
        refine r_getp C clX0 kd_51 (k := 1) (by decide) flX11_152 dX11_set_33 pt_51_1 ?_
        refine r_iload_n C dX11_set_36 rfl rfl ?_
        refine r_iaload C dX11_set_37 (fun v4 _ => ?_)
        refine q_icmp_le (tgt := 43) C dX11_set_38 (by decide) (fun _ => ?_) (fun _ => ?_)
        · refine r_aload_n C dX11_set_43 rfl rfl ?_
          refine r_getp C clX11 kd_0 (k := 4) (by decide) flX11_44 dX11_set_44 pt_0_4 ?_
          refine r_getp C clX0 kd_51 (k := 2) (by decide) flX11_181 dX11_set_47 pt_51_2 ?_
          refine r_iconst C dX11_set_50 (by decide) ?_
          refine r_iload_n C dX11_set_51 rfl rfl ?_
          refine r_imul C dX11_set_52 ?_
          refine r_iload_n C dX11_set_53 rfl rfl ?_
          refine r_iadd C dX11_set_54 ?_
          refine r_iaload C dX11_set_55 (fun v5 _ => ?_)
          refine r_istore (al' := [some (zr 0), some (zi p1), some (zi p2), some (zi p3), some (zi v5), none]) C dX11_set_56 (by rw [hn]; decide) rfl ?_
          refine r_iconst C dX11_set_58 (by decide) ?_
          refine r_istore (al' := [some (zr 0), some (zi p1), some (zi p2), some (zi p3), some (zi v5), some (zi 0)]) C dX11_set_59 (by rw [hn]; decide) rfl ?_
          refine r_lp (S := Int × Mem) (R := Mem) (pcX := 106) (AL := fun s6 => [some (zr 0), some (zi p1), some (zi p2), some (zi p3), some (zi v5), some (zi s6.1)]) (MM := fun s6 => s6.2) (AX := fun q12 => [none, none, none, none, some (zi v5), none]) (MX := fun q12 => q12) ?_ ?_ (0, q2.2)
          · intro q12
            refine r_iload C dX11_set_106 rfl ?_
            exact r_ireturn C dX11_set_108 rfl
          · intro gs6 hCs6 hXs6 s6
            unfold fX11_set_b1
            refine r_iload C dX11_set_61 rfl ?_
            refine r_iconst C dX11_set_63 (by decide) ?_
            refine q_icmp_ge (tgt := 106) C dX11_set_64 (by decide) (fun _ => ?_) (fun _ => ?_)
            · refine r_less [false, false, false, false, true, false] rfl ?_
              exact hXs6 s6.2
            · refine r_iload C dX11_set_67 rfl ?_
              refine r_iload_n C dX11_set_69 rfl rfl ?_
              refine r_join (γ := Bool) (pcJ := fun q9 => if q9 = true then 85 else 100) (al' := fun q9 => [some (zr 0), some (zi p1), some (zi p2), some (zi p3), some (zi v5), some (zi s6.1)]) (st' := fun q9 => []) (M' := fun q9 => s6.2) ?_ ?_
              · intro q9
                refine r_join (γ := Mem) (pcJ := fun _ => 100) (al' := fun q11 => [some (zr 0), some (zi p1), some (zi p2), some (zi p3), some (zi v5), some (zi s6.1)]) (st' := fun q11 => []) (M' := fun q11 => q11) ?_ ?_
                · intro q11
                  refine r_iinc (al' := [some (zr 0), some (zi p1), some (zi p2), some (zi p3), some (zi v5), some (zi (w32 (s6.1 + 1)))]) C dX11_set_100 rfl (by rw [hn]; decide) rfl ?_
                  refine r_goto (tgt := 61) C dX11_set_103 (by decide) ?_
                  exact hCs6 (w32 (s6.1 + 1), q11)
                · intro hJq11
                  refine r_itp (fun _ => ?_) (fun _ => ?_)
                  · refine r_aload_n C dX11_set_85 rfl rfl ?_
                    refine r_getp C clX11 kd_0 (k := 4) (by decide) flX11_44 dX11_set_86 pt_0_4 ?_
                    refine r_getp C clX0 kd_51 (k := 2) (by decide) flX11_181 dX11_set_89 pt_51_2 ?_
                    refine r_iconst C dX11_set_92 (by decide) ?_
                    refine r_iload_n C dX11_set_93 rfl rfl ?_
                    refine r_imul C dX11_set_94 ?_
                    refine r_iload C dX11_set_95 rfl ?_
                    refine r_iadd C dX11_set_97 ?_
                    refine r_iload_n C dX11_set_98 rfl rfl ?_
                    refine r_iastore C dX11_set_99 (fun M10 _ => ?_)
                    exact hJq11 M10
                  · exact hJq11 s6.2
              · intro hJq9
                refine q_icmp_eq (tgt := 85) C dX11_set_70 (by decide) (fun _ => ?_) (fun _ => ?_)
                · exact hJq9 true
                · refine r_aload_n C dX11_set_73 rfl rfl ?_
                  refine r_getm C clX11 kd_0 (k := 13) (by decide) flX11_103 dX11_set_74 rfl (fun t7 _ ht7 => ?_)
                  refine r_getp C clX3 (kd_t0 ht7) (k := 11) (by decide) flX11_184 dX11_set_77 (pt_t0_11 ht7) ?_
                  refine r_iload_n C dX11_set_80 rfl rfl ?_
                  refine r_zaload C dX11_set_81 (fun v8 _ => ?_)
                  refine q_if_eq (tgt := 100) C dX11_set_82 (by decide) (fun _ => ?_) (fun _ => ?_)
                  · exact hJq9 false
                  · exact hJq9 true
        · refine r_iconst C dX11_set_41 (by decide) ?_
          exact r_ireturn C dX11_set_42 rfl
set_option maxRecDepth 100000 in
set_option maxHeartbeats 4000000 in
theorem tX11_cell (p1 : Int) (p2 : Int) (M : Mem) : Cn yX11_cell cX11_cell 4 (some .int) 0 0 [zr 0, zi p1, zi p2] M ((fX11_cell p1 p2 M).map oI) := by
  refine Cn_mk (own := RX11) rfl (by decide) (Nat.le_of_ble_eq_true rfl) [some (zr 0), some (zi p1), some (zi p2), none] rfl (fun G C hn => ?_)
  unfold fX11_cell
  refine r_iload_n C dX11_cell_0 rfl rfl ?_
  refine q_if_lt (tgt := 21) C dX11_cell_1 (by decide) (fun _ => ?_) (fun _ => ?_)
  · refine r_iconst C dX11_cell_21 (by decide) ?_
    exact r_ireturn C dX11_cell_22 rfl
  · refine r_iload_n C dX11_cell_4 rfl rfl ?_
    refine r_bipush C dX11_cell_5 (by decide) ?_
    refine q_icmp_ge (tgt := 21) C dX11_cell_7 (by decide) (fun _ => ?_) (fun _ => ?_)
    · refine r_iconst C dX11_cell_21 (by decide) ?_
      exact r_ireturn C dX11_cell_22 rfl
    · refine r_iload_n C dX11_cell_10 rfl rfl ?_
      refine q_if_lt (tgt := 21) C dX11_cell_11 (by decide) (fun _ => ?_) (fun _ => ?_)
      · refine r_iconst C dX11_cell_21 (by decide) ?_
        exact r_ireturn C dX11_cell_22 rfl
      · refine r_iload_n C dX11_cell_14 rfl rfl ?_
        refine r_sipush C dX11_cell_15 (by decide) ?_
        refine q_icmp_le (tgt := 23) C dX11_cell_18 (by decide) (fun _ => ?_) (fun _ => ?_)
        · refine r_aload_n C dX11_cell_23 rfl rfl ?_
          refine r_getp C clX11 kd_0 (k := 4) (by decide) flX11_44 dX11_cell_24 pt_0_4 ?_
          refine r_getp C clX0 kd_51 (k := 3) (by decide) flX11_188 dX11_cell_27 pt_51_3 ?_
          refine r_iload_n C dX11_cell_30 rfl rfl ?_
          refine r_iaload C dX11_cell_31 (fun v1 _ => ?_)
          refine r_istore_n (al' := [some (zr 0), some (zi p1), some (zi p2), some (zi v1)]) C dX11_cell_32 rfl (by rw [hn]; decide) rfl ?_
          refine r_aload_n C dX11_cell_33 rfl rfl ?_
          refine r_getp C clX11 kd_0 (k := 4) (by decide) flX11_44 dX11_cell_34 pt_0_4 ?_
          refine r_getp C clX0 kd_51 (k := 3) (by decide) flX11_188 dX11_cell_37 pt_51_3 ?_
          refine r_iload_n C dX11_cell_40 rfl rfl ?_
          refine r_iload_n C dX11_cell_41 rfl rfl ?_
          refine r_iastore C dX11_cell_42 (fun M2 _ => ?_)
          refine r_iload_n C dX11_cell_43 rfl rfl ?_
          exact r_ireturn C dX11_cell_44 rfl
        · refine r_iconst C dX11_cell_21 (by decide) ?_
          exact r_ireturn C dX11_cell_22 rfl
set_option maxRecDepth 100000 in
set_option maxHeartbeats 4000000 in
theorem tX11_rule (p1 : Int) (M : Mem) : Cn yX11_rule cX11_rule 3 (some .int) 6 141 [zr 0, zi p1] M ((fX11_rule p1 M).map oI) := by
  refine Cn_mk (own := RX11) rfl (by decide) (Nat.le_of_ble_eq_true rfl) [some (zr 0), some (zi p1), none] rfl (fun G C hn => ?_)
  unfold fX11_rule
  refine r_iload_n C dX11_rule_0 rfl rfl ?_
  refine q_if_lt (tgt := 9) C dX11_rule_1 (by decide) (fun _ => ?_) (fun _ => ?_)
  · refine r_iconst C dX11_rule_9 (by decide) ?_
    exact r_ireturn C dX11_rule_10 rfl
  · refine r_iload_n C dX11_rule_4 rfl rfl ?_
    refine r_iconst C dX11_rule_5 (by decide) ?_
    refine q_icmp_lt (tgt := 11) C dX11_rule_6 (by decide) (fun _ => ?_) (fun _ => ?_)
    · refine r_aload_n C dX11_rule_11 rfl rfl ?_
      refine q_geti C clX11 kd_0 (k := 14) (by decide) flX11_107 dX11_rule_12 (kz := 14) rfl (by decide) ?_
      refine r_let (fun v1 _ => ?_)
      refine r_istore_n (al' := [some (zr 0), some (zi p1), some (zi v1)]) C dX11_rule_15 rfl (by rw [hn]; decide) rfl ?_
      refine r_aload_n C dX11_rule_16 rfl rfl ?_
      refine r_iload_n C dX11_rule_17 rfl rfl ?_
      refine q_puti C clX11 kd_0 (k := 14) (by decide) flX11_107 rfl dX11_rule_18 rfl rfl (fun M2 => ?_)
      refine r_aload_n C dX11_rule_21 rfl rfl ?_
      refine q_callVv (av := []) (rest := []) C (tX11_refresh  M2) lkX11_145 kd_0 rfl rfl rfl (Nat.le_of_ble_eq_true rfl) ⟨by decide, by decide⟩ dX11_rule_22 (fun q3 _ => ?_)
      refine r_iload_n C dX11_rule_25 rfl rfl ?_
      exact r_ireturn C dX11_rule_26 rfl
    · refine r_iconst C dX11_rule_9 (by decide) ?_
      exact r_ireturn C dX11_rule_10 rfl
set_option maxRecDepth 100000 in
set_option maxHeartbeats 4000000 in
theorem tX11_isRange (p1 : Int) (p2 : Int) (M : Mem) : Cn yX11_isRange cX11_isRange 2 (some .boolean) 0 0 [zi p1, zi p2] M ((fX11_isRange p1 p2 M).map oI) := by
  refine Cn_mk (own := RX11) rfl (by decide) (Nat.le_of_ble_eq_true rfl) [some (zi p1), some (zi p2)] rfl (fun G C hn => ?_)
  unfold fX11_isRange
  refine r_iload_n C dX11_isRange_0 rfl rfl ?_
  refine r_join (γ := Int) (pcJ := fun _ => 21) (al' := fun q1 => [none, none]) (st' := fun q1 => [zi q1]) (M' := fun q1 => M) ?_ ?_
  · intro q1
    exact r_zreturn C dX11_isRange_21 rfl
  · intro hJq1
    refine q_if_lt (tgt := 20) C dX11_isRange_1 (by decide) (fun _ => ?_) (fun _ => ?_)
    · refine r_iconst C dX11_isRange_20 (by decide) ?_
      refine r_less [false, false] rfl ?_
      exact hJq1 0
    · refine r_iload_n C dX11_isRange_4 rfl rfl ?_
      refine r_iload_n C dX11_isRange_5 rfl rfl ?_
      refine q_icmp_gt (tgt := 20) C dX11_isRange_6 (by decide) (fun _ => ?_) (fun _ => ?_)
      · refine r_iconst C dX11_isRange_20 (by decide) ?_
        refine r_less [false, false] rfl ?_
        exact hJq1 0
      · refine r_iload_n C dX11_isRange_9 rfl rfl ?_
        refine r_sipush C dX11_isRange_10 (by decide) ?_
        refine q_icmp_gt (tgt := 20) C dX11_isRange_13 (by decide) (fun _ => ?_) (fun _ => ?_)
        · refine r_iconst C dX11_isRange_20 (by decide) ?_
          refine r_less [false, false] rfl ?_
          exact hJq1 0
        · refine r_iconst C dX11_isRange_16 (by decide) ?_
          refine r_goto (tgt := 21) C dX11_isRange_17 (by decide) ?_
          refine r_less [false, false] rfl ?_
          exact hJq1 1
set_option maxRecDepth 100000 in
set_option maxHeartbeats 4000000 in
theorem tX0_liesWithin (p1 : Int) (p2 : Int) (p3 : Int) (M : Mem) : Cn yX0_liesWithin cX0_liesWithin 6 (some .boolean) 0 0 [zr 51, zi p1, zi p2, zi p3] M ((fX0_liesWithin p1 p2 p3 M).map oI) := by
  refine Cn_mk (own := RX0) rfl (by decide) (Nat.le_of_ble_eq_true rfl) [some (zr 51), some (zi p1), some (zi p2), some (zi p3), none, none] rfl (fun G C hn => ?_)
  unfold fX0_liesWithin
  refine r_iconst C dX0_liesWithin_0 (by decide) ?_
  refine r_istore (al' := [some (zr 51), some (zi p1), some (zi p2), some (zi p3), some (zi 0), none]) C dX0_liesWithin_1 (by rw [hn]; decide) rfl ?_
  refine r_lpr (S := Int) (X := Unit) (pcX := 42) (AL := fun s1 => [some (zr 51), some (zi p1), some (zi p2), some (zi p3), some (zi s1), none]) (MM := fun s1 => M) (AX := fun q3 => [none, none, none, none, none, none]) (MX := fun q3 => M) ?_ ?_ 0
  · intro q3
    refine r_iconst C dX0_liesWithin_42 (by decide) ?_
    exact r_zreturn C dX0_liesWithin_43 rfl
  · intro gs1 hCs1 hXs1 s1
    unfold fX0_liesWithin_b1
    refine r_iload C dX0_liesWithin_3 rfl ?_
    refine r_iconst C dX0_liesWithin_5 (by decide) ?_
    refine q_icmp_ge (tgt := 42) C dX0_liesWithin_6 (by decide) (fun _ => ?_) (fun _ => ?_)
    · refine r_less [false, false, false, false, false, false] rfl ?_
      exact hXs1 ()
    · refine r_aload_n C dX0_liesWithin_9 rfl rfl ?_
      refine r_getp C clX0 kd_51 (k := 2) (by decide) flX0_18 dX0_liesWithin_10 pt_51_2 ?_
      refine r_iconst C dX0_liesWithin_13 (by decide) ?_
      refine r_iload_n C dX0_liesWithin_14 rfl rfl ?_
      refine r_imul C dX0_liesWithin_15 ?_
      refine r_iload C dX0_liesWithin_16 rfl ?_
      refine r_iadd C dX0_liesWithin_18 ?_
      refine r_iaload C dX0_liesWithin_19 (fun v2 _ => ?_)
      refine r_istore (al' := [some (zr 51), some (zi p1), some (zi p2), some (zi p3), some (zi s1), some (zi v2)]) C dX0_liesWithin_20 (by rw [hn]; decide) rfl ?_
      refine r_iload C dX0_liesWithin_22 rfl ?_
      refine r_iload_n C dX0_liesWithin_24 rfl rfl ?_
      refine q_icmp_lt (tgt := 34) C dX0_liesWithin_25 (by decide) (fun _ => ?_) (fun _ => ?_)
      · refine r_iconst C dX0_liesWithin_34 (by decide) ?_
        exact r_zreturnB C dX0_liesWithin_35 rfl
      · refine r_iload C dX0_liesWithin_28 rfl ?_
        refine r_iload_n C dX0_liesWithin_30 rfl rfl ?_
        refine q_icmp_le (tgt := 36) C dX0_liesWithin_31 (by decide) (fun _ => ?_) (fun _ => ?_)
        · refine r_iinc (al' := [some (zr 51), some (zi p1), some (zi p2), some (zi p3), some (zi (w32 (s1 + 1))), some (zi v2)]) C dX0_liesWithin_36 rfl (by rw [hn]; decide) rfl ?_
          refine r_goto (tgt := 3) C dX0_liesWithin_39 (by decide) ?_
          refine r_less [true, true, true, true, true, false] rfl ?_
          exact hCs1 (w32 (s1 + 1))
        · refine r_iconst C dX0_liesWithin_34 (by decide) ?_
          exact r_zreturnB C dX0_liesWithin_35 rfl
set_option maxRecDepth 100000 in
set_option maxHeartbeats 4000000 in
theorem tX11_narrow (p1 : Int) (p2 : Int) (p3 : Int) (M : Mem) : Cn yX11_narrow cX11_narrow 4 (some .boolean) 6 141 [zr 0, zi p1, zi p2, zi p3] M ((fX11_narrow p1 p2 p3 M).map oI) := by
  refine Cn_mk (own := RX11) rfl (by decide) (Nat.le_of_ble_eq_true rfl) [some (zr 0), some (zi p1), some (zi p2), some (zi p3)] rfl (fun G C hn => ?_)
  unfold fX11_narrow
  refine r_aload_n C dX11_narrow_0 rfl rfl ?_
  refine r_iload_n C dX11_narrow_1 rfl rfl ?_
  refine q_callVi (av := [zi p1]) (rest := []) C (tX11_isInput p1 M) lkX11_174 kd_0 rfl rfl rfl (Nat.le_of_ble_eq_true rfl) ⟨by decide, by decide⟩ dX11_narrow_2 (fun q1 _ => ?_)
  refine q_if_eq (tgt := 29) C dX11_narrow_5 (by decide) (fun _ => ?_) (fun _ => ?_)
  · refine r_iconst C dX11_narrow_29 (by decide) ?_
    exact r_zreturn C dX11_narrow_30 rfl
  · refine r_iload_n C dX11_narrow_8 rfl rfl ?_
    refine r_iload_n C dX11_narrow_9 rfl rfl ?_
    refine q_callSi (av := [zi p2, zi p3]) (rest := []) C (tX11_isRange p2 p3 q1.2) lkX11_191 rfl rfl (Nat.le_of_ble_eq_true rfl) ⟨by decide, by decide⟩ dX11_narrow_10 (fun q2 _ => ?_)
    refine q_if_eq (tgt := 29) C dX11_narrow_13 (by decide) (fun _ => ?_) (fun _ => ?_)
    · refine r_iconst C dX11_narrow_29 (by decide) ?_
      exact r_zreturn C dX11_narrow_30 rfl
    · refine r_aload_n C dX11_narrow_16 rfl rfl ?_
      refine r_getp C clX11 kd_0 (k := 4) (by decide) flX11_44 dX11_narrow_17 pt_0_4 ?_
      refine r_iload_n C dX11_narrow_20 rfl rfl ?_
      refine r_iload_n C dX11_narrow_21 rfl rfl ?_
      refine r_iload_n C dX11_narrow_22 rfl rfl ?_
      refine q_callVi (av := [zi p1, zi p2, zi p3]) (rest := []) C (tX0_liesWithin p1 p2 p3 q2.2) lkX11_195 kd_51 rfl rfl rfl (Nat.le_of_ble_eq_true rfl) ⟨by decide, by decide⟩ dX11_narrow_23 (fun q3 _ => ?_)
      refine q_if_ne (tgt := 31) C dX11_narrow_26 (by decide) (fun _ => ?_) (fun _ => ?_)
      · refine r_aload_n C dX11_narrow_31 rfl rfl ?_
        refine r_getp C clX11 kd_0 (k := 4) (by decide) flX11_44 dX11_narrow_32 pt_0_4 ?_
        refine r_getp C clX0 kd_51 (k := 0) (by decide) flX11_148 dX11_narrow_35 pt_51_0 ?_
        refine r_iload_n C dX11_narrow_38 rfl rfl ?_
        refine r_iload_n C dX11_narrow_39 rfl rfl ?_
        refine r_iastore C dX11_narrow_40 (fun M4 _ => ?_)
        refine r_aload_n C dX11_narrow_41 rfl rfl ?_
        refine r_getp C clX11 kd_0 (k := 4) (by decide) flX11_44 dX11_narrow_42 pt_0_4 ?_
        refine r_getp C clX0 kd_51 (k := 1) (by decide) flX11_152 dX11_narrow_45 pt_51_1 ?_
        refine r_iload_n C dX11_narrow_48 rfl rfl ?_
        refine r_iload_n C dX11_narrow_49 rfl rfl ?_
        refine r_iastore C dX11_narrow_50 (fun M5 _ => ?_)
        refine r_aload_n C dX11_narrow_51 rfl rfl ?_
        refine q_callVv (av := []) (rest := []) C (tX11_refresh  M5) lkX11_145 kd_0 rfl rfl rfl (Nat.le_of_ble_eq_true rfl) ⟨by decide, by decide⟩ dX11_narrow_52 (fun q6 _ => ?_)
        refine r_iconst C dX11_narrow_55 (by decide) ?_
        exact r_zreturn C dX11_narrow_56 rfl
      · refine r_iconst C dX11_narrow_29 (by decide) ?_
        exact r_zreturn C dX11_narrow_30 rfl
set_option maxRecDepth 100000 in
set_option maxHeartbeats 4000000 in
theorem tX11_input (p1 : Int) (p2 : Int) (M : Mem) : Cn yX11_input cX11_input 3 (some .int) 1 21 [zr 0, zi p1, zi p2] M ((fX11_input p1 p2 M).map oI) := by
  refine Cn_mk (own := RX11) rfl (by decide) (Nat.le_of_ble_eq_true rfl) [some (zr 0), some (zi p1), some (zi p2)] rfl (fun G C hn => ?_)
  unfold fX11_input
  refine r_aload_n C dX11_input_0 rfl rfl ?_
  refine r_iload_n C dX11_input_1 rfl rfl ?_
  refine q_callVi (av := [zi p1]) (rest := []) C (tX11_isInput p1 M) lkX11_174 kd_0 rfl rfl rfl (Nat.le_of_ble_eq_true rfl) ⟨by decide, by decide⟩ dX11_input_2 (fun q1 _ => ?_)
  refine q_if_ne (tgt := 10) C dX11_input_5 (by decide) (fun _ => ?_) (fun _ => ?_)
  · refine r_iload_n C dX11_input_10 rfl rfl ?_
    refine r_ite (fun hx0 => ?_) (fun hx0 => ?_)
    · refine r_sw 56 ?_ (fun J => ?_)
      · refine r_iload_n C dX11_input_56 rfl rfl ?_
        exact r_ireturn C dX11_input_57 rfl
      · skip
        exact r_tabIn (n := 0) C dX11_input_11 hx0 (by decide) (by decide) rfl (by decide) J
    refine r_ite (fun hx1 => ?_) (fun hx1 => ?_)
    · refine r_sw 58 ?_ (fun J => ?_)
      · refine r_aload_n C dX11_input_58 rfl rfl ?_
        refine r_getp C clX11 kd_0 (k := 4) (by decide) flX11_44 dX11_input_59 pt_0_4 ?_
        refine r_getp C clX0 kd_51 (k := 0) (by decide) flX11_148 dX11_input_62 pt_51_0 ?_
        refine r_iload_n C dX11_input_65 rfl rfl ?_
        refine r_iaload C dX11_input_66 (fun v2 _ => ?_)
        exact r_ireturn C dX11_input_67 rfl
      · skip
        exact r_tabIn (n := 1) C dX11_input_11 hx1 (by decide) (by decide) rfl (by decide) J
    refine r_ite (fun hx2 => ?_) (fun hx2 => ?_)
    · refine r_sw 68 ?_ (fun J => ?_)
      · refine r_aload_n C dX11_input_68 rfl rfl ?_
        refine r_getp C clX11 kd_0 (k := 4) (by decide) flX11_44 dX11_input_69 pt_0_4 ?_
        refine r_getp C clX0 kd_51 (k := 1) (by decide) flX11_152 dX11_input_72 pt_51_1 ?_
        refine r_iload_n C dX11_input_75 rfl rfl ?_
        refine r_iaload C dX11_input_76 (fun v3 _ => ?_)
        exact r_ireturn C dX11_input_77 rfl
      · skip
        exact r_tabIn (n := 2) C dX11_input_11 hx2 (by decide) (by decide) rfl (by decide) J
    refine r_ite (fun hx3 => ?_) (fun hx3 => ?_)
    · refine r_sw 78 ?_ (fun J => ?_)
      · refine r_aload_n C dX11_input_78 rfl rfl ?_
        refine r_getm C clX11 kd_0 (k := 13) (by decide) flX11_103 dX11_input_79 rfl (fun t4 _ ht4 => ?_)
        refine r_getp C clX3 (kd_t0 ht4) (k := 11) (by decide) flX11_184 dX11_input_82 (pt_t0_11 ht4) ?_
        refine r_iload_n C dX11_input_85 rfl rfl ?_
        refine r_zaload C dX11_input_86 (fun v5 _ => ?_)
        refine r_join (γ := Int) (pcJ := fun _ => 95) (al' := fun q6 => [none, none, none]) (st' := fun q6 => [zi q6]) (M' := fun q6 => q1.2) ?_ ?_
        · intro q6
          exact r_ireturn C dX11_input_95 rfl
        · intro hJq6
          refine q_if_eq (tgt := 94) C dX11_input_87 (by decide) (fun _ => ?_) (fun _ => ?_)
          · refine r_iconst C dX11_input_94 (by decide) ?_
            refine r_less [false, false, false] rfl ?_
            exact hJq6 0
          · refine r_iconst C dX11_input_90 (by decide) ?_
            refine r_goto (tgt := 95) C dX11_input_91 (by decide) ?_
            refine r_less [false, false, false] rfl ?_
            exact hJq6 1
      · skip
        exact r_tabIn (n := 3) C dX11_input_11 hx3 (by decide) (by decide) rfl (by decide) J
    refine r_ite (fun hx4 => ?_) (fun hx4 => ?_)
    · refine r_sw 96 ?_ (fun J => ?_)
      · refine r_aload_n C dX11_input_96 rfl rfl ?_
        refine r_getp C clX11 kd_0 (k := 4) (by decide) flX11_44 dX11_input_97 pt_0_4 ?_
        refine r_getp C clX0 kd_51 (k := 2) (by decide) flX11_181 dX11_input_100 pt_51_2 ?_
        refine r_iconst C dX11_input_103 (by decide) ?_
        refine r_iload_n C dX11_input_104 rfl rfl ?_
        refine r_imul C dX11_input_105 ?_
        refine r_iload_n C dX11_input_106 rfl rfl ?_
        refine r_iadd C dX11_input_107 ?_
        refine r_iconst C dX11_input_108 (by decide) ?_
        refine r_isub C dX11_input_109 ?_
        refine r_iaload C dX11_input_110 (fun v7 _ => ?_)
        exact r_ireturn C dX11_input_111 rfl
      · rcases hx4 with hx4 | hx4 | hx4 | hx4
        · exact r_tabIn (n := 4) C dX11_input_11 hx4 (by decide) (by decide) rfl (by decide) J
        · exact r_tabIn (n := 5) C dX11_input_11 hx4 (by decide) (by decide) rfl (by decide) J
        · exact r_tabIn (n := 6) C dX11_input_11 hx4 (by decide) (by decide) rfl (by decide) J
        · exact r_tabIn (n := 7) C dX11_input_11 hx4 (by decide) (by decide) rfl (by decide) J
    refine r_tabOut (tgt := 112) C dX11_input_11 (by omega) (by decide) ?_
    refine r_iconst C dX11_input_112 (by decide) ?_
    exact r_ireturn C dX11_input_113 rfl
  · refine r_iconst C dX11_input_8 (by decide) ?_
    exact r_ireturn C dX11_input_9 rfl
set_option maxRecDepth 100000 in
set_option maxHeartbeats 4000000 in
theorem tX11_isValue (p1 : Int) (M : Mem) : Cn yX11_isValue cX11_isValue 2 (some .boolean) 0 0 [zr 0, zi p1] M ((fX11_isValue p1 M).map oI) := by
  refine Cn_mk (own := RX11) rfl (by decide) (Nat.le_of_ble_eq_true rfl) [some (zr 0), some (zi p1)] rfl (fun G C hn => ?_)
  unfold fX11_isValue
  refine r_iload_n C dX11_isValue_0 rfl rfl ?_
  refine r_join (γ := Int) (pcJ := fun _ => 20) (al' := fun q1 => [none, none]) (st' := fun q1 => [zi q1]) (M' := fun q1 => M) ?_ ?_
  · intro q1
    exact r_zreturn C dX11_isValue_20 rfl
  · intro hJq1
    refine q_if_lt (tgt := 19) C dX11_isValue_1 (by decide) (fun _ => ?_) (fun _ => ?_)
    · refine r_iconst C dX11_isValue_19 (by decide) ?_
      refine r_less [false, false] rfl ?_
      exact hJq1 0
    · refine r_iload_n C dX11_isValue_4 rfl rfl ?_
      refine r_aload_n C dX11_isValue_5 rfl rfl ?_
      refine r_getp C clX11 kd_0 (k := 3) (by decide) flX11_37 dX11_isValue_6 pt_0_3 ?_
      refine q_geti C clX9 kd_44 (k := 0) (by decide) flX11_261 dX11_isValue_9 (kz := 0) rfl (by decide) ?_
      refine q_icmp_ge (tgt := 19) C dX11_isValue_12 (by decide) (fun _ => ?_) (fun _ => ?_)
      · refine r_iconst C dX11_isValue_19 (by decide) ?_
        refine r_less [false, false] rfl ?_
        exact hJq1 0
      · refine r_iconst C dX11_isValue_15 (by decide) ?_
        refine r_goto (tgt := 20) C dX11_isValue_16 (by decide) ?_
        refine r_less [false, false] rfl ?_
        exact hJq1 1
set_option maxRecDepth 100000 in
set_option maxHeartbeats 4000000 in
theorem tX11_value (p1 : Int) (p2 : Int) (M : Mem) : Cn yX11_value cX11_value 3 (some .int) 1 21 [zr 0, zi p1, zi p2] M ((fX11_value p1 p2 M).map oI) := by
  refine Cn_mk (own := RX11) rfl (by decide) (Nat.le_of_ble_eq_true rfl) [some (zr 0), some (zi p1), some (zi p2)] rfl (fun G C hn => ?_)
  unfold fX11_value
  refine r_aload_n C dX11_value_0 rfl rfl ?_
  refine r_iload_n C dX11_value_1 rfl rfl ?_
  refine q_callVi (av := [zi p1]) (rest := []) C (tX11_isValue p1 M) lkX11_199 kd_0 rfl rfl rfl (Nat.le_of_ble_eq_true rfl) ⟨by decide, by decide⟩ dX11_value_2 (fun q1 _ => ?_)
  refine q_if_ne (tgt := 11) C dX11_value_5 (by decide) (fun _ => ?_) (fun _ => ?_)
  · refine r_iload_n C dX11_value_11 rfl rfl ?_
    refine r_ite (fun hx0 => ?_) (fun hx0 => ?_)
    · refine r_sw 72 ?_ (fun J => ?_)
      · refine r_aload_n C dX11_value_72 rfl rfl ?_
        refine r_getp C clX11 kd_0 (k := 3) (by decide) flX11_37 dX11_value_73 pt_0_3 ?_
        refine r_getp C clX9 kd_44 (k := 1) (by decide) flX11_202 dX11_value_76 pt_44_1 ?_
        refine r_iload_n C dX11_value_79 rfl rfl ?_
        refine r_iaload C dX11_value_80 (fun v2 _ => ?_)
        exact r_ireturn C dX11_value_81 rfl
      · skip
        exact r_tabIn (n := 0) C dX11_value_12 hx0 (by decide) (by decide) rfl (by decide) J
    refine r_ite (fun hx1 => ?_) (fun hx1 => ?_)
    · refine r_sw 82 ?_ (fun J => ?_)
      · refine r_aload_n C dX11_value_82 rfl rfl ?_
        refine r_getp C clX11 kd_0 (k := 3) (by decide) flX11_37 dX11_value_83 pt_0_3 ?_
        refine r_getp C clX9 kd_44 (k := 2) (by decide) flX11_205 dX11_value_86 pt_44_2 ?_
        refine r_iconst C dX11_value_89 (by decide) ?_
        refine r_iload_n C dX11_value_90 rfl rfl ?_
        refine r_imul C dX11_value_91 ?_
        refine r_iload_n C dX11_value_92 rfl rfl ?_
        refine r_iadd C dX11_value_93 ?_
        refine r_iconst C dX11_value_94 (by decide) ?_
        refine r_isub C dX11_value_95 ?_
        refine r_iaload C dX11_value_96 (fun v3 _ => ?_)
        exact r_ireturn C dX11_value_97 rfl
      · rcases hx1 with hx1 | hx1 | hx1
        · exact r_tabIn (n := 1) C dX11_value_12 hx1 (by decide) (by decide) rfl (by decide) J
        · exact r_tabIn (n := 2) C dX11_value_12 hx1 (by decide) (by decide) rfl (by decide) J
        · exact r_tabIn (n := 3) C dX11_value_12 hx1 (by decide) (by decide) rfl (by decide) J
    refine r_ite (fun hx2 => ?_) (fun hx2 => ?_)
    · refine r_sw 98 ?_ (fun J => ?_)
      · refine r_aload_n C dX11_value_98 rfl rfl ?_
        refine r_getp C clX11 kd_0 (k := 3) (by decide) flX11_37 dX11_value_99 pt_0_3 ?_
        refine r_getp C clX9 kd_44 (k := 3) (by decide) flX11_208 dX11_value_102 pt_44_3 ?_
        refine r_iload_n C dX11_value_105 rfl rfl ?_
        refine r_zaload C dX11_value_106 (fun v4 _ => ?_)
        refine r_join (γ := Int) (pcJ := fun _ => 115) (al' := fun q5 => [none, none, none]) (st' := fun q5 => [zi q5]) (M' := fun q5 => q1.2) ?_ ?_
        · intro q5
          exact r_ireturn C dX11_value_115 rfl
        · intro hJq5
          refine q_if_eq (tgt := 114) C dX11_value_107 (by decide) (fun _ => ?_) (fun _ => ?_)
          · refine r_iconst C dX11_value_114 (by decide) ?_
            refine r_less [false, false, false] rfl ?_
            exact hJq5 0
          · refine r_iconst C dX11_value_110 (by decide) ?_
            refine r_goto (tgt := 115) C dX11_value_111 (by decide) ?_
            refine r_less [false, false, false] rfl ?_
            exact hJq5 1
      · skip
        exact r_tabIn (n := 4) C dX11_value_12 hx2 (by decide) (by decide) rfl (by decide) J
    refine r_ite (fun hx3 => ?_) (fun hx3 => ?_)
    · refine r_sw 116 ?_ (fun J => ?_)
      · refine r_aload_n C dX11_value_116 rfl rfl ?_
        refine r_getp C clX11 kd_0 (k := 3) (by decide) flX11_37 dX11_value_117 pt_0_3 ?_
        refine r_getp C clX9 kd_44 (k := 4) (by decide) flX11_211 dX11_value_120 pt_44_4 ?_
        refine r_iload_n C dX11_value_123 rfl rfl ?_
        refine r_zaload C dX11_value_124 (fun v6 _ => ?_)
        refine r_join (γ := Int) (pcJ := fun _ => 133) (al' := fun q7 => [none, none, none]) (st' := fun q7 => [zi q7]) (M' := fun q7 => q1.2) ?_ ?_
        · intro q7
          exact r_ireturn C dX11_value_133 rfl
        · intro hJq7
          refine q_if_eq (tgt := 132) C dX11_value_125 (by decide) (fun _ => ?_) (fun _ => ?_)
          · refine r_iconst C dX11_value_132 (by decide) ?_
            refine r_less [false, false, false] rfl ?_
            exact hJq7 0
          · refine r_iconst C dX11_value_128 (by decide) ?_
            refine r_goto (tgt := 133) C dX11_value_129 (by decide) ?_
            refine r_less [false, false, false] rfl ?_
            exact hJq7 1
      · skip
        exact r_tabIn (n := 5) C dX11_value_12 hx3 (by decide) (by decide) rfl (by decide) J
    refine r_ite (fun hx4 => ?_) (fun hx4 => ?_)
    · refine r_sw 134 ?_ (fun J => ?_)
      · refine r_aload_n C dX11_value_134 rfl rfl ?_
        refine r_getp C clX11 kd_0 (k := 6) (by decide) flX11_62 dX11_value_135 pt_0_6 ?_
        refine r_iload_n C dX11_value_138 rfl rfl ?_
        refine q_callVi (av := [zi p1]) (rest := []) C (tX2_isKnown 62 (Or.inl rfl) p1 q1.2) lkX11_214 kd_62 rfl rfl rfl (Nat.le_of_ble_eq_true rfl) ⟨by decide, by decide⟩ dX11_value_139 (fun q8 _ => ?_)
        refine r_join (γ := Int) (pcJ := fun _ => 150) (al' := fun q9 => [none, none, none]) (st' := fun q9 => [zi q9]) (M' := fun q9 => q8.2) ?_ ?_
        · intro q9
          exact r_ireturn C dX11_value_150 rfl
        · intro hJq9
          refine q_if_eq (tgt := 149) C dX11_value_142 (by decide) (fun _ => ?_) (fun _ => ?_)
          · refine r_iconst C dX11_value_149 (by decide) ?_
            refine r_less [false, false, false] rfl ?_
            exact hJq9 0
          · refine r_iconst C dX11_value_145 (by decide) ?_
            refine r_goto (tgt := 150) C dX11_value_146 (by decide) ?_
            refine r_less [false, false, false] rfl ?_
            exact hJq9 1
      · skip
        exact r_tabIn (n := 6) C dX11_value_12 hx4 (by decide) (by decide) rfl (by decide) J
    refine r_ite (fun hx5 => ?_) (fun hx5 => ?_)
    · refine r_sw 151 ?_ (fun J => ?_)
      · refine r_aload_n C dX11_value_151 rfl rfl ?_
        refine r_getp C clX11 kd_0 (k := 7) (by decide) flX11_71 dX11_value_152 pt_0_7 ?_
        refine r_iload_n C dX11_value_155 rfl rfl ?_
        refine q_callVi (av := [zi p1]) (rest := []) C (tX5_isNeeded 62 (Or.inl rfl) p1 q1.2) lkX11_217 kd_66 rfl rfl rfl (Nat.le_of_ble_eq_true rfl) ⟨by decide, by decide⟩ dX11_value_156 (fun q10 _ => ?_)
        refine r_join (γ := Int) (pcJ := fun _ => 167) (al' := fun q11 => [none, none, none]) (st' := fun q11 => [zi q11]) (M' := fun q11 => q10.2) ?_ ?_
        · intro q11
          exact r_ireturn C dX11_value_167 rfl
        · intro hJq11
          refine q_if_eq (tgt := 166) C dX11_value_159 (by decide) (fun _ => ?_) (fun _ => ?_)
          · refine r_iconst C dX11_value_166 (by decide) ?_
            refine r_less [false, false, false] rfl ?_
            exact hJq11 0
          · refine r_iconst C dX11_value_162 (by decide) ?_
            refine r_goto (tgt := 167) C dX11_value_163 (by decide) ?_
            refine r_less [false, false, false] rfl ?_
            exact hJq11 1
      · skip
        exact r_tabIn (n := 7) C dX11_value_12 hx5 (by decide) (by decide) rfl (by decide) J
    refine r_ite (fun hx6 => ?_) (fun hx6 => ?_)
    · refine r_sw 168 ?_ (fun J => ?_)
      · refine r_aload_n C dX11_value_168 rfl rfl ?_
        refine r_getp C clX11 kd_0 (k := 7) (by decide) flX11_71 dX11_value_169 pt_0_7 ?_
        refine r_getp C clX5 kd_66 (k := 2) (by decide) flX11_220 dX11_value_172 pt_66_2 ?_
        refine r_iload_n C dX11_value_175 rfl rfl ?_
        refine r_iaload C dX11_value_176 (fun v12 _ => ?_)
        exact r_ireturn C dX11_value_177 rfl
      · skip
        exact r_tabIn (n := 8) C dX11_value_12 hx6 (by decide) (by decide) rfl (by decide) J
    refine r_ite (fun hx7 => ?_) (fun hx7 => ?_)
    · refine r_sw 178 ?_ (fun J => ?_)
      · refine r_aload_n C dX11_value_178 rfl rfl ?_
        refine r_getp C clX11 kd_0 (k := 7) (by decide) flX11_71 dX11_value_179 pt_0_7 ?_
        refine r_getp C clX5 kd_66 (k := 11) (by decide) flX11_223 dX11_value_182 pt_66_11 ?_
        refine r_iload_n C dX11_value_185 rfl rfl ?_
        refine r_iaload C dX11_value_186 (fun v13 _ => ?_)
        exact r_ireturn C dX11_value_187 rfl
      · skip
        exact r_tabIn (n := 9) C dX11_value_12 hx7 (by decide) (by decide) rfl (by decide) J
    refine r_ite (fun hx8 => ?_) (fun hx8 => ?_)
    · refine r_sw 188 ?_ (fun J => ?_)
      · refine r_aload_n C dX11_value_188 rfl rfl ?_
        refine r_getp C clX11 kd_0 (k := 6) (by decide) flX11_62 dX11_value_189 pt_0_6 ?_
        refine r_getp C clX2 kd_62 (k := 3) (by decide) flX11_226 dX11_value_192 pt_62_3 ?_
        refine r_iload_n C dX11_value_195 rfl rfl ?_
        refine r_iaload C dX11_value_196 (fun v14 _ => ?_)
        exact r_ireturn C dX11_value_197 rfl
      · skip
        exact r_tabIn (n := 10) C dX11_value_12 hx8 (by decide) (by decide) rfl (by decide) J
    refine r_tabOut (tgt := 198) C dX11_value_12 (by omega) (by decide) ?_
    refine r_bipush C dX11_value_198 (by decide) ?_
    exact r_ireturn C dX11_value_200 rfl
  · refine r_bipush C dX11_value_8 (by decide) ?_
    exact r_ireturn C dX11_value_10 rfl
set_option maxRecDepth 100000 in
set_option maxHeartbeats 4000000 in
theorem tX11_range (p1 : Int) (p2 : Int) (M : Mem) : Cn yX11_range cX11_range 3 (some .int) 1 21 [zr 0, zi p1, zi p2] M ((fX11_range p1 p2 M).map oI) := by
  refine Cn_mk (own := RX11) rfl (by decide) (Nat.le_of_ble_eq_true rfl) [some (zr 0), some (zi p1), some (zi p2)] rfl (fun G C hn => ?_)
  unfold fX11_range
  refine r_aload_n C dX11_range_0 rfl rfl ?_
  refine r_iload_n C dX11_range_1 rfl rfl ?_
  refine q_callVi (av := [zi p1]) (rest := []) C (tX11_isValue p1 M) lkX11_199 kd_0 rfl rfl rfl (Nat.le_of_ble_eq_true rfl) ⟨by decide, by decide⟩ dX11_range_2 (fun q1 _ => ?_)
  refine q_if_eq (tgt := 17) C dX11_range_5 (by decide) (fun _ => ?_) (fun _ => ?_)
  · refine r_ldc C kiX11_229 rfl dX11_range_17 ?_
    exact r_ireturn C dX11_range_19 rfl
  · refine r_iload_n C dX11_range_8 rfl rfl ?_
    refine q_if_lt (tgt := 17) C dX11_range_9 (by decide) (fun _ => ?_) (fun _ => ?_)
    · refine r_ldc C kiX11_229 rfl dX11_range_17 ?_
      exact r_ireturn C dX11_range_19 rfl
    · refine r_iload_n C dX11_range_12 rfl rfl ?_
      refine r_iconst C dX11_range_13 (by decide) ?_
      refine q_icmp_le (tgt := 20) C dX11_range_14 (by decide) (fun _ => ?_) (fun _ => ?_)
      · refine r_iload_n C dX11_range_20 rfl rfl ?_
        refine r_join (γ := Int) (pcJ := fun _ => 45) (al' := fun q4 => [none, none, none]) (st' := fun q4 => [zi q4]) (M' := fun q4 => q1.2) ?_ ?_
        · intro q4
          exact r_ireturn C dX11_range_45 rfl
        · intro hJq4
          refine q_if_ne (tgt := 36) C dX11_range_21 (by decide) (fun _ => ?_) (fun _ => ?_)
          · refine r_aload_n C dX11_range_36 rfl rfl ?_
            refine r_getp C clX11 kd_0 (k := 6) (by decide) flX11_62 dX11_range_37 pt_0_6 ?_
            refine r_getp C clX2 kd_62 (k := 2) (by decide) flX11_233 dX11_range_40 pt_62_2 ?_
            refine r_iload_n C dX11_range_43 rfl rfl ?_
            refine r_iaload C dX11_range_44 (fun v2 _ => ?_)
            refine r_less [false, false, false] rfl ?_
            exact hJq4 v2
          · refine r_aload_n C dX11_range_24 rfl rfl ?_
            refine r_getp C clX11 kd_0 (k := 6) (by decide) flX11_62 dX11_range_25 pt_0_6 ?_
            refine r_getp C clX2 kd_62 (k := 1) (by decide) flX11_230 dX11_range_28 pt_62_1 ?_
            refine r_iload_n C dX11_range_31 rfl rfl ?_
            refine r_iaload C dX11_range_32 (fun v3 _ => ?_)
            refine r_goto (tgt := 45) C dX11_range_33 (by decide) ?_
            refine r_less [false, false, false] rfl ?_
            exact hJq4 v3
      · refine r_ldc C kiX11_229 rfl dX11_range_17 ?_
        exact r_ireturn C dX11_range_19 rfl
set_option maxRecDepth 100000 in
set_option maxHeartbeats 4000000 in
theorem tJ9_floorMod_7cf53 (p1 : Int) (p2 : Int) (M : Mem) : Cn yJ9_floorMod_7cf53 cJ9_floorMod_7cf53 3 (some .int) 0 0 [zi p1, zi p2] M ((fJ9_floorMod_7cf53 p1 p2 M).map oI) := by
  refine Cn_mkF (own := RJ9) rfl (by decide +kernel) (Nat.le_of_ble_eq_true rfl) [some (zi p1), some (zi p2), none] rfl (fun G C hn => ?_)
  unfold fJ9_floorMod_7cf53
  refine r_iload_n C dJ9_floorMod_7cf53_0 rfl rfl ?_
  refine r_iload_n C dJ9_floorMod_7cf53_1 rfl rfl ?_
  refine r_guard (fun hz => ?_)
  refine r_irem C dJ9_floorMod_7cf53_2 hz ?_
  refine r_let (fun v1 _ => ?_)
  refine r_istore_n (al' := [some (zi p1), some (zi p2), some (zi v1)]) C dJ9_floorMod_7cf53_3 rfl (by rw [hn]; decide) rfl ?_
  refine r_iload_n C dJ9_floorMod_7cf53_4 rfl rfl ?_
  refine r_iload_n C dJ9_floorMod_7cf53_5 rfl rfl ?_
  refine r_ixor C dJ9_floorMod_7cf53_6 ?_
  refine q_if_ge (tgt := 18) C dJ9_floorMod_7cf53_7 (by decide) (fun _ => ?_) (fun _ => ?_)
  · refine r_iload_n C dJ9_floorMod_7cf53_18 rfl rfl ?_
    exact r_ireturn C dJ9_floorMod_7cf53_19 rfl
  · refine r_iload_n C dJ9_floorMod_7cf53_10 rfl rfl ?_
    refine q_if_eq (tgt := 18) C dJ9_floorMod_7cf53_11 (by decide) (fun _ => ?_) (fun _ => ?_)
    · refine r_iload_n C dJ9_floorMod_7cf53_18 rfl rfl ?_
      exact r_ireturn C dJ9_floorMod_7cf53_19 rfl
    · refine r_iload_n C dJ9_floorMod_7cf53_14 rfl rfl ?_
      refine r_iload_n C dJ9_floorMod_7cf53_15 rfl rfl ?_
      refine r_iadd C dJ9_floorMod_7cf53_16 ?_
      exact r_ireturn C dJ9_floorMod_7cf53_17 rfl
set_option maxRecDepth 100000 in
set_option maxHeartbeats 4000000 in
theorem tX11_made (p1 : Int) (p2 : Int) (p3 : Int) (p4 : Int) (M : Mem) : Cn yX11_made cX11_made 5 (some .int) 2 40 [zi p1, zi p2, zi p3, zi p4, zr 55] M ((fX11_made p1 p2 p3 p4 M).map oI) := by
  refine Cn_mk (own := RX11) rfl (by decide) (Nat.le_of_ble_eq_true rfl) [some (zi p1), some (zi p2), some (zi p3), some (zi p4), some (zr 55)] rfl (fun G C hn => ?_)
  unfold fX11_made
  refine r_iload_n C dX11_made_0 rfl rfl ?_
  refine r_ite (fun hx0 => ?_) (fun hx0 => ?_)
  · refine r_sw 64 ?_ (fun J => ?_)
    · refine r_iload_n C dX11_made_64 rfl rfl ?_
      refine r_i2l C dX11_made_65 ?_
      refine r_iload_n C dX11_made_66 rfl rfl ?_
      refine r_i2l C dX11_made_67 ?_
      refine r_ladd C dX11_made_68 ?_
      refine q_callSi (av := [zl (w64 (p2 + p3))]) (rest := []) C (tX11_held (w64 (p2 + p3)) M) lkX11_380 rfl rfl (Nat.le_of_ble_eq_true rfl) ⟨by decide, by decide⟩ dX11_made_69 (fun q1 _ => ?_)
      exact r_ireturn C dX11_made_72 rfl
    · skip
      exact r_tabIn (n := 2) C dX11_made_1 hx0 (by decide) (by decide) rfl (by decide) J
  refine r_ite (fun hx1 => ?_) (fun hx1 => ?_)
  · refine r_sw 73 ?_ (fun J => ?_)
    · refine r_iload_n C dX11_made_73 rfl rfl ?_
      refine r_i2l C dX11_made_74 ?_
      refine r_iload_n C dX11_made_75 rfl rfl ?_
      refine r_i2l C dX11_made_76 ?_
      refine r_lsub C dX11_made_77 ?_
      refine q_callSi (av := [zl (w64 (p2 - p3))]) (rest := []) C (tX11_held (w64 (p2 - p3)) M) lkX11_380 rfl rfl (Nat.le_of_ble_eq_true rfl) ⟨by decide, by decide⟩ dX11_made_78 (fun q2 _ => ?_)
      exact r_ireturn C dX11_made_81 rfl
    · skip
      exact r_tabIn (n := 3) C dX11_made_1 hx1 (by decide) (by decide) rfl (by decide) J
  refine r_ite (fun hx2 => ?_) (fun hx2 => ?_)
  · refine r_sw 82 ?_ (fun J => ?_)
    · refine r_iload_n C dX11_made_82 rfl rfl ?_
      refine r_i2l C dX11_made_83 ?_
      refine r_iload_n C dX11_made_84 rfl rfl ?_
      refine r_i2l C dX11_made_85 ?_
      refine r_lmul C dX11_made_86 ?_
      refine q_callSi (av := [zl (w64 (p2 * p3))]) (rest := []) C (tX11_held (w64 (p2 * p3)) M) lkX11_380 rfl rfl (Nat.le_of_ble_eq_true rfl) ⟨by decide, by decide⟩ dX11_made_87 (fun q3 _ => ?_)
      exact r_ireturn C dX11_made_90 rfl
    · skip
      exact r_tabIn (n := 4) C dX11_made_1 hx2 (by decide) (by decide) rfl (by decide) J
  refine r_ite (fun hx3 => ?_) (fun hx3 => ?_)
  · refine r_sw 91 ?_ (fun J => ?_)
    · refine r_iload_n C dX11_made_91 rfl rfl ?_
      refine r_iload_n C dX11_made_92 rfl rfl ?_
      refine r_imin C mmin_iX11_383 jm_mini_1 jm_mini_2 jm_mini_3 (by decide) (Nat.le_of_ble_eq_true rfl) dX11_made_93 ?_
      exact r_ireturn C dX11_made_96 rfl
    · rcases hx3 with hx3 | hx3
      · exact r_tabIn (n := 5) C dX11_made_1 hx3 (by decide) (by decide) rfl (by decide) J
      · exact r_tabIn (n := 10) C dX11_made_1 hx3 (by decide) (by decide) rfl (by decide) J
  refine r_ite (fun hx4 => ?_) (fun hx4 => ?_)
  · refine r_sw 97 ?_ (fun J => ?_)
    · refine r_iload_n C dX11_made_97 rfl rfl ?_
      refine r_iload_n C dX11_made_98 rfl rfl ?_
      refine r_imax C mmax_iX11_386 jm_maxi_1 jm_maxi_2 jm_maxi_3 (by decide) (Nat.le_of_ble_eq_true rfl) dX11_made_99 ?_
      exact r_ireturn C dX11_made_102 rfl
    · rcases hx4 with hx4 | hx4
      · exact r_tabIn (n := 6) C dX11_made_1 hx4 (by decide) (by decide) rfl (by decide) J
      · exact r_tabIn (n := 11) C dX11_made_1 hx4 (by decide) (by decide) rfl (by decide) J
  refine r_ite (fun hx5 => ?_) (fun hx5 => ?_)
  · refine r_sw 103 ?_ (fun J => ?_)
    · refine r_aload C dX11_made_103 rfl ?_
      refine r_iload_n C dX11_made_105 rfl rfl ?_
      refine r_bipush C dX11_made_106 (by decide) ?_
      refine q_callSi (av := [zi p2, zi 16]) (rest := [zr 55]) C (tJ9_floorMod_7cf53 p2 16 M) lkX11_388 rfl rfl (Nat.le_of_ble_eq_true rfl) ⟨by decide, by decide⟩ dX11_made_108 (fun q4 _ => ?_)
      refine r_iaload C dX11_made_111 (fun v5 _ => ?_)
      exact r_ireturn C dX11_made_112 rfl
    · skip
      exact r_tabIn (n := 7) C dX11_made_1 hx5 (by decide) (by decide) rfl (by decide) J
  refine r_ite (fun hx6 => ?_) (fun hx6 => ?_)
  · refine r_sw 113 ?_ (fun J => ?_)
    · refine r_iload_n C dX11_made_113 rfl rfl ?_
      refine r_iload_n C dX11_made_114 rfl rfl ?_
      refine r_join (γ := Int) (pcJ := fun _ => 123) (al' := fun q6 => [none, none, none, none, none]) (st' := fun q6 => [zi q6]) (M' := fun q6 => M) ?_ ?_
      · intro q6
        exact r_ireturn C dX11_made_123 rfl
      · intro hJq6
        refine q_icmp_ge (tgt := 122) C dX11_made_115 (by decide) (fun _ => ?_) (fun _ => ?_)
        · refine r_iconst C dX11_made_122 (by decide) ?_
          refine r_less [false, false, false, false, false] rfl ?_
          exact hJq6 0
        · refine r_iconst C dX11_made_118 (by decide) ?_
          refine r_goto (tgt := 123) C dX11_made_119 (by decide) ?_
          refine r_less [false, false, false, false, false] rfl ?_
          exact hJq6 1
    · skip
      exact r_tabIn (n := 8) C dX11_made_1 hx6 (by decide) (by decide) rfl (by decide) J
  refine r_ite (fun hx7 => ?_) (fun hx7 => ?_)
  · refine r_sw 124 ?_ (fun J => ?_)
    · refine r_iload_n C dX11_made_124 rfl rfl ?_
      refine r_iload_n C dX11_made_125 rfl rfl ?_
      refine r_join (γ := Int) (pcJ := fun _ => 134) (al' := fun q7 => [none, none, none, none, none]) (st' := fun q7 => [zi q7]) (M' := fun q7 => M) ?_ ?_
      · intro q7
        exact r_ireturn C dX11_made_134 rfl
      · intro hJq7
        refine q_icmp_ne (tgt := 133) C dX11_made_126 (by decide) (fun _ => ?_) (fun _ => ?_)
        · refine r_iconst C dX11_made_133 (by decide) ?_
          refine r_less [false, false, false, false, false] rfl ?_
          exact hJq7 0
        · refine r_iconst C dX11_made_129 (by decide) ?_
          refine r_goto (tgt := 134) C dX11_made_130 (by decide) ?_
          refine r_less [false, false, false, false, false] rfl ?_
          exact hJq7 1
    · skip
      exact r_tabIn (n := 9) C dX11_made_1 hx7 (by decide) (by decide) rfl (by decide) J
  refine r_ite (fun hx8 => ?_) (fun hx8 => ?_)
  · refine r_sw 135 ?_ (fun J => ?_)
    · refine r_iconst C dX11_made_135 (by decide) ?_
      refine r_iload_n C dX11_made_136 rfl rfl ?_
      refine r_isub C dX11_made_137 ?_
      exact r_ireturn C dX11_made_138 rfl
    · skip
      exact r_tabIn (n := 12) C dX11_made_1 hx8 (by decide) (by decide) rfl (by decide) J
  refine r_ite (fun hx9 => ?_) (fun hx9 => ?_)
  · refine r_sw 139 ?_ (fun J => ?_)
    · refine r_iload_n C dX11_made_139 rfl rfl ?_
      refine r_iconst C dX11_made_140 (by decide) ?_
      refine r_join (γ := Int) (pcJ := fun _ => 149) (al' := fun q8 => [none, none, none, none, none]) (st' := fun q8 => [zi q8]) (M' := fun q8 => M) ?_ ?_
      · intro q8
        exact r_ireturn C dX11_made_149 rfl
      · intro hJq8
        refine q_icmp_ne (tgt := 148) C dX11_made_141 (by decide) (fun _ => ?_) (fun _ => ?_)
        · refine r_iload_n C dX11_made_148 rfl rfl ?_
          refine r_less [false, false, false, false, false] rfl ?_
          exact hJq8 p4
        · refine r_iload_n C dX11_made_144 rfl rfl ?_
          refine r_goto (tgt := 149) C dX11_made_145 (by decide) ?_
          refine r_less [false, false, false, false, false] rfl ?_
          exact hJq8 p3
    · skip
      exact r_tabIn (n := 13) C dX11_made_1 hx9 (by decide) (by decide) rfl (by decide) J
  refine r_tabOut (tgt := 150) C dX11_made_1 (by omega) (by decide) ?_
  refine r_iload_n C dX11_made_150 rfl rfl ?_
  exact r_ireturn C dX11_made_151 rfl
