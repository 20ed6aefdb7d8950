set_option maxRecDepth 100000 in
set_option maxHeartbeats 4000000 in
theorem tX1_living (p1 : Int) (M : Mem) : Cn yX1_living cX1_living 5 (some .int) 1 21 [zr 114, zi p1] M ((fX1_living p1 M).map oI) := by
  refine Cn_mk (own := RX1) rfl (by decide) (Nat.le_of_ble_eq_true rfl) [some (zr 114), some (zi p1), none, none, none] rfl (fun G C hn => ?_)
  unfold fX1_living
  refine r_iconst C dX1_living_0 (by decide) ?_
  refine r_istore_n (al' := [some (zr 114), some (zi p1), some (zi 0), none, none]) C dX1_living_1 rfl (by rw [hn]; decide) rfl ?_
  refine r_iconst C dX1_living_2 (by decide) ?_
  refine r_istore_n (al' := [some (zr 114), some (zi p1), some (zi 0), some (zi 0), none]) C dX1_living_3 rfl (by rw [hn]; decide) rfl ?_
  refine r_lp (S := Int × Int × Mem) (R := Int × Mem) (pcX := 84) (AL := fun s1 => [some (zr 114), some (zi p1), some (zi s1.1), some (zi s1.2.1), none]) (MM := fun s1 => s1.2.2) (AX := fun q11 => [none, none, some (zi q11.1), none, none]) (MX := fun q11 => q11.2) ?_ ?_ (0, 0, M)
  · intro q11
    refine r_iload_n C dX1_living_84 rfl rfl ?_
    exact r_ireturn C dX1_living_85 rfl
  · intro gs1 hCs1 hXs1 s1
    unfold fX1_living_b1
    refine r_iload_n C dX1_living_4 rfl rfl ?_
    refine r_aload_n C dX1_living_5 rfl rfl ?_
    refine q_geti C clX1 kd_114 (k := 7) (by decide) flX1_41 dX1_living_6 (kz := 7) rfl (by decide) ?_
    refine q_icmp_ge (tgt := 84) C dX1_living_9 (by decide) (fun _ => ?_) (fun _ => ?_)
    · refine r_less [false, false, true, false, false] rfl ?_
      exact hXs1 (s1.1, s1.2.2)
    · refine r_iload_n C dX1_living_12 rfl rfl ?_
      refine r_iload_n C dX1_living_13 rfl rfl ?_
      refine r_iushr C dX1_living_14 ?_
      refine r_iconst C dX1_living_15 (by decide) ?_
      refine r_iand C dX1_living_16 ?_
      refine r_join (γ := Int) (pcJ := fun _ => 25) (al' := fun q2 => [some (zr 114), some (zi p1), some (zi s1.1), some (zi s1.2.1), none]) (st' := fun q2 => [zi q2]) (M' := fun q2 => s1.2.2) ?_ ?_
      · intro q2
        refine r_istore (al' := [some (zr 114), some (zi p1), some (zi s1.1), some (zi s1.2.1), some (zi q2)]) C dX1_living_25 (by rw [hn]; decide) rfl ?_
        refine r_iload C dX1_living_27 rfl ?_
        refine r_join (γ := Bool × Mem) (pcJ := fun q6 => if q6.1 = true then 78 else 61) (al' := fun q6 => [some (zr 114), some (zi p1), some (zi s1.1), some (zi s1.2.1), some (zi q2)]) (st' := fun q6 => []) (M' := fun q6 => q6.2) ?_ ?_
        · intro q6
          refine r_join (γ := Int) (pcJ := fun _ => 78) (al' := fun q10 => [some (zr 114), some (zi p1), some (zi q10), some (zi s1.2.1), none]) (st' := fun q10 => []) (M' := fun q10 => q6.2) ?_ ?_
          · intro q10
            refine r_iinc (al' := [some (zr 114), some (zi p1), some (zi q10), some (zi (w32 (s1.2.1 + 1))), none]) C dX1_living_78 rfl (by rw [hn]; decide) rfl ?_
            refine r_goto (tgt := 4) C dX1_living_81 (by decide) ?_
            exact hCs1 (q10, w32 (s1.2.1 + 1), q6.2)
          · intro hJq10
            refine r_itp (fun _ => ?_) (fun _ => ?_)
            · refine r_less [true, true, true, true, false] rfl ?_
              exact hJq10 s1.1
            · refine r_iload_n C dX1_living_61 rfl rfl ?_
              refine r_aload_n C dX1_living_62 rfl rfl ?_
              refine r_getp C clX1 kd_114 (k := 1) (by decide) flX1_30 dX1_living_63 pt_114_1 ?_
              refine r_getp C clX2 kd_62 (k := 3) (by decide) flX1_85 dX1_living_66 pt_62_3 ?_
              refine r_aload_n C dX1_living_69 rfl rfl ?_
              refine r_getp C clX1 kd_114 (k := 4) (by decide) flX1_17 dX1_living_70 pt_114_4 ?_
              refine r_iload_n C dX1_living_73 rfl rfl ?_
              refine r_iaload C dX1_living_74 (fun v7 _ => ?_)
              refine r_iaload C dX1_living_75 (fun v8 _ => ?_)
              refine r_iadd C dX1_living_76 ?_
              refine r_let (fun v9 _ => ?_)
              refine r_istore_n (al' := [some (zr 114), some (zi p1), some (zi v9), some (zi s1.2.1), some (zi q2)]) C dX1_living_77 rfl (by rw [hn]; decide) rfl ?_
              refine r_less [true, true, true, true, false] rfl ?_
              exact hJq10 v9
        · intro hJq6
          refine q_if_eq (tgt := 78) C dX1_living_29 (by decide) (fun _ => ?_) (fun _ => ?_)
          · exact hJq6 (true, s1.2.2)
          · refine r_aload_n C dX1_living_32 rfl rfl ?_
            refine r_getp C clX1 kd_114 (k := 2) (by decide) flX1_34 dX1_living_33 pt_114_2 ?_
            refine r_aload_n C dX1_living_36 rfl rfl ?_
            refine r_getp C clX1 kd_114 (k := 4) (by decide) flX1_17 dX1_living_37 pt_114_4 ?_
            refine r_iload_n C dX1_living_40 rfl rfl ?_
            refine r_iaload C dX1_living_41 (fun v3 _ => ?_)
            refine q_callVi (av := [zi v3]) (rest := []) C (tX5_isKept 62 (Or.inl rfl) v3 s1.2.2) lkX1_82 kd_66 rfl rfl rfl (Nat.le_of_ble_eq_true rfl) ⟨by decide, by decide⟩ dX1_living_42 (fun q4 _ => ?_)
            refine q_if_ne (tgt := 61) C dX1_living_45 (by decide) (fun _ => ?_) (fun _ => ?_)
            · exact hJq6 (false, q4.2)
            · refine r_aload_n C dX1_living_48 rfl rfl ?_
              refine r_getp C clX1 kd_114 (k := 6) (by decide) flX1_23 dX1_living_49 pt_114_6 ?_
              refine r_iload_n C dX1_living_52 rfl rfl ?_
              refine r_iaload C dX1_living_53 (fun v5 _ => ?_)
              refine r_iload_n C dX1_living_54 rfl rfl ?_
              refine r_iconst C dX1_living_55 (by decide) ?_
              refine r_ixor C dX1_living_56 ?_
              refine r_iand C dX1_living_57 ?_
              refine q_if_eq (tgt := 78) C dX1_living_58 (by decide) (fun _ => ?_) (fun _ => ?_)
              · exact hJq6 (true, q4.2)
              · exact hJq6 (false, q4.2)
      · intro hJq2
        refine q_if_eq (tgt := 24) C dX1_living_17 (by decide) (fun _ => ?_) (fun _ => ?_)
        · refine r_iconst C dX1_living_24 (by decide) ?_
          exact hJq2 0
        · refine r_iconst C dX1_living_20 (by decide) ?_
          refine r_goto (tgt := 25) C dX1_living_21 (by decide) ?_
          exact hJq2 1
set_option maxRecDepth 100000 in
set_option maxHeartbeats 4000000 in
theorem tX1_goOn (p1 : Int) (M : Mem) : Cn yX1_goOn cX1_goOn 4 none 1 16 [zr 114, zi p1] M ((fX1_goOn p1 M).map oU) := by
  refine Cn_mk (own := RX1) rfl (by decide) (Nat.le_of_ble_eq_true rfl) [some (zr 114), some (zi p1), none, none] rfl (fun G C hn => ?_)
  unfold fX1_goOn
  refine r_iconst C dX1_goOn_0 (by decide) ?_
  refine r_istore_n (al' := [some (zr 114), some (zi p1), some (zi 0), none]) C dX1_goOn_1 rfl (by rw [hn]; decide) rfl ?_
  refine r_lp (S := Int × Mem) (R := Mem) (pcX := 64) (AL := fun s1 => [some (zr 114), some (zi p1), some (zi s1.1), none]) (MM := fun s1 => s1.2) (AX := fun q8 => [none, none, none, none]) (MX := fun q8 => q8) ?_ ?_ (0, M)
  · intro q8
    exact r_return C dX1_goOn_64 rfl
  · intro gs1 hCs1 hXs1 s1
    unfold fX1_goOn_b1
    refine r_iload_n C dX1_goOn_2 rfl rfl ?_
    refine r_aload_n C dX1_goOn_3 rfl rfl ?_
    refine q_geti C clX1 kd_114 (k := 7) (by decide) flX1_41 dX1_goOn_4 (kz := 7) rfl (by decide) ?_
    refine q_icmp_ge (tgt := 64) C dX1_goOn_7 (by decide) (fun _ => ?_) (fun _ => ?_)
    · refine r_less [false, false, false, false] rfl ?_
      exact hXs1 s1.2
    · refine r_iload_n C dX1_goOn_10 rfl rfl ?_
      refine r_iload_n C dX1_goOn_11 rfl rfl ?_
      refine r_iushr C dX1_goOn_12 ?_
      refine r_iconst C dX1_goOn_13 (by decide) ?_
      refine r_iand C dX1_goOn_14 ?_
      refine r_join (γ := Mem) (pcJ := fun _ => 58) (al' := fun q7 => [some (zr 114), some (zi p1), some (zi s1.1), none]) (st' := fun q7 => []) (M' := fun q7 => q7) ?_ ?_
      · intro q7
        refine r_iinc (al' := [some (zr 114), some (zi p1), some (zi (w32 (s1.1 + 1))), none]) C dX1_goOn_58 rfl (by rw [hn]; decide) rfl ?_
        refine r_goto (tgt := 2) C dX1_goOn_61 (by decide) ?_
        exact hCs1 (w32 (s1.1 + 1), q7)
      · intro hJq7
        refine q_if_ne (tgt := 58) C dX1_goOn_15 (by decide) (fun _ => ?_) (fun _ => ?_)
        · exact hJq7 s1.2
        · refine r_aload_n C dX1_goOn_18 rfl rfl ?_
          refine r_getp C clX1 kd_114 (k := 5) (by decide) flX1_20 dX1_goOn_19 pt_114_5 ?_
          refine r_iload_n C dX1_goOn_22 rfl rfl ?_
          refine r_iaload C dX1_goOn_23 (fun v2 _ => ?_)
          refine r_iload_n C dX1_goOn_24 rfl rfl ?_
          refine r_iconst C dX1_goOn_25 (by decide) ?_
          refine r_ixor C dX1_goOn_26 ?_
          refine r_iand C dX1_goOn_27 ?_
          refine q_if_ne (tgt := 58) C dX1_goOn_28 (by decide) (fun _ => ?_) (fun _ => ?_)
          · exact hJq7 s1.2
          · refine r_iload_n C dX1_goOn_31 rfl rfl ?_
            refine r_iconst C dX1_goOn_32 (by decide) ?_
            refine r_iload_n C dX1_goOn_33 rfl rfl ?_
            refine r_ishl C dX1_goOn_34 ?_
            refine r_ior C dX1_goOn_35 ?_
            refine r_let (fun v3 _ => ?_)
            refine r_istore_n (al' := [some (zr 114), some (zi p1), some (zi s1.1), some (zi v3)]) C dX1_goOn_36 rfl (by rw [hn]; decide) rfl ?_
            refine r_aload_n C dX1_goOn_37 rfl rfl ?_
            refine r_getp C clX1 kd_114 (k := 3) (by decide) flX1_11 dX1_goOn_38 pt_114_3 ?_
            refine r_iload_n C dX1_goOn_41 rfl rfl ?_
            refine r_aload_n C dX1_goOn_42 rfl rfl ?_
            refine r_getp C clX1 kd_114 (k := 3) (by decide) flX1_11 dX1_goOn_43 pt_114_3 ?_
            refine r_iload_n C dX1_goOn_46 rfl rfl ?_
            refine r_iaload C dX1_goOn_47 (fun v4 _ => ?_)
            refine r_aload_n C dX1_goOn_48 rfl rfl ?_
            refine r_getp C clX1 kd_114 (k := 3) (by decide) flX1_11 dX1_goOn_49 pt_114_3 ?_
            refine r_iload_n C dX1_goOn_52 rfl rfl ?_
            refine r_iaload C dX1_goOn_53 (fun v5 _ => ?_)
            refine r_imin C mmin_iX1_90 jm_mini_1 jm_mini_2 jm_mini_3 (by decide) (Nat.le_of_ble_eq_true rfl) dX1_goOn_54 ?_
            refine r_iastore C dX1_goOn_57 (fun M6 _ => ?_)
            refine r_less [true, true, true, false] rfl ?_
            exact hJq7 M6
set_option maxRecDepth 100000 in
set_option maxHeartbeats 4000000 in
theorem tX4_argNumber (t : Nat) (ht : t = 5 ∨ t = 119) (p1 : Int) (p2 : Int) (M : Mem) : Cn yX4_argNumber cX4_argNumber 5 (some .int) 0 0 [zr 56, zr t, zi p1, zi p2] M ((fX4_argNumber t p1 p2 M).map oI) := by
  refine Cn_mk (own := RX4) rfl (by decide) (Nat.le_of_ble_eq_true rfl) [some (zr 56), some (zr t), some (zi p1), some (zi p2), none] rfl (fun G C hn => ?_)
  unfold fX4_argNumber
  refine r_aload_n C dX4_argNumber_0 rfl rfl ?_
  refine r_getp C clX3 (kd_t0 ht) (k := 6) (by decide) flX4_101 dX4_argNumber_1 (pt_t0_6 ht) ?_
  refine r_iconst C dX4_argNumber_4 (by decide) ?_
  refine r_iload_n C dX4_argNumber_5 rfl rfl ?_
  refine r_imul C dX4_argNumber_6 ?_
  refine r_iload_n C dX4_argNumber_7 rfl rfl ?_
  refine r_iadd C dX4_argNumber_8 ?_
  refine r_iaload C dX4_argNumber_9 (fun v1 _ => ?_)
  refine r_istore (al' := [some (zr 56), some (zr t), some (zi p1), some (zi p2), some (zi v1)]) C dX4_argNumber_10 (by rw [hn]; decide) rfl ?_
  refine r_iload C dX4_argNumber_12 rfl ?_
  refine r_join (γ := Int) (pcJ := fun _ => 31) (al' := fun q3 => [none, none, none, none, none]) (st' := fun q3 => [zi q3]) (M' := fun q3 => M) ?_ ?_
  · intro q3
    exact r_ireturn C dX4_argNumber_31 rfl
  · intro hJq3
    refine q_if_lt (tgt := 27) C dX4_argNumber_14 (by decide) (fun _ => ?_) (fun _ => ?_)
    · refine r_iload C dX4_argNumber_27 rfl ?_
      refine r_iconst C dX4_argNumber_29 (by decide) ?_
      refine r_ixor C dX4_argNumber_30 ?_
      refine r_less [false, false, false, false, false] rfl ?_
      exact hJq3 (ixor v1 (-1))
    · refine r_aload_n C dX4_argNumber_17 rfl rfl ?_
      refine r_getp C clX4 kd_56 (k := 2) (by decide) flX4_15 dX4_argNumber_18 pt_56_2 ?_
      refine r_iload C dX4_argNumber_21 rfl ?_
      refine r_iaload C dX4_argNumber_23 (fun v2 _ => ?_)
      refine r_goto (tgt := 31) C dX4_argNumber_24 (by decide) ?_
      refine r_less [false, false, false, false, false] rfl ?_
      exact hJq3 v2
set_option maxRecDepth 100000 in
set_option maxHeartbeats 4000000 in
theorem tX4_walkIs (t : Nat) (ht : t = 5 ∨ t = 119) (p1 : Int) (M : Mem) : Cn yX4_walkIs cX4_walkIs 5 none 3 64 [zr 56, zr t, zi p1] M ((fX4_walkIs t p1 M).map oU) := by
  refine Cn_mk (own := RX4) rfl (by decide) (Nat.le_of_ble_eq_true rfl) [some (zr 56), some (zr t), some (zi p1), none, none] rfl (fun G C hn => ?_)
  unfold fX4_walkIs
  refine r_aload_n C dX4_walkIs_0 rfl rfl ?_
  refine r_getp C clX3 (kd_t0 ht) (k := 4) (by decide) flX4_98 dX4_walkIs_1 (pt_t0_4 ht) ?_
  refine r_iload_n C dX4_walkIs_4 rfl rfl ?_
  refine r_iaload C dX4_walkIs_5 (fun v1 _ => ?_)
  refine r_istore_n (al' := [some (zr 56), some (zr t), some (zi p1), some (zi v1), none]) C dX4_walkIs_6 rfl (by rw [hn]; decide) rfl ?_
  refine r_iconst C dX4_walkIs_7 (by decide) ?_
  refine r_istore (al' := [some (zr 56), some (zr t), some (zi p1), some (zi v1), some (zi 0)]) C dX4_walkIs_8 (by rw [hn]; decide) rfl ?_
  refine r_lp (S := Int × Mem) (R := Mem) (pcX := 40) (AL := fun s2 => [some (zr 56), some (zr t), some (zi p1), some (zi v1), some (zi s2.1)]) (MM := fun s2 => s2.2) (AX := fun q6 => [some (zr 56), some (zr t), some (zi p1), some (zi v1), none]) (MX := fun q6 => q6) ?_ ?_ (0, M)
  · intro q6
    refine r_aload_n C dX4_walkIs_40 rfl rfl ?_
    refine r_getp C clX4 kd_56 (k := 2) (by decide) flX4_15 dX4_walkIs_41 pt_56_2 ?_
    refine r_aload_n C dX4_walkIs_44 rfl rfl ?_
    refine r_getp C clX3 (kd_t0 ht) (k := 3) (by decide) flX4_77 dX4_walkIs_45 (pt_t0_3 ht) ?_
    refine r_iload_n C dX4_walkIs_48 rfl rfl ?_
    refine r_iaload C dX4_walkIs_49 (fun v7 _ => ?_)
    refine r_iload_n C dX4_walkIs_50 rfl rfl ?_
    refine r_aload_n C dX4_walkIs_51 rfl rfl ?_
    refine r_getp C clX4 kd_56 (k := 5) (by decide) flX4_24 dX4_walkIs_52 pt_56_5 ?_
    refine r_iconst C dX4_walkIs_55 (by decide) ?_
    refine r_iaload C dX4_walkIs_56 (fun v8 _ => ?_)
    refine r_aload_n C dX4_walkIs_57 rfl rfl ?_
    refine r_getp C clX4 kd_56 (k := 5) (by decide) flX4_24 dX4_walkIs_58 pt_56_5 ?_
    refine r_iconst C dX4_walkIs_61 (by decide) ?_
    refine r_iaload C dX4_walkIs_62 (fun v9 _ => ?_)
    refine r_aload_n C dX4_walkIs_63 rfl rfl ?_
    refine r_getp C clX4 kd_56 (k := 5) (by decide) flX4_24 dX4_walkIs_64 pt_56_5 ?_
    refine r_iconst C dX4_walkIs_67 (by decide) ?_
    refine r_iaload C dX4_walkIs_68 (fun v10 _ => ?_)
    refine r_aload_n C dX4_walkIs_69 rfl rfl ?_
    refine r_getp C clX4 kd_56 (k := 0) (by decide) flX4_27 dX4_walkIs_70 pt_56_0 ?_
    refine r_getp C clX0 kd_51 (k := 3) (by decide) flX4_52 dX4_walkIs_73 pt_51_3 ?_
    refine q_callNi (av := [zi v1, zi v8, zi v9, zi v10, zr 55]) (rest := [zi v7, zr 58]) C (tX11_made v1 v8 v9 v10 q6) lkX4_55 rfl rfl (Nat.le_of_ble_eq_true rfl) ⟨by decide, by decide⟩ dX4_walkIs_76 (fun q11 _ => ?_)
    refine r_iastore C dX4_walkIs_79 (fun M12 _ => ?_)
    exact r_return C dX4_walkIs_80 rfl
  · intro gs2 hCs2 hXs2 s2
    unfold fX4_walkIs_b1
    refine r_iload C dX4_walkIs_10 rfl ?_
    refine r_iload_n C dX4_walkIs_12 rfl rfl ?_
    refine q_callNi (av := [zi v1]) (rest := [zi s2.1]) C (tX11_argsOf v1 s2.2) lkX4_36 rfl rfl (Nat.le_of_ble_eq_true rfl) ⟨by decide, by decide⟩ dX4_walkIs_13 (fun q3 _ => ?_)
    refine q_icmp_ge (tgt := 40) C dX4_walkIs_16 (by decide) (fun _ => ?_) (fun _ => ?_)
    · refine r_less [true, true, true, true, false] rfl ?_
      exact hXs2 q3.2
    · refine r_aload_n C dX4_walkIs_19 rfl rfl ?_
      refine r_getp C clX4 kd_56 (k := 5) (by decide) flX4_24 dX4_walkIs_20 pt_56_5 ?_
      refine r_iload C dX4_walkIs_23 rfl ?_
      refine r_aload_n C dX4_walkIs_25 rfl rfl ?_
      refine r_aload_n C dX4_walkIs_26 rfl rfl ?_
      refine r_iload_n C dX4_walkIs_27 rfl rfl ?_
      refine r_iload C dX4_walkIs_28 rfl ?_
      refine q_callVi (av := [zr t, zi p1, zi s2.1]) (rest := [zi s2.1, zr 61]) C (tX4_argNumber t ht p1 s2.1 q3.2) lkX4_70 kd_56 rfl rfl rfl (Nat.le_of_ble_eq_true rfl) ⟨by decide, by decide⟩ dX4_walkIs_30 (fun q4 _ => ?_)
      refine r_iastore C dX4_walkIs_33 (fun M5 _ => ?_)
      refine r_iinc (al' := [some (zr 56), some (zr t), some (zi p1), some (zi v1), some (zi (w32 (s2.1 + 1)))]) C dX4_walkIs_34 rfl (by rw [hn]; decide) rfl ?_
      refine r_goto (tgt := 10) C dX4_walkIs_37 (by decide) ?_
      exact hCs2 (w32 (s2.1 + 1), M5)
set_option maxRecDepth 100000 in
set_option maxHeartbeats 4000000 in
theorem tX4_walkTimes (p1 : Int) (M : Mem) : Cn yX4_walkTimes cX4_walkTimes 2 none 0 0 [zr 56, zi p1] M ((fX4_walkTimes p1 M).map oU) := by
  refine Cn_mk (own := RX4) rfl (by decide) (Nat.le_of_ble_eq_true rfl) [some (zr 56), some (zi p1)] rfl (fun G C hn => ?_)
  unfold fX4_walkTimes
  refine r_aload_n C dX4_walkTimes_0 rfl rfl ?_
  refine q_geti C clX4 kd_56 (k := 6) (by decide) flX4_58 dX4_walkTimes_1 (kz := 6) rfl (by decide) ?_
  refine r_iconst C dX4_walkTimes_4 (by decide) ?_
  refine r_join (γ := Mem) (pcJ := fun _ => 28) (al' := fun q3 => [none, none]) (st' := fun q3 => []) (M' := fun q3 => q3) ?_ ?_
  · intro q3
    exact r_return C dX4_walkTimes_28 rfl
  · intro hJq3
    refine q_icmp_ge (tgt := 28) C dX4_walkTimes_5 (by decide) (fun _ => ?_) (fun _ => ?_)
    · refine r_less [false, false] rfl ?_
      exact hJq3 M
    · refine r_aload_n C dX4_walkTimes_8 rfl rfl ?_
      refine r_getp C clX4 kd_56 (k := 3) (by decide) flX4_18 dX4_walkTimes_9 pt_56_3 ?_
      refine r_aload_n C dX4_walkTimes_12 rfl rfl ?_
      refine q_geti C clX4 kd_56 (k := 6) (by decide) flX4_58 dX4_walkTimes_13 (kz := 6) rfl (by decide) ?_
      refine r_iload_n C dX4_walkTimes_16 rfl rfl ?_
      refine r_iastore C dX4_walkTimes_17 (fun M1 _ => ?_)
      refine r_aload_n C dX4_walkTimes_18 rfl rfl ?_
      refine r_dup C dX4_walkTimes_19 rfl ?_
      refine q_geti C clX4 kd_56 (k := 6) (by decide) flX4_58 dX4_walkTimes_20 (kz := 6) rfl (by decide) ?_
      refine r_iconst C dX4_walkTimes_23 (by decide) ?_
      refine r_iadd C dX4_walkTimes_24 ?_
      refine q_puti C clX4 kd_56 (k := 6) (by decide) flX4_58 rfl dX4_walkTimes_25 rfl rfl (fun M2 => ?_)
      refine r_less [false, false] rfl ?_
      exact hJq3 M2
set_option maxRecDepth 100000 in
set_option maxHeartbeats 4000000 in
theorem tX4_walkTimesEnd (t : Nat) (ht : t = 5 ∨ t = 119) (p1 : Int) (M : Mem) : Cn yX4_walkTimesEnd cX4_walkTimesEnd 3 (some .int) 0 0 [zr 56, zr t, zi p1] M ((fX4_walkTimesEnd t p1 M).map oI) := by
  refine Cn_mk (own := RX4) rfl (by decide) (Nat.le_of_ble_eq_true rfl) [some (zr 56), some (zr t), some (zi p1)] rfl (fun G C hn => ?_)
  unfold fX4_walkTimesEnd
  refine r_aload_n C dX4_walkTimesEnd_0 rfl rfl ?_
  refine q_geti C clX4 kd_56 (k := 6) (by decide) flX4_58 dX4_walkTimesEnd_1 (kz := 6) rfl (by decide) ?_
  refine q_if_ne (tgt := 11) C dX4_walkTimesEnd_4 (by decide) (fun _ => ?_) (fun _ => ?_)
  · refine r_aload_n C dX4_walkTimesEnd_11 rfl rfl ?_
    refine r_getp C clX4 kd_56 (k := 3) (by decide) flX4_18 dX4_walkTimesEnd_12 pt_56_3 ?_
    refine r_aload_n C dX4_walkTimesEnd_15 rfl rfl ?_
    refine q_geti C clX4 kd_56 (k := 6) (by decide) flX4_58 dX4_walkTimesEnd_16 (kz := 6) rfl (by decide) ?_
    refine r_iconst C dX4_walkTimesEnd_19 (by decide) ?_
    refine r_isub C dX4_walkTimesEnd_20 ?_
    refine r_dup2 C dX4_walkTimesEnd_21 rfl rfl ?_
    refine r_iaload C dX4_walkTimesEnd_22 (fun v1 _ => ?_)
    refine r_iconst C dX4_walkTimesEnd_23 (by decide) ?_
    refine r_isub C dX4_walkTimesEnd_24 ?_
    refine r_iastore C dX4_walkTimesEnd_25 (fun M2 _ => ?_)
    refine r_aload_n C dX4_walkTimesEnd_26 rfl rfl ?_
    refine r_getp C clX4 kd_56 (k := 3) (by decide) flX4_18 dX4_walkTimesEnd_27 pt_56_3 ?_
    refine r_aload_n C dX4_walkTimesEnd_30 rfl rfl ?_
    refine q_geti C clX4 kd_56 (k := 6) (by decide) flX4_58 dX4_walkTimesEnd_31 (kz := 6) rfl (by decide) ?_
    refine r_iconst C dX4_walkTimesEnd_34 (by decide) ?_
    refine r_isub C dX4_walkTimesEnd_35 ?_
    refine r_iaload C dX4_walkTimesEnd_36 (fun v3 _ => ?_)
    refine q_if_le (tgt := 49) C dX4_walkTimesEnd_37 (by decide) (fun _ => ?_) (fun _ => ?_)
    · refine r_aload_n C dX4_walkTimesEnd_49 rfl rfl ?_
      refine r_dup C dX4_walkTimesEnd_50 rfl ?_
      refine q_geti C clX4 kd_56 (k := 6) (by decide) flX4_58 dX4_walkTimesEnd_51 (kz := 6) rfl (by decide) ?_
      refine r_iconst C dX4_walkTimesEnd_54 (by decide) ?_
      refine r_isub C dX4_walkTimesEnd_55 ?_
      refine q_puti C clX4 kd_56 (k := 6) (by decide) flX4_58 rfl dX4_walkTimesEnd_56 rfl rfl (fun M4 => ?_)
      refine r_iload_n C dX4_walkTimesEnd_59 rfl rfl ?_
      refine r_iconst C dX4_walkTimesEnd_60 (by decide) ?_
      refine r_iadd C dX4_walkTimesEnd_61 ?_
      exact r_ireturn C dX4_walkTimesEnd_62 rfl
    · refine r_aload_n C dX4_walkTimesEnd_40 rfl rfl ?_
      refine r_getp C clX3 (kd_t0 ht) (k := 8) (by decide) flX4_83 dX4_walkTimesEnd_41 (pt_t0_8 ht) ?_
      refine r_iload_n C dX4_walkTimesEnd_44 rfl rfl ?_
      refine r_iaload C dX4_walkTimesEnd_45 (fun v5 _ => ?_)
      refine r_iconst C dX4_walkTimesEnd_46 (by decide) ?_
      refine r_iadd C dX4_walkTimesEnd_47 ?_
      exact r_ireturn C dX4_walkTimesEnd_48 rfl
  · refine r_iload_n C dX4_walkTimesEnd_7 rfl rfl ?_
    refine r_iconst C dX4_walkTimesEnd_8 (by decide) ?_
    refine r_iadd C dX4_walkTimesEnd_9 ?_
    exact r_ireturn C dX4_walkTimesEnd_10 rfl
set_option maxRecDepth 100000 in
set_option maxHeartbeats 4000000 in
theorem tX4_walkLine (t : Nat) (ht : t = 5 ∨ t = 119) (p1 : Int) (p2 : Int) (M : Mem) : Cn yX4_walkLine cX4_walkLine 4 (some .int) 4 88 [zr 56, zr t, zi p1, zi p2] M ((fX4_walkLine t p1 p2 M).map oI) := by
  refine Cn_mk (own := RX4) rfl (by decide) (Nat.le_of_ble_eq_true rfl) [some (zr 56), some (zr t), some (zi p1), some (zi p2)] rfl (fun G C hn => ?_)
  unfold fX4_walkLine
  refine r_aload_n C dX4_walkLine_0 rfl rfl ?_
  refine r_getp C clX3 (kd_t0 ht) (k := 1) (by decide) flX4_67 dX4_walkLine_1 (pt_t0_1 ht) ?_
  refine r_iload_n C dX4_walkLine_4 rfl rfl ?_
  refine r_iaload C dX4_walkLine_5 (fun v1 _ => ?_)
  refine r_ite (fun hx0 => ?_) (fun hx0 => ?_)
  · refine r_sw 56 ?_ (fun J => ?_)
    · refine r_aload_n C dX4_walkLine_56 rfl rfl ?_
      refine r_getp C clX4 kd_56 (k := 2) (by decide) flX4_15 dX4_walkLine_57 pt_56_2 ?_
      refine r_aload_n C dX4_walkLine_60 rfl rfl ?_
      refine r_getp C clX3 (kd_t0 ht) (k := 3) (by decide) flX4_77 dX4_walkLine_61 (pt_t0_3 ht) ?_
      refine r_iload_n C dX4_walkLine_64 rfl rfl ?_
      refine r_iaload C dX4_walkLine_65 (fun v2 _ => ?_)
      refine r_aload_n C dX4_walkLine_66 rfl rfl ?_
      refine r_getp C clX4 kd_56 (k := 0) (by decide) flX4_27 dX4_walkLine_67 pt_56_0 ?_
      refine r_getp C clX0 kd_51 (k := 2) (by decide) flX4_47 dX4_walkLine_70 pt_51_2 ?_
      refine r_iconst C dX4_walkLine_73 (by decide) ?_
      refine r_aload_n C dX4_walkLine_74 rfl rfl ?_
      refine r_getp C clX3 (kd_t0 ht) (k := 9) (by decide) flX4_78 dX4_walkLine_75 (pt_t0_9 ht) ?_
      refine r_iload_n C dX4_walkLine_78 rfl rfl ?_
      refine r_iaload C dX4_walkLine_79 (fun v3 _ => ?_)
      refine r_imul C dX4_walkLine_80 ?_
      refine r_iload_n C dX4_walkLine_81 rfl rfl ?_
      refine r_iadd C dX4_walkLine_82 ?_
      refine r_iaload C dX4_walkLine_83 (fun v4 _ => ?_)
      refine r_iastore C dX4_walkLine_84 (fun M5 _ => ?_)
      refine r_iload_n C dX4_walkLine_85 rfl rfl ?_
      refine r_iconst C dX4_walkLine_86 (by decide) ?_
      refine r_iadd C dX4_walkLine_87 ?_
      exact r_ireturn C dX4_walkLine_88 rfl
    · skip
      exact r_tabIn (n := 0) C dX4_walkLine_6 hx0 (by decide) (by decide) rfl (by decide) J
  refine r_ite (fun hx1 => ?_) (fun hx1 => ?_)
  · refine r_sw 89 ?_ (fun J => ?_)
    · refine r_aload_n C dX4_walkLine_89 rfl rfl ?_
      refine r_aload_n C dX4_walkLine_90 rfl rfl ?_
      refine r_iload_n C dX4_walkLine_91 rfl rfl ?_
      refine q_callVv (av := [zr t, zi p1]) (rest := []) C (tX4_walkIs t ht p1 M) lkX4_79 kd_56 rfl rfl rfl (Nat.le_of_ble_eq_true rfl) ⟨by decide, by decide⟩ dX4_walkLine_92 (fun q6 _ => ?_)
      refine r_iload_n C dX4_walkLine_95 rfl rfl ?_
      refine r_iconst C dX4_walkLine_96 (by decide) ?_
      refine r_iadd C dX4_walkLine_97 ?_
      exact r_ireturn C dX4_walkLine_98 rfl
    · skip
      exact r_tabIn (n := 4) C dX4_walkLine_6 hx1 (by decide) (by decide) rfl (by decide) J
  refine r_ite (fun hx2 => ?_) (fun hx2 => ?_)
  · refine r_sw 99 ?_ (fun J => ?_)
    · refine r_aload_n C dX4_walkLine_99 rfl rfl ?_
      refine r_aload_n C dX4_walkLine_100 rfl rfl ?_
      refine r_iload_n C dX4_walkLine_101 rfl rfl ?_
      refine r_iconst C dX4_walkLine_102 (by decide) ?_
      refine q_callVi (av := [zr t, zi p1, zi 0]) (rest := []) C (tX4_argNumber t ht p1 0 M) lkX4_70 kd_56 rfl rfl rfl (Nat.le_of_ble_eq_true rfl) ⟨by decide, by decide⟩ dX4_walkLine_103 (fun q7 _ => ?_)
      refine r_iconst C dX4_walkLine_106 (by decide) ?_
      refine r_join (γ := Int) (pcJ := fun _ => 124) (al' := fun q9 => [none, none, none, none]) (st' := fun q9 => [zi q9]) (M' := fun q9 => q7.2) ?_ ?_
      · intro q9
        exact r_ireturn C dX4_walkLine_124 rfl
      · intro hJq9
        refine q_icmp_ne (tgt := 116) C dX4_walkLine_107 (by decide) (fun _ => ?_) (fun _ => ?_)
        · refine r_aload_n C dX4_walkLine_116 rfl rfl ?_
          refine r_getp C clX3 (kd_t0 ht) (k := 8) (by decide) flX4_83 dX4_walkLine_117 (pt_t0_8 ht) ?_
          refine r_iload_n C dX4_walkLine_120 rfl rfl ?_
          refine r_iaload C dX4_walkLine_121 (fun v8 _ => ?_)
          refine r_iconst C dX4_walkLine_122 (by decide) ?_
          refine r_iadd C dX4_walkLine_123 ?_
          refine r_less [false, false, false, false] rfl ?_
          exact hJq9 (w32 (v8 + 1))
        · refine r_iload_n C dX4_walkLine_110 rfl rfl ?_
          refine r_iconst C dX4_walkLine_111 (by decide) ?_
          refine r_iadd C dX4_walkLine_112 ?_
          refine r_goto (tgt := 124) C dX4_walkLine_113 (by decide) ?_
          refine r_less [false, false, false, false] rfl ?_
          exact hJq9 (w32 (p1 + 1))
    · skip
      exact r_tabIn (n := 5) C dX4_walkLine_6 hx2 (by decide) (by decide) rfl (by decide) J
  refine r_ite (fun hx3 => ?_) (fun hx3 => ?_)
  · refine r_sw 125 ?_ (fun J => ?_)
    · refine r_aload_n C dX4_walkLine_125 rfl rfl ?_
      refine r_getp C clX3 (kd_t0 ht) (k := 8) (by decide) flX4_83 dX4_walkLine_126 (pt_t0_8 ht) ?_
      refine r_iload_n C dX4_walkLine_129 rfl rfl ?_
      refine r_iaload C dX4_walkLine_130 (fun v10 _ => ?_)
      refine r_iconst C dX4_walkLine_131 (by decide) ?_
      refine r_iadd C dX4_walkLine_132 ?_
      exact r_ireturn C dX4_walkLine_133 rfl
    · skip
      exact r_tabIn (n := 6) C dX4_walkLine_6 hx3 (by decide) (by decide) rfl (by decide) J
  refine r_ite (fun hx4 => ?_) (fun hx4 => ?_)
  · refine r_sw 134 ?_ (fun J => ?_)
    · refine r_aload_n C dX4_walkLine_134 rfl rfl ?_
      refine r_aload_n C dX4_walkLine_135 rfl rfl ?_
      refine r_getp C clX3 (kd_t0 ht) (k := 9) (by decide) flX4_78 dX4_walkLine_136 (pt_t0_9 ht) ?_
      refine r_iload_n C dX4_walkLine_139 rfl rfl ?_
      refine r_iaload C dX4_walkLine_140 (fun v11 _ => ?_)
      refine q_callVv (av := [zi v11]) (rest := []) C (tX4_walkTimes v11 M) lkX4_86 kd_56 rfl rfl rfl (Nat.le_of_ble_eq_true rfl) ⟨by decide, by decide⟩ dX4_walkLine_141 (fun q12 _ => ?_)
      refine r_iload_n C dX4_walkLine_144 rfl rfl ?_
      refine r_iconst C dX4_walkLine_145 (by decide) ?_
      refine r_iadd C dX4_walkLine_146 ?_
      exact r_ireturn C dX4_walkLine_147 rfl
    · skip
      exact r_tabIn (n := 7) C dX4_walkLine_6 hx4 (by decide) (by decide) rfl (by decide) J
  refine r_ite (fun hx5 => ?_) (fun hx5 => ?_)
  · refine r_sw 148 ?_ (fun J => ?_)
    · refine r_aload_n C dX4_walkLine_148 rfl rfl ?_
      refine r_iload_n C dX4_walkLine_149 rfl rfl ?_
      refine q_callVi (av := [zi p1]) (rest := []) C (tX3_endsTimes t ht p1 M) lkX4_90 (kd_t0 ht) rfl rfl rfl (Nat.le_of_ble_eq_true rfl) ⟨by decide, by decide⟩ dX4_walkLine_150 (fun q13 _ => ?_)
      refine r_join (γ := Int × Mem) (pcJ := fun _ => 168) (al' := fun q15 => [none, none, none, none]) (st' := fun q15 => [zi q15.1]) (M' := fun q15 => q15.2) ?_ ?_
      · intro q15
        exact r_ireturn C dX4_walkLine_168 rfl
      · intro hJq15
        refine q_if_eq (tgt := 165) C dX4_walkLine_153 (by decide) (fun _ => ?_) (fun _ => ?_)
        · refine r_iload_n C dX4_walkLine_165 rfl rfl ?_
          refine r_iconst C dX4_walkLine_166 (by decide) ?_
          refine r_iadd C dX4_walkLine_167 ?_
          refine r_less [false, false, false, false] rfl ?_
          exact hJq15 (w32 (p1 + 1), q13.2)
        · refine r_aload_n C dX4_walkLine_156 rfl rfl ?_
          refine r_aload_n C dX4_walkLine_157 rfl rfl ?_
          refine r_iload_n C dX4_walkLine_158 rfl rfl ?_
          refine q_callVi (av := [zr t, zi p1]) (rest := []) C (tX4_walkTimesEnd t ht p1 q13.2) lkX4_94 kd_56 rfl rfl rfl (Nat.le_of_ble_eq_true rfl) ⟨by decide, by decide⟩ dX4_walkLine_159 (fun q14 _ => ?_)
          refine r_goto (tgt := 168) C dX4_walkLine_162 (by decide) ?_
          refine r_less [false, false, false, false] rfl ?_
          exact hJq15 (q14.1, q14.2)
    · skip
      exact r_tabIn (n := 8) C dX4_walkLine_6 hx5 (by decide) (by decide) rfl (by decide) J
  refine r_sw 169 ?_ (fun J => ?_)
  · refine r_iload_n C dX4_walkLine_169 rfl rfl ?_
    refine r_iconst C dX4_walkLine_170 (by decide) ?_
    refine r_iadd C dX4_walkLine_171 ?_
    exact r_ireturn C dX4_walkLine_172 rfl
  · skip
    by_cases hh : v1 = 1
    · exact r_tabIn (n := 1) C dX4_walkLine_6 hh (by decide) (by decide) rfl (by decide) J
    by_cases hh : v1 = 2
    · exact r_tabIn (n := 2) C dX4_walkLine_6 hh (by decide) (by decide) rfl (by decide) J
    by_cases hh : v1 = 3
    · exact r_tabIn (n := 3) C dX4_walkLine_6 hh (by decide) (by decide) rfl (by decide) J
    exact r_tabOut C dX4_walkLine_6 (by omega) (by decide) J
set_option maxRecDepth 100000 in
set_option maxHeartbeats 4000000 in
theorem tX4_walk (t : Nat) (ht : t = 5 ∨ t = 119) (p1 : Int) (p2 : Int) (M : Mem) : Cn yX4_walk cX4_walk 7 (some .int) 5 111 [zr 56, zr t, zi p1, zi p2] M ((fX4_walk t p1 p2 M).map oI) := by
  refine Cn_mk (own := RX4) rfl (by decide) (Nat.le_of_ble_eq_true rfl) [some (zr 56), some (zr t), some (zi p1), some (zi p2), none, none, none] rfl (fun G C hn => ?_)
  unfold fX4_walk
  refine r_iconst C dX4_walk_0 (by decide) ?_
  refine r_istore (al' := [some (zr 56), some (zr t), some (zi p1), some (zi p2), some (zi 0), none, none]) C dX4_walk_1 (by rw [hn]; decide) rfl ?_
  refine r_iconst C dX4_walk_3 (by decide) ?_
  refine r_istore (al' := [some (zr 56), some (zr t), some (zi p1), some (zi p2), some (zi 0), some (zi 0), none]) C dX4_walk_4 (by rw [hn]; decide) rfl ?_
  refine r_aload_n C dX4_walk_6 rfl rfl ?_
  refine r_iconst C dX4_walk_7 (by decide) ?_
  refine q_puti C clX4 kd_56 (k := 6) (by decide) flX4_58 rfl dX4_walk_8 rfl rfl (fun M1 => ?_)
  refine r_iconst C dX4_walk_11 (by decide) ?_
  refine r_istore (al' := [some (zr 56), some (zr t), some (zi p1), some (zi p2), some (zi 0), some (zi 0), some (zi 0)]) C dX4_walk_12 (by rw [hn]; decide) rfl ?_
  refine r_lpr (S := Int × Int × Int × Mem) (X := Mem) (pcX := 77) (AL := fun s2 => [some (zr 56), some (zr t), some (zi p1), some (zi p2), some (zi s2.1), some (zi s2.2.1), some (zi s2.2.2.1)]) (MM := fun s2 => s2.2.2.2) (AX := fun q7 => [none, none, none, none, none, none, none]) (MX := fun q7 => q7) ?_ ?_ (0, 0, 0, M1)
  · intro q7
    refine r_iconst C dX4_walk_77 (by decide) ?_
    exact r_ireturn C dX4_walk_78 rfl
  · intro gs2 hCs2 hXs2 s2
    unfold fX4_walk_b1
    refine r_iload C dX4_walk_14 rfl ?_
    refine r_sipush C dX4_walk_16 (by decide) ?_
    refine q_icmp_ge (tgt := 77) C dX4_walk_19 (by decide) (fun _ => ?_) (fun _ => ?_)
    · refine r_less [false, false, false, false, false, false, false] rfl ?_
      exact hXs2 s2.2.2.2
    · refine r_iload C dX4_walk_22 rfl ?_
      refine r_aload_n C dX4_walk_24 rfl rfl ?_
      refine q_geti C clX3 (kd_t0 ht) (k := 0) (by decide) flX4_62 dX4_walk_25 (kz := 0) rfl (by decide) ?_
      refine q_icmp_ge (tgt := 77) C dX4_walk_28 (by decide) (fun _ => ?_) (fun _ => ?_)
      · refine r_less [false, false, false, false, false, false, false] rfl ?_
        exact hXs2 s2.2.2.2
      · refine r_aload_n C dX4_walk_31 rfl rfl ?_
        refine r_getp C clX3 (kd_t0 ht) (k := 1) (by decide) flX4_67 dX4_walk_32 (pt_t0_1 ht) ?_
        refine r_iload C dX4_walk_35 rfl ?_
        refine r_iaload C dX4_walk_37 (fun v3 _ => ?_)
        refine r_bipush C dX4_walk_38 (by decide) ?_
        refine q_icmp_ne (tgt := 61) C dX4_walk_40 (by decide) (fun _ => ?_) (fun _ => ?_)
        · refine r_aload_n C dX4_walk_61 rfl rfl ?_
          refine r_aload_n C dX4_walk_62 rfl rfl ?_
          refine r_iload C dX4_walk_63 rfl ?_
          refine r_iload_n C dX4_walk_65 rfl rfl ?_
          refine q_callVi (av := [zr t, zi s2.2.1, zi p1]) (rest := []) C (tX4_walkLine t ht s2.2.1 p1 s2.2.2.2) lkX4_74 kd_56 rfl rfl rfl (Nat.le_of_ble_eq_true rfl) ⟨by decide, by decide⟩ dX4_walk_66 (fun q4 _ => ?_)
          refine r_istore (al' := [some (zr 56), some (zr t), some (zi p1), some (zi p2), some (zi s2.1), some (zi q4.1), some (zi s2.2.2.1)]) C dX4_walk_69 (by rw [hn]; decide) rfl ?_
          refine r_iinc (al' := [some (zr 56), some (zr t), some (zi p1), some (zi p2), some (zi s2.1), some (zi q4.1), some (zi (w32 (s2.2.2.1 + 1)))]) C dX4_walk_71 rfl (by rw [hn]; decide) rfl ?_
          refine r_goto (tgt := 14) C dX4_walk_74 (by decide) ?_
          exact hCs2 (s2.1, q4.1, w32 (s2.2.2.1 + 1), q4.2)
        · refine r_iload C dX4_walk_43 rfl ?_
          refine r_iload_n C dX4_walk_45 rfl rfl ?_
          refine q_icmp_ne (tgt := 58) C dX4_walk_46 (by decide) (fun _ => ?_) (fun _ => ?_)
          · refine r_iinc (al' := [some (zr 56), some (zr t), some (zi p1), some (zi p2), some (zi (w32 (s2.1 + 1))), some (zi s2.2.1), some (zi s2.2.2.1)]) C dX4_walk_58 rfl (by rw [hn]; decide) rfl ?_
            refine r_aload_n C dX4_walk_61 rfl rfl ?_
            refine r_aload_n C dX4_walk_62 rfl rfl ?_
            refine r_iload C dX4_walk_63 rfl ?_
            refine r_iload_n C dX4_walk_65 rfl rfl ?_
            refine q_callVi (av := [zr t, zi s2.2.1, zi p1]) (rest := []) C (tX4_walkLine t ht s2.2.1 p1 s2.2.2.2) lkX4_74 kd_56 rfl rfl rfl (Nat.le_of_ble_eq_true rfl) ⟨by decide, by decide⟩ dX4_walk_66 (fun q5 _ => ?_)
            refine r_istore (al' := [some (zr 56), some (zr t), some (zi p1), some (zi p2), some (zi (w32 (s2.1 + 1))), some (zi q5.1), some (zi s2.2.2.1)]) C dX4_walk_69 (by rw [hn]; decide) rfl ?_
            refine r_iinc (al' := [some (zr 56), some (zr t), some (zi p1), some (zi p2), some (zi (w32 (s2.1 + 1))), some (zi q5.1), some (zi (w32 (s2.2.2.1 + 1)))]) C dX4_walk_71 rfl (by rw [hn]; decide) rfl ?_
            refine r_goto (tgt := 14) C dX4_walk_74 (by decide) ?_
            exact hCs2 (w32 (s2.1 + 1), q5.1, w32 (s2.2.2.1 + 1), q5.2)
          · refine r_aload_n C dX4_walk_49 rfl rfl ?_
            refine r_aload_n C dX4_walk_50 rfl rfl ?_
            refine r_iload C dX4_walk_51 rfl ?_
            refine r_iconst C dX4_walk_53 (by decide) ?_
            refine q_callVi (av := [zr t, zi s2.2.1, zi 0]) (rest := []) C (tX4_argNumber t ht s2.2.1 0 s2.2.2.2) lkX4_70 kd_56 rfl rfl rfl (Nat.le_of_ble_eq_true rfl) ⟨by decide, by decide⟩ dX4_walk_54 (fun q6 _ => ?_)
            exact r_ireturn C dX4_walk_57 rfl
set_option maxRecDepth 100000 in
set_option maxHeartbeats 4000000 in
theorem tX4_heldFor (p1 : Int) (M : Mem) : Cn yX4_heldFor cX4_heldFor 4 (some .int) 2 42 [zr 56, zr 75, zi p1] M ((fX4_heldFor p1 M).map oI) := by
  refine Cn_mk (own := RX4) rfl (by decide) (Nat.le_of_ble_eq_true rfl) [some (zr 56), some (zr 75), some (zi p1), none] rfl (fun G C hn => ?_)
  unfold fX4_heldFor
  refine r_aload_n C dX4_heldFor_0 rfl rfl ?_
  refine r_getp C clX7 kd_75 (k := 2) (by decide) flX4_121 dX4_heldFor_1 pt_75_2 ?_
  refine r_getp C clX5 kd_66 (k := 2) (by decide) flX4_125 dX4_heldFor_4 pt_66_2 ?_
  refine r_iload_n C dX4_heldFor_7 rfl rfl ?_
  refine r_iaload C dX4_heldFor_8 (fun v1 _ => ?_)
  refine r_istore_n (al' := [some (zr 56), some (zr 75), some (zi p1), some (zi v1)]) C dX4_heldFor_9 rfl (by rw [hn]; decide) rfl ?_
  refine r_aload_n C dX4_heldFor_10 rfl rfl ?_
  refine r_getp C clX7 kd_75 (k := 1) (by decide) flX4_130 dX4_heldFor_11 pt_75_1 ?_
  refine r_iload_n C dX4_heldFor_14 rfl rfl ?_
  refine q_callVi (av := [zi v1]) (rest := []) C (tX2_isKnown 62 (Or.inl rfl) v1 M) lkX4_134 kd_62 rfl rfl rfl (Nat.le_of_ble_eq_true rfl) ⟨by decide, by decide⟩ dX4_heldFor_15 (fun q2 _ => ?_)
  refine q_if_eq (tgt := 31) C dX4_heldFor_18 (by decide) (fun _ => ?_) (fun _ => ?_)
  · refine r_aload_n C dX4_heldFor_31 rfl rfl ?_
    refine r_getp C clX4 kd_56 (k := 4) (by decide) flX4_21 dX4_heldFor_32 pt_56_4 ?_
    refine r_aload_n C dX4_heldFor_35 rfl rfl ?_
    refine r_iload_n C dX4_heldFor_36 rfl rfl ?_
    refine q_callVi (av := [zi v1]) (rest := [zr 60]) C (tX7_halfOf 62 (Or.inl rfl) v1 q2.2) lkX4_118 kd_75 rfl rfl rfl (Nat.le_of_ble_eq_true rfl) ⟨by decide, by decide⟩ dX4_heldFor_37 (fun q3 _ => ?_)
    refine r_iaload C dX4_heldFor_40 (fun v4 _ => ?_)
    exact r_ireturn C dX4_heldFor_41 rfl
  · refine r_aload_n C dX4_heldFor_21 rfl rfl ?_
    refine r_getp C clX7 kd_75 (k := 1) (by decide) flX4_130 dX4_heldFor_22 pt_75_1 ?_
    refine r_getp C clX2 kd_62 (k := 1) (by decide) flX4_139 dX4_heldFor_25 pt_62_1 ?_
    refine r_iload_n C dX4_heldFor_28 rfl rfl ?_
    refine r_iaload C dX4_heldFor_29 (fun v5 _ => ?_)
    exact r_ireturn C dX4_heldFor_30 rfl
set_option maxRecDepth 100000 in
set_option maxHeartbeats 4000000 in
theorem tX4_run (p1 : Int) (M : Mem) : Cn yX4_run cX4_run 7 none 4 88 [zr 56, zr 75, zi p1] M ((fX4_run p1 M).map oU) := by
  refine Cn_mk (own := RX4) rfl (by decide) (Nat.le_of_ble_eq_true rfl) [some (zr 56), some (zr 75), some (zi p1), none, none, none, none] rfl (fun G C hn => ?_)
  unfold fX4_run
  refine r_aload_n C dX4_run_0 rfl rfl ?_
  refine r_getp C clX7 kd_75 (k := 0) (by decide) flX4_102 dX4_run_1 pt_75_0 ?_
  refine r_astore_n (al' := [some (zr 56), some (zr 75), some (zi p1), some (zr 44), none, none, none]) C dX4_run_4 rfl (by rw [hn]; decide) rfl ?_
  refine r_iconst C dX4_run_5 (by decide) ?_
  refine r_istore (al' := [some (zr 56), some (zr 75), some (zi p1), some (zr 44), some (zi 0), none, none]) C dX4_run_6 (by rw [hn]; decide) rfl ?_
  refine r_lp (S := Int × Mem) (R := Mem) (pcX := 99) (AL := fun s1 => [some (zr 56), some (zr 75), some (zi p1), some (zr 44), some (zi s1.1), none, none]) (MM := fun s1 => s1.2) (AX := fun q13 => [none, none, none, none, none, none, none]) (MX := fun q13 => q13) ?_ ?_ (0, M)
  · intro q13
    exact r_return C dX4_run_99 rfl
  · intro gs1 hCs1 hXs1 s1
    unfold fX4_run_b1
    refine r_iload C dX4_run_8 rfl ?_
    refine r_aload_n C dX4_run_10 rfl rfl ?_
    refine q_geti C clX7 kd_75 (k := 4) (by decide) flX4_108 dX4_run_11 (kz := 4) rfl (by decide) ?_
    refine q_icmp_ge (tgt := 99) C dX4_run_14 (by decide) (fun _ => ?_) (fun _ => ?_)
    · refine r_less [false, false, false, false, false, false, false] rfl ?_
      exact hXs1 s1.2
    · refine r_aload_n C dX4_run_17 rfl rfl ?_
      refine r_getp C clX7 kd_75 (k := 3) (by decide) flX4_111 dX4_run_18 pt_75_3 ?_
      refine r_iload C dX4_run_21 rfl ?_
      refine r_iaload C dX4_run_23 (fun v2 _ => ?_)
      refine r_istore (al' := [some (zr 56), some (zr 75), some (zi p1), some (zr 44), some (zi s1.1), some (zi v2), none]) C dX4_run_24 (by rw [hn]; decide) rfl ?_
      refine r_iconst C dX4_run_26 (by decide) ?_
      refine r_istore (al' := [some (zr 56), some (zr 75), some (zi p1), some (zr 44), some (zi s1.1), some (zi v2), some (zi 0)]) C dX4_run_27 (by rw [hn]; decide) rfl ?_
      refine r_lp (S := Int × Mem) (R := Mem) (pcX := 74) (AL := fun s3 => [some (zr 56), some (zr 75), some (zi p1), some (zr 44), some (zi s1.1), some (zi v2), some (zi s3.1)]) (MM := fun s3 => s3.2) (AX := fun q9 => [some (zr 56), some (zr 75), some (zi p1), some (zr 44), some (zi s1.1), some (zi v2), none]) (MX := fun q9 => q9) ?_ ?_ (0, s1.2)
      · intro q9
        refine r_aload_n C dX4_run_74 rfl rfl ?_
        refine r_getp C clX4 kd_56 (k := 4) (by decide) flX4_21 dX4_run_75 pt_56_4 ?_
        refine r_aload_n C dX4_run_78 rfl rfl ?_
        refine r_iload C dX4_run_79 rfl ?_
        refine q_callVi (av := [zi v2]) (rest := [zr 60]) C (tX7_halfOf 62 (Or.inl rfl) v2 q9) lkX4_118 kd_75 rfl rfl rfl (Nat.le_of_ble_eq_true rfl) ⟨by decide, by decide⟩ dX4_run_81 (fun q10 _ => ?_)
        refine r_aload_n C dX4_run_84 rfl rfl ?_
        refine r_aload_n C dX4_run_85 rfl rfl ?_
        refine r_iload_n C dX4_run_86 rfl rfl ?_
        refine r_iload C dX4_run_87 rfl ?_
        refine q_callVi (av := [zr 44, zi p1, zi v2]) (rest := [zi q10.1, zr 60]) C (tX4_reckonOne p1 v2 q10.2) lkX4_43 kd_56 rfl rfl rfl (Nat.le_of_ble_eq_true rfl) ⟨by decide, by decide⟩ dX4_run_89 (fun q11 _ => ?_)
        refine r_iastore C dX4_run_92 (fun M12 _ => ?_)
        refine r_iinc (al' := [some (zr 56), some (zr 75), some (zi p1), some (zr 44), some (zi (w32 (s1.1 + 1))), some (zi v2), none]) C dX4_run_93 rfl (by rw [hn]; decide) rfl ?_
        refine r_goto (tgt := 8) C dX4_run_96 (by decide) ?_
        refine r_less [true, true, true, true, true, false, false] rfl ?_
        exact hCs1 (w32 (s1.1 + 1), M12)
      · intro gs3 hCs3 hXs3 s3
        unfold fX4_run_b2
        refine r_iload C dX4_run_29 rfl ?_
        refine r_aload_n C dX4_run_31 rfl rfl ?_
        refine r_getp C clX9 kd_44 (k := 1) (by decide) flX4_31 dX4_run_32 pt_44_1 ?_
        refine r_iload C dX4_run_35 rfl ?_
        refine r_iaload C dX4_run_37 (fun v4 _ => ?_)
        refine q_callNi (av := [zi v4]) (rest := [zi s3.1]) C (tX11_argsOf v4 s3.2) lkX4_36 rfl rfl (Nat.le_of_ble_eq_true rfl) ⟨by decide, by decide⟩ dX4_run_38 (fun q5 _ => ?_)
        refine q_icmp_ge (tgt := 74) C dX4_run_41 (by decide) (fun _ => ?_) (fun _ => ?_)
        · refine r_less [true, true, true, true, true, true, false] rfl ?_
          exact hXs3 q5.2
        · refine r_aload_n C dX4_run_44 rfl rfl ?_
          refine r_getp C clX4 kd_56 (k := 5) (by decide) flX4_24 dX4_run_45 pt_56_5 ?_
          refine r_iload C dX4_run_48 rfl ?_
          refine r_aload_n C dX4_run_50 rfl rfl ?_
          refine r_aload_n C dX4_run_51 rfl rfl ?_
          refine r_aload_n C dX4_run_52 rfl rfl ?_
          refine r_getp C clX9 kd_44 (k := 2) (by decide) flX4_40 dX4_run_53 pt_44_2 ?_
          refine r_iconst C dX4_run_56 (by decide) ?_
          refine r_iload C dX4_run_57 rfl ?_
          refine r_imul C dX4_run_59 ?_
          refine r_iload C dX4_run_60 rfl ?_
          refine r_iadd C dX4_run_62 ?_
          refine r_iaload C dX4_run_63 (fun v6 _ => ?_)
          refine q_callVi (av := [zr 75, zi v6]) (rest := [zi s3.1, zr 61]) C (tX4_heldFor v6 q5.2) lkX4_114 kd_56 rfl rfl rfl (Nat.le_of_ble_eq_true rfl) ⟨by decide, by decide⟩ dX4_run_64 (fun q7 _ => ?_)
          refine r_iastore C dX4_run_67 (fun M8 _ => ?_)
          refine r_iinc (al' := [some (zr 56), some (zr 75), some (zi p1), some (zr 44), some (zi s1.1), some (zi v2), some (zi (w32 (s3.1 + 1)))]) C dX4_run_68 rfl (by rw [hn]; decide) rfl ?_
          refine r_goto (tgt := 29) C dX4_run_71 (by decide) ?_
          exact hCs3 (w32 (s3.1 + 1), M8)
