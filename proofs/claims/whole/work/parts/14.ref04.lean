set_option maxRecDepth 100000 in
set_option maxHeartbeats 4000000 in
theorem tX4_reckonOne (p1 : Int) (p2 : Int) (M : Mem) : Cn yX4_reckonOne cX4_reckonOne 5 (some .int) 3 64 [zr 56, zr 44, zi p1, zi p2] M ((fX4_reckonOne p1 p2 M).map oI) := by
  refine Cn_mk (own := RX4) rfl (by decide) (Nat.le_of_ble_eq_true rfl) [some (zr 56), some (zr 44), some (zi p1), some (zi p2), none] rfl (fun G C hn => ?_)
  unfold fX4_reckonOne
  refine r_aload_n C dX4_reckonOne_0 rfl rfl ?_
  refine r_getp C clX9 kd_44 (k := 2) (by decide) flX4_40 dX4_reckonOne_1 pt_44_2 ?_
  refine r_iconst C dX4_reckonOne_4 (by decide) ?_
  refine r_iload_n C dX4_reckonOne_5 rfl rfl ?_
  refine r_imul C dX4_reckonOne_6 ?_
  refine r_iaload C dX4_reckonOne_7 (fun v1 _ => ?_)
  refine r_istore (al' := [some (zr 56), some (zr 44), some (zi p1), some (zi p2), some (zi v1)]) C dX4_reckonOne_8 (by rw [hn]; decide) rfl ?_
  refine r_aload_n C dX4_reckonOne_10 rfl rfl ?_
  refine r_getp C clX9 kd_44 (k := 1) (by decide) flX4_31 dX4_reckonOne_11 pt_44_1 ?_
  refine r_iload_n C dX4_reckonOne_14 rfl rfl ?_
  refine r_iaload C dX4_reckonOne_15 (fun v2 _ => ?_)
  refine r_ite (fun hx0 => ?_) (fun hx0 => ?_)
  · refine r_sw 44 ?_ (fun J => ?_)
    · refine r_aload_n C dX4_reckonOne_44 rfl rfl ?_
      refine r_getp C clX4 kd_56 (k := 0) (by decide) flX4_27 dX4_reckonOne_45 pt_56_0 ?_
      refine r_getp C clX0 kd_51 (k := 2) (by decide) flX4_47 dX4_reckonOne_48 pt_51_2 ?_
      refine r_iconst C dX4_reckonOne_51 (by decide) ?_
      refine r_iload C dX4_reckonOne_52 rfl ?_
      refine r_imul C dX4_reckonOne_54 ?_
      refine r_iload_n C dX4_reckonOne_55 rfl rfl ?_
      refine r_iadd C dX4_reckonOne_56 ?_
      refine r_iaload C dX4_reckonOne_57 (fun v3 _ => ?_)
      exact r_ireturn C dX4_reckonOne_58 rfl
    · skip
      exact r_look C dX4_reckonOne_16 (by decide) (by rw [hx0]) (by decide) J
  refine r_ite (fun hx1 => ?_) (fun hx1 => ?_)
  · refine r_sw 59 ?_ (fun J => ?_)
    · refine r_iload C dX4_reckonOne_59 rfl ?_
      exact r_ireturn C dX4_reckonOne_61 rfl
    · skip
      exact r_look C dX4_reckonOne_16 (by decide) (by rw [hx1]) (by decide) J
  refine r_look (off := 46) (tgt := 62) C dX4_reckonOne_16 (by decide) (by simp [Op.lookupswitch.offset, Ne.symm hx0, Ne.symm hx1]) (by decide) ?_
  refine r_aload_n C dX4_reckonOne_62 rfl rfl ?_
  refine r_getp C clX9 kd_44 (k := 1) (by decide) flX4_31 dX4_reckonOne_63 pt_44_1 ?_
  refine r_iload_n C dX4_reckonOne_66 rfl rfl ?_
  refine r_iaload C dX4_reckonOne_67 (fun v4 _ => ?_)
  refine r_aload_n C dX4_reckonOne_68 rfl rfl ?_
  refine r_getp C clX4 kd_56 (k := 5) (by decide) flX4_24 dX4_reckonOne_69 pt_56_5 ?_
  refine r_iconst C dX4_reckonOne_72 (by decide) ?_
  refine r_iaload C dX4_reckonOne_73 (fun v5 _ => ?_)
  refine r_aload_n C dX4_reckonOne_74 rfl rfl ?_
  refine r_getp C clX4 kd_56 (k := 5) (by decide) flX4_24 dX4_reckonOne_75 pt_56_5 ?_
  refine r_iconst C dX4_reckonOne_78 (by decide) ?_
  refine r_iaload C dX4_reckonOne_79 (fun v6 _ => ?_)
  refine r_aload_n C dX4_reckonOne_80 rfl rfl ?_
  refine r_getp C clX4 kd_56 (k := 5) (by decide) flX4_24 dX4_reckonOne_81 pt_56_5 ?_
  refine r_iconst C dX4_reckonOne_84 (by decide) ?_
  refine r_iaload C dX4_reckonOne_85 (fun v7 _ => ?_)
  refine r_aload_n C dX4_reckonOne_86 rfl rfl ?_
  refine r_getp C clX4 kd_56 (k := 0) (by decide) flX4_27 dX4_reckonOne_87 pt_56_0 ?_
  refine r_getp C clX0 kd_51 (k := 3) (by decide) flX4_52 dX4_reckonOne_90 pt_51_3 ?_
  refine q_callNi (av := [zi v4, zi v5, zi v6, zi v7, zr 55]) (rest := []) C (tX11_made v4 v5 v6 v7 M) lkX4_55 rfl rfl (Nat.le_of_ble_eq_true rfl) ⟨by decide, by decide⟩ dX4_reckonOne_93 (fun q8 _ => ?_)
  exact r_ireturn C dX4_reckonOne_96 rfl
set_option maxRecDepth 100000 in
set_option maxHeartbeats 4000000 in
theorem tX4_reckonLane (p1 : Int) (p2 : Int) (M : Mem) : Cn yX4_reckonLane cX4_reckonLane 7 (some .int) 4 88 [zr 56, zr 44, zi p1, zi p2] M ((fX4_reckonLane p1 p2 M).map oI) := by
  refine Cn_mk (own := RX4) rfl (by decide) (Nat.le_of_ble_eq_true rfl) [some (zr 56), some (zr 44), some (zi p1), some (zi p2), none, none, none] rfl (fun G C hn => ?_)
  unfold fX4_reckonLane
  refine r_iconst C dX4_reckonLane_0 (by decide) ?_
  refine r_istore (al' := [some (zr 56), some (zr 44), some (zi p1), some (zi p2), some (zi 0), none, none]) C dX4_reckonLane_1 (by rw [hn]; decide) rfl ?_
  refine r_lp (S := Int × Mem) (R := Mem) (pcX := 82) (AL := fun s1 => [some (zr 56), some (zr 44), some (zi p1), some (zi p2), some (zi s1.1), none, none]) (MM := fun s1 => s1.2) (AX := fun q11 => [some (zr 56), none, none, some (zi p2), none, none, none]) (MX := fun q11 => q11) ?_ ?_ (0, M)
  · intro q11
    refine r_aload_n C dX4_reckonLane_82 rfl rfl ?_
    refine r_getp C clX4 kd_56 (k := 1) (by decide) flX4_9 dX4_reckonLane_83 pt_56_1 ?_
    refine r_iload_n C dX4_reckonLane_86 rfl rfl ?_
    refine r_iaload C dX4_reckonLane_87 (fun v12 _ => ?_)
    exact r_ireturn C dX4_reckonLane_88 rfl
  · intro gs1 hCs1 hXs1 s1
    unfold fX4_reckonLane_b1
    refine r_iload C dX4_reckonLane_3 rfl ?_
    refine r_iload_n C dX4_reckonLane_5 rfl rfl ?_
    refine q_icmp_gt (tgt := 82) C dX4_reckonLane_6 (by decide) (fun _ => ?_) (fun _ => ?_)
    · refine r_less [true, false, false, true, false, false, false] rfl ?_
      exact hXs1 s1.2
    · refine r_aload_n C dX4_reckonLane_9 rfl rfl ?_
      refine r_getp C clX9 kd_44 (k := 1) (by decide) flX4_31 dX4_reckonLane_10 pt_44_1 ?_
      refine r_iload C dX4_reckonLane_13 rfl ?_
      refine r_iaload C dX4_reckonLane_15 (fun v2 _ => ?_)
      refine r_istore (al' := [some (zr 56), some (zr 44), some (zi p1), some (zi p2), some (zi s1.1), some (zi v2), none]) C dX4_reckonLane_16 (by rw [hn]; decide) rfl ?_
      refine r_iconst C dX4_reckonLane_18 (by decide) ?_
      refine r_istore (al' := [some (zr 56), some (zr 44), some (zi p1), some (zi p2), some (zi s1.1), some (zi v2), some (zi 0)]) C dX4_reckonLane_19 (by rw [hn]; decide) rfl ?_
      refine r_lp (S := Int × Mem) (R := Mem) (pcX := 61) (AL := fun s3 => [some (zr 56), some (zr 44), some (zi p1), some (zi p2), some (zi s1.1), some (zi v2), some (zi s3.1)]) (MM := fun s3 => s3.2) (AX := fun q8 => [some (zr 56), some (zr 44), some (zi p1), some (zi p2), some (zi s1.1), none, none]) (MX := fun q8 => q8) ?_ ?_ (0, s1.2)
      · intro q8
        refine r_aload_n C dX4_reckonLane_61 rfl rfl ?_
        refine r_getp C clX4 kd_56 (k := 1) (by decide) flX4_9 dX4_reckonLane_62 pt_56_1 ?_
        refine r_iload C dX4_reckonLane_65 rfl ?_
        refine r_aload_n C dX4_reckonLane_67 rfl rfl ?_
        refine r_aload_n C dX4_reckonLane_68 rfl rfl ?_
        refine r_iload_n C dX4_reckonLane_69 rfl rfl ?_
        refine r_iload C dX4_reckonLane_70 rfl ?_
        refine q_callVi (av := [zr 44, zi p1, zi s1.1]) (rest := [zi s1.1, zr 57]) C (tX4_reckonOne p1 s1.1 q8) lkX4_43 kd_56 rfl rfl rfl (Nat.le_of_ble_eq_true rfl) ⟨by decide, by decide⟩ dX4_reckonLane_72 (fun q9 _ => ?_)
        refine r_iastore C dX4_reckonLane_75 (fun M10 _ => ?_)
        refine r_iinc (al' := [some (zr 56), some (zr 44), some (zi p1), some (zi p2), some (zi (w32 (s1.1 + 1))), none, none]) C dX4_reckonLane_76 rfl (by rw [hn]; decide) rfl ?_
        refine r_goto (tgt := 3) C dX4_reckonLane_79 (by decide) ?_
        exact hCs1 (w32 (s1.1 + 1), M10)
      · intro gs3 hCs3 hXs3 s3
        unfold fX4_reckonLane_b2
        refine r_iload C dX4_reckonLane_21 rfl ?_
        refine r_iload C dX4_reckonLane_23 rfl ?_
        refine q_callNi (av := [zi v2]) (rest := [zi s3.1]) C (tX11_argsOf v2 s3.2) lkX4_36 rfl rfl (Nat.le_of_ble_eq_true rfl) ⟨by decide, by decide⟩ dX4_reckonLane_25 (fun q4 _ => ?_)
        refine q_icmp_ge (tgt := 61) C dX4_reckonLane_28 (by decide) (fun _ => ?_) (fun _ => ?_)
        · refine r_less [true, true, true, true, true, false, false] rfl ?_
          exact hXs3 q4.2
        · refine r_aload_n C dX4_reckonLane_31 rfl rfl ?_
          refine r_getp C clX4 kd_56 (k := 5) (by decide) flX4_24 dX4_reckonLane_32 pt_56_5 ?_
          refine r_iload C dX4_reckonLane_35 rfl ?_
          refine r_aload_n C dX4_reckonLane_37 rfl rfl ?_
          refine r_getp C clX4 kd_56 (k := 1) (by decide) flX4_9 dX4_reckonLane_38 pt_56_1 ?_
          refine r_aload_n C dX4_reckonLane_41 rfl rfl ?_
          refine r_getp C clX9 kd_44 (k := 2) (by decide) flX4_40 dX4_reckonLane_42 pt_44_2 ?_
          refine r_iconst C dX4_reckonLane_45 (by decide) ?_
          refine r_iload C dX4_reckonLane_46 rfl ?_
          refine r_imul C dX4_reckonLane_48 ?_
          refine r_iload C dX4_reckonLane_49 rfl ?_
          refine r_iadd C dX4_reckonLane_51 ?_
          refine r_iaload C dX4_reckonLane_52 (fun v5 _ => ?_)
          refine r_iaload C dX4_reckonLane_53 (fun v6 _ => ?_)
          refine r_iastore C dX4_reckonLane_54 (fun M7 _ => ?_)
          refine r_iinc (al' := [some (zr 56), some (zr 44), some (zi p1), some (zi p2), some (zi s1.1), some (zi v2), some (zi (w32 (s3.1 + 1)))]) C dX4_reckonLane_55 rfl (by rw [hn]; decide) rfl ?_
          refine r_goto (tgt := 21) C dX4_reckonLane_58 (by decide) ?_
          exact hCs3 (w32 (s3.1 + 1), M7)
set_option maxRecDepth 100000 in
set_option maxHeartbeats 4000000 in
theorem tX11_is (p1 : Int) (p2 : Int) (M : Mem) : Cn yX11_is cX11_is 3 (some .int) 5 114 [zr 0, zi p1, zi p2] M ((fX11_is p1 p2 M).map oI) := by
  refine Cn_mk (own := RX11) rfl (by decide) (Nat.le_of_ble_eq_true rfl) [some (zr 0), some (zi p1), some (zi p2)] rfl (fun G C hn => ?_)
  unfold fX11_is
  refine r_aload_n C dX11_is_0 rfl rfl ?_
  refine r_iload_n C dX11_is_1 rfl rfl ?_
  refine q_callVi (av := [zi p1]) (rest := []) C (tX11_isValue p1 M) lkX11_199 kd_0 rfl rfl rfl (Nat.le_of_ble_eq_true rfl) ⟨by decide, by decide⟩ dX11_is_2 (fun q1 _ => ?_)
  refine r_join (γ := Int × Mem) (pcJ := fun _ => 33) (al' := fun q4 => [none, none, none]) (st' := fun q4 => [zi q4.1]) (M' := fun q4 => q4.2) ?_ ?_
  · intro q4
    exact r_ireturn C dX11_is_33 rfl
  · intro hJq4
    refine q_if_eq (tgt := 31) C dX11_is_5 (by decide) (fun _ => ?_) (fun _ => ?_)
    · refine r_ldc C kiX11_229 rfl dX11_is_31 ?_
      refine r_less [false, false, false] rfl ?_
      exact hJq4 ((-2147483648), q1.2)
    · refine r_iload_n C dX11_is_8 rfl rfl ?_
      refine q_callSi (av := [zi p2]) (rest := []) C (tX11_isLane p2 q1.2) lkX11_178 rfl rfl (Nat.le_of_ble_eq_true rfl) ⟨by decide, by decide⟩ dX11_is_9 (fun q2 _ => ?_)
      refine q_if_eq (tgt := 31) C dX11_is_12 (by decide) (fun _ => ?_) (fun _ => ?_)
      · refine r_ldc C kiX11_229 rfl dX11_is_31 ?_
        refine r_less [false, false, false] rfl ?_
        exact hJq4 ((-2147483648), q2.2)
      · refine r_aload_n C dX11_is_15 rfl rfl ?_
        refine r_getp C clX11 kd_0 (k := 5) (by decide) flX11_53 dX11_is_16 pt_0_5 ?_
        refine r_aload_n C dX11_is_19 rfl rfl ?_
        refine r_getp C clX11 kd_0 (k := 3) (by decide) flX11_37 dX11_is_20 pt_0_3 ?_
        refine r_iload_n C dX11_is_23 rfl rfl ?_
        refine r_iload_n C dX11_is_24 rfl rfl ?_
        refine q_callVi (av := [zr 44, zi p2, zi p1]) (rest := []) C (tX4_reckonLane p2 p1 q2.2) lkX11_236 kd_56 rfl rfl rfl (Nat.le_of_ble_eq_true rfl) ⟨by decide, by decide⟩ dX11_is_25 (fun q3 _ => ?_)
        refine r_goto (tgt := 33) C dX11_is_28 (by decide) ?_
        refine r_less [false, false, false] rfl ?_
        exact hJq4 (q3.1, q3.2)
set_option maxRecDepth 100000 in
set_option maxHeartbeats 4000000 in
theorem tX11_differs (p1 : Int) (M : Mem) : Cn yX11_differs cX11_differs 5 (some .int) 5 114 [zr 0, zi p1] M ((fX11_differs p1 M).map oI) := by
  refine Cn_mk (own := RX11) rfl (by decide) (Nat.le_of_ble_eq_true rfl) [some (zr 0), some (zi p1), none, none, none] rfl (fun G C hn => ?_)
  unfold fX11_differs
  refine r_aload_n C dX11_differs_0 rfl rfl ?_
  refine r_iload_n C dX11_differs_1 rfl rfl ?_
  refine q_callVi (av := [zi p1]) (rest := []) C (tX11_isValue p1 M) lkX11_199 kd_0 rfl rfl rfl (Nat.le_of_ble_eq_true rfl) ⟨by decide, by decide⟩ dX11_differs_2 (fun q1 _ => ?_)
  refine q_if_ne (tgt := 10) C dX11_differs_5 (by decide) (fun _ => ?_) (fun _ => ?_)
  · refine r_aload_n C dX11_differs_10 rfl rfl ?_
    refine r_getp C clX11 kd_0 (k := 5) (by decide) flX11_53 dX11_differs_11 pt_0_5 ?_
    refine r_aload_n C dX11_differs_14 rfl rfl ?_
    refine r_getp C clX11 kd_0 (k := 3) (by decide) flX11_37 dX11_differs_15 pt_0_3 ?_
    refine r_iconst C dX11_differs_18 (by decide) ?_
    refine r_iload_n C dX11_differs_19 rfl rfl ?_
    refine q_callVi (av := [zr 44, zi 0, zi p1]) (rest := []) C (tX4_reckonLane 0 p1 q1.2) lkX11_236 kd_56 rfl rfl rfl (Nat.le_of_ble_eq_true rfl) ⟨by decide, by decide⟩ dX11_differs_20 (fun q2 _ => ?_)
    refine r_istore_n (al' := [some (zr 0), some (zi p1), some (zi q2.1), none, none]) C dX11_differs_23 rfl (by rw [hn]; decide) rfl ?_
    refine r_iconst C dX11_differs_24 (by decide) ?_
    refine r_istore_n (al' := [some (zr 0), some (zi p1), some (zi q2.1), some (zi 0), none]) C dX11_differs_25 rfl (by rw [hn]; decide) rfl ?_
    refine r_iconst C dX11_differs_26 (by decide) ?_
    refine r_istore (al' := [some (zr 0), some (zi p1), some (zi q2.1), some (zi 0), some (zi 1)]) C dX11_differs_27 (by rw [hn]; decide) rfl ?_
    refine r_lp (S := Int × Int × Mem) (R := Int × Mem) (pcX := 66) (AL := fun s3 => [some (zr 0), some (zi p1), some (zi q2.1), some (zi s3.1), some (zi s3.2.1)]) (MM := fun s3 => s3.2.2) (AX := fun q7 => [none, none, none, some (zi q7.1), none]) (MX := fun q7 => q7.2) ?_ ?_ (0, 1, q2.2)
    · intro q7
      refine r_iload_n C dX11_differs_66 rfl rfl ?_
      exact r_ireturn C dX11_differs_67 rfl
    · intro gs3 hCs3 hXs3 s3
      unfold fX11_differs_b1
      refine r_iload C dX11_differs_29 rfl ?_
      refine r_iconst C dX11_differs_31 (by decide) ?_
      refine q_icmp_ge (tgt := 66) C dX11_differs_32 (by decide) (fun _ => ?_) (fun _ => ?_)
      · refine r_less [false, false, false, true, false] rfl ?_
        exact hXs3 (s3.1, s3.2.2)
      · refine r_aload_n C dX11_differs_35 rfl rfl ?_
        refine r_getp C clX11 kd_0 (k := 5) (by decide) flX11_53 dX11_differs_36 pt_0_5 ?_
        refine r_aload_n C dX11_differs_39 rfl rfl ?_
        refine r_getp C clX11 kd_0 (k := 3) (by decide) flX11_37 dX11_differs_40 pt_0_3 ?_
        refine r_iload C dX11_differs_43 rfl ?_
        refine r_iload_n C dX11_differs_45 rfl rfl ?_
        refine q_callVi (av := [zr 44, zi s3.2.1, zi p1]) (rest := []) C (tX4_reckonLane s3.2.1 p1 s3.2.2) lkX11_236 kd_56 rfl rfl rfl (Nat.le_of_ble_eq_true rfl) ⟨by decide, by decide⟩ dX11_differs_46 (fun q4 _ => ?_)
        refine r_iload_n C dX11_differs_49 rfl rfl ?_
        refine r_join (γ := Int) (pcJ := fun _ => 60) (al' := fun q6 => [some (zr 0), some (zi p1), some (zi q2.1), some (zi q6), some (zi s3.2.1)]) (st' := fun q6 => []) (M' := fun q6 => q4.2) ?_ ?_
        · intro q6
          refine r_iinc (al' := [some (zr 0), some (zi p1), some (zi q2.1), some (zi q6), some (zi (w32 (s3.2.1 + 1)))]) C dX11_differs_60 rfl (by rw [hn]; decide) rfl ?_
          refine r_goto (tgt := 29) C dX11_differs_63 (by decide) ?_
          exact hCs3 (q6, w32 (s3.2.1 + 1), q4.2)
        · intro hJq6
          refine q_icmp_eq (tgt := 60) C dX11_differs_50 (by decide) (fun _ => ?_) (fun _ => ?_)
          · exact hJq6 s3.1
          · refine r_iload_n C dX11_differs_53 rfl rfl ?_
            refine r_iconst C dX11_differs_54 (by decide) ?_
            refine r_iload C dX11_differs_55 rfl ?_
            refine r_ishl C dX11_differs_57 ?_
            refine r_ior C dX11_differs_58 ?_
            refine r_let (fun v5 _ => ?_)
            refine r_istore_n (al' := [some (zr 0), some (zi p1), some (zi q2.1), some (zi v5), some (zi s3.2.1)]) C dX11_differs_59 rfl (by rw [hn]; decide) rfl ?_
            exact hJq6 v5
  · refine r_iconst C dX11_differs_8 (by decide) ?_
    exact r_ireturn C dX11_differs_9 rfl
set_option maxRecDepth 100000 in
set_option maxHeartbeats 4000000 in
theorem tX11_isShown (p1 : Int) (M : Mem) : Cn yX11_isShown cX11_isShown 2 (some .boolean) 0 0 [zr 0, zi p1] M ((fX11_isShown p1 M).map oI) := by
  refine Cn_mk (own := RX11) rfl (by decide) (Nat.le_of_ble_eq_true rfl) [some (zr 0), some (zi p1)] rfl (fun G C hn => ?_)
  unfold fX11_isShown
  refine r_iload_n C dX11_isShown_0 rfl rfl ?_
  refine r_join (γ := Int) (pcJ := fun _ => 20) (al' := fun q1 => [none, none]) (st' := fun q1 => [zi q1]) (M' := fun q1 => M) ?_ ?_
  · intro q1
    exact r_zreturn C dX11_isShown_20 rfl
  · intro hJq1
    refine q_if_lt (tgt := 19) C dX11_isShown_1 (by decide) (fun _ => ?_) (fun _ => ?_)
    · refine r_iconst C dX11_isShown_19 (by decide) ?_
      refine r_less [false, false] rfl ?_
      exact hJq1 0
    · refine r_iload_n C dX11_isShown_4 rfl rfl ?_
      refine r_aload_n C dX11_isShown_5 rfl rfl ?_
      refine r_getp C clX11 kd_0 (k := 3) (by decide) flX11_37 dX11_isShown_6 pt_0_3 ?_
      refine q_geti C clX9 kd_44 (k := 5) (by decide) flX11_361 dX11_isShown_9 (kz := 5) rfl (by decide) ?_
      refine q_icmp_ge (tgt := 19) C dX11_isShown_12 (by decide) (fun _ => ?_) (fun _ => ?_)
      · refine r_iconst C dX11_isShown_19 (by decide) ?_
        refine r_less [false, false] rfl ?_
        exact hJq1 0
      · refine r_iconst C dX11_isShown_15 (by decide) ?_
        refine r_goto (tgt := 20) C dX11_isShown_16 (by decide) ?_
        refine r_less [false, false] rfl ?_
        exact hJq1 1
set_option maxRecDepth 100000 in
set_option maxHeartbeats 4000000 in
theorem tX11_shown (p1 : Int) (M : Mem) : Cn yX11_shown cX11_shown 2 (some .int) 1 21 [zr 0, zi p1] M ((fX11_shown p1 M).map oI) := by
  refine Cn_mk (own := RX11) rfl (by decide) (Nat.le_of_ble_eq_true rfl) [some (zr 0), some (zi p1)] rfl (fun G C hn => ?_)
  unfold fX11_shown
  refine r_aload_n C dX11_shown_0 rfl rfl ?_
  refine r_iload_n C dX11_shown_1 rfl rfl ?_
  refine q_callVi (av := [zi p1]) (rest := []) C (tX11_isShown p1 M) lkX11_240 kd_0 rfl rfl rfl (Nat.le_of_ble_eq_true rfl) ⟨by decide, by decide⟩ dX11_shown_2 (fun q1 _ => ?_)
  refine r_join (γ := Int) (pcJ := fun _ => 21) (al' := fun q3 => [none, none]) (st' := fun q3 => [zi q3]) (M' := fun q3 => q1.2) ?_ ?_
  · intro q3
    exact r_ireturn C dX11_shown_21 rfl
  · intro hJq3
    refine q_if_eq (tgt := 20) C dX11_shown_5 (by decide) (fun _ => ?_) (fun _ => ?_)
    · refine r_iconst C dX11_shown_20 (by decide) ?_
      refine r_less [false, false] rfl ?_
      exact hJq3 (-1)
    · refine r_aload_n C dX11_shown_8 rfl rfl ?_
      refine r_getp C clX11 kd_0 (k := 3) (by decide) flX11_37 dX11_shown_9 pt_0_3 ?_
      refine r_getp C clX9 kd_44 (k := 6) (by decide) flX11_243 dX11_shown_12 pt_44_6 ?_
      refine r_iload_n C dX11_shown_15 rfl rfl ?_
      refine r_iaload C dX11_shown_16 (fun v2 _ => ?_)
      refine r_goto (tgt := 21) C dX11_shown_17 (by decide) ?_
      refine r_less [false, false] rfl ?_
      exact hJq3 v2
set_option maxRecDepth 100000 in
set_option maxHeartbeats 4000000 in
theorem tX9_isShown (p1 : Int) (M : Mem) : Cn yX9_isShown cX9_isShown 3 (some .boolean) 0 0 [zr 44, zi p1] M ((fX9_isShown p1 M).map oI) := by
  refine Cn_mk (own := RX9) rfl (by decide) (Nat.le_of_ble_eq_true rfl) [some (zr 44), some (zi p1), none] rfl (fun G C hn => ?_)
  unfold fX9_isShown
  refine r_iconst C dX9_isShown_0 (by decide) ?_
  refine r_istore_n (al' := [some (zr 44), some (zi p1), some (zi 0)]) C dX9_isShown_1 rfl (by rw [hn]; decide) rfl ?_
  refine r_lpr (S := Int) (X := Unit) (pcX := 28) (AL := fun s1 => [some (zr 44), some (zi p1), some (zi s1)]) (MM := fun s1 => M) (AX := fun q3 => [none, none, none]) (MX := fun q3 => M) ?_ ?_ 0
  · intro q3
    refine r_iconst C dX9_isShown_28 (by decide) ?_
    exact r_zreturn C dX9_isShown_29 rfl
  · intro gs1 hCs1 hXs1 s1
    unfold fX9_isShown_b1
    refine r_iload_n C dX9_isShown_2 rfl rfl ?_
    refine r_aload_n C dX9_isShown_3 rfl rfl ?_
    refine q_geti C clX9 kd_44 (k := 5) (by decide) flX9_35 dX9_isShown_4 (kz := 5) rfl (by decide) ?_
    refine q_icmp_ge (tgt := 28) C dX9_isShown_7 (by decide) (fun _ => ?_) (fun _ => ?_)
    · refine r_less [false, false, false] rfl ?_
      exact hXs1 ()
    · refine r_aload_n C dX9_isShown_10 rfl rfl ?_
      refine r_getp C clX9 kd_44 (k := 6) (by decide) flX9_25 dX9_isShown_11 pt_44_6 ?_
      refine r_iload_n C dX9_isShown_14 rfl rfl ?_
      refine r_iaload C dX9_isShown_15 (fun v2 _ => ?_)
      refine r_iload_n C dX9_isShown_16 rfl rfl ?_
      refine q_icmp_ne (tgt := 22) C dX9_isShown_17 (by decide) (fun _ => ?_) (fun _ => ?_)
      · refine r_iinc (al' := [some (zr 44), some (zi p1), some (zi (w32 (s1 + 1)))]) C dX9_isShown_22 rfl (by rw [hn]; decide) rfl ?_
        refine r_goto (tgt := 2) C dX9_isShown_25 (by decide) ?_
        exact hCs1 (w32 (s1 + 1))
      · refine r_iconst C dX9_isShown_20 (by decide) ?_
        exact r_zreturnB C dX9_isShown_21 rfl
set_option maxRecDepth 100000 in
set_option maxHeartbeats 4000000 in
theorem tX11_belongs (p1 : Int) (p2 : Int) (M : Mem) : Cn yX11_belongs cX11_belongs 3 (some .boolean) 1 22 [zr 0, zi p1, zi p2] M ((fX11_belongs p1 p2 M).map oI) := by
  refine Cn_mk (own := RX11) rfl (by decide) (Nat.le_of_ble_eq_true rfl) [some (zr 0), some (zi p1), some (zi p2)] rfl (fun G C hn => ?_)
  unfold fX11_belongs
  refine r_iload_n C dX11_belongs_0 rfl rfl ?_
  refine r_ite (fun hx0 => ?_) (fun hx0 => ?_)
  · refine r_sw 44 ?_ (fun J => ?_)
    · refine r_aload_n C dX11_belongs_44 rfl rfl ?_
      refine r_getp C clX11 kd_0 (k := 7) (by decide) flX11_71 dX11_belongs_45 pt_0_7 ?_
      refine r_iload_n C dX11_belongs_48 rfl rfl ?_
      refine q_callVi (av := [zi p1]) (rest := []) C (tX5_isNeeded 62 (Or.inl rfl) p1 M) lkX11_217 kd_66 rfl rfl rfl (Nat.le_of_ble_eq_true rfl) ⟨by decide, by decide⟩ dX11_belongs_49 (fun q1 _ => ?_)
      exact r_zreturn C dX11_belongs_52 rfl
    · skip
      exact r_tabIn (n := 0) C dX11_belongs_1 hx0 (by decide) (by decide) rfl (by decide) J
  refine r_ite (fun hx1 => ?_) (fun hx1 => ?_)
  · refine r_sw 53 ?_ (fun J => ?_)
    · refine r_aload_n C dX11_belongs_53 rfl rfl ?_
      refine r_getp C clX11 kd_0 (k := 3) (by decide) flX11_37 dX11_belongs_54 pt_0_3 ?_
      refine r_getp C clX9 kd_44 (k := 4) (by decide) flX11_211 dX11_belongs_57 pt_44_4 ?_
      refine r_iload_n C dX11_belongs_60 rfl rfl ?_
      refine r_zaload C dX11_belongs_61 (fun v2 _ => ?_)
      exact r_zreturn C dX11_belongs_62 rfl
    · skip
      exact r_tabIn (n := 1) C dX11_belongs_1 hx1 (by decide) (by decide) rfl (by decide) J
  refine r_ite (fun hx2 => ?_) (fun hx2 => ?_)
  · refine r_sw 63 ?_ (fun J => ?_)
    · refine r_aload_n C dX11_belongs_63 rfl rfl ?_
      refine r_getp C clX11 kd_0 (k := 6) (by decide) flX11_62 dX11_belongs_64 pt_0_6 ?_
      refine r_iload_n C dX11_belongs_67 rfl rfl ?_
      refine q_callVi (av := [zi p1]) (rest := []) C (tX2_isKnown 62 (Or.inl rfl) p1 M) lkX11_214 kd_62 rfl rfl rfl (Nat.le_of_ble_eq_true rfl) ⟨by decide, by decide⟩ dX11_belongs_68 (fun q3 _ => ?_)
      exact r_zreturn C dX11_belongs_71 rfl
    · skip
      exact r_tabIn (n := 2) C dX11_belongs_1 hx2 (by decide) (by decide) rfl (by decide) J
  refine r_ite (fun hx3 => ?_) (fun hx3 => ?_)
  · refine r_sw 72 ?_ (fun J => ?_)
    · refine r_aload_n C dX11_belongs_72 rfl rfl ?_
      refine r_getp C clX11 kd_0 (k := 6) (by decide) flX11_62 dX11_belongs_73 pt_0_6 ?_
      refine r_iload_n C dX11_belongs_76 rfl rfl ?_
      refine q_callVi (av := [zi p1]) (rest := []) C (tX2_isLow 62 (Or.inl rfl) p1 M) lkX11_267 kd_62 rfl rfl rfl (Nat.le_of_ble_eq_true rfl) ⟨by decide, by decide⟩ dX11_belongs_77 (fun q4 _ => ?_)
      exact r_zreturn C dX11_belongs_80 rfl
    · skip
      exact r_tabIn (n := 3) C dX11_belongs_1 hx3 (by decide) (by decide) rfl (by decide) J
  refine r_ite (fun hx4 => ?_) (fun hx4 => ?_)
  · refine r_sw 81 ?_ (fun J => ?_)
    · refine r_aload_n C dX11_belongs_81 rfl rfl ?_
      refine r_getp C clX11 kd_0 (k := 3) (by decide) flX11_37 dX11_belongs_82 pt_0_3 ?_
      refine r_getp C clX9 kd_44 (k := 3) (by decide) flX11_208 dX11_belongs_85 pt_44_3 ?_
      refine r_iload_n C dX11_belongs_88 rfl rfl ?_
      refine r_zaload C dX11_belongs_89 (fun v5 _ => ?_)
      exact r_zreturn C dX11_belongs_90 rfl
    · skip
      exact r_tabIn (n := 4) C dX11_belongs_1 hx4 (by decide) (by decide) rfl (by decide) J
  refine r_ite (fun hx5 => ?_) (fun hx5 => ?_)
  · refine r_sw 91 ?_ (fun J => ?_)
    · refine r_aload_n C dX11_belongs_91 rfl rfl ?_
      refine r_getp C clX11 kd_0 (k := 3) (by decide) flX11_37 dX11_belongs_92 pt_0_3 ?_
      refine r_iload_n C dX11_belongs_95 rfl rfl ?_
      refine q_callVi (av := [zi p1]) (rest := []) C (tX9_isShown p1 M) lkX11_270 kd_44 rfl rfl rfl (Nat.le_of_ble_eq_true rfl) ⟨by decide, by decide⟩ dX11_belongs_96 (fun q6 _ => ?_)
      exact r_zreturn C dX11_belongs_99 rfl
    · skip
      exact r_tabIn (n := 5) C dX11_belongs_1 hx5 (by decide) (by decide) rfl (by decide) J
  refine r_ite (fun hx6 => ?_) (fun hx6 => ?_)
  · refine r_sw 100 ?_ (fun J => ?_)
    · refine r_aload_n C dX11_belongs_100 rfl rfl ?_
      refine r_getp C clX11 kd_0 (k := 3) (by decide) flX11_37 dX11_belongs_101 pt_0_3 ?_
      refine r_getp C clX9 kd_44 (k := 1) (by decide) flX11_202 dX11_belongs_104 pt_44_1 ?_
      refine r_iload_n C dX11_belongs_107 rfl rfl ?_
      refine r_iaload C dX11_belongs_108 (fun v7 _ => ?_)
      refine r_bipush C dX11_belongs_109 (by decide) ?_
      refine r_join (γ := Int) (pcJ := fun _ => 119) (al' := fun q8 => [none, none, none]) (st' := fun q8 => [zi q8]) (M' := fun q8 => M) ?_ ?_
      · intro q8
        exact r_zreturn C dX11_belongs_119 rfl
      · intro hJq8
        refine q_icmp_ne (tgt := 118) C dX11_belongs_111 (by decide) (fun _ => ?_) (fun _ => ?_)
        · refine r_iconst C dX11_belongs_118 (by decide) ?_
          refine r_less [false, false, false] rfl ?_
          exact hJq8 0
        · refine r_iconst C dX11_belongs_114 (by decide) ?_
          refine r_goto (tgt := 119) C dX11_belongs_115 (by decide) ?_
          refine r_less [false, false, false] rfl ?_
          exact hJq8 1
    · skip
      exact r_tabIn (n := 6) C dX11_belongs_1 hx6 (by decide) (by decide) rfl (by decide) J
  refine r_tabOut (tgt := 120) C dX11_belongs_1 (by omega) (by decide) ?_
  refine r_iconst C dX11_belongs_120 (by decide) ?_
  exact r_zreturn C dX11_belongs_121 rfl
set_option maxRecDepth 100000 in
set_option maxHeartbeats 4000000 in
theorem tX11_all (p1 : Int) (M : Mem) : Cn yX11_all cX11_all 5 (some .long) 2 44 [zr 0, zi p1] M ((fX11_all p1 M).map oJ) := by
  refine Cn_mk (own := RX11) rfl (by decide) (Nat.le_of_ble_eq_true rfl) [some (zr 0), some (zi p1), none, none, none] rfl (fun G C hn => ?_)
  unfold fX11_all
  refine r_lconst C dX11_all_0 rfl ?_
  refine r_lstore_n (al' := [some (zr 0), some (zi p1), some (zl 0), none, none]) C dX11_all_1 rfl (by rw [hn]; decide) rfl ?_
  refine r_iconst C dX11_all_2 (by decide) ?_
  refine r_istore (al' := [some (zr 0), some (zi p1), some (zl 0), none, some (zi 0)]) C dX11_all_3 (by rw [hn]; decide) rfl ?_
  refine r_lp (S := Int × Int × Mem) (R := Int × Mem) (pcX := 40) (AL := fun s1 => [some (zr 0), some (zi p1), some (zl s1.1), none, some (zi s1.2.1)]) (MM := fun s1 => s1.2.2) (AX := fun q5 => [none, none, some (zl q5.1), none, none]) (MX := fun q5 => q5.2) ?_ ?_ (0, 0, M)
  · intro q5
    refine r_lload_n C dX11_all_40 rfl rfl ?_
    exact r_lreturn C dX11_all_41 rfl
  · intro gs1 hCs1 hXs1 s1
    unfold fX11_all_b1
    refine r_iload C dX11_all_5 rfl ?_
    refine r_aload_n C dX11_all_7 rfl rfl ?_
    refine r_getp C clX11 kd_0 (k := 3) (by decide) flX11_37 dX11_all_8 pt_0_3 ?_
    refine q_geti C clX9 kd_44 (k := 0) (by decide) flX11_261 dX11_all_11 (kz := 0) rfl (by decide) ?_
    refine q_icmp_ge (tgt := 40) C dX11_all_14 (by decide) (fun _ => ?_) (fun _ => ?_)
    · refine r_less [false, false, true, false, false] rfl ?_
      exact hXs1 (s1.1, s1.2.2)
    · refine r_aload_n C dX11_all_17 rfl rfl ?_
      refine r_iload C dX11_all_18 rfl ?_
      refine r_iload_n C dX11_all_20 rfl rfl ?_
      refine q_callVi (av := [zi s1.2.1, zi p1]) (rest := []) C (tX11_belongs s1.2.1 p1 s1.2.2) lkX11_264 kd_0 rfl rfl rfl (Nat.le_of_ble_eq_true rfl) ⟨by decide, by decide⟩ dX11_all_21 (fun q2 _ => ?_)
      refine r_join (γ := Int) (pcJ := fun _ => 34) (al' := fun q4 => [some (zr 0), some (zi p1), some (zl q4), none, some (zi s1.2.1)]) (st' := fun q4 => []) (M' := fun q4 => q2.2) ?_ ?_
      · intro q4
        refine r_iinc (al' := [some (zr 0), some (zi p1), some (zl q4), none, some (zi (w32 (s1.2.1 + 1)))]) C dX11_all_34 rfl (by rw [hn]; decide) rfl ?_
        refine r_goto (tgt := 5) C dX11_all_37 (by decide) ?_
        exact hCs1 (q4, w32 (s1.2.1 + 1), q2.2)
      · intro hJq4
        refine q_if_eq (tgt := 34) C dX11_all_24 (by decide) (fun _ => ?_) (fun _ => ?_)
        · exact hJq4 s1.1
        · refine r_lload_n C dX11_all_27 rfl rfl ?_
          refine r_lconst C dX11_all_28 rfl ?_
          refine r_iload C dX11_all_29 rfl ?_
          refine r_lshl C dX11_all_31 ?_
          refine r_lor C dX11_all_32 ?_
          refine r_letl (fun v3 _ => ?_)
          refine r_lstore_n (al' := [some (zr 0), some (zi p1), some (zl v3), none, some (zi s1.2.1)]) C dX11_all_33 rfl (by rw [hn]; decide) rfl ?_
          exact hJq4 v3
set_option maxRecDepth 100000 in
set_option maxHeartbeats 4000000 in
theorem tX11_kin (p1 : Int) (p2 : Int) (M : Mem) : Cn yX11_kin cX11_kin 3 (some .long) 1 21 [zr 0, zi p1, zi p2] M ((fX11_kin p1 p2 M).map oJ) := by
  refine Cn_mk (own := RX11) rfl (by decide) (Nat.le_of_ble_eq_true rfl) [some (zr 0), some (zi p1), some (zi p2)] rfl (fun G C hn => ?_)
  unfold fX11_kin
  refine r_aload_n C dX11_kin_0 rfl rfl ?_
  refine r_iload_n C dX11_kin_1 rfl rfl ?_
  refine q_callVi (av := [zi p1]) (rest := []) C (tX11_isValue p1 M) lkX11_199 kd_0 rfl rfl rfl (Nat.le_of_ble_eq_true rfl) ⟨by decide, by decide⟩ dX11_kin_2 (fun q1 _ => ?_)
  refine q_if_eq (tgt := 19) C dX11_kin_5 (by decide) (fun _ => ?_) (fun _ => ?_)
  · refine r_lconst C dX11_kin_19 rfl ?_
    exact r_lreturn C dX11_kin_20 rfl
  · refine r_aload_n C dX11_kin_8 rfl rfl ?_
    refine r_getp C clX11 kd_0 (k := 7) (by decide) flX11_71 dX11_kin_9 pt_0_7 ?_
    refine r_iload_n C dX11_kin_12 rfl rfl ?_
    refine q_callVi (av := [zi p1]) (rest := []) C (tX5_isNeeded 62 (Or.inl rfl) p1 q1.2) lkX11_217 kd_66 rfl rfl rfl (Nat.le_of_ble_eq_true rfl) ⟨by decide, by decide⟩ dX11_kin_13 (fun q2 _ => ?_)
    refine q_if_ne (tgt := 21) C dX11_kin_16 (by decide) (fun _ => ?_) (fun _ => ?_)
    · refine r_iload_n C dX11_kin_21 rfl rfl ?_
      refine r_ite (fun hx0 => ?_) (fun hx0 => ?_)
      · refine r_sw 52 ?_ (fun J => ?_)
        · refine r_aload_n C dX11_kin_52 rfl rfl ?_
          refine r_getp C clX11 kd_0 (k := 7) (by decide) flX11_71 dX11_kin_53 pt_0_7 ?_
          refine r_getp C clX5 kd_66 (k := 7) (by decide) flX11_271 dX11_kin_56 pt_66_7 ?_
          refine r_iload_n C dX11_kin_59 rfl rfl ?_
          refine r_laload C dX11_kin_60 (fun v3 _ => ?_)
          exact r_lreturn C dX11_kin_61 rfl
        · skip
          exact r_tabIn (n := 0) C dX11_kin_22 hx0 (by decide) (by decide) rfl (by decide) J
      refine r_ite (fun hx1 => ?_) (fun hx1 => ?_)
      · refine r_sw 62 ?_ (fun J => ?_)
        · refine r_aload_n C dX11_kin_62 rfl rfl ?_
          refine r_getp C clX11 kd_0 (k := 7) (by decide) flX11_71 dX11_kin_63 pt_0_7 ?_
          refine r_getp C clX5 kd_66 (k := 8) (by decide) flX11_275 dX11_kin_66 pt_66_8 ?_
          refine r_iload_n C dX11_kin_69 rfl rfl ?_
          refine r_laload C dX11_kin_70 (fun v4 _ => ?_)
          exact r_lreturn C dX11_kin_71 rfl
        · skip
          exact r_tabIn (n := 1) C dX11_kin_22 hx1 (by decide) (by decide) rfl (by decide) J
      refine r_ite (fun hx2 => ?_) (fun hx2 => ?_)
      · refine r_sw 72 ?_ (fun J => ?_)
        · refine r_aload_n C dX11_kin_72 rfl rfl ?_
          refine r_getp C clX11 kd_0 (k := 7) (by decide) flX11_71 dX11_kin_73 pt_0_7 ?_
          refine r_getp C clX5 kd_66 (k := 9) (by decide) flX11_278 dX11_kin_76 pt_66_9 ?_
          refine r_iload_n C dX11_kin_79 rfl rfl ?_
          refine r_laload C dX11_kin_80 (fun v5 _ => ?_)
          exact r_lreturn C dX11_kin_81 rfl
        · skip
          exact r_tabIn (n := 2) C dX11_kin_22 hx2 (by decide) (by decide) rfl (by decide) J
      refine r_ite (fun hx3 => ?_) (fun hx3 => ?_)
      · refine r_sw 82 ?_ (fun J => ?_)
        · refine r_aload_n C dX11_kin_82 rfl rfl ?_
          refine r_getp C clX11 kd_0 (k := 7) (by decide) flX11_71 dX11_kin_83 pt_0_7 ?_
          refine r_getp C clX5 kd_66 (k := 10) (by decide) flX11_281 dX11_kin_86 pt_66_10 ?_
          refine r_iload_n C dX11_kin_89 rfl rfl ?_
          refine r_laload C dX11_kin_90 (fun v6 _ => ?_)
          exact r_lreturn C dX11_kin_91 rfl
        · skip
          exact r_tabIn (n := 3) C dX11_kin_22 hx3 (by decide) (by decide) rfl (by decide) J
      refine r_tabOut (tgt := 92) C dX11_kin_22 (by omega) (by decide) ?_
      refine r_lconst C dX11_kin_92 rfl ?_
      exact r_lreturn C dX11_kin_93 rfl
    · refine r_lconst C dX11_kin_19 rfl ?_
      exact r_lreturn C dX11_kin_20 rfl
set_option maxRecDepth 100000 in
set_option maxHeartbeats 4000000 in
theorem tX11_isPlace (p1 : Int) (M : Mem) : Cn yX11_isPlace cX11_isPlace 2 (some .boolean) 0 0 [zr 0, zi p1] M ((fX11_isPlace p1 M).map oI) := by
  refine Cn_mk (own := RX11) rfl (by decide) (Nat.le_of_ble_eq_true rfl) [some (zr 0), some (zi p1)] rfl (fun G C hn => ?_)
  unfold fX11_isPlace
  refine r_iload_n C dX11_isPlace_0 rfl rfl ?_
  refine r_join (γ := Int) (pcJ := fun _ => 20) (al' := fun q1 => [none, none]) (st' := fun q1 => [zi q1]) (M' := fun q1 => M) ?_ ?_
  · intro q1
    exact r_zreturn C dX11_isPlace_20 rfl
  · intro hJq1
    refine q_if_lt (tgt := 19) C dX11_isPlace_1 (by decide) (fun _ => ?_) (fun _ => ?_)
    · refine r_iconst C dX11_isPlace_19 (by decide) ?_
      refine r_less [false, false] rfl ?_
      exact hJq1 0
    · refine r_iload_n C dX11_isPlace_4 rfl rfl ?_
      refine r_aload_n C dX11_isPlace_5 rfl rfl ?_
      refine r_getp C clX11 kd_0 (k := 8) (by decide) flX11_80 dX11_isPlace_6 pt_0_8 ?_
      refine q_geti C clX7 kd_75 (k := 4) (by decide) flX11_308 dX11_isPlace_9 (kz := 4) rfl (by decide) ?_
      refine q_icmp_ge (tgt := 19) C dX11_isPlace_12 (by decide) (fun _ => ?_) (fun _ => ?_)
      · refine r_iconst C dX11_isPlace_19 (by decide) ?_
        refine r_less [false, false] rfl ?_
        exact hJq1 0
      · refine r_iconst C dX11_isPlace_15 (by decide) ?_
        refine r_goto (tgt := 20) C dX11_isPlace_16 (by decide) ?_
        refine r_less [false, false] rfl ?_
        exact hJq1 1
set_option maxRecDepth 100000 in
set_option maxHeartbeats 4000000 in
theorem tX11_order (p1 : Int) (M : Mem) : Cn yX11_order cX11_order 2 (some .int) 1 21 [zr 0, zi p1] M ((fX11_order p1 M).map oI) := by
  refine Cn_mk (own := RX11) rfl (by decide) (Nat.le_of_ble_eq_true rfl) [some (zr 0), some (zi p1)] rfl (fun G C hn => ?_)
  unfold fX11_order
  refine r_aload_n C dX11_order_0 rfl rfl ?_
  refine r_iload_n C dX11_order_1 rfl rfl ?_
  refine q_callVi (av := [zi p1]) (rest := []) C (tX11_isPlace p1 M) lkX11_284 kd_0 rfl rfl rfl (Nat.le_of_ble_eq_true rfl) ⟨by decide, by decide⟩ dX11_order_2 (fun q1 _ => ?_)
  refine r_join (γ := Int) (pcJ := fun _ => 21) (al' := fun q3 => [none, none]) (st' := fun q3 => [zi q3]) (M' := fun q3 => q1.2) ?_ ?_
  · intro q3
    exact r_ireturn C dX11_order_21 rfl
  · intro hJq3
    refine q_if_eq (tgt := 20) C dX11_order_5 (by decide) (fun _ => ?_) (fun _ => ?_)
    · refine r_iconst C dX11_order_20 (by decide) ?_
      refine r_less [false, false] rfl ?_
      exact hJq3 (-1)
    · refine r_aload_n C dX11_order_8 rfl rfl ?_
      refine r_getp C clX11 kd_0 (k := 8) (by decide) flX11_80 dX11_order_9 pt_0_8 ?_
      refine r_getp C clX7 kd_75 (k := 3) (by decide) flX11_287 dX11_order_12 pt_75_3 ?_
      refine r_iload_n C dX11_order_15 rfl rfl ?_
      refine r_iaload C dX11_order_16 (fun v2 _ => ?_)
      refine r_goto (tgt := 21) C dX11_order_17 (by decide) ?_
      refine r_less [false, false] rfl ?_
      exact hJq3 v2
set_option maxRecDepth 100000 in
set_option maxHeartbeats 4000000 in
theorem tJ13_bitCount_95d88 (p1 : Int) (M : Mem) : Cn yJ13_bitCount_95d88 cJ13_bitCount_95d88 2 (some .int) 0 0 [zl p1] M ((fJ13_bitCount_95d88 p1 M).map oI) := by
  refine Cn_mk (own := RJ13) rfl (by decide) (Nat.le_of_ble_eq_true rfl) [some (zl p1), none] rfl (fun G C hn => ?_)
  unfold fJ13_bitCount_95d88
  refine r_lload_n C dJ13_bitCount_95d88_0 rfl rfl ?_
  refine r_lload_n C dJ13_bitCount_95d88_1 rfl rfl ?_
  refine r_iconst C dJ13_bitCount_95d88_2 (by decide) ?_
  refine r_lushr C dJ13_bitCount_95d88_3 ?_
  refine r_ldc2 C klJ13_314 rfl dJ13_bitCount_95d88_4 ?_
  refine r_land C dJ13_bitCount_95d88_7 ?_
  refine r_lsub C dJ13_bitCount_95d88_8 ?_
  refine r_letl (fun v1 _ => ?_)
  refine r_lstore_n (al' := [some (zl v1), none]) C dJ13_bitCount_95d88_9 rfl (by rw [hn]; decide) rfl ?_
  refine r_lload_n C dJ13_bitCount_95d88_10 rfl rfl ?_
  refine r_ldc2 C klJ13_316 rfl dJ13_bitCount_95d88_11 ?_
  refine r_land C dJ13_bitCount_95d88_14 ?_
  refine r_lload_n C dJ13_bitCount_95d88_15 rfl rfl ?_
  refine r_iconst C dJ13_bitCount_95d88_16 (by decide) ?_
  refine r_lushr C dJ13_bitCount_95d88_17 ?_
  refine r_ldc2 C klJ13_316 rfl dJ13_bitCount_95d88_18 ?_
  refine r_land C dJ13_bitCount_95d88_21 ?_
  refine r_ladd C dJ13_bitCount_95d88_22 ?_
  refine r_letl (fun v2 _ => ?_)
  refine r_lstore_n (al' := [some (zl v2), none]) C dJ13_bitCount_95d88_23 rfl (by rw [hn]; decide) rfl ?_
  refine r_lload_n C dJ13_bitCount_95d88_24 rfl rfl ?_
  refine r_lload_n C dJ13_bitCount_95d88_25 rfl rfl ?_
  refine r_iconst C dJ13_bitCount_95d88_26 (by decide) ?_
  refine r_lushr C dJ13_bitCount_95d88_27 ?_
  refine r_ladd C dJ13_bitCount_95d88_28 ?_
  refine r_ldc2 C klJ13_318 rfl dJ13_bitCount_95d88_29 ?_
  refine r_land C dJ13_bitCount_95d88_32 ?_
  refine r_letl (fun v3 _ => ?_)
  refine r_lstore_n (al' := [some (zl v3), none]) C dJ13_bitCount_95d88_33 rfl (by rw [hn]; decide) rfl ?_
  refine r_lload_n C dJ13_bitCount_95d88_34 rfl rfl ?_
  refine r_lload_n C dJ13_bitCount_95d88_35 rfl rfl ?_
  refine r_bipush C dJ13_bitCount_95d88_36 (by decide) ?_
  refine r_lushr C dJ13_bitCount_95d88_38 ?_
  refine r_ladd C dJ13_bitCount_95d88_39 ?_
  refine r_letl (fun v4 _ => ?_)
  refine r_lstore_n (al' := [some (zl v4), none]) C dJ13_bitCount_95d88_40 rfl (by rw [hn]; decide) rfl ?_
  refine r_lload_n C dJ13_bitCount_95d88_41 rfl rfl ?_
  refine r_lload_n C dJ13_bitCount_95d88_42 rfl rfl ?_
  refine r_bipush C dJ13_bitCount_95d88_43 (by decide) ?_
  refine r_lushr C dJ13_bitCount_95d88_45 ?_
  refine r_ladd C dJ13_bitCount_95d88_46 ?_
  refine r_letl (fun v5 _ => ?_)
  refine r_lstore_n (al' := [some (zl v5), none]) C dJ13_bitCount_95d88_47 rfl (by rw [hn]; decide) rfl ?_
  refine r_lload_n C dJ13_bitCount_95d88_48 rfl rfl ?_
  refine r_lload_n C dJ13_bitCount_95d88_49 rfl rfl ?_
  refine r_bipush C dJ13_bitCount_95d88_50 (by decide) ?_
  refine r_lushr C dJ13_bitCount_95d88_52 ?_
  refine r_ladd C dJ13_bitCount_95d88_53 ?_
  refine r_letl (fun v6 _ => ?_)
  refine r_lstore_n (al' := [some (zl v6), none]) C dJ13_bitCount_95d88_54 rfl (by rw [hn]; decide) rfl ?_
  refine r_lload_n C dJ13_bitCount_95d88_55 rfl rfl ?_
  refine r_l2i C dJ13_bitCount_95d88_56 ?_
  refine r_bipush C dJ13_bitCount_95d88_57 (by decide) ?_
  refine r_iand C dJ13_bitCount_95d88_59 ?_
  exact r_ireturn C dJ13_bitCount_95d88_60 rfl
set_option maxRecDepth 100000 in
set_option maxHeartbeats 4000000 in
theorem tX11_place (p1 : Int) (p2 : Int) (M : Mem) : Cn yX11_place cX11_place 3 (some .int) 1 21 [zr 0, zi p1, zi p2] M ((fX11_place p1 p2 M).map oI) := by
  refine Cn_mk (own := RX11) rfl (by decide) (Nat.le_of_ble_eq_true rfl) [some (zr 0), some (zi p1), some (zi p2)] rfl (fun G C hn => ?_)
  unfold fX11_place
  refine r_aload_n C dX11_place_0 rfl rfl ?_
  refine r_iload_n C dX11_place_1 rfl rfl ?_
  refine q_callVi (av := [zi p1]) (rest := []) C (tX11_isValue p1 M) lkX11_199 kd_0 rfl rfl rfl (Nat.le_of_ble_eq_true rfl) ⟨by decide, by decide⟩ dX11_place_2 (fun q1 _ => ?_)
  refine q_if_eq (tgt := 19) C dX11_place_5 (by decide) (fun _ => ?_) (fun _ => ?_)
  · refine r_iconst C dX11_place_19 (by decide) ?_
    exact r_ireturn C dX11_place_20 rfl
  · refine r_aload_n C dX11_place_8 rfl rfl ?_
    refine r_getp C clX11 kd_0 (k := 7) (by decide) flX11_71 dX11_place_9 pt_0_7 ?_
    refine r_iload_n C dX11_place_12 rfl rfl ?_
    refine q_callVi (av := [zi p1]) (rest := []) C (tX5_isNeeded 62 (Or.inl rfl) p1 q1.2) lkX11_217 kd_66 rfl rfl rfl (Nat.le_of_ble_eq_true rfl) ⟨by decide, by decide⟩ dX11_place_13 (fun q2 _ => ?_)
    refine q_if_ne (tgt := 21) C dX11_place_16 (by decide) (fun _ => ?_) (fun _ => ?_)
    · refine r_iload_n C dX11_place_21 rfl rfl ?_
      refine r_ite (fun hx0 => ?_) (fun hx0 => ?_)
      · refine r_sw 60 ?_ (fun J => ?_)
        · refine r_aload_n C dX11_place_60 rfl rfl ?_
          refine r_getp C clX11 kd_0 (k := 8) (by decide) flX11_80 dX11_place_61 pt_0_8 ?_
          refine r_getp C clX7 kd_75 (k := 5) (by decide) flX11_290 dX11_place_64 pt_75_5 ?_
          refine r_iload_n C dX11_place_67 rfl rfl ?_
          refine r_iaload C dX11_place_68 (fun v3 _ => ?_)
          exact r_ireturn C dX11_place_69 rfl
        · skip
          exact r_tabIn (n := 0) C dX11_place_22 hx0 (by decide) (by decide) rfl (by decide) J
      refine r_ite (fun hx1 => ?_) (fun hx1 => ?_)
      · refine r_sw 70 ?_ (fun J => ?_)
        · refine r_aload_n C dX11_place_70 rfl rfl ?_
          refine r_getp C clX11 kd_0 (k := 8) (by decide) flX11_80 dX11_place_71 pt_0_8 ?_
          refine r_getp C clX7 kd_75 (k := 6) (by decide) flX11_293 dX11_place_74 pt_75_6 ?_
          refine r_iload_n C dX11_place_77 rfl rfl ?_
          refine r_iaload C dX11_place_78 (fun v4 _ => ?_)
          exact r_ireturn C dX11_place_79 rfl
        · skip
          exact r_tabIn (n := 1) C dX11_place_22 hx1 (by decide) (by decide) rfl (by decide) J
      refine r_ite (fun hx2 => ?_) (fun hx2 => ?_)
      · refine r_sw 80 ?_ (fun J => ?_)
        · refine r_aload_n C dX11_place_80 rfl rfl ?_
          refine r_getp C clX11 kd_0 (k := 8) (by decide) flX11_80 dX11_place_81 pt_0_8 ?_
          refine r_getp C clX7 kd_75 (k := 9) (by decide) flX11_296 dX11_place_84 pt_75_9 ?_
          refine r_iload_n C dX11_place_87 rfl rfl ?_
          refine r_iaload C dX11_place_88 (fun v5 _ => ?_)
          exact r_ireturn C dX11_place_89 rfl
        · skip
          exact r_tabIn (n := 2) C dX11_place_22 hx2 (by decide) (by decide) rfl (by decide) J
      refine r_ite (fun hx3 => ?_) (fun hx3 => ?_)
      · refine r_sw 90 ?_ (fun J => ?_)
        · refine r_aload_n C dX11_place_90 rfl rfl ?_
          refine r_getp C clX11 kd_0 (k := 8) (by decide) flX11_80 dX11_place_91 pt_0_8 ?_
          refine r_getp C clX7 kd_75 (k := 12) (by decide) flX11_299 dX11_place_94 pt_75_12 ?_
          refine r_iload_n C dX11_place_97 rfl rfl ?_
          refine r_iaload C dX11_place_98 (fun v6 _ => ?_)
          exact r_ireturn C dX11_place_99 rfl
        · skip
          exact r_tabIn (n := 3) C dX11_place_22 hx3 (by decide) (by decide) rfl (by decide) J
      refine r_ite (fun hx4 => ?_) (fun hx4 => ?_)
      · refine r_sw 100 ?_ (fun J => ?_)
        · refine r_aload_n C dX11_place_100 rfl rfl ?_
          refine r_getp C clX11 kd_0 (k := 7) (by decide) flX11_71 dX11_place_101 pt_0_7 ?_
          refine r_getp C clX5 kd_66 (k := 9) (by decide) flX11_278 dX11_place_104 pt_66_9 ?_
          refine r_iload_n C dX11_place_107 rfl rfl ?_
          refine r_laload C dX11_place_108 (fun v7 _ => ?_)
          refine q_callSi (av := [zl v7]) (rest := []) C (tJ13_bitCount_95d88 v7 q2.2) lkX11_302 rfl rfl (Nat.le_of_ble_eq_true rfl) ⟨by decide, by decide⟩ dX11_place_109 (fun q8 _ => ?_)
          exact r_ireturn C dX11_place_112 rfl
        · skip
          exact r_tabIn (n := 4) C dX11_place_22 hx4 (by decide) (by decide) rfl (by decide) J
      refine r_ite (fun hx5 => ?_) (fun hx5 => ?_)
      · refine r_sw 113 ?_ (fun J => ?_)
        · refine r_aload_n C dX11_place_113 rfl rfl ?_
          refine r_getp C clX11 kd_0 (k := 8) (by decide) flX11_80 dX11_place_114 pt_0_8 ?_
          refine q_geti C clX7 kd_75 (k := 4) (by decide) flX11_308 dX11_place_117 (kz := 4) rfl (by decide) ?_
          refine r_iconst C dX11_place_120 (by decide) ?_
          refine r_isub C dX11_place_121 ?_
          refine r_aload_n C dX11_place_122 rfl rfl ?_
          refine r_getp C clX11 kd_0 (k := 7) (by decide) flX11_71 dX11_place_123 pt_0_7 ?_
          refine r_getp C clX5 kd_66 (k := 10) (by decide) flX11_281 dX11_place_126 pt_66_10 ?_
          refine r_iload_n C dX11_place_129 rfl rfl ?_
          refine r_laload C dX11_place_130 (fun v9 _ => ?_)
          refine q_callSi (av := [zl v9]) (rest := [zi (w32 ((q2.2 75 4) - 1))]) C (tJ13_bitCount_95d88 v9 q2.2) lkX11_302 rfl rfl (Nat.le_of_ble_eq_true rfl) ⟨by decide, by decide⟩ dX11_place_131 (fun q10 _ => ?_)
          refine r_isub C dX11_place_134 ?_
          exact r_ireturn C dX11_place_135 rfl
        · skip
          exact r_tabIn (n := 5) C dX11_place_22 hx5 (by decide) (by decide) rfl (by decide) J
      refine r_tabOut (tgt := 136) C dX11_place_22 (by omega) (by decide) ?_
      refine r_iconst C dX11_place_136 (by decide) ?_
      exact r_ireturn C dX11_place_137 rfl
    · refine r_iconst C dX11_place_19 (by decide) ?_
      exact r_ireturn C dX11_place_20 rfl
set_option maxRecDepth 100000 in
set_option maxHeartbeats 4000000 in
theorem tX11_pressure (p1 : Int) (M : Mem) : Cn yX11_pressure cX11_pressure 2 (some .int) 0 0 [zr 0, zi p1] M ((fX11_pressure p1 M).map oI) := by
  refine Cn_mk (own := RX11) rfl (by decide) (Nat.le_of_ble_eq_true rfl) [some (zr 0), some (zi p1)] rfl (fun G C hn => ?_)
  unfold fX11_pressure
  refine r_iload_n C dX11_pressure_0 rfl rfl ?_
  refine r_join (γ := Int) (pcJ := fun _ => 22) (al' := fun q2 => [none, none]) (st' := fun q2 => [zi q2]) (M' := fun q2 => M) ?_ ?_
  · intro q2
    exact r_ireturn C dX11_pressure_22 rfl
  · intro hJq2
    refine q_if_lt (tgt := 21) C dX11_pressure_1 (by decide) (fun _ => ?_) (fun _ => ?_)
    · refine r_iconst C dX11_pressure_21 (by decide) ?_
      refine r_less [false, false] rfl ?_
      exact hJq2 (-1)
    · refine r_iload_n C dX11_pressure_4 rfl rfl ?_
      refine r_iconst C dX11_pressure_5 (by decide) ?_
      refine q_icmp_gt (tgt := 21) C dX11_pressure_6 (by decide) (fun _ => ?_) (fun _ => ?_)
      · refine r_iconst C dX11_pressure_21 (by decide) ?_
        refine r_less [false, false] rfl ?_
        exact hJq2 (-1)
      · refine r_aload_n C dX11_pressure_9 rfl rfl ?_
        refine r_getp C clX11 kd_0 (k := 8) (by decide) flX11_80 dX11_pressure_10 pt_0_8 ?_
        refine r_getp C clX7 kd_75 (k := 8) (by decide) flX11_311 dX11_pressure_13 pt_75_8 ?_
        refine r_iload_n C dX11_pressure_16 rfl rfl ?_
        refine r_iaload C dX11_pressure_17 (fun v1 _ => ?_)
        refine r_goto (tgt := 22) C dX11_pressure_18 (by decide) ?_
        refine r_less [false, false] rfl ?_
        exact hJq2 v1
set_option maxRecDepth 100000 in
set_option maxHeartbeats 4000000 in
theorem tX11_at (p1 : Int) (p2 : Int) (M : Mem) : Cn yX11_at cX11_at 4 (some .int) 1 21 [zr 0, zi p1, zi p2] M ((fX11_at p1 p2 M).map oI) := by
  refine Cn_mk (own := RX11) rfl (by decide) (Nat.le_of_ble_eq_true rfl) [some (zr 0), some (zi p1), some (zi p2), none] rfl (fun G C hn => ?_)
  unfold fX11_at
  refine r_aload_n C dX11_at_0 rfl rfl ?_
  refine r_iload_n C dX11_at_1 rfl rfl ?_
  refine q_callVi (av := [zi p1]) (rest := []) C (tX11_isPlace p1 M) lkX11_284 kd_0 rfl rfl rfl (Nat.le_of_ble_eq_true rfl) ⟨by decide, by decide⟩ dX11_at_2 (fun q1 _ => ?_)
  refine r_join (γ := Int) (pcJ := fun _ => 22) (al' := fun q2 => [some (zr 0), some (zi p1), some (zi p2), none]) (st' := fun q2 => [zi q2]) (M' := fun q2 => q1.2) ?_ ?_
  · intro q2
    refine r_istore_n (al' := [some (zr 0), some (zi p1), some (zi p2), some (zi q2)]) C dX11_at_22 rfl (by rw [hn]; decide) rfl ?_
    refine r_iload_n C dX11_at_23 rfl rfl ?_
    refine r_join (γ := Int) (pcJ := fun _ => 45) (al' := fun q4 => [none, none, none, none]) (st' := fun q4 => [zi q4]) (M' := fun q4 => q1.2) ?_ ?_
    · intro q4
      exact r_ireturn C dX11_at_45 rfl
    · intro hJq4
      refine q_if_eq (tgt := 44) C dX11_at_24 (by decide) (fun _ => ?_) (fun _ => ?_)
      · refine r_iconst C dX11_at_44 (by decide) ?_
        refine r_less [false, false, false, false] rfl ?_
        exact hJq4 (-1)
      · refine r_aload_n C dX11_at_27 rfl rfl ?_
        refine r_getp C clX11 kd_0 (k := 8) (by decide) flX11_80 dX11_at_28 pt_0_8 ?_
        refine r_getp C clX7 kd_75 (k := 7) (by decide) flX11_314 dX11_at_31 pt_75_7 ?_
        refine r_bipush C dX11_at_34 (by decide) ?_
        refine r_iload_n C dX11_at_36 rfl rfl ?_
        refine r_imul C dX11_at_37 ?_
        refine r_iload_n C dX11_at_38 rfl rfl ?_
        refine r_iadd C dX11_at_39 ?_
        refine r_iaload C dX11_at_40 (fun v3 _ => ?_)
        refine r_goto (tgt := 45) C dX11_at_41 (by decide) ?_
        refine r_less [false, false, false, false] rfl ?_
        exact hJq4 v3
  · intro hJq2
    refine q_if_eq (tgt := 21) C dX11_at_5 (by decide) (fun _ => ?_) (fun _ => ?_)
    · refine r_iconst C dX11_at_21 (by decide) ?_
      exact hJq2 0
    · refine r_iload_n C dX11_at_8 rfl rfl ?_
      refine q_if_lt (tgt := 21) C dX11_at_9 (by decide) (fun _ => ?_) (fun _ => ?_)
      · refine r_iconst C dX11_at_21 (by decide) ?_
        exact hJq2 0
      · refine r_iload_n C dX11_at_12 rfl rfl ?_
        refine r_iconst C dX11_at_13 (by decide) ?_
        refine q_icmp_gt (tgt := 21) C dX11_at_14 (by decide) (fun _ => ?_) (fun _ => ?_)
        · refine r_iconst C dX11_at_21 (by decide) ?_
          exact hJq2 0
        · refine r_iconst C dX11_at_17 (by decide) ?_
          refine r_goto (tgt := 22) C dX11_at_18 (by decide) ?_
          exact hJq2 1
set_option maxRecDepth 100000 in
set_option maxHeartbeats 4000000 in
theorem tX11_used (p1 : Int) (M : Mem) : Cn yX11_used cX11_used 2 (some .int) 0 0 [zr 0, zi p1] M ((fX11_used p1 M).map oI) := by
  refine Cn_mk (own := RX11) rfl (by decide) (Nat.le_of_ble_eq_true rfl) [some (zr 0), some (zi p1)] rfl (fun G C hn => ?_)
  unfold fX11_used
  refine r_iload_n C dX11_used_0 rfl rfl ?_
  refine r_join (γ := Int) (pcJ := fun _ => 22) (al' := fun q2 => [none, none]) (st' := fun q2 => [zi q2]) (M' := fun q2 => M) ?_ ?_
  · intro q2
    exact r_ireturn C dX11_used_22 rfl
  · intro hJq2
    refine q_if_lt (tgt := 21) C dX11_used_1 (by decide) (fun _ => ?_) (fun _ => ?_)
    · refine r_iconst C dX11_used_21 (by decide) ?_
      refine r_less [false, false] rfl ?_
      exact hJq2 (-1)
    · refine r_iload_n C dX11_used_4 rfl rfl ?_
      refine r_iconst C dX11_used_5 (by decide) ?_
      refine q_icmp_ge (tgt := 21) C dX11_used_6 (by decide) (fun _ => ?_) (fun _ => ?_)
      · refine r_iconst C dX11_used_21 (by decide) ?_
        refine r_less [false, false] rfl ?_
        exact hJq2 (-1)
      · refine r_aload_n C dX11_used_9 rfl rfl ?_
        refine r_getp C clX11 kd_0 (k := 8) (by decide) flX11_80 dX11_used_10 pt_0_8 ?_
        refine r_getp C clX7 kd_75 (k := 11) (by decide) flX11_317 dX11_used_13 pt_75_11 ?_
        refine r_iload_n C dX11_used_16 rfl rfl ?_
        refine r_iaload C dX11_used_17 (fun v1 _ => ?_)
        refine r_goto (tgt := 22) C dX11_used_18 (by decide) ?_
        refine r_less [false, false] rfl ?_
        exact hJq2 v1
set_option maxRecDepth 100000 in
set_option maxHeartbeats 4000000 in
theorem tX11_clause (p1 : Int) (p2 : Int) (M : Mem) : Cn yX11_clause cX11_clause 3 (some .int) 0 0 [zr 0, zi p1, zi p2] M ((fX11_clause p1 p2 M).map oI) := by
  refine Cn_mk (own := RX11) rfl (by decide) (Nat.le_of_ble_eq_true rfl) [some (zr 0), some (zi p1), some (zi p2)] rfl (fun G C hn => ?_)
  unfold fX11_clause
  refine r_iload_n C dX11_clause_0 rfl rfl ?_
  refine q_if_lt (tgt := 15) C dX11_clause_1 (by decide) (fun _ => ?_) (fun _ => ?_)
  · refine r_iconst C dX11_clause_15 (by decide) ?_
    exact r_ireturn C dX11_clause_16 rfl
  · refine r_iload_n C dX11_clause_4 rfl rfl ?_
    refine r_aload_n C dX11_clause_5 rfl rfl ?_
    refine r_getp C clX11 kd_0 (k := 8) (by decide) flX11_80 dX11_clause_6 pt_0_8 ?_
    refine q_geti C clX7 kd_75 (k := 16) (by decide) flX11_320 dX11_clause_9 (kz := 16) rfl (by decide) ?_
    refine q_icmp_lt (tgt := 17) C dX11_clause_12 (by decide) (fun _ => ?_) (fun _ => ?_)
    · refine r_iload_n C dX11_clause_17 rfl rfl ?_
      refine r_ite (fun hx0 => ?_) (fun hx0 => ?_)
      · refine r_sw 48 ?_ (fun J => ?_)
        · refine r_aload_n C dX11_clause_48 rfl rfl ?_
          refine r_getp C clX11 kd_0 (k := 3) (by decide) flX11_37 dX11_clause_49 pt_0_3 ?_
          refine r_getp C clX9 kd_44 (k := 1) (by decide) flX11_202 dX11_clause_52 pt_44_1 ?_
          refine r_aload_n C dX11_clause_55 rfl rfl ?_
          refine r_getp C clX11 kd_0 (k := 8) (by decide) flX11_80 dX11_clause_56 pt_0_8 ?_
          refine r_getp C clX7 kd_75 (k := 3) (by decide) flX11_287 dX11_clause_59 pt_75_3 ?_
          refine r_aload_n C dX11_clause_62 rfl rfl ?_
          refine r_getp C clX11 kd_0 (k := 8) (by decide) flX11_80 dX11_clause_63 pt_0_8 ?_
          refine r_getp C clX7 kd_75 (k := 13) (by decide) flX11_323 dX11_clause_66 pt_75_13 ?_
          refine r_iload_n C dX11_clause_69 rfl rfl ?_
          refine r_iaload C dX11_clause_70 (fun v1 _ => ?_)
          refine r_iaload C dX11_clause_71 (fun v2 _ => ?_)
          refine r_iaload C dX11_clause_72 (fun v3 _ => ?_)
          refine r_bipush C dX11_clause_73 (by decide) ?_
          refine r_join (γ := Int) (pcJ := fun _ => 83) (al' := fun q4 => [none, none, none]) (st' := fun q4 => [zi q4]) (M' := fun q4 => M) ?_ ?_
          · intro q4
            exact r_ireturn C dX11_clause_83 rfl
          · intro hJq4
            refine q_icmp_ne (tgt := 82) C dX11_clause_75 (by decide) (fun _ => ?_) (fun _ => ?_)
            · refine r_iconst C dX11_clause_82 (by decide) ?_
              refine r_less [false, false, false] rfl ?_
              exact hJq4 0
            · refine r_iconst C dX11_clause_78 (by decide) ?_
              refine r_goto (tgt := 83) C dX11_clause_79 (by decide) ?_
              refine r_less [false, false, false] rfl ?_
              exact hJq4 1
        · skip
          exact r_tabIn (n := 0) C dX11_clause_18 hx0 (by decide) (by decide) rfl (by decide) J
      refine r_ite (fun hx1 => ?_) (fun hx1 => ?_)
      · refine r_sw 84 ?_ (fun J => ?_)
        · refine r_aload_n C dX11_clause_84 rfl rfl ?_
          refine r_getp C clX11 kd_0 (k := 8) (by decide) flX11_80 dX11_clause_85 pt_0_8 ?_
          refine r_getp C clX7 kd_75 (k := 13) (by decide) flX11_323 dX11_clause_88 pt_75_13 ?_
          refine r_iload_n C dX11_clause_91 rfl rfl ?_
          refine r_iaload C dX11_clause_92 (fun v5 _ => ?_)
          exact r_ireturn C dX11_clause_93 rfl
        · skip
          exact r_tabIn (n := 1) C dX11_clause_18 hx1 (by decide) (by decide) rfl (by decide) J
      refine r_ite (fun hx2 => ?_) (fun hx2 => ?_)
      · refine r_sw 94 ?_ (fun J => ?_)
        · refine r_aload_n C dX11_clause_94 rfl rfl ?_
          refine r_getp C clX11 kd_0 (k := 8) (by decide) flX11_80 dX11_clause_95 pt_0_8 ?_
          refine r_getp C clX7 kd_75 (k := 14) (by decide) flX11_326 dX11_clause_98 pt_75_14 ?_
          refine r_iload_n C dX11_clause_101 rfl rfl ?_
          refine r_iaload C dX11_clause_102 (fun v6 _ => ?_)
          exact r_ireturn C dX11_clause_103 rfl
        · skip
          exact r_tabIn (n := 2) C dX11_clause_18 hx2 (by decide) (by decide) rfl (by decide) J
      refine r_ite (fun hx3 => ?_) (fun hx3 => ?_)
      · refine r_sw 104 ?_ (fun J => ?_)
        · refine r_aload_n C dX11_clause_104 rfl rfl ?_
          refine r_getp C clX11 kd_0 (k := 8) (by decide) flX11_80 dX11_clause_105 pt_0_8 ?_
          refine r_getp C clX7 kd_75 (k := 15) (by decide) flX11_329 dX11_clause_108 pt_75_15 ?_
          refine r_iload_n C dX11_clause_111 rfl rfl ?_
          refine r_iaload C dX11_clause_112 (fun v7 _ => ?_)
          exact r_ireturn C dX11_clause_113 rfl
        · skip
          exact r_tabIn (n := 3) C dX11_clause_18 hx3 (by decide) (by decide) rfl (by decide) J
      refine r_tabOut (tgt := 114) C dX11_clause_18 (by omega) (by decide) ?_
      refine r_iconst C dX11_clause_114 (by decide) ?_
      exact r_ireturn C dX11_clause_115 rfl
    · refine r_iconst C dX11_clause_15 (by decide) ?_
      exact r_ireturn C dX11_clause_16 rfl
set_option maxRecDepth 100000 in
set_option maxHeartbeats 4000000 in
theorem tX11_imagine (p1 : Int) (p2 : Int) (M : Mem) : Cn yX11_imagine cX11_imagine 3 none 5 121 [zr 0, zi p1, zi p2] M ((fX11_imagine p1 p2 M).map oU) := by
  refine Cn_mk (own := RX11) rfl (by decide) (Nat.le_of_ble_eq_true rfl) [some (zr 0), some (zi p1), some (zi p2)] rfl (fun G C hn => ?_)
  unfold fX11_imagine
  refine r_aload_n C dX11_imagine_0 rfl rfl ?_
  refine r_getp C clX11 kd_0 (k := 9) (by decide) flX11_84 dX11_imagine_1 pt_0_9 ?_
  refine r_aload_n C dX11_imagine_4 rfl rfl ?_
  refine r_getp C clX11 kd_0 (k := 4) (by decide) flX11_44 dX11_imagine_5 pt_0_4 ?_
  refine r_getp C clX0 kd_51 (k := 0) (by decide) flX11_148 dX11_imagine_8 pt_51_0 ?_
  refine r_aload_n C dX11_imagine_11 rfl rfl ?_
  refine r_getp C clX11 kd_0 (k := 4) (by decide) flX11_44 dX11_imagine_12 pt_0_4 ?_
  refine r_getp C clX0 kd_51 (k := 1) (by decide) flX11_152 dX11_imagine_15 pt_51_1 ?_
  refine q_callVv (av := [zr 52, zr 53]) (rest := []) C (tX2_reckon 88 (Or.inr rfl) M) lkX11_155 kd_88 rfl rfl rfl (Nat.le_of_ble_eq_true rfl) ⟨by decide, by decide⟩ dX11_imagine_18 (fun q1 _ => ?_)
  refine r_aload_n C dX11_imagine_21 rfl rfl ?_
  refine r_getp C clX11 kd_0 (k := 10) (by decide) flX11_87 dX11_imagine_22 pt_0_10 ?_
  refine r_iload_n C dX11_imagine_25 rfl rfl ?_
  refine q_callVv (av := [zi p1]) (rest := []) C (tX5_reckon 88 (Or.inr rfl) p1 q1) lkX11_159 kd_92 rfl rfl rfl (Nat.le_of_ble_eq_true rfl) ⟨by decide, by decide⟩ dX11_imagine_26 (fun q2 _ => ?_)
  refine r_aload_n C dX11_imagine_29 rfl rfl ?_
  refine r_getp C clX11 kd_0 (k := 11) (by decide) flX11_90 dX11_imagine_30 pt_0_11 ?_
  refine r_iload_n C dX11_imagine_33 rfl rfl ?_
  refine q_callVv (av := [zi p2]) (rest := []) C (tX7_arrange 88 (Or.inr rfl) p2 q2) lkX11_161 kd_101 rfl rfl rfl (Nat.le_of_ble_eq_true rfl) ⟨by decide, by decide⟩ dX11_imagine_34 (fun q3 _ => ?_)
  refine r_aload_n C dX11_imagine_37 rfl rfl ?_
  refine r_getp C clX11 kd_0 (k := 11) (by decide) flX11_90 dX11_imagine_38 pt_0_11 ?_
  refine r_aload_n C dX11_imagine_41 rfl rfl ?_
  refine r_getm C clX11 kd_0 (k := 13) (by decide) flX11_103 dX11_imagine_42 rfl (fun t4 _ ht4 => ?_)
  refine q_geti C clX3 (kd_t0 ht4) (k := 14) (by decide) flX11_164 dX11_imagine_45 (kz := 14) rfl (by decide) ?_
  refine r_aload_n C dX11_imagine_48 rfl rfl ?_
  refine r_getm C clX11 kd_0 (k := 13) (by decide) flX11_103 dX11_imagine_49 rfl (fun t5 _ ht5 => ?_)
  refine q_geti C clX3 (kd_t0 ht5) (k := 15) (by decide) flX11_167 dX11_imagine_52 (kz := 15) rfl (by decide) ?_
  refine q_callVv (av := [zi (q3 t4 14), zi (q3 t5 15)]) (rest := []) C (tX7_settle 88 (Or.inr rfl) (q3 t4 14) (q3 t5 15) q3) lkX11_170 kd_101 rfl rfl rfl (Nat.le_of_ble_eq_true rfl) ⟨by decide, by decide⟩ dX11_imagine_55 (fun q6 _ => ?_)
  exact r_return C dX11_imagine_58 rfl
set_option maxRecDepth 100000 in
set_option maxHeartbeats 4000000 in
theorem tX11_cost (p1 : Int) (M : Mem) : Cn yX11_cost cX11_cost 2 (some .int) 0 0 [zr 101, zi p1] M ((fX11_cost p1 M).map oI) := by
  refine Cn_mk (own := RX11) rfl (by decide) (Nat.le_of_ble_eq_true rfl) [some (zr 101), some (zi p1)] rfl (fun G C hn => ?_)
  unfold fX11_cost
  refine r_iload_n C dX11_cost_0 rfl rfl ?_
  refine r_ite (fun hx0 => ?_) (fun hx0 => ?_)
  · refine r_sw 40 ?_ (fun J => ?_)
    · refine r_aload_n C dX11_cost_40 rfl rfl ?_
      refine r_getp C clX7 kd_101 (k := 8) (by decide) flX11_311 dX11_cost_41 pt_101_8 ?_
      refine r_iconst C dX11_cost_44 (by decide) ?_
      refine r_iaload C dX11_cost_45 (fun v1 _ => ?_)
      exact r_ireturn C dX11_cost_46 rfl
    · skip
      exact r_tabIn (n := 0) C dX11_cost_1 hx0 (by decide) (by decide) rfl (by decide) J
  refine r_ite (fun hx1 => ?_) (fun hx1 => ?_)
  · refine r_sw 47 ?_ (fun J => ?_)
    · refine r_aload_n C dX11_cost_47 rfl rfl ?_
      refine q_geti C clX7 kd_101 (k := 16) (by decide) flX11_320 dX11_cost_48 (kz := 16) rfl (by decide) ?_
      exact r_ireturn C dX11_cost_51 rfl
    · skip
      exact r_tabIn (n := 1) C dX11_cost_1 hx1 (by decide) (by decide) rfl (by decide) J
  refine r_ite (fun hx2 => ?_) (fun hx2 => ?_)
  · refine r_sw 52 ?_ (fun J => ?_)
    · refine r_aload_n C dX11_cost_52 rfl rfl ?_
      refine q_geti C clX7 kd_101 (k := 17) (by decide) flX11_347 dX11_cost_53 (kz := 17) rfl (by decide) ?_
      exact r_ireturn C dX11_cost_56 rfl
    · skip
      exact r_tabIn (n := 2) C dX11_cost_1 hx2 (by decide) (by decide) rfl (by decide) J
  refine r_ite (fun hx3 => ?_) (fun hx3 => ?_)
  · refine r_sw 57 ?_ (fun J => ?_)
    · refine r_aload_n C dX11_cost_57 rfl rfl ?_
      refine r_getp C clX7 kd_101 (k := 11) (by decide) flX11_317 dX11_cost_58 pt_101_11 ?_
      refine r_iconst C dX11_cost_61 (by decide) ?_
      refine r_iaload C dX11_cost_62 (fun v2 _ => ?_)
      exact r_ireturn C dX11_cost_63 rfl
    · skip
      exact r_tabIn (n := 3) C dX11_cost_1 hx3 (by decide) (by decide) rfl (by decide) J
  refine r_ite (fun hx4 => ?_) (fun hx4 => ?_)
  · refine r_sw 64 ?_ (fun J => ?_)
    · refine r_aload_n C dX11_cost_64 rfl rfl ?_
      refine r_getp C clX7 kd_101 (k := 11) (by decide) flX11_317 dX11_cost_65 pt_101_11 ?_
      refine r_iconst C dX11_cost_68 (by decide) ?_
      refine r_iaload C dX11_cost_69 (fun v3 _ => ?_)
      exact r_ireturn C dX11_cost_70 rfl
    · skip
      exact r_tabIn (n := 4) C dX11_cost_1 hx4 (by decide) (by decide) rfl (by decide) J
  refine r_ite (fun hx5 => ?_) (fun hx5 => ?_)
  · refine r_sw 71 ?_ (fun J => ?_)
    · refine r_aload_n C dX11_cost_71 rfl rfl ?_
      refine q_geti C clX7 kd_101 (k := 4) (by decide) flX11_308 dX11_cost_72 (kz := 4) rfl (by decide) ?_
      exact r_ireturn C dX11_cost_75 rfl
    · skip
      exact r_tabIn (n := 5) C dX11_cost_1 hx5 (by decide) (by decide) rfl (by decide) J
  refine r_tabOut (tgt := 76) C dX11_cost_1 (by omega) (by decide) ?_
  refine r_iconst C dX11_cost_76 (by decide) ?_
  exact r_ireturn C dX11_cost_77 rfl
set_option maxRecDepth 100000 in
set_option maxHeartbeats 4000000 in
theorem tX11_by (p1 : Int) (p2 : Int) (M : Mem) : Cn yX11_by cX11_by 3 (some .int) 6 143 [zr 0, zi p1, zi p2] M ((fX11_by p1 p2 M).map oI) := by
  refine Cn_mk (own := RX11) rfl (by decide) (Nat.le_of_ble_eq_true rfl) [some (zr 0), some (zi p1), some (zi p2)] rfl (fun G C hn => ?_)
  unfold fX11_by
  refine r_iload_n C dX11_by_0 rfl rfl ?_
  refine q_if_lt (tgt := 18) C dX11_by_1 (by decide) (fun _ => ?_) (fun _ => ?_)
  · refine r_iconst C dX11_by_18 (by decide) ?_
    exact r_ireturn C dX11_by_19 rfl
  · refine r_iload_n C dX11_by_4 rfl rfl ?_
    refine r_iconst C dX11_by_5 (by decide) ?_
    refine q_icmp_ge (tgt := 18) C dX11_by_6 (by decide) (fun _ => ?_) (fun _ => ?_)
    · refine r_iconst C dX11_by_18 (by decide) ?_
      exact r_ireturn C dX11_by_19 rfl
    · refine r_iload_n C dX11_by_9 rfl rfl ?_
      refine q_if_lt (tgt := 18) C dX11_by_10 (by decide) (fun _ => ?_) (fun _ => ?_)
      · refine r_iconst C dX11_by_18 (by decide) ?_
        exact r_ireturn C dX11_by_19 rfl
      · refine r_iload_n C dX11_by_13 rfl rfl ?_
        refine r_iconst C dX11_by_14 (by decide) ?_
        refine q_icmp_le (tgt := 20) C dX11_by_15 (by decide) (fun _ => ?_) (fun _ => ?_)
        · refine r_aload_n C dX11_by_20 rfl rfl ?_
          refine r_iconst C dX11_by_21 (by decide) ?_
          refine r_iload_n C dX11_by_22 rfl rfl ?_
          refine q_callVv (av := [zi (-1), zi p1]) (rest := []) C (tX11_imagine (-1) p1 M) lkX11_332 kd_0 rfl rfl rfl (Nat.le_of_ble_eq_true rfl) ⟨by decide, by decide⟩ dX11_by_23 (fun q1 _ => ?_)
          refine r_aload_n C dX11_by_26 rfl rfl ?_
          refine r_getp C clX11 kd_0 (k := 11) (by decide) flX11_90 dX11_by_27 pt_0_11 ?_
          refine r_iload_n C dX11_by_30 rfl rfl ?_
          refine q_callSi (av := [zr 101, zi p2]) (rest := []) C (tX11_cost p2 q1) lkX11_335 rfl rfl (Nat.le_of_ble_eq_true rfl) ⟨by decide, by decide⟩ dX11_by_31 (fun q2 _ => ?_)
          exact r_ireturn C dX11_by_34 rfl
        · refine r_iconst C dX11_by_18 (by decide) ?_
          exact r_ireturn C dX11_by_19 rfl
set_option maxRecDepth 100000 in
set_option maxHeartbeats 4000000 in
theorem tX11_alone (p1 : Int) (p2 : Int) (M : Mem) : Cn yX11_alone cX11_alone 3 (some .int) 6 143 [zr 0, zi p1, zi p2] M ((fX11_alone p1 p2 M).map oI) := by
  refine Cn_mk (own := RX11) rfl (by decide) (Nat.le_of_ble_eq_true rfl) [some (zr 0), some (zi p1), some (zi p2)] rfl (fun G C hn => ?_)
  unfold fX11_alone
  refine r_aload_n C dX11_alone_0 rfl rfl ?_
  refine r_iload_n C dX11_alone_1 rfl rfl ?_
  refine q_callVi (av := [zi p1]) (rest := []) C (tX11_isShown p1 M) lkX11_240 kd_0 rfl rfl rfl (Nat.le_of_ble_eq_true rfl) ⟨by decide, by decide⟩ dX11_alone_2 (fun q1 _ => ?_)
  refine q_if_eq (tgt := 17) C dX11_alone_5 (by decide) (fun _ => ?_) (fun _ => ?_)
  · refine r_iconst C dX11_alone_17 (by decide) ?_
    exact r_ireturn C dX11_alone_18 rfl
  · refine r_iload_n C dX11_alone_8 rfl rfl ?_
    refine q_if_lt (tgt := 17) C dX11_alone_9 (by decide) (fun _ => ?_) (fun _ => ?_)
    · refine r_iconst C dX11_alone_17 (by decide) ?_
      exact r_ireturn C dX11_alone_18 rfl
    · refine r_iload_n C dX11_alone_12 rfl rfl ?_
      refine r_iconst C dX11_alone_13 (by decide) ?_
      refine q_icmp_le (tgt := 19) C dX11_alone_14 (by decide) (fun _ => ?_) (fun _ => ?_)
      · refine r_aload_n C dX11_alone_19 rfl rfl ?_
        refine r_iload_n C dX11_alone_20 rfl rfl ?_
        refine r_aload_n C dX11_alone_21 rfl rfl ?_
        refine q_geti C clX11 kd_0 (k := 14) (by decide) flX11_107 dX11_alone_22 (kz := 14) rfl (by decide) ?_
        refine q_callVv (av := [zi p1, zi (q1.2 0 14)]) (rest := []) C (tX11_imagine p1 (q1.2 0 14) q1.2) lkX11_332 kd_0 rfl rfl rfl (Nat.le_of_ble_eq_true rfl) ⟨by decide, by decide⟩ dX11_alone_25 (fun q2 _ => ?_)
        refine r_aload_n C dX11_alone_28 rfl rfl ?_
        refine r_getp C clX11 kd_0 (k := 11) (by decide) flX11_90 dX11_alone_29 pt_0_11 ?_
        refine r_iload_n C dX11_alone_32 rfl rfl ?_
        refine q_callSi (av := [zr 101, zi p2]) (rest := []) C (tX11_cost p2 q2) lkX11_335 rfl rfl (Nat.le_of_ble_eq_true rfl) ⟨by decide, by decide⟩ dX11_alone_33 (fun q3 _ => ?_)
        exact r_ireturn C dX11_alone_36 rfl
      · refine r_iconst C dX11_alone_17 (by decide) ?_
        exact r_ireturn C dX11_alone_18 rfl
set_option maxRecDepth 100000 in
set_option maxHeartbeats 4000000 in
theorem tX2_countLow (g : Nat) (hg : g = 62 ∨ g = 88) (M : Mem) : Cn yX2_countLow cX2_countLow 3 (some .int) 1 21 [zr g] M ((fX2_countLow g M).map oI) := by
  refine Cn_mk (own := RX2) rfl (by decide) (Nat.le_of_ble_eq_true rfl) [some (zr g), none, none] rfl (fun G C hn => ?_)
  unfold fX2_countLow
  refine r_iconst C dX2_countLow_0 (by decide) ?_
  refine r_istore_n (al' := [some (zr g), some (zi 0), none]) C dX2_countLow_1 rfl (by rw [hn]; decide) rfl ?_
  refine r_iconst C dX2_countLow_2 (by decide) ?_
  refine r_istore_n (al' := [some (zr g), some (zi 0), some (zi 0)]) C dX2_countLow_3 rfl (by rw [hn]; decide) rfl ?_
  refine r_lp (S := Int × Int × Mem) (R := Int × Mem) (pcX := 37) (AL := fun s1 => [some (zr g), some (zi s1.1), some (zi s1.2.1)]) (MM := fun s1 => s1.2.2) (AX := fun q5 => [none, some (zi q5.1), none]) (MX := fun q5 => q5.2) ?_ ?_ (0, 0, M)
  · intro q5
    refine r_iload_n C dX2_countLow_37 rfl rfl ?_
    exact r_ireturn C dX2_countLow_38 rfl
  · intro gs1 hCs1 hXs1 s1
    unfold fX2_countLow_b1
    refine r_iload_n C dX2_countLow_4 rfl rfl ?_
    refine r_aload_n C dX2_countLow_5 rfl rfl ?_
    refine r_getp C clX2 (kd_g0 hg) (k := 0) (by decide) flX2_21 dX2_countLow_6 (pt_g0_0 hg) ?_
    refine q_geti C clX9 kd_44 (k := 0) (by decide) flX2_25 dX2_countLow_9 (kz := 0) rfl (by decide) ?_
    refine q_icmp_ge (tgt := 37) C dX2_countLow_12 (by decide) (fun _ => ?_) (fun _ => ?_)
    · refine r_less [false, true, false] rfl ?_
      exact hXs1 (s1.1, s1.2.2)
    · refine r_iload_n C dX2_countLow_15 rfl rfl ?_
      refine r_aload_n C dX2_countLow_16 rfl rfl ?_
      refine r_iload_n C dX2_countLow_17 rfl rfl ?_
      refine q_callVi (av := [zi s1.2.1]) (rest := [zi s1.1]) C (tX2_isLow g hg s1.2.1 s1.2.2) lkX2_52 (kd_g0 hg) rfl rfl rfl (Nat.le_of_ble_eq_true rfl) ⟨by decide, by decide⟩ dX2_countLow_18 (fun q2 _ => ?_)
      refine r_join (γ := Int) (pcJ := fun _ => 29) (al' := fun q3 => [some (zr g), none, some (zi s1.2.1)]) (st' := fun q3 => [zi q3, zi s1.1]) (M' := fun q3 => q2.2) ?_ ?_
      · intro q3
        refine r_iadd C dX2_countLow_29 ?_
        refine r_let (fun v4 _ => ?_)
        refine r_istore_n (al' := [some (zr g), some (zi v4), some (zi s1.2.1)]) C dX2_countLow_30 rfl (by rw [hn]; decide) rfl ?_
        refine r_iinc (al' := [some (zr g), some (zi v4), some (zi (w32 (s1.2.1 + 1)))]) C dX2_countLow_31 rfl (by rw [hn]; decide) rfl ?_
        refine r_goto (tgt := 4) C dX2_countLow_34 (by decide) ?_
        exact hCs1 (v4, w32 (s1.2.1 + 1), q2.2)
      · intro hJq3
        refine q_if_eq (tgt := 28) C dX2_countLow_21 (by decide) (fun _ => ?_) (fun _ => ?_)
        · refine r_iconst C dX2_countLow_28 (by decide) ?_
          refine r_less [true, false, true] rfl ?_
          exact hJq3 0
        · refine r_iconst C dX2_countLow_24 (by decide) ?_
          refine r_goto (tgt := 29) C dX2_countLow_25 (by decide) ?_
          refine r_less [true, false, true] rfl ?_
          exact hJq3 1
set_option maxRecDepth 100000 in
set_option maxHeartbeats 4000000 in
theorem tX2_countKnown (g : Nat) (hg : g = 62 ∨ g = 88) (M : Mem) : Cn yX2_countKnown cX2_countKnown 3 (some .int) 1 21 [zr g] M ((fX2_countKnown g M).map oI) := by
  refine Cn_mk (own := RX2) rfl (by decide) (Nat.le_of_ble_eq_true rfl) [some (zr g), none, none] rfl (fun G C hn => ?_)
  unfold fX2_countKnown
  refine r_iconst C dX2_countKnown_0 (by decide) ?_
  refine r_istore_n (al' := [some (zr g), some (zi 0), none]) C dX2_countKnown_1 rfl (by rw [hn]; decide) rfl ?_
  refine r_iconst C dX2_countKnown_2 (by decide) ?_
  refine r_istore_n (al' := [some (zr g), some (zi 0), some (zi 0)]) C dX2_countKnown_3 rfl (by rw [hn]; decide) rfl ?_
  refine r_lp (S := Int × Int × Mem) (R := Int × Mem) (pcX := 37) (AL := fun s1 => [some (zr g), some (zi s1.1), some (zi s1.2.1)]) (MM := fun s1 => s1.2.2) (AX := fun q5 => [none, some (zi q5.1), none]) (MX := fun q5 => q5.2) ?_ ?_ (0, 0, M)
  · intro q5
    refine r_iload_n C dX2_countKnown_37 rfl rfl ?_
    exact r_ireturn C dX2_countKnown_38 rfl
  · intro gs1 hCs1 hXs1 s1
    unfold fX2_countKnown_b1
    refine r_iload_n C dX2_countKnown_4 rfl rfl ?_
    refine r_aload_n C dX2_countKnown_5 rfl rfl ?_
    refine r_getp C clX2 (kd_g0 hg) (k := 0) (by decide) flX2_21 dX2_countKnown_6 (pt_g0_0 hg) ?_
    refine q_geti C clX9 kd_44 (k := 0) (by decide) flX2_25 dX2_countKnown_9 (kz := 0) rfl (by decide) ?_
    refine q_icmp_ge (tgt := 37) C dX2_countKnown_12 (by decide) (fun _ => ?_) (fun _ => ?_)
    · refine r_less [false, true, false] rfl ?_
      exact hXs1 (s1.1, s1.2.2)
    · refine r_iload_n C dX2_countKnown_15 rfl rfl ?_
      refine r_aload_n C dX2_countKnown_16 rfl rfl ?_
      refine r_iload_n C dX2_countKnown_17 rfl rfl ?_
      refine q_callVi (av := [zi s1.2.1]) (rest := [zi s1.1]) C (tX2_isKnown g hg s1.2.1 s1.2.2) lkX2_56 (kd_g0 hg) rfl rfl rfl (Nat.le_of_ble_eq_true rfl) ⟨by decide, by decide⟩ dX2_countKnown_18 (fun q2 _ => ?_)
      refine r_join (γ := Int) (pcJ := fun _ => 29) (al' := fun q3 => [some (zr g), none, some (zi s1.2.1)]) (st' := fun q3 => [zi q3, zi s1.1]) (M' := fun q3 => q2.2) ?_ ?_
      · intro q3
        refine r_iadd C dX2_countKnown_29 ?_
        refine r_let (fun v4 _ => ?_)
        refine r_istore_n (al' := [some (zr g), some (zi v4), some (zi s1.2.1)]) C dX2_countKnown_30 rfl (by rw [hn]; decide) rfl ?_
        refine r_iinc (al' := [some (zr g), some (zi v4), some (zi (w32 (s1.2.1 + 1)))]) C dX2_countKnown_31 rfl (by rw [hn]; decide) rfl ?_
        refine r_goto (tgt := 4) C dX2_countKnown_34 (by decide) ?_
        exact hCs1 (v4, w32 (s1.2.1 + 1), q2.2)
      · intro hJq3
        refine q_if_eq (tgt := 28) C dX2_countKnown_21 (by decide) (fun _ => ?_) (fun _ => ?_)
        · refine r_iconst C dX2_countKnown_28 (by decide) ?_
          refine r_less [true, false, true] rfl ?_
          exact hJq3 0
        · refine r_iconst C dX2_countKnown_24 (by decide) ?_
          refine r_goto (tgt := 29) C dX2_countKnown_25 (by decide) ?_
          refine r_less [true, false, true] rfl ?_
          exact hJq3 1
set_option maxRecDepth 100000 in
set_option maxHeartbeats 4000000 in
theorem tX11_narrowed (p1 : Int) (p2 : Int) (p3 : Int) (p4 : Int) (M : Mem) : Cn yX11_narrowed cX11_narrowed 7 (some .int) 6 143 [zr 0, zi p1, zi p2, zi p3, zi p4] M ((fX11_narrowed p1 p2 p3 p4 M).map oI) := by
  refine Cn_mk (own := RX11) rfl (by decide) (Nat.le_of_ble_eq_true rfl) [some (zr 0), some (zi p1), some (zi p2), some (zi p3), some (zi p4), none, none] rfl (fun G C hn => ?_)
  unfold fX11_narrowed
  refine r_aload_n C dX11_narrowed_0 rfl rfl ?_
  refine r_iload_n C dX11_narrowed_1 rfl rfl ?_
  refine q_callVi (av := [zi p1]) (rest := []) C (tX11_isInput p1 M) lkX11_174 kd_0 rfl rfl rfl (Nat.le_of_ble_eq_true rfl) ⟨by decide, by decide⟩ dX11_narrowed_2 (fun q1 _ => ?_)
  refine q_if_eq (tgt := 28) C dX11_narrowed_5 (by decide) (fun _ => ?_) (fun _ => ?_)
  · refine r_iconst C dX11_narrowed_28 (by decide) ?_
    exact r_ireturn C dX11_narrowed_29 rfl
  · refine r_iload_n C dX11_narrowed_8 rfl rfl ?_
    refine r_iload_n C dX11_narrowed_9 rfl rfl ?_
    refine q_callSi (av := [zi p2, zi p3]) (rest := []) C (tX11_isRange p2 p3 q1.2) lkX11_191 rfl rfl (Nat.le_of_ble_eq_true rfl) ⟨by decide, by decide⟩ dX11_narrowed_10 (fun q2 _ => ?_)
    refine q_if_eq (tgt := 28) C dX11_narrowed_13 (by decide) (fun _ => ?_) (fun _ => ?_)
    · refine r_iconst C dX11_narrowed_28 (by decide) ?_
      exact r_ireturn C dX11_narrowed_29 rfl
    · refine r_iload C dX11_narrowed_16 rfl ?_
      refine q_if_lt (tgt := 28) C dX11_narrowed_18 (by decide) (fun _ => ?_) (fun _ => ?_)
      · refine r_iconst C dX11_narrowed_28 (by decide) ?_
        exact r_ireturn C dX11_narrowed_29 rfl
      · refine r_iload C dX11_narrowed_21 rfl ?_
        refine r_bipush C dX11_narrowed_23 (by decide) ?_
        refine q_icmp_le (tgt := 30) C dX11_narrowed_25 (by decide) (fun _ => ?_) (fun _ => ?_)
        · refine r_aload_n C dX11_narrowed_30 rfl rfl ?_
          refine r_getp C clX11 kd_0 (k := 4) (by decide) flX11_44 dX11_narrowed_31 pt_0_4 ?_
          refine r_getp C clX0 kd_51 (k := 0) (by decide) flX11_148 dX11_narrowed_34 pt_51_0 ?_
          refine r_iload_n C dX11_narrowed_37 rfl rfl ?_
          refine r_iaload C dX11_narrowed_38 (fun v3 _ => ?_)
          refine r_istore (al' := [some (zr 0), some (zi p1), some (zi p2), some (zi p3), some (zi p4), some (zi v3), none]) C dX11_narrowed_39 (by rw [hn]; decide) rfl ?_
          refine r_aload_n C dX11_narrowed_41 rfl rfl ?_
          refine r_getp C clX11 kd_0 (k := 4) (by decide) flX11_44 dX11_narrowed_42 pt_0_4 ?_
          refine r_getp C clX0 kd_51 (k := 1) (by decide) flX11_152 dX11_narrowed_45 pt_51_1 ?_
          refine r_iload_n C dX11_narrowed_48 rfl rfl ?_
          refine r_iaload C dX11_narrowed_49 (fun v4 _ => ?_)
          refine r_istore (al' := [some (zr 0), some (zi p1), some (zi p2), some (zi p3), some (zi p4), some (zi v3), some (zi v4)]) C dX11_narrowed_50 (by rw [hn]; decide) rfl ?_
          refine r_aload_n C dX11_narrowed_52 rfl rfl ?_
          refine r_getp C clX11 kd_0 (k := 4) (by decide) flX11_44 dX11_narrowed_53 pt_0_4 ?_
          refine r_getp C clX0 kd_51 (k := 0) (by decide) flX11_148 dX11_narrowed_56 pt_51_0 ?_
          refine r_iload_n C dX11_narrowed_59 rfl rfl ?_
          refine r_iload_n C dX11_narrowed_60 rfl rfl ?_
          refine r_iastore C dX11_narrowed_61 (fun M5 _ => ?_)
          refine r_aload_n C dX11_narrowed_62 rfl rfl ?_
          refine r_getp C clX11 kd_0 (k := 4) (by decide) flX11_44 dX11_narrowed_63 pt_0_4 ?_
          refine r_getp C clX0 kd_51 (k := 1) (by decide) flX11_152 dX11_narrowed_66 pt_51_1 ?_
          refine r_iload_n C dX11_narrowed_69 rfl rfl ?_
          refine r_iload_n C dX11_narrowed_70 rfl rfl ?_
          refine r_iastore C dX11_narrowed_71 (fun M6 _ => ?_)
          refine r_aload_n C dX11_narrowed_72 rfl rfl ?_
          refine r_iconst C dX11_narrowed_73 (by decide) ?_
          refine r_aload_n C dX11_narrowed_74 rfl rfl ?_
          refine q_geti C clX11 kd_0 (k := 14) (by decide) flX11_107 dX11_narrowed_75 (kz := 14) rfl (by decide) ?_
          refine q_callVv (av := [zi (-1), zi (M6 0 14)]) (rest := []) C (tX11_imagine (-1) (M6 0 14) M6) lkX11_332 kd_0 rfl rfl rfl (Nat.le_of_ble_eq_true rfl) ⟨by decide, by decide⟩ dX11_narrowed_78 (fun q7 _ => ?_)
          refine r_aload_n C dX11_narrowed_81 rfl rfl ?_
          refine r_getp C clX11 kd_0 (k := 4) (by decide) flX11_44 dX11_narrowed_82 pt_0_4 ?_
          refine r_getp C clX0 kd_51 (k := 0) (by decide) flX11_148 dX11_narrowed_85 pt_51_0 ?_
          refine r_iload_n C dX11_narrowed_88 rfl rfl ?_
          refine r_iload C dX11_narrowed_89 rfl ?_
          refine r_iastore C dX11_narrowed_91 (fun M8 _ => ?_)
          refine r_aload_n C dX11_narrowed_92 rfl rfl ?_
          refine r_getp C clX11 kd_0 (k := 4) (by decide) flX11_44 dX11_narrowed_93 pt_0_4 ?_
          refine r_getp C clX0 kd_51 (k := 1) (by decide) flX11_152 dX11_narrowed_96 pt_51_1 ?_
          refine r_iload_n C dX11_narrowed_99 rfl rfl ?_
          refine r_iload C dX11_narrowed_100 rfl ?_
          refine r_iastore C dX11_narrowed_102 (fun M9 _ => ?_)
          refine r_iload C dX11_narrowed_103 rfl ?_
          refine r_ite (fun hx0 => ?_) (fun hx0 => ?_)
          · refine r_sw 132 ?_ (fun J => ?_)
            · refine r_aload_n C dX11_narrowed_132 rfl rfl ?_
              refine r_getp C clX11 kd_0 (k := 9) (by decide) flX11_84 dX11_narrowed_133 pt_0_9 ?_
              refine q_callVi (av := []) (rest := []) C (tX2_countLow 88 (Or.inr rfl) M9) lkX11_338 kd_88 rfl rfl rfl (Nat.le_of_ble_eq_true rfl) ⟨by decide, by decide⟩ dX11_narrowed_136 (fun q10 _ => ?_)
              exact r_ireturn C dX11_narrowed_139 rfl
            · skip
              exact r_look C dX11_narrowed_105 (by decide) (by rw [hx0]) (by decide) J
          refine r_ite (fun hx1 => ?_) (fun hx1 => ?_)
          · refine r_sw 140 ?_ (fun J => ?_)
            · refine r_aload_n C dX11_narrowed_140 rfl rfl ?_
              refine r_getp C clX11 kd_0 (k := 9) (by decide) flX11_84 dX11_narrowed_141 pt_0_9 ?_
              refine q_callVi (av := []) (rest := []) C (tX2_countKnown 88 (Or.inr rfl) M9) lkX11_341 kd_88 rfl rfl rfl (Nat.le_of_ble_eq_true rfl) ⟨by decide, by decide⟩ dX11_narrowed_144 (fun q11 _ => ?_)
              exact r_ireturn C dX11_narrowed_147 rfl
            · skip
              exact r_look C dX11_narrowed_105 (by decide) (by rw [hx1]) (by decide) J
          refine r_look (off := 43) (tgt := 148) C dX11_narrowed_105 (by decide) (by simp [Op.lookupswitch.offset, Ne.symm hx0, Ne.symm hx1]) (by decide) ?_
          refine r_aload_n C dX11_narrowed_148 rfl rfl ?_
          refine r_getp C clX11 kd_0 (k := 11) (by decide) flX11_90 dX11_narrowed_149 pt_0_11 ?_
          refine r_iload C dX11_narrowed_152 rfl ?_
          refine q_callSi (av := [zr 101, zi p4]) (rest := []) C (tX11_cost p4 M9) lkX11_335 rfl rfl (Nat.le_of_ble_eq_true rfl) ⟨by decide, by decide⟩ dX11_narrowed_154 (fun q12 _ => ?_)
          exact r_ireturn C dX11_narrowed_157 rfl
        · refine r_iconst C dX11_narrowed_28 (by decide) ?_
          exact r_ireturn C dX11_narrowed_29 rfl
set_option maxRecDepth 100000 in
set_option maxHeartbeats 4000000 in
theorem tX11_swapped (p1 : Int) (p2 : Int) (M : Mem) : Cn yX11_swapped cX11_swapped 5 (some .int) 6 143 [zr 0, zi p1, zi p2] M ((fX11_swapped p1 p2 M).map oI) := by
  refine Cn_mk (own := RX11) rfl (by decide) (Nat.le_of_ble_eq_true rfl) [some (zr 0), some (zi p1), some (zi p2), none, none] rfl (fun G C hn => ?_)
  unfold fX11_swapped
  refine r_aload_n C dX11_swapped_0 rfl rfl ?_
  refine r_iload_n C dX11_swapped_1 rfl rfl ?_
  refine q_callVi (av := [zi p1]) (rest := []) C (tX11_isPlace p1 M) lkX11_284 kd_0 rfl rfl rfl (Nat.le_of_ble_eq_true rfl) ⟨by decide, by decide⟩ dX11_swapped_2 (fun q1 _ => ?_)
  refine q_if_eq (tgt := 30) C dX11_swapped_5 (by decide) (fun _ => ?_) (fun _ => ?_)
  · refine r_iconst C dX11_swapped_30 (by decide) ?_
    exact r_ireturn C dX11_swapped_31 rfl
  · refine r_iload_n C dX11_swapped_8 rfl rfl ?_
    refine r_aload_n C dX11_swapped_9 rfl rfl ?_
    refine r_getp C clX11 kd_0 (k := 8) (by decide) flX11_80 dX11_swapped_10 pt_0_8 ?_
    refine q_geti C clX7 kd_75 (k := 4) (by decide) flX11_308 dX11_swapped_13 (kz := 4) rfl (by decide) ?_
    refine r_iconst C dX11_swapped_16 (by decide) ?_
    refine r_isub C dX11_swapped_17 ?_
    refine q_icmp_ge (tgt := 30) C dX11_swapped_18 (by decide) (fun _ => ?_) (fun _ => ?_)
    · refine r_iconst C dX11_swapped_30 (by decide) ?_
      exact r_ireturn C dX11_swapped_31 rfl
    · refine r_iload_n C dX11_swapped_21 rfl rfl ?_
      refine q_if_lt (tgt := 30) C dX11_swapped_22 (by decide) (fun _ => ?_) (fun _ => ?_)
      · refine r_iconst C dX11_swapped_30 (by decide) ?_
        exact r_ireturn C dX11_swapped_31 rfl
      · refine r_iload_n C dX11_swapped_25 rfl rfl ?_
        refine r_iconst C dX11_swapped_26 (by decide) ?_
        refine q_icmp_le (tgt := 32) C dX11_swapped_27 (by decide) (fun _ => ?_) (fun _ => ?_)
        · refine r_aload_n C dX11_swapped_32 rfl rfl ?_
          refine r_getp C clX11 kd_0 (k := 8) (by decide) flX11_80 dX11_swapped_33 pt_0_8 ?_
          refine r_getp C clX7 kd_75 (k := 3) (by decide) flX11_287 dX11_swapped_36 pt_75_3 ?_
          refine r_iload_n C dX11_swapped_39 rfl rfl ?_
          refine r_iaload C dX11_swapped_40 (fun v2 _ => ?_)
          refine r_istore_n (al' := [some (zr 0), some (zi p1), some (zi p2), some (zi v2), none]) C dX11_swapped_41 rfl (by rw [hn]; decide) rfl ?_
          refine r_aload_n C dX11_swapped_42 rfl rfl ?_
          refine r_getp C clX11 kd_0 (k := 8) (by decide) flX11_80 dX11_swapped_43 pt_0_8 ?_
          refine r_getp C clX7 kd_75 (k := 3) (by decide) flX11_287 dX11_swapped_46 pt_75_3 ?_
          refine r_iload_n C dX11_swapped_49 rfl rfl ?_
          refine r_iconst C dX11_swapped_50 (by decide) ?_
          refine r_iadd C dX11_swapped_51 ?_
          refine r_iaload C dX11_swapped_52 (fun v3 _ => ?_)
          refine r_istore (al' := [some (zr 0), some (zi p1), some (zi p2), some (zi v2), some (zi v3)]) C dX11_swapped_53 (by rw [hn]; decide) rfl ?_
          refine r_aload_n C dX11_swapped_55 rfl rfl ?_
          refine r_getp C clX11 kd_0 (k := 7) (by decide) flX11_71 dX11_swapped_56 pt_0_7 ?_
          refine r_getp C clX5 kd_66 (k := 7) (by decide) flX11_271 dX11_swapped_59 pt_66_7 ?_
          refine r_iload C dX11_swapped_62 rfl ?_
          refine r_laload C dX11_swapped_64 (fun v4 _ => ?_)
          refine r_iload_n C dX11_swapped_65 rfl rfl ?_
          refine r_lushr C dX11_swapped_66 ?_
          refine r_lconst C dX11_swapped_67 rfl ?_
          refine r_land C dX11_swapped_68 ?_
          refine r_lconst C dX11_swapped_69 rfl ?_
          refine r_lcmp C dX11_swapped_70 ?_
          refine q_if_eq (tgt := 76) C dX11_swapped_71 (by decide) (fun _ => ?_) (fun _ => ?_)
          · refine r_aload_n C dX11_swapped_76 rfl rfl ?_
            refine r_iconst C dX11_swapped_77 (by decide) ?_
            refine r_aload_n C dX11_swapped_78 rfl rfl ?_
            refine q_geti C clX11 kd_0 (k := 14) (by decide) flX11_107 dX11_swapped_79 (kz := 14) rfl (by decide) ?_
            refine q_callVv (av := [zi (-1), zi (q1.2 0 14)]) (rest := []) C (tX11_imagine (-1) (q1.2 0 14) q1.2) lkX11_332 kd_0 rfl rfl rfl (Nat.le_of_ble_eq_true rfl) ⟨by decide, by decide⟩ dX11_swapped_82 (fun q5 _ => ?_)
            refine r_aload_n C dX11_swapped_85 rfl rfl ?_
            refine r_getp C clX11 kd_0 (k := 11) (by decide) flX11_90 dX11_swapped_86 pt_0_11 ?_
            refine r_iload_n C dX11_swapped_89 rfl rfl ?_
            refine r_iload C dX11_swapped_90 rfl ?_
            refine q_callVv (av := [zi p1, zi v3]) (rest := []) C (tX7_putAt 88 (Or.inr rfl) p1 v3 q5) lkX11_344 kd_101 rfl rfl rfl (Nat.le_of_ble_eq_true rfl) ⟨by decide, by decide⟩ dX11_swapped_92 (fun q6 _ => ?_)
            refine r_aload_n C dX11_swapped_95 rfl rfl ?_
            refine r_getp C clX11 kd_0 (k := 11) (by decide) flX11_90 dX11_swapped_96 pt_0_11 ?_
            refine r_iload_n C dX11_swapped_99 rfl rfl ?_
            refine r_iconst C dX11_swapped_100 (by decide) ?_
            refine r_iadd C dX11_swapped_101 ?_
            refine r_iload_n C dX11_swapped_102 rfl rfl ?_
            refine q_callVv (av := [zi (w32 (p1 + 1)), zi v2]) (rest := []) C (tX7_putAt 88 (Or.inr rfl) (w32 (p1 + 1)) v2 q6) lkX11_344 kd_101 rfl rfl rfl (Nat.le_of_ble_eq_true rfl) ⟨by decide, by decide⟩ dX11_swapped_103 (fun q7 _ => ?_)
            refine r_aload_n C dX11_swapped_106 rfl rfl ?_
            refine r_getp C clX11 kd_0 (k := 11) (by decide) flX11_90 dX11_swapped_107 pt_0_11 ?_
            refine r_aload_n C dX11_swapped_110 rfl rfl ?_
            refine r_getm C clX11 kd_0 (k := 13) (by decide) flX11_103 dX11_swapped_111 rfl (fun t8 _ ht8 => ?_)
            refine q_geti C clX3 (kd_t0 ht8) (k := 14) (by decide) flX11_164 dX11_swapped_114 (kz := 14) rfl (by decide) ?_
            refine r_aload_n C dX11_swapped_117 rfl rfl ?_
            refine r_getm C clX11 kd_0 (k := 13) (by decide) flX11_103 dX11_swapped_118 rfl (fun t9 _ ht9 => ?_)
            refine q_geti C clX3 (kd_t0 ht9) (k := 15) (by decide) flX11_167 dX11_swapped_121 (kz := 15) rfl (by decide) ?_
            refine q_callVv (av := [zi (q7 t8 14), zi (q7 t9 15)]) (rest := []) C (tX7_settle 88 (Or.inr rfl) (q7 t8 14) (q7 t9 15) q7) lkX11_170 kd_101 rfl rfl rfl (Nat.le_of_ble_eq_true rfl) ⟨by decide, by decide⟩ dX11_swapped_124 (fun q10 _ => ?_)
            refine r_aload_n C dX11_swapped_127 rfl rfl ?_
            refine r_getp C clX11 kd_0 (k := 11) (by decide) flX11_90 dX11_swapped_128 pt_0_11 ?_
            refine r_iload_n C dX11_swapped_131 rfl rfl ?_
            refine q_callSi (av := [zr 101, zi p2]) (rest := []) C (tX11_cost p2 q10) lkX11_335 rfl rfl (Nat.le_of_ble_eq_true rfl) ⟨by decide, by decide⟩ dX11_swapped_132 (fun q11 _ => ?_)
            exact r_ireturn C dX11_swapped_135 rfl
          · refine r_iconst C dX11_swapped_74 (by decide) ?_
            exact r_ireturn C dX11_swapped_75 rfl
        · refine r_iconst C dX11_swapped_30 (by decide) ?_
          exact r_ireturn C dX11_swapped_31 rfl
set_option maxRecDepth 100000 in
set_option maxHeartbeats 4000000 in
theorem tX11_parts (p1 : Int) (M : Mem) : Cn yX11_parts cX11_parts 2 (some .int) 0 0 [zr 0, zi p1] M ((fX11_parts p1 M).map oI) := by
  refine Cn_mk (own := RX11) rfl (by decide) (Nat.le_of_ble_eq_true rfl) [some (zr 0), some (zi p1)] rfl (fun G C hn => ?_)
  unfold fX11_parts
  refine r_iload_n C dX11_parts_0 rfl rfl ?_
  refine q_if_lt (tgt := 15) C dX11_parts_1 (by decide) (fun _ => ?_) (fun _ => ?_)
  · refine r_iconst C dX11_parts_15 (by decide) ?_
    exact r_ireturn C dX11_parts_16 rfl
  · refine r_iload_n C dX11_parts_4 rfl rfl ?_
    refine r_aload_n C dX11_parts_5 rfl rfl ?_
    refine r_getm C clX11 kd_0 (k := 13) (by decide) flX11_103 dX11_parts_6 rfl (fun t1 _ ht1 => ?_)
    refine q_geti C clX3 (kd_t0 ht1) (k := 16) (by decide) flX11_352 dX11_parts_9 (kz := 16) rfl (by decide) ?_
    refine q_icmp_lt (tgt := 17) C dX11_parts_12 (by decide) (fun _ => ?_) (fun _ => ?_)
    · refine r_aload_n C dX11_parts_17 rfl rfl ?_
      refine r_getp C clX11 kd_0 (k := 3) (by decide) flX11_37 dX11_parts_18 pt_0_3 ?_
      refine r_getp C clX9 kd_44 (k := 7) (by decide) flX11_355 dX11_parts_21 pt_44_7 ?_
      refine r_iload_n C dX11_parts_24 rfl rfl ?_
      refine r_zaload C dX11_parts_25 (fun v2 _ => ?_)
      refine r_join (γ := Int) (pcJ := fun _ => 34) (al' := fun q3 => [none, none]) (st' := fun q3 => [zi q3]) (M' := fun q3 => M) ?_ ?_
      · intro q3
        exact r_ireturn C dX11_parts_34 rfl
      · intro hJq3
        refine q_if_eq (tgt := 33) C dX11_parts_26 (by decide) (fun _ => ?_) (fun _ => ?_)
        · refine r_iconst C dX11_parts_33 (by decide) ?_
          refine r_less [false, false] rfl ?_
          exact hJq3 0
        · refine r_iconst C dX11_parts_29 (by decide) ?_
          refine r_goto (tgt := 34) C dX11_parts_30 (by decide) ?_
          refine r_less [false, false] rfl ?_
          exact hJq3 1
    · refine r_iconst C dX11_parts_15 (by decide) ?_
      exact r_ireturn C dX11_parts_16 rfl
set_option maxRecDepth 100000 in
set_option maxHeartbeats 4000000 in
theorem tX11_count (p1 : Int) (M : Mem) : Cn yX11_count cX11_count 2 (some .int) 2 43 [zr 0, zi p1] M ((fX11_count p1 M).map oI) := by
  refine Cn_mk (own := RX11) rfl (by decide) (Nat.le_of_ble_eq_true rfl) [some (zr 0), some (zi p1)] rfl (fun G C hn => ?_)
  unfold fX11_count
  refine r_iload_n C dX11_count_0 rfl rfl ?_
  refine r_ite (fun hx0 => ?_) (fun hx0 => ?_)
  · refine r_sw 68 ?_ (fun J => ?_)
    · refine r_aload_n C dX11_count_68 rfl rfl ?_
      refine r_getp C clX11 kd_0 (k := 3) (by decide) flX11_37 dX11_count_69 pt_0_3 ?_
      refine q_geti C clX9 kd_44 (k := 0) (by decide) flX11_261 dX11_count_72 (kz := 0) rfl (by decide) ?_
      exact r_ireturn C dX11_count_75 rfl
    · skip
      exact r_tabIn (n := 0) C dX11_count_1 hx0 (by decide) (by decide) rfl (by decide) J
  refine r_ite (fun hx1 => ?_) (fun hx1 => ?_)
  · refine r_sw 76 ?_ (fun J => ?_)
    · refine r_aload_n C dX11_count_76 rfl rfl ?_
      refine r_getm C clX11 kd_0 (k := 13) (by decide) flX11_103 dX11_count_77 rfl (fun t1 _ ht1 => ?_)
      refine q_geti C clX3 (kd_t0 ht1) (k := 10) (by decide) flX11_358 dX11_count_80 (kz := 10) rfl (by decide) ?_
      exact r_ireturn C dX11_count_83 rfl
    · skip
      exact r_tabIn (n := 1) C dX11_count_1 hx1 (by decide) (by decide) rfl (by decide) J
  refine r_ite (fun hx2 => ?_) (fun hx2 => ?_)
  · refine r_sw 84 ?_ (fun J => ?_)
    · refine r_aload_n C dX11_count_84 rfl rfl ?_
      refine r_getp C clX11 kd_0 (k := 3) (by decide) flX11_37 dX11_count_85 pt_0_3 ?_
      refine q_geti C clX9 kd_44 (k := 5) (by decide) flX11_361 dX11_count_88 (kz := 5) rfl (by decide) ?_
      exact r_ireturn C dX11_count_91 rfl
    · skip
      exact r_tabIn (n := 2) C dX11_count_1 hx2 (by decide) (by decide) rfl (by decide) J
  refine r_ite (fun hx3 => ?_) (fun hx3 => ?_)
  · refine r_sw 92 ?_ (fun J => ?_)
    · refine r_aload_n C dX11_count_92 rfl rfl ?_
      refine r_getp C clX11 kd_0 (k := 8) (by decide) flX11_80 dX11_count_93 pt_0_8 ?_
      refine q_geti C clX7 kd_75 (k := 4) (by decide) flX11_308 dX11_count_96 (kz := 4) rfl (by decide) ?_
      exact r_ireturn C dX11_count_99 rfl
    · skip
      exact r_tabIn (n := 3) C dX11_count_1 hx3 (by decide) (by decide) rfl (by decide) J
  refine r_ite (fun hx4 => ?_) (fun hx4 => ?_)
  · refine r_sw 100 ?_ (fun J => ?_)
    · refine r_aload_n C dX11_count_100 rfl rfl ?_
      refine r_getp C clX11 kd_0 (k := 6) (by decide) flX11_62 dX11_count_101 pt_0_6 ?_
      refine q_callVi (av := []) (rest := []) C (tX2_countLow 62 (Or.inl rfl) M) lkX11_338 kd_62 rfl rfl rfl (Nat.le_of_ble_eq_true rfl) ⟨by decide, by decide⟩ dX11_count_104 (fun q2 _ => ?_)
      exact r_ireturn C dX11_count_107 rfl
    · skip
      exact r_tabIn (n := 4) C dX11_count_1 hx4 (by decide) (by decide) rfl (by decide) J
  refine r_ite (fun hx5 => ?_) (fun hx5 => ?_)
  · refine r_sw 108 ?_ (fun J => ?_)
    · refine r_aload_n C dX11_count_108 rfl rfl ?_
      refine r_getp C clX11 kd_0 (k := 8) (by decide) flX11_80 dX11_count_109 pt_0_8 ?_
      refine q_geti C clX7 kd_75 (k := 16) (by decide) flX11_320 dX11_count_112 (kz := 16) rfl (by decide) ?_
      exact r_ireturn C dX11_count_115 rfl
    · skip
      exact r_tabIn (n := 5) C dX11_count_1 hx5 (by decide) (by decide) rfl (by decide) J
  refine r_ite (fun hx6 => ?_) (fun hx6 => ?_)
  · refine r_sw 116 ?_ (fun J => ?_)
    · refine r_aload_n C dX11_count_116 rfl rfl ?_
      refine r_getp C clX11 kd_0 (k := 8) (by decide) flX11_80 dX11_count_117 pt_0_8 ?_
      refine q_geti C clX7 kd_75 (k := 17) (by decide) flX11_347 dX11_count_120 (kz := 17) rfl (by decide) ?_
      exact r_ireturn C dX11_count_123 rfl
    · skip
      exact r_tabIn (n := 6) C dX11_count_1 hx6 (by decide) (by decide) rfl (by decide) J
  refine r_ite (fun hx7 => ?_) (fun hx7 => ?_)
  · refine r_sw 124 ?_ (fun J => ?_)
    · refine r_aload_n C dX11_count_124 rfl rfl ?_
      refine r_getm C clX11 kd_0 (k := 13) (by decide) flX11_103 dX11_count_125 rfl (fun t3 _ ht3 => ?_)
      refine q_geti C clX3 (kd_t0 ht3) (k := 14) (by decide) flX11_164 dX11_count_128 (kz := 14) rfl (by decide) ?_
      exact r_ireturn C dX11_count_131 rfl
    · skip
      exact r_tabIn (n := 7) C dX11_count_1 hx7 (by decide) (by decide) rfl (by decide) J
  refine r_ite (fun hx8 => ?_) (fun hx8 => ?_)
  · refine r_sw 132 ?_ (fun J => ?_)
    · refine r_aload_n C dX11_count_132 rfl rfl ?_
      refine r_getm C clX11 kd_0 (k := 13) (by decide) flX11_103 dX11_count_133 rfl (fun t4 _ ht4 => ?_)
      refine q_geti C clX3 (kd_t0 ht4) (k := 15) (by decide) flX11_167 dX11_count_136 (kz := 15) rfl (by decide) ?_
      exact r_ireturn C dX11_count_139 rfl
    · skip
      exact r_tabIn (n := 8) C dX11_count_1 hx8 (by decide) (by decide) rfl (by decide) J
  refine r_ite (fun hx9 => ?_) (fun hx9 => ?_)
  · refine r_sw 140 ?_ (fun J => ?_)
    · refine r_aload_n C dX11_count_140 rfl rfl ?_
      refine q_geti C clX11 kd_0 (k := 14) (by decide) flX11_107 dX11_count_141 (kz := 14) rfl (by decide) ?_
      exact r_ireturn C dX11_count_144 rfl
    · skip
      exact r_tabIn (n := 9) C dX11_count_1 hx9 (by decide) (by decide) rfl (by decide) J
  refine r_ite (fun hx10 => ?_) (fun hx10 => ?_)
  · refine r_sw 145 ?_ (fun J => ?_)
    · refine r_aload_n C dX11_count_145 rfl rfl ?_
      refine r_getm C clX11 kd_0 (k := 13) (by decide) flX11_103 dX11_count_146 rfl (fun t5 _ ht5 => ?_)
      refine q_geti C clX3 (kd_t0 ht5) (k := 16) (by decide) flX11_352 dX11_count_149 (kz := 16) rfl (by decide) ?_
      exact r_ireturn C dX11_count_152 rfl
    · skip
      exact r_tabIn (n := 10) C dX11_count_1 hx10 (by decide) (by decide) rfl (by decide) J
  refine r_ite (fun hx11 => ?_) (fun hx11 => ?_)
  · refine r_sw 153 ?_ (fun J => ?_)
    · refine r_aload_n C dX11_count_153 rfl rfl ?_
      refine r_getp C clX11 kd_0 (k := 0) (by decide) flX11_14 dX11_count_154 pt_0_0 ?_
      refine q_geti C clX8 kd_1 (k := 2) (by decide) flX11_118 dX11_count_157 (kz := 2) rfl (by decide) ?_
      exact r_ireturn C dX11_count_160 rfl
    · skip
      exact r_tabIn (n := 11) C dX11_count_1 hx11 (by decide) (by decide) rfl (by decide) J
  refine r_ite (fun hx12 => ?_) (fun hx12 => ?_)
  · refine r_sw 161 ?_ (fun J => ?_)
    · refine r_aload_n C dX11_count_161 rfl rfl ?_
      refine r_getm C clX11 kd_0 (k := 13) (by decide) flX11_103 dX11_count_162 rfl (fun t6 _ ht6 => ?_)
      refine q_geti C clX3 (kd_t0 ht6) (k := 17) (by decide) flX11_364 dX11_count_165 (kz := 17) rfl (by decide) ?_
      exact r_ireturn C dX11_count_168 rfl
    · skip
      exact r_tabIn (n := 12) C dX11_count_1 hx12 (by decide) (by decide) rfl (by decide) J
  refine r_tabOut (tgt := 169) C dX11_count_1 (by omega) (by decide) ?_
  refine r_iconst C dX11_count_169 (by decide) ?_
  exact r_ireturn C dX11_count_170 rfl
set_option maxRecDepth 100000 in
set_option maxHeartbeats 4000000 in
theorem tX12_thrown  (M : Mem) : Cn yX12_thrown cX12_thrown 1 (some .int) 0 0 [zr 132] M ((fX12_thrown  M).map oI) := by
  refine Cn_mk (own := RX12) rfl (by decide) (Nat.le_of_ble_eq_true rfl) [some (zr 132)] rfl (fun G C hn => ?_)
  unfold fX12_thrown
  refine r_aload_n C dX12_thrown_0 rfl rfl ?_
  refine q_geti C clX12 kd_132 (k := 0) (by decide) flX12_1 dX12_thrown_1 (kz := 0) rfl (by decide) ?_
  exact r_ireturn C dX12_thrown_4 rfl
set_option maxRecDepth 100000 in
set_option maxHeartbeats 4000000 in
theorem tX12_lay (p1 : Int) (M : Mem) : Cn yX12_lay cX12_lay 5 none 0 0 [zr 132, zl p1] M ((fX12_lay p1 M).map oU) := by
  refine Cn_mk (own := RX12) rfl (by decide) (Nat.le_of_ble_eq_true rfl) [some (zr 132), some (zl p1), none, none, none] rfl (fun G C hn => ?_)
  unfold fX12_lay
  refine r_bipush C dX12_lay_0 (by decide) ?_
  refine r_istore_n (al' := [some (zr 132), some (zl p1), none, some (zi 56), none]) C dX12_lay_2 rfl (by rw [hn]; decide) rfl ?_
  refine r_lp (S := Int × Mem) (R := Mem) (pcX := 75) (AL := fun s1 => [some (zr 132), some (zl p1), none, some (zi s1.1), none]) (MM := fun s1 => s1.2) (AX := fun q7 => [none, none, none, none, none]) (MX := fun q7 => q7) ?_ ?_ (56, M)
  · intro q7
    exact r_return C dX12_lay_75 rfl
  · intro gs1 hCs1 hXs1 s1
    unfold fX12_lay_b1
    refine r_iload_n C dX12_lay_3 rfl rfl ?_
    refine q_if_lt (tgt := 75) C dX12_lay_4 (by decide) (fun _ => ?_) (fun _ => ?_)
    · refine r_less [false, false, false, false, false] rfl ?_
      exact hXs1 s1.2
    · refine r_lload_n C dX12_lay_7 rfl rfl ?_
      refine r_iload_n C dX12_lay_8 rfl rfl ?_
      refine r_lshr C dX12_lay_9 ?_
      refine r_l2i C dX12_lay_10 ?_
      refine r_sipush C dX12_lay_11 (by decide) ?_
      refine r_iand C dX12_lay_14 ?_
      refine r_let (fun v2 _ => ?_)
      refine r_istore (al' := [some (zr 132), some (zl p1), none, some (zi s1.1), some (zi v2)]) C dX12_lay_15 (by rw [hn]; decide) rfl ?_
      refine r_iload C dX12_lay_17 rfl ?_
      refine r_bipush C dX12_lay_19 (by decide) ?_
      refine r_join (γ := Bool) (pcJ := fun q3 => if q3 = true then 38 else 69) (al' := fun q3 => [some (zr 132), some (zl p1), none, some (zi s1.1), some (zi v2)]) (st' := fun q3 => []) (M' := fun q3 => s1.2) ?_ ?_
      · intro q3
        refine r_join (γ := Mem) (pcJ := fun _ => 69) (al' := fun q6 => [some (zr 132), some (zl p1), none, some (zi s1.1), none]) (st' := fun q6 => []) (M' := fun q6 => q6) ?_ ?_
        · intro q6
          refine r_iinc (al' := [some (zr 132), some (zl p1), none, some (zi (w32 (s1.1 + (-8)))), none]) C dX12_lay_69 rfl (by rw [hn]; decide) rfl ?_
          refine r_goto (tgt := 3) C dX12_lay_72 (by decide) ?_
          exact hCs1 (w32 (s1.1 + (-8)), q6)
        · intro hJq6
          refine r_itp (fun _ => ?_) (fun _ => ?_)
          · refine r_aload_n C dX12_lay_38 rfl rfl ?_
            refine q_geti C clX12 kd_132 (k := 2) (by decide) flX12_11 dX12_lay_39 (kz := 2) rfl (by decide) ?_
            refine r_sipush C dX12_lay_42 (by decide) ?_
            refine q_icmp_ge (tgt := 69) C dX12_lay_45 (by decide) (fun _ => ?_) (fun _ => ?_)
            · refine r_less [true, true, false, true, false] rfl ?_
              exact hJq6 s1.2
            · refine r_aload_n C dX12_lay_48 rfl rfl ?_
              refine r_getp C clX12 kd_132 (k := 1) (by decide) flX12_14 dX12_lay_49 pt_132_1 ?_
              refine r_aload_n C dX12_lay_52 rfl rfl ?_
              refine q_geti C clX12 kd_132 (k := 2) (by decide) flX12_11 dX12_lay_53 (kz := 2) rfl (by decide) ?_
              refine r_iload C dX12_lay_56 rfl ?_
              refine r_iastore C dX12_lay_58 (fun M4 _ => ?_)
              refine r_aload_n C dX12_lay_59 rfl rfl ?_
              refine r_dup C dX12_lay_60 rfl ?_
              refine q_geti C clX12 kd_132 (k := 2) (by decide) flX12_11 dX12_lay_61 (kz := 2) rfl (by decide) ?_
              refine r_iconst C dX12_lay_64 (by decide) ?_
              refine r_iadd C dX12_lay_65 ?_
              refine q_puti C clX12 kd_132 (k := 2) (by decide) flX12_11 rfl dX12_lay_66 rfl rfl (fun M5 => ?_)
              refine r_less [true, true, false, true, false] rfl ?_
              exact hJq6 M5
          · refine r_less [true, true, false, true, false] rfl ?_
            exact hJq6 s1.2
      · intro hJq3
        refine q_icmp_eq (tgt := 38) C dX12_lay_21 (by decide) (fun _ => ?_) (fun _ => ?_)
        · exact hJq3 true
        · refine r_iload C dX12_lay_24 rfl ?_
          refine r_bipush C dX12_lay_26 (by decide) ?_
          refine q_icmp_lt (tgt := 69) C dX12_lay_28 (by decide) (fun _ => ?_) (fun _ => ?_)
          · exact hJq3 false
          · refine r_iload C dX12_lay_31 rfl ?_
            refine r_bipush C dX12_lay_33 (by decide) ?_
            refine q_icmp_gt (tgt := 69) C dX12_lay_35 (by decide) (fun _ => ?_) (fun _ => ?_)
            · exact hJq3 false
            · exact hJq3 true
set_option maxRecDepth 100000 in
set_option maxHeartbeats 4000000 in
theorem tX12_feed (p1 : Int) (p2 : Int) (p3 : Int) (M : Mem) : Cn yX12_feed cX12_feed 7 (some .int) 1 24 [zr 132, zl p1, zl p2, zl p3] M ((fX12_feed p1 p2 p3 M).map oI) := by
  refine Cn_mk (own := RX12) rfl (by decide) (Nat.le_of_ble_eq_true rfl) [some (zr 132), some (zl p1), none, some (zl p2), none, some (zl p3), none] rfl (fun G C hn => ?_)
  unfold fX12_feed
  refine r_aload_n C dX12_feed_0 rfl rfl ?_
  refine r_iconst C dX12_feed_1 (by decide) ?_
  refine q_puti C clX12 kd_132 (k := 0) (by decide) flX12_1 rfl dX12_feed_2 rfl rfl (fun M1 => ?_)
  refine r_aload_n C dX12_feed_5 rfl rfl ?_
  refine r_lload_n C dX12_feed_6 rfl rfl ?_
  refine q_callVv (av := [zl p1]) (rest := []) C (tX12_lay p1 M1) lkX12_7 kd_132 rfl rfl rfl (Nat.le_of_ble_eq_true rfl) ⟨by decide, by decide⟩ dX12_feed_7 (fun q2 _ => ?_)
  refine r_aload_n C dX12_feed_10 rfl rfl ?_
  refine r_lload_n C dX12_feed_11 rfl rfl ?_
  refine q_callVv (av := [zl p2]) (rest := []) C (tX12_lay p2 q2) lkX12_7 kd_132 rfl rfl rfl (Nat.le_of_ble_eq_true rfl) ⟨by decide, by decide⟩ dX12_feed_12 (fun q3 _ => ?_)
  refine r_aload_n C dX12_feed_15 rfl rfl ?_
  refine r_lload C dX12_feed_16 rfl ?_
  refine q_callVv (av := [zl p3]) (rest := []) C (tX12_lay p3 q3) lkX12_7 kd_132 rfl rfl rfl (Nat.le_of_ble_eq_true rfl) ⟨by decide, by decide⟩ dX12_feed_18 (fun q4 _ => ?_)
  refine r_aload_n C dX12_feed_21 rfl rfl ?_
  refine q_geti C clX12 kd_132 (k := 2) (by decide) flX12_11 dX12_feed_22 (kz := 2) rfl (by decide) ?_
  exact r_ireturn C dX12_feed_25 rfl
set_option maxRecDepth 100000 in
set_option maxHeartbeats 4000000 in
theorem tX12_isLetter (p1 : Int) (M : Mem) : Cn yX12_isLetter cX12_isLetter 1 (some .boolean) 0 0 [zi p1] M ((fX12_isLetter p1 M).map oI) := by
  refine Cn_mk (own := RX12) rfl (by decide) (Nat.le_of_ble_eq_true rfl) [some (zi p1)] rfl (fun G C hn => ?_)
  unfold fX12_isLetter
  refine r_iload_n C dX12_isLetter_0 rfl rfl ?_
  refine r_bipush C dX12_isLetter_1 (by decide) ?_
  refine r_join (γ := Int) (pcJ := fun _ => 17) (al' := fun q1 => [none]) (st' := fun q1 => [zi q1]) (M' := fun q1 => M) ?_ ?_
  · intro q1
    exact r_zreturn C dX12_isLetter_17 rfl
  · intro hJq1
    refine q_icmp_lt (tgt := 16) C dX12_isLetter_3 (by decide) (fun _ => ?_) (fun _ => ?_)
    · refine r_iconst C dX12_isLetter_16 (by decide) ?_
      refine r_less [false] rfl ?_
      exact hJq1 0
    · refine r_iload_n C dX12_isLetter_6 rfl rfl ?_
      refine r_bipush C dX12_isLetter_7 (by decide) ?_
      refine q_icmp_gt (tgt := 16) C dX12_isLetter_9 (by decide) (fun _ => ?_) (fun _ => ?_)
      · refine r_iconst C dX12_isLetter_16 (by decide) ?_
        refine r_less [false] rfl ?_
        exact hJq1 0
      · refine r_iconst C dX12_isLetter_12 (by decide) ?_
        refine r_goto (tgt := 17) C dX12_isLetter_13 (by decide) ?_
        refine r_less [false] rfl ?_
        exact hJq1 1
set_option maxRecDepth 100000 in
set_option maxHeartbeats 4000000 in
theorem tX12_isDigit (p1 : Int) (M : Mem) : Cn yX12_isDigit cX12_isDigit 1 (some .boolean) 0 0 [zi p1] M ((fX12_isDigit p1 M).map oI) := by
  refine Cn_mk (own := RX12) rfl (by decide) (Nat.le_of_ble_eq_true rfl) [some (zi p1)] rfl (fun G C hn => ?_)
  unfold fX12_isDigit
  refine r_iload_n C dX12_isDigit_0 rfl rfl ?_
  refine r_bipush C dX12_isDigit_1 (by decide) ?_
  refine r_join (γ := Int) (pcJ := fun _ => 17) (al' := fun q1 => [none]) (st' := fun q1 => [zi q1]) (M' := fun q1 => M) ?_ ?_
  · intro q1
    exact r_zreturn C dX12_isDigit_17 rfl
  · intro hJq1
    refine q_icmp_lt (tgt := 16) C dX12_isDigit_3 (by decide) (fun _ => ?_) (fun _ => ?_)
    · refine r_iconst C dX12_isDigit_16 (by decide) ?_
      refine r_less [false] rfl ?_
      exact hJq1 0
    · refine r_iload_n C dX12_isDigit_6 rfl rfl ?_
      refine r_bipush C dX12_isDigit_7 (by decide) ?_
      refine q_icmp_gt (tgt := 16) C dX12_isDigit_9 (by decide) (fun _ => ?_) (fun _ => ?_)
      · refine r_iconst C dX12_isDigit_16 (by decide) ?_
        refine r_less [false] rfl ?_
        exact hJq1 0
      · refine r_iconst C dX12_isDigit_12 (by decide) ?_
        refine r_goto (tgt := 17) C dX12_isDigit_13 (by decide) ?_
        refine r_less [false] rfl ?_
        exact hJq1 1
set_option maxRecDepth 100000 in
set_option maxHeartbeats 4000000 in
theorem tX12_behindRun (p1 : Int) (p2 : Int) (M : Mem) : Cn yX12_behindRun cX12_behindRun 4 (some .int) 1 20 [zr 132, zi p1, zi p2] M ((fX12_behindRun p1 p2 M).map oI) := by
  refine Cn_mk (own := RX12) rfl (by decide) (Nat.le_of_ble_eq_true rfl) [some (zr 132), some (zi p1), some (zi p2), none] rfl (fun G C hn => ?_)
  unfold fX12_behindRun
  refine r_iload_n C dX12_behindRun_0 rfl rfl ?_
  refine r_istore_n (al' := [some (zr 132), some (zi p1), some (zi p2), some (zi p1)]) C dX12_behindRun_1 rfl (by rw [hn]; decide) rfl ?_
  refine r_less [true, false, true, true] rfl ?_
  refine r_lp (S := Int × Mem) (R := Int × Mem) (pcX := 47) (AL := fun s1 => [some (zr 132), none, some (zi p2), some (zi s1.1)]) (MM := fun s1 => s1.2) (AX := fun q6 => [none, none, none, some (zi q6.1)]) (MX := fun q6 => q6.2) ?_ ?_ (p1, M)
  · intro q6
    refine r_iload_n C dX12_behindRun_47 rfl rfl ?_
    exact r_ireturn C dX12_behindRun_48 rfl
  · intro gs1 hCs1 hXs1 s1
    unfold fX12_behindRun_b1
    refine r_iload_n C dX12_behindRun_2 rfl rfl ?_
    refine r_aload_n C dX12_behindRun_3 rfl rfl ?_
    refine q_geti C clX12 kd_132 (k := 3) (by decide) flX12_18 dX12_behindRun_4 (kz := 3) rfl (by decide) ?_
    refine q_icmp_ge (tgt := 47) C dX12_behindRun_7 (by decide) (fun _ => ?_) (fun _ => ?_)
    · refine r_less [false, false, false, true] rfl ?_
      exact hXs1 (s1.1, s1.2)
    · refine r_iload_n C dX12_behindRun_10 rfl rfl ?_
      refine q_if_eq (tgt := 29) C dX12_behindRun_11 (by decide) (fun _ => ?_) (fun _ => ?_)
      · refine r_aload_n C dX12_behindRun_29 rfl rfl ?_
        refine r_getp C clX12 kd_132 (k := 1) (by decide) flX12_14 dX12_behindRun_30 pt_132_1 ?_
        refine r_iload_n C dX12_behindRun_33 rfl rfl ?_
        refine r_iaload C dX12_behindRun_34 (fun v2 _ => ?_)
        refine q_callSi (av := [zi v2]) (rest := []) C (tX12_isDigit v2 s1.2) lkX12_25 rfl rfl (Nat.le_of_ble_eq_true rfl) ⟨by decide, by decide⟩ dX12_behindRun_35 (fun q3 _ => ?_)
        refine q_if_eq (tgt := 47) C dX12_behindRun_38 (by decide) (fun _ => ?_) (fun _ => ?_)
        · refine r_less [false, false, false, true] rfl ?_
          exact hXs1 (s1.1, q3.2)
        · refine r_iinc (al' := [some (zr 132), none, some (zi p2), some (zi (w32 (s1.1 + 1)))]) C dX12_behindRun_41 rfl (by rw [hn]; decide) rfl ?_
          refine r_goto (tgt := 2) C dX12_behindRun_44 (by decide) ?_
          exact hCs1 (w32 (s1.1 + 1), q3.2)
      · refine r_aload_n C dX12_behindRun_14 rfl rfl ?_
        refine r_getp C clX12 kd_132 (k := 1) (by decide) flX12_14 dX12_behindRun_15 pt_132_1 ?_
        refine r_iload_n C dX12_behindRun_18 rfl rfl ?_
        refine r_iaload C dX12_behindRun_19 (fun v4 _ => ?_)
        refine q_callSi (av := [zi v4]) (rest := []) C (tX12_isLetter v4 s1.2) lkX12_21 rfl rfl (Nat.le_of_ble_eq_true rfl) ⟨by decide, by decide⟩ dX12_behindRun_20 (fun q5 _ => ?_)
        refine q_if_eq (tgt := 47) C dX12_behindRun_23 (by decide) (fun _ => ?_) (fun _ => ?_)
        · refine r_less [false, false, false, true] rfl ?_
          exact hXs1 (s1.1, q5.2)
        · refine r_goto (tgt := 41) C dX12_behindRun_26 (by decide) ?_
          refine r_iinc (al' := [some (zr 132), none, some (zi p2), some (zi (w32 (s1.1 + 1)))]) C dX12_behindRun_41 rfl (by rw [hn]; decide) rfl ?_
          refine r_goto (tgt := 2) C dX12_behindRun_44 (by decide) ?_
          exact hCs1 (w32 (s1.1 + 1), q5.2)
set_option maxRecDepth 100000 in
set_option maxHeartbeats 4000000 in
theorem tX12_worthOf (p1 : Int) (p2 : Int) (p3 : Int) (M : Mem) : Cn yX12_worthOf cX12_worthOf 7 (some .long) 0 0 [zr 132, zi p1, zi p2, zi p3] M ((fX12_worthOf p1 p2 p3 M).map oJ) := by
  refine Cn_mk (own := RX12) rfl (by decide) (Nat.le_of_ble_eq_true rfl) [some (zr 132), some (zi p1), some (zi p2), some (zi p3), none, none, none] rfl (fun G C hn => ?_)
  unfold fX12_worthOf
  refine r_lconst C dX12_worthOf_0 rfl ?_
  refine r_lstore (al' := [some (zr 132), some (zi p1), some (zi p2), some (zi p3), some (zl 0), none, none]) C dX12_worthOf_1 (by rw [hn]; decide) rfl ?_
  refine r_iload_n C dX12_worthOf_3 rfl rfl ?_
  refine r_istore (al' := [some (zr 132), some (zi p1), some (zi p2), some (zi p3), some (zl 0), none, some (zi p1)]) C dX12_worthOf_4 (by rw [hn]; decide) rfl ?_
  refine r_lp (S := Int × Int) (R := Int) (pcX := 74) (AL := fun s1 => [some (zr 132), some (zi p1), some (zi p2), some (zi p3), some (zl s1.1), none, some (zi s1.2)]) (MM := fun s1 => M) (AX := fun q5 => [none, none, none, none, some (zl q5), none, none]) (MX := fun q5 => M) ?_ ?_ (0, p1)
  · intro q5
    refine r_lload C dX12_worthOf_74 rfl ?_
    exact r_lreturn C dX12_worthOf_76 rfl
  · intro gs1 hCs1 hXs1 s1
    unfold fX12_worthOf_b1
    refine r_iload C dX12_worthOf_6 rfl ?_
    refine r_iload_n C dX12_worthOf_8 rfl rfl ?_
    refine q_icmp_ge (tgt := 74) C dX12_worthOf_9 (by decide) (fun _ => ?_) (fun _ => ?_)
    · refine r_less [false, false, false, false, true, false, false] rfl ?_
      exact hXs1 s1.1
    · refine r_iload C dX12_worthOf_12 rfl ?_
      refine r_iload_n C dX12_worthOf_14 rfl rfl ?_
      refine r_bipush C dX12_worthOf_15 (by decide) ?_
      refine r_iadd C dX12_worthOf_17 ?_
      refine q_icmp_ge (tgt := 74) C dX12_worthOf_18 (by decide) (fun _ => ?_) (fun _ => ?_)
      · refine r_less [false, false, false, false, true, false, false] rfl ?_
        exact hXs1 s1.1
      · refine r_iload_n C dX12_worthOf_21 rfl rfl ?_
        refine r_join (γ := Int) (pcJ := fun _ => 66) (al' := fun q4 => [some (zr 132), some (zi p1), some (zi p2), some (zi p3), none, none, some (zi s1.2)]) (st' := fun q4 => [zl q4]) (M' := fun q4 => M) ?_ ?_
        · intro q4
          refine r_lstore (al' := [some (zr 132), some (zi p1), some (zi p2), some (zi p3), some (zl q4), none, some (zi s1.2)]) C dX12_worthOf_66 (by rw [hn]; decide) rfl ?_
          refine r_iinc (al' := [some (zr 132), some (zi p1), some (zi p2), some (zi p3), some (zl q4), none, some (zi (w32 (s1.2 + 1)))]) C dX12_worthOf_68 rfl (by rw [hn]; decide) rfl ?_
          refine r_goto (tgt := 6) C dX12_worthOf_71 (by decide) ?_
          exact hCs1 (q4, w32 (s1.2 + 1))
        · intro hJq4
          refine q_if_eq (tgt := 47) C dX12_worthOf_22 (by decide) (fun _ => ?_) (fun _ => ?_)
          · refine r_ldc2 C klX12_32 rfl dX12_worthOf_47 ?_
            refine r_lload C dX12_worthOf_50 rfl ?_
            refine r_lmul C dX12_worthOf_52 ?_
            refine r_aload_n C dX12_worthOf_53 rfl rfl ?_
            refine r_getp C clX12 kd_132 (k := 1) (by decide) flX12_14 dX12_worthOf_54 pt_132_1 ?_
            refine r_iload C dX12_worthOf_57 rfl ?_
            refine r_iaload C dX12_worthOf_59 (fun v2 _ => ?_)
            refine r_i2l C dX12_worthOf_60 ?_
            refine r_ladd C dX12_worthOf_61 ?_
            refine r_ldc2 C klX12_34 rfl dX12_worthOf_62 ?_
            refine r_lsub C dX12_worthOf_65 ?_
            refine r_less [true, true, true, true, false, false, true] rfl ?_
            exact hJq4 (w64 ((w64 ((w64 (10 * s1.1)) + v2)) - 48))
          · refine r_ldc2 C klX12_28 rfl dX12_worthOf_25 ?_
            refine r_lload C dX12_worthOf_28 rfl ?_
            refine r_lmul C dX12_worthOf_30 ?_
            refine r_aload_n C dX12_worthOf_31 rfl rfl ?_
            refine r_getp C clX12 kd_132 (k := 1) (by decide) flX12_14 dX12_worthOf_32 pt_132_1 ?_
            refine r_iload C dX12_worthOf_35 rfl ?_
            refine r_iaload C dX12_worthOf_37 (fun v3 _ => ?_)
            refine r_i2l C dX12_worthOf_38 ?_
            refine r_ladd C dX12_worthOf_39 ?_
            refine r_ldc2 C klX12_30 rfl dX12_worthOf_40 ?_
            refine r_lsub C dX12_worthOf_43 ?_
            refine r_goto (tgt := 66) C dX12_worthOf_44 (by decide) ?_
            refine r_less [true, true, true, true, false, false, true] rfl ?_
            exact hJq4 (w64 ((w64 ((w64 (27 * s1.1)) + v3)) - 96))
set_option maxRecDepth 100000 in
set_option maxHeartbeats 4000000 in
theorem tX12_cutAll  (M : Mem) : Cn yX12_cutAll cX12_cutAll 7 none 2 43 [zr 132] M ((fX12_cutAll  M).map oU) := by
  refine Cn_mk (own := RX12) rfl (by decide) (Nat.le_of_ble_eq_true rfl) [some (zr 132), none, none, none, none, none, none] rfl (fun G C hn => ?_)
  unfold fX12_cutAll
  refine r_aload_n C dX12_cutAll_0 rfl rfl ?_
  refine r_aload_n C dX12_cutAll_1 rfl rfl ?_
  refine q_geti C clX12 kd_132 (k := 2) (by decide) flX12_11 dX12_cutAll_2 (kz := 2) rfl (by decide) ?_
  refine q_puti C clX12 kd_132 (k := 3) (by decide) flX12_18 rfl dX12_cutAll_5 rfl rfl (fun M1 => ?_)
  refine r_aload_n C dX12_cutAll_8 rfl rfl ?_
  refine r_iconst C dX12_cutAll_9 (by decide) ?_
  refine q_puti C clX12 kd_132 (k := 2) (by decide) flX12_11 rfl dX12_cutAll_10 rfl rfl (fun M2 => ?_)
  refine r_iconst C dX12_cutAll_13 (by decide) ?_
  refine r_istore_n (al' := [some (zr 132), some (zi 0), none, none, none, none, none]) C dX12_cutAll_14 rfl (by rw [hn]; decide) rfl ?_
  refine r_iconst C dX12_cutAll_15 (by decide) ?_
  refine r_istore_n (al' := [some (zr 132), some (zi 0), some (zi 0), none, none, none, none]) C dX12_cutAll_16 rfl (by rw [hn]; decide) rfl ?_
  refine r_lp (S := Int × Int × Mem) (R := Int × Mem) (pcX := 182) (AL := fun s3 => [some (zr 132), some (zi s3.1), some (zi s3.2.1), none, none, none, none]) (MM := fun s3 => s3.2.2) (AX := fun q17 => [some (zr 132), some (zi q17.1), none, none, none, none, none]) (MX := fun q17 => q17.2) ?_ ?_ (0, 0, M2)
  · intro q17
    refine r_aload_n C dX12_cutAll_182 rfl rfl ?_
    refine r_getp C clX12 kd_132 (k := 4) (by decide) flX12_43 dX12_cutAll_183 pt_132_4 ?_
    refine r_iload_n C dX12_cutAll_186 rfl rfl ?_
    refine r_iconst C dX12_cutAll_187 (by decide) ?_
    refine r_iastore C dX12_cutAll_188 (fun M18 _ => ?_)
    refine r_aload_n C dX12_cutAll_189 rfl rfl ?_
    refine r_getp C clX12 kd_132 (k := 5) (by decide) flX12_36 dX12_cutAll_190 pt_132_5 ?_
    refine r_iload_n C dX12_cutAll_193 rfl rfl ?_
    refine r_aload_n C dX12_cutAll_194 rfl rfl ?_
    refine q_geti C clX12 kd_132 (k := 3) (by decide) flX12_18 dX12_cutAll_195 (kz := 3) rfl (by decide) ?_
    refine r_iastore C dX12_cutAll_198 (fun M19 _ => ?_)
    refine r_aload_n C dX12_cutAll_199 rfl rfl ?_
    refine r_iconst C dX12_cutAll_200 (by decide) ?_
    refine q_puti C clX12 kd_132 (k := 7) (by decide) flX12_54 rfl dX12_cutAll_201 rfl rfl (fun M20 => ?_)
    refine r_aload_n C dX12_cutAll_204 rfl rfl ?_
    refine r_iconst C dX12_cutAll_205 (by decide) ?_
    refine q_puti C clX12 kd_132 (k := 8) (by decide) flX12_57 rfl dX12_cutAll_206 rfl rfl (fun M21 => ?_)
    exact r_return C dX12_cutAll_209 rfl
  · intro gs3 hCs3 hXs3 s3
    unfold fX12_cutAll_b1
    refine r_iload_n C dX12_cutAll_17 rfl rfl ?_
    refine r_aload_n C dX12_cutAll_18 rfl rfl ?_
    refine q_geti C clX12 kd_132 (k := 3) (by decide) flX12_18 dX12_cutAll_19 (kz := 3) rfl (by decide) ?_
    refine q_icmp_ge (tgt := 182) C dX12_cutAll_22 (by decide) (fun _ => ?_) (fun _ => ?_)
    · refine r_less [true, true, false, false, false, false, false] rfl ?_
      exact hXs3 (s3.1, s3.2.2)
    · refine r_aload_n C dX12_cutAll_25 rfl rfl ?_
      refine r_getp C clX12 kd_132 (k := 1) (by decide) flX12_14 dX12_cutAll_26 pt_132_1 ?_
      refine r_iload_n C dX12_cutAll_29 rfl rfl ?_
      refine r_iaload C dX12_cutAll_30 (fun v4 _ => ?_)
      refine r_istore_n (al' := [some (zr 132), some (zi s3.1), some (zi s3.2.1), some (zi v4), none, none, none]) C dX12_cutAll_31 rfl (by rw [hn]; decide) rfl ?_
      refine r_iload_n C dX12_cutAll_32 rfl rfl ?_
      refine r_bipush C dX12_cutAll_33 (by decide) ?_
      refine q_icmp_eq (tgt := 44) C dX12_cutAll_35 (by decide) (fun _ => ?_) (fun _ => ?_)
      · refine r_iinc (al' := [some (zr 132), some (zi s3.1), some (zi (w32 (s3.2.1 + 1))), some (zi v4), none, none, none]) C dX12_cutAll_44 rfl (by rw [hn]; decide) rfl ?_
        refine r_goto (tgt := 17) C dX12_cutAll_47 (by decide) ?_
        refine r_less [true, true, true, false, false, false, false] rfl ?_
        exact hCs3 (s3.1, w32 (s3.2.1 + 1), s3.2.2)
      · refine r_iload_n C dX12_cutAll_38 rfl rfl ?_
        refine r_bipush C dX12_cutAll_39 (by decide) ?_
        refine q_icmp_ne (tgt := 50) C dX12_cutAll_41 (by decide) (fun _ => ?_) (fun _ => ?_)
        · refine r_aload_n C dX12_cutAll_50 rfl rfl ?_
          refine r_getp C clX12 kd_132 (k := 5) (by decide) flX12_36 dX12_cutAll_51 pt_132_5 ?_
          refine r_iload_n C dX12_cutAll_54 rfl rfl ?_
          refine r_iload_n C dX12_cutAll_55 rfl rfl ?_
          refine r_iastore C dX12_cutAll_56 (fun M5 _ => ?_)
          refine r_iload_n C dX12_cutAll_57 rfl rfl ?_
          refine q_callSi (av := [zi v4]) (rest := []) C (tX12_isLetter v4 M5) lkX12_21 rfl rfl (Nat.le_of_ble_eq_true rfl) ⟨by decide, by decide⟩ dX12_cutAll_58 (fun q6 _ => ?_)
          refine r_istore (al' := [some (zr 132), some (zi s3.1), some (zi s3.2.1), some (zi v4), some (zi q6.1), none, none]) C dX12_cutAll_61 (by rw [hn]; decide) rfl ?_
          refine r_iload C dX12_cutAll_63 rfl ?_
          refine r_join (γ := Int × Mem) (pcJ := fun _ => 88) (al' := fun q10 => [some (zr 132), some (zi s3.1), some (zi s3.2.1), some (zi v4), some (zi q6.1), none, none]) (st' := fun q10 => [zi q10.1]) (M' := fun q10 => q10.2) ?_ ?_
          · intro q10
            refine r_istore (al' := [some (zr 132), some (zi s3.1), some (zi s3.2.1), some (zi v4), some (zi q6.1), some (zi q10.1), none]) C dX12_cutAll_88 (by rw [hn]; decide) rfl ?_
            refine r_iload C dX12_cutAll_90 rfl ?_
            refine r_join (γ := Int) (pcJ := fun _ => 101) (al' := fun q11 => [some (zr 132), some (zi s3.1), some (zi s3.2.1), some (zi v4), some (zi q6.1), some (zi q10.1), none]) (st' := fun q11 => [zi q11]) (M' := fun q11 => q10.2) ?_ ?_
            · intro q11
              refine r_istore (al' := [some (zr 132), some (zi s3.1), some (zi s3.2.1), some (zi v4), some (zi q6.1), some (zi q10.1), some (zi q11)]) C dX12_cutAll_101 (by rw [hn]; decide) rfl ?_
              refine r_aload_n C dX12_cutAll_103 rfl rfl ?_
              refine r_getp C clX12 kd_132 (k := 4) (by decide) flX12_43 dX12_cutAll_104 pt_132_4 ?_
              refine r_iload_n C dX12_cutAll_107 rfl rfl ?_
              refine r_iload C dX12_cutAll_108 rfl ?_
              refine r_join (γ := Int × Mem) (pcJ := fun _ => 157) (al' := fun q13 => [some (zr 132), some (zi s3.1), some (zi s3.2.1), none, some (zi q6.1), some (zi q10.1), none]) (st' := fun q13 => [zi q13.1, zi s3.1, zr 134]) (M' := fun q13 => q13.2) ?_ ?_
              · intro q13
                refine r_iastore C dX12_cutAll_157 (fun M14 _ => ?_)
                refine r_aload_n C dX12_cutAll_158 rfl rfl ?_
                refine r_getp C clX12 kd_132 (k := 6) (by decide) flX12_46 dX12_cutAll_159 pt_132_6 ?_
                refine r_iload_n C dX12_cutAll_162 rfl rfl ?_
                refine r_aload_n C dX12_cutAll_163 rfl rfl ?_
                refine r_iload_n C dX12_cutAll_164 rfl rfl ?_
                refine r_iload C dX12_cutAll_165 rfl ?_
                refine r_iload C dX12_cutAll_167 rfl ?_
                refine q_callVj (av := [zi s3.2.1, zi q10.1, zi q6.1]) (rest := [zi s3.1, zr 136]) C (tX12_worthOf s3.2.1 q10.1 q6.1 M14) lkX12_50 kd_132 rfl rfl rfl (Nat.le_of_ble_eq_true rfl) ⟨by decide, by decide⟩ dX12_cutAll_169 (fun q15 _ => ?_)
                refine r_lastore C dX12_cutAll_172 (fun M16 _ => ?_)
                refine r_iload C dX12_cutAll_173 rfl ?_
                refine r_istore_n (al' := [some (zr 132), some (zi s3.1), some (zi q10.1), none, some (zi q6.1), some (zi q10.1), none]) C dX12_cutAll_175 rfl (by rw [hn]; decide) rfl ?_
                refine r_iinc (al' := [some (zr 132), some (zi (w32 (s3.1 + 1))), some (zi q10.1), none, some (zi q6.1), some (zi q10.1), none]) C dX12_cutAll_176 rfl (by rw [hn]; decide) rfl ?_
                refine r_goto (tgt := 17) C dX12_cutAll_179 (by decide) ?_
                refine r_less [true, true, true, false, false, false, false] rfl ?_
                exact hCs3 (w32 (s3.1 + 1), q10.1, M16)
              · intro hJq13
                refine q_if_ne (tgt := 120) C dX12_cutAll_110 (by decide) (fun _ => ?_) (fun _ => ?_)
                · refine r_iload C dX12_cutAll_120 rfl ?_
                  refine r_iload_n C dX12_cutAll_122 rfl rfl ?_
                  refine r_isub C dX12_cutAll_123 ?_
                  refine r_iload C dX12_cutAll_124 rfl ?_
                  refine q_icmp_le (tgt := 133) C dX12_cutAll_126 (by decide) (fun _ => ?_) (fun _ => ?_)
                  · refine r_iload C dX12_cutAll_133 rfl ?_
                    refine q_if_eq (tgt := 142) C dX12_cutAll_135 (by decide) (fun _ => ?_) (fun _ => ?_)
                    · refine r_iconst C dX12_cutAll_142 (by decide) ?_
                      refine r_goto (tgt := 157) C dX12_cutAll_143 (by decide) ?_
                      refine r_less [true, true, true, false, true, true, false] rfl ?_
                      exact hJq13 (2, q10.2)
                    · refine r_iconst C dX12_cutAll_138 (by decide) ?_
                      refine r_goto (tgt := 157) C dX12_cutAll_139 (by decide) ?_
                      refine r_less [true, true, true, false, true, true, false] rfl ?_
                      exact hJq13 (1, q10.2)
                  · refine r_iconst C dX12_cutAll_129 (by decide) ?_
                    refine r_goto (tgt := 157) C dX12_cutAll_130 (by decide) ?_
                    refine r_less [true, true, true, false, true, true, false] rfl ?_
                    exact hJq13 (4, q10.2)
                · refine r_iload_n C dX12_cutAll_113 rfl rfl ?_
                  refine q_callSi (av := [zi v4]) (rest := [zi s3.1, zr 134]) C (tX12_isDigit v4 q10.2) lkX12_25 rfl rfl (Nat.le_of_ble_eq_true rfl) ⟨by decide, by decide⟩ dX12_cutAll_114 (fun q12 _ => ?_)
                  refine q_if_eq (tgt := 146) C dX12_cutAll_117 (by decide) (fun _ => ?_) (fun _ => ?_)
                  · refine r_iload_n C dX12_cutAll_146 rfl rfl ?_
                    refine r_bipush C dX12_cutAll_147 (by decide) ?_
                    refine q_icmp_ne (tgt := 156) C dX12_cutAll_149 (by decide) (fun _ => ?_) (fun _ => ?_)
                    · refine r_iconst C dX12_cutAll_156 (by decide) ?_
                      refine r_less [true, true, true, false, true, true, false] rfl ?_
                      exact hJq13 (4, q12.2)
                    · refine r_iconst C dX12_cutAll_152 (by decide) ?_
                      refine r_goto (tgt := 157) C dX12_cutAll_153 (by decide) ?_
                      refine r_less [true, true, true, false, true, true, false] rfl ?_
                      exact hJq13 (3, q12.2)
                  · refine r_iload C dX12_cutAll_120 rfl ?_
                    refine r_iload_n C dX12_cutAll_122 rfl rfl ?_
                    refine r_isub C dX12_cutAll_123 ?_
                    refine r_iload C dX12_cutAll_124 rfl ?_
                    refine q_icmp_le (tgt := 133) C dX12_cutAll_126 (by decide) (fun _ => ?_) (fun _ => ?_)
                    · refine r_iload C dX12_cutAll_133 rfl ?_
                      refine q_if_eq (tgt := 142) C dX12_cutAll_135 (by decide) (fun _ => ?_) (fun _ => ?_)
                      · refine r_iconst C dX12_cutAll_142 (by decide) ?_
                        refine r_goto (tgt := 157) C dX12_cutAll_143 (by decide) ?_
                        refine r_less [true, true, true, false, true, true, false] rfl ?_
                        exact hJq13 (2, q12.2)
                      · refine r_iconst C dX12_cutAll_138 (by decide) ?_
                        refine r_goto (tgt := 157) C dX12_cutAll_139 (by decide) ?_
                        refine r_less [true, true, true, false, true, true, false] rfl ?_
                        exact hJq13 (1, q12.2)
                    · refine r_iconst C dX12_cutAll_129 (by decide) ?_
                      refine r_goto (tgt := 157) C dX12_cutAll_130 (by decide) ?_
                      refine r_less [true, true, true, false, true, true, false] rfl ?_
                      exact hJq13 (4, q12.2)
            · intro hJq11
              refine q_if_eq (tgt := 100) C dX12_cutAll_92 (by decide) (fun _ => ?_) (fun _ => ?_)
              · refine r_iconst C dX12_cutAll_100 (by decide) ?_
                exact hJq11 3
              · refine r_bipush C dX12_cutAll_95 (by decide) ?_
                refine r_goto (tgt := 101) C dX12_cutAll_97 (by decide) ?_
                exact hJq11 7
          · intro hJq10
            refine q_if_ne (tgt := 75) C dX12_cutAll_65 (by decide) (fun _ => ?_) (fun _ => ?_)
            · refine r_aload_n C dX12_cutAll_75 rfl rfl ?_
              refine r_iload_n C dX12_cutAll_76 rfl rfl ?_
              refine r_iload C dX12_cutAll_77 rfl ?_
              refine q_callVi (av := [zi s3.2.1, zi q6.1]) (rest := []) C (tX12_behindRun s3.2.1 q6.1 q6.2) lkX12_39 kd_132 rfl rfl rfl (Nat.le_of_ble_eq_true rfl) ⟨by decide, by decide⟩ dX12_cutAll_79 (fun q7 _ => ?_)
              refine r_goto (tgt := 88) C dX12_cutAll_82 (by decide) ?_
              exact hJq10 (q7.1, q7.2)
            · refine r_iload_n C dX12_cutAll_68 rfl rfl ?_
              refine q_callSi (av := [zi v4]) (rest := []) C (tX12_isDigit v4 q6.2) lkX12_25 rfl rfl (Nat.le_of_ble_eq_true rfl) ⟨by decide, by decide⟩ dX12_cutAll_69 (fun q8 _ => ?_)
              refine q_if_eq (tgt := 85) C dX12_cutAll_72 (by decide) (fun _ => ?_) (fun _ => ?_)
              · refine r_iload_n C dX12_cutAll_85 rfl rfl ?_
                refine r_iconst C dX12_cutAll_86 (by decide) ?_
                refine r_iadd C dX12_cutAll_87 ?_
                exact hJq10 (w32 (s3.2.1 + 1), q8.2)
              · refine r_aload_n C dX12_cutAll_75 rfl rfl ?_
                refine r_iload_n C dX12_cutAll_76 rfl rfl ?_
                refine r_iload C dX12_cutAll_77 rfl ?_
                refine q_callVi (av := [zi s3.2.1, zi q6.1]) (rest := []) C (tX12_behindRun s3.2.1 q6.1 q8.2) lkX12_39 kd_132 rfl rfl rfl (Nat.le_of_ble_eq_true rfl) ⟨by decide, by decide⟩ dX12_cutAll_79 (fun q9 _ => ?_)
                refine r_goto (tgt := 88) C dX12_cutAll_82 (by decide) ?_
                exact hJq10 (q9.1, q9.2)
        · refine r_iinc (al' := [some (zr 132), some (zi s3.1), some (zi (w32 (s3.2.1 + 1))), some (zi v4), none, none, none]) C dX12_cutAll_44 rfl (by rw [hn]; decide) rfl ?_
          refine r_goto (tgt := 17) C dX12_cutAll_47 (by decide) ?_
          refine r_less [true, true, true, false, false, false, false] rfl ?_
          exact hCs3 (s3.1, w32 (s3.2.1 + 1), s3.2.2)
set_option maxRecDepth 100000 in
set_option maxHeartbeats 4000000 in
theorem tX12_wrong (p1 : Int) (M : Mem) : Cn yX12_wrong cX12_wrong 2 none 0 0 [zr 132, zi p1] M ((fX12_wrong p1 M).map oU) := by
  refine Cn_mk (own := RX12) rfl (by decide) (Nat.le_of_ble_eq_true rfl) [some (zr 132), some (zi p1)] rfl (fun G C hn => ?_)
  unfold fX12_wrong
  refine r_aload_n C dX12_wrong_0 rfl rfl ?_
  refine q_geti C clX12 kd_132 (k := 8) (by decide) flX12_57 dX12_wrong_1 (kz := 8) rfl (by decide) ?_
  refine r_join (γ := Mem) (pcJ := fun _ => 25) (al' := fun q3 => [none, none]) (st' := fun q3 => []) (M' := fun q3 => q3) ?_ ?_
  · intro q3
    exact r_return C dX12_wrong_25 rfl
  · intro hJq3
    refine q_if_ne (tgt := 25) C dX12_wrong_4 (by decide) (fun _ => ?_) (fun _ => ?_)
    · refine r_less [false, false] rfl ?_
      exact hJq3 M
    · refine r_aload_n C dX12_wrong_7 rfl rfl ?_
      refine r_iload_n C dX12_wrong_8 rfl rfl ?_
      refine r_bipush C dX12_wrong_9 (by decide) ?_
      refine r_aload_n C dX12_wrong_11 rfl rfl ?_
      refine r_getp C clX12 kd_132 (k := 5) (by decide) flX12_36 dX12_wrong_12 pt_132_5 ?_
      refine r_aload_n C dX12_wrong_15 rfl rfl ?_
      refine q_geti C clX12 kd_132 (k := 7) (by decide) flX12_54 dX12_wrong_16 (kz := 7) rfl (by decide) ?_
      refine r_iaload C dX12_wrong_19 (fun v1 _ => ?_)
      refine r_imul C dX12_wrong_20 ?_
      refine r_iadd C dX12_wrong_21 ?_
      refine q_puti C clX12 kd_132 (k := 8) (by decide) flX12_57 rfl dX12_wrong_22 rfl rfl (fun M2 => ?_)
      refine r_less [false, false] rfl ?_
      exact hJq3 M2
set_option maxRecDepth 100000 in
set_option maxHeartbeats 4000000 in
theorem tX12_isWord (p1 : Int) (M : Mem) : Cn yX12_isWord cX12_isWord 2 (some .boolean) 0 0 [zr 132, zi p1] M ((fX12_isWord p1 M).map oI) := by
  refine Cn_mk (own := RX12) rfl (by decide) (Nat.le_of_ble_eq_true rfl) [some (zr 132), some (zi p1)] rfl (fun G C hn => ?_)
  unfold fX12_isWord
  refine r_aload_n C dX12_isWord_0 rfl rfl ?_
  refine q_geti C clX12 kd_132 (k := 8) (by decide) flX12_57 dX12_isWord_1 (kz := 8) rfl (by decide) ?_
  refine r_join (γ := Int) (pcJ := fun _ => 44) (al' := fun q4 => [none, none]) (st' := fun q4 => [zi q4]) (M' := fun q4 => M) ?_ ?_
  · intro q4
    exact r_zreturn C dX12_isWord_44 rfl
  · intro hJq4
    refine q_if_ne (tgt := 43) C dX12_isWord_4 (by decide) (fun _ => ?_) (fun _ => ?_)
    · refine r_iconst C dX12_isWord_43 (by decide) ?_
      refine r_less [false, false] rfl ?_
      exact hJq4 0
    · refine r_aload_n C dX12_isWord_7 rfl rfl ?_
      refine r_getp C clX12 kd_132 (k := 4) (by decide) flX12_43 dX12_isWord_8 pt_132_4 ?_
      refine r_aload_n C dX12_isWord_11 rfl rfl ?_
      refine q_geti C clX12 kd_132 (k := 7) (by decide) flX12_54 dX12_isWord_12 (kz := 7) rfl (by decide) ?_
      refine r_iaload C dX12_isWord_15 (fun v1 _ => ?_)
      refine r_iconst C dX12_isWord_16 (by decide) ?_
      refine q_icmp_ne (tgt := 43) C dX12_isWord_17 (by decide) (fun _ => ?_) (fun _ => ?_)
      · refine r_iconst C dX12_isWord_43 (by decide) ?_
        refine r_less [false, false] rfl ?_
        exact hJq4 0
      · refine r_aload_n C dX12_isWord_20 rfl rfl ?_
        refine r_getp C clX12 kd_132 (k := 6) (by decide) flX12_46 dX12_isWord_21 pt_132_6 ?_
        refine r_aload_n C dX12_isWord_24 rfl rfl ?_
        refine q_geti C clX12 kd_132 (k := 7) (by decide) flX12_54 dX12_isWord_25 (kz := 7) rfl (by decide) ?_
        refine r_laload C dX12_isWord_28 (fun v2 _ => ?_)
        refine r_aload_n C dX12_isWord_29 rfl rfl ?_
        refine r_getp C clX12 kd_132 (k := 9) (by decide) flX12_60 dX12_isWord_30 pt_132_9 ?_
        refine r_iload_n C dX12_isWord_33 rfl rfl ?_
        refine r_laload C dX12_isWord_34 (fun v3 _ => ?_)
        refine r_lcmp C dX12_isWord_35 ?_
        refine q_if_ne (tgt := 43) C dX12_isWord_36 (by decide) (fun _ => ?_) (fun _ => ?_)
        · refine r_iconst C dX12_isWord_43 (by decide) ?_
          refine r_less [false, false] rfl ?_
          exact hJq4 0
        · refine r_iconst C dX12_isWord_39 (by decide) ?_
          refine r_goto (tgt := 44) C dX12_isWord_40 (by decide) ?_
          refine r_less [false, false] rfl ?_
          exact hJq4 1
set_option maxRecDepth 100000 in
set_option maxHeartbeats 4000000 in
theorem tX12_takeWord (p1 : Int) (M : Mem) : Cn yX12_takeWord cX12_takeWord 3 none 1 21 [zr 132, zi p1] M ((fX12_takeWord p1 M).map oU) := by
  refine Cn_mk (own := RX12) rfl (by decide) (Nat.le_of_ble_eq_true rfl) [some (zr 132), some (zi p1), none] rfl (fun G C hn => ?_)
  unfold fX12_takeWord
  refine r_aload_n C dX12_takeWord_0 rfl rfl ?_
  refine r_iload_n C dX12_takeWord_1 rfl rfl ?_
  refine q_callVi (av := [zi p1]) (rest := []) C (tX12_isWord p1 M) lkX12_63 kd_132 rfl rfl rfl (Nat.le_of_ble_eq_true rfl) ⟨by decide, by decide⟩ dX12_takeWord_2 (fun q1 _ => ?_)
  refine r_istore_n (al' := [some (zr 132), some (zi p1), some (zi q1.1)]) C dX12_takeWord_5 rfl (by rw [hn]; decide) rfl ?_
  refine r_iload_n C dX12_takeWord_6 rfl rfl ?_
  refine r_join (γ := Mem) (pcJ := fun _ => 15) (al' := fun q3 => [some (zr 132), none, some (zi q1.1)]) (st' := fun q3 => []) (M' := fun q3 => q3) ?_ ?_
  · intro q3
    refine r_aload_n C dX12_takeWord_15 rfl rfl ?_
    refine r_dup C dX12_takeWord_16 rfl ?_
    refine q_geti C clX12 kd_132 (k := 7) (by decide) flX12_54 dX12_takeWord_17 (kz := 7) rfl (by decide) ?_
    refine r_iload_n C dX12_takeWord_20 rfl rfl ?_
    refine r_join (γ := Int) (pcJ := fun _ => 29) (al' := fun q4 => [none, none, none]) (st' := fun q4 => [zi q4, zi (q3 132 7), zr 132]) (M' := fun q4 => q3) ?_ ?_
    · intro q4
      refine r_iadd C dX12_takeWord_29 ?_
      refine q_puti C clX12 kd_132 (k := 7) (by decide) flX12_54 rfl dX12_takeWord_30 rfl rfl (fun M5 => ?_)
      exact r_return C dX12_takeWord_33 rfl
    · intro hJq4
      refine q_if_eq (tgt := 28) C dX12_takeWord_21 (by decide) (fun _ => ?_) (fun _ => ?_)
      · refine r_iconst C dX12_takeWord_28 (by decide) ?_
        refine r_less [false, false, false] rfl ?_
        exact hJq4 0
      · refine r_iconst C dX12_takeWord_24 (by decide) ?_
        refine r_goto (tgt := 29) C dX12_takeWord_25 (by decide) ?_
        refine r_less [false, false, false] rfl ?_
        exact hJq4 1
  · intro hJq3
    refine q_if_ne (tgt := 15) C dX12_takeWord_7 (by decide) (fun _ => ?_) (fun _ => ?_)
    · refine r_less [true, false, true] rfl ?_
      exact hJq3 q1.2
    · refine r_aload_n C dX12_takeWord_10 rfl rfl ?_
      refine r_iconst C dX12_takeWord_11 (by decide) ?_
      refine q_callVv (av := [zi 1]) (rest := []) C (tX12_wrong 1 q1.2) lkX12_66 kd_132 rfl rfl rfl (Nat.le_of_ble_eq_true rfl) ⟨by decide, by decide⟩ dX12_takeWord_12 (fun q2 _ => ?_)
      refine r_less [true, false, true] rfl ?_
      exact hJq3 q2
set_option maxRecDepth 100000 in
set_option maxHeartbeats 4000000 in
theorem tX12_takeEnd  (M : Mem) : Cn yX12_takeEnd cX12_takeEnd 1 none 1 21 [zr 132] M ((fX12_takeEnd  M).map oU) := by
  refine Cn_mk (own := RX12) rfl (by decide) (Nat.le_of_ble_eq_true rfl) [some (zr 132)] rfl (fun G C hn => ?_)
  unfold fX12_takeEnd
  refine r_aload_n C dX12_takeEnd_0 rfl rfl ?_
  refine q_geti C clX12 kd_132 (k := 8) (by decide) flX12_57 dX12_takeEnd_1 (kz := 8) rfl (by decide) ?_
  refine r_join (γ := Mem) (pcJ := fun _ => 25) (al' := fun q3 => [some (zr 132)]) (st' := fun q3 => []) (M' := fun q3 => q3) ?_ ?_
  · intro q3
    refine r_aload_n C dX12_takeEnd_25 rfl rfl ?_
    refine r_dup C dX12_takeEnd_26 rfl ?_
    refine q_geti C clX12 kd_132 (k := 7) (by decide) flX12_54 dX12_takeEnd_27 (kz := 7) rfl (by decide) ?_
    refine r_aload_n C dX12_takeEnd_30 rfl rfl ?_
    refine q_geti C clX12 kd_132 (k := 8) (by decide) flX12_57 dX12_takeEnd_31 (kz := 8) rfl (by decide) ?_
    refine r_join (γ := Int) (pcJ := fun _ => 42) (al' := fun q4 => [none]) (st' := fun q4 => [zi q4, zi (q3 132 7), zr 132]) (M' := fun q4 => q3) ?_ ?_
    · intro q4
      refine r_iadd C dX12_takeEnd_42 ?_
      refine q_puti C clX12 kd_132 (k := 7) (by decide) flX12_54 rfl dX12_takeEnd_43 rfl rfl (fun M5 => ?_)
      exact r_return C dX12_takeEnd_46 rfl
    · intro hJq4
      refine q_if_ne (tgt := 41) C dX12_takeEnd_34 (by decide) (fun _ => ?_) (fun _ => ?_)
      · refine r_iconst C dX12_takeEnd_41 (by decide) ?_
        refine r_less [false] rfl ?_
        exact hJq4 0
      · refine r_iconst C dX12_takeEnd_37 (by decide) ?_
        refine r_goto (tgt := 42) C dX12_takeEnd_38 (by decide) ?_
        refine r_less [false] rfl ?_
        exact hJq4 1
  · intro hJq3
    refine q_if_ne (tgt := 25) C dX12_takeEnd_4 (by decide) (fun _ => ?_) (fun _ => ?_)
    · exact hJq3 M
    · refine r_aload_n C dX12_takeEnd_7 rfl rfl ?_
      refine r_getp C clX12 kd_132 (k := 4) (by decide) flX12_43 dX12_takeEnd_8 pt_132_4 ?_
      refine r_aload_n C dX12_takeEnd_11 rfl rfl ?_
      refine q_geti C clX12 kd_132 (k := 7) (by decide) flX12_54 dX12_takeEnd_12 (kz := 7) rfl (by decide) ?_
      refine r_iaload C dX12_takeEnd_15 (fun v1 _ => ?_)
      refine r_iconst C dX12_takeEnd_16 (by decide) ?_
      refine q_icmp_eq (tgt := 25) C dX12_takeEnd_17 (by decide) (fun _ => ?_) (fun _ => ?_)
      · exact hJq3 M
      · refine r_aload_n C dX12_takeEnd_20 rfl rfl ?_
        refine r_iconst C dX12_takeEnd_21 (by decide) ?_
        refine q_callVv (av := [zi 1]) (rest := []) C (tX12_wrong 1 M) lkX12_66 kd_132 rfl rfl rfl (Nat.le_of_ble_eq_true rfl) ⟨by decide, by decide⟩ dX12_takeEnd_22 (fun q2 _ => ?_)
        exact hJq3 q2
set_option maxRecDepth 100000 in
set_option maxHeartbeats 4000000 in
theorem tX12_wordHere (p1 : Int) (p2 : Int) (M : Mem) : Cn yX12_wordHere cX12_wordHere 5 (some .int) 1 21 [zr 132, zi p1, zi p2] M ((fX12_wordHere p1 p2 M).map oI) := by
  refine Cn_mk (own := RX12) rfl (by decide) (Nat.le_of_ble_eq_true rfl) [some (zr 132), some (zi p1), some (zi p2), none, none] rfl (fun G C hn => ?_)
  unfold fX12_wordHere
  refine r_iconst C dX12_wordHere_0 (by decide) ?_
  refine r_istore_n (al' := [some (zr 132), some (zi p1), some (zi p2), some (zi (-1)), none]) C dX12_wordHere_1 rfl (by rw [hn]; decide) rfl ?_
  refine r_iconst C dX12_wordHere_2 (by decide) ?_
  refine r_istore (al' := [some (zr 132), some (zi p1), some (zi p2), some (zi (-1)), some (zi 0)]) C dX12_wordHere_3 (by rw [hn]; decide) rfl ?_
  refine r_lp (S := Int × Int × Mem) (R := Int × Mem) (pcX := 35) (AL := fun s1 => [some (zr 132), some (zi p1), some (zi p2), some (zi s1.1), some (zi s1.2.1)]) (MM := fun s1 => s1.2.2) (AX := fun q4 => [none, none, none, some (zi q4.1), none]) (MX := fun q4 => q4.2) ?_ ?_ ((-1), 0, M)
  · intro q4
    refine r_iload_n C dX12_wordHere_35 rfl rfl ?_
    exact r_ireturn C dX12_wordHere_36 rfl
  · intro gs1 hCs1 hXs1 s1
    unfold fX12_wordHere_b1
    refine r_iload C dX12_wordHere_5 rfl ?_
    refine r_iload_n C dX12_wordHere_7 rfl rfl ?_
    refine q_icmp_ge (tgt := 35) C dX12_wordHere_8 (by decide) (fun _ => ?_) (fun _ => ?_)
    · refine r_less [false, false, false, true, false] rfl ?_
      exact hXs1 (s1.1, s1.2.2)
    · refine r_aload_n C dX12_wordHere_11 rfl rfl ?_
      refine r_iload_n C dX12_wordHere_12 rfl rfl ?_
      refine r_iload C dX12_wordHere_13 rfl ?_
      refine r_iadd C dX12_wordHere_15 ?_
      refine q_callVi (av := [zi (w32 (p1 + s1.2.1))]) (rest := []) C (tX12_isWord (w32 (p1 + s1.2.1)) s1.2.2) lkX12_63 kd_132 rfl rfl rfl (Nat.le_of_ble_eq_true rfl) ⟨by decide, by decide⟩ dX12_wordHere_16 (fun q2 _ => ?_)
      refine r_join (γ := Int) (pcJ := fun _ => 28) (al' := fun q3 => [some (zr 132), some (zi p1), some (zi p2), none, some (zi s1.2.1)]) (st' := fun q3 => [zi q3]) (M' := fun q3 => q2.2) ?_ ?_
      · intro q3
        refine r_istore_n (al' := [some (zr 132), some (zi p1), some (zi p2), some (zi q3), some (zi s1.2.1)]) C dX12_wordHere_28 rfl (by rw [hn]; decide) rfl ?_
        refine r_iinc (al' := [some (zr 132), some (zi p1), some (zi p2), some (zi q3), some (zi (w32 (s1.2.1 + 1)))]) C dX12_wordHere_29 rfl (by rw [hn]; decide) rfl ?_
        refine r_goto (tgt := 5) C dX12_wordHere_32 (by decide) ?_
        exact hCs1 (q3, w32 (s1.2.1 + 1), q2.2)
      · intro hJq3
        refine q_if_eq (tgt := 27) C dX12_wordHere_19 (by decide) (fun _ => ?_) (fun _ => ?_)
        · refine r_iload_n C dX12_wordHere_27 rfl rfl ?_
          refine r_less [true, true, true, false, true] rfl ?_
          exact hJq3 s1.1
        · refine r_iload C dX12_wordHere_22 rfl ?_
          refine r_goto (tgt := 28) C dX12_wordHere_24 (by decide) ?_
          refine r_less [true, true, true, false, true] rfl ?_
          exact hJq3 s1.2.1
set_option maxRecDepth 100000 in
set_option maxHeartbeats 4000000 in
theorem tX12_isName  (M : Mem) : Cn yX12_isName cX12_isName 1 (some .boolean) 2 45 [zr 132] M ((fX12_isName  M).map oI) := by
  refine Cn_mk (own := RX12) rfl (by decide) (Nat.le_of_ble_eq_true rfl) [some (zr 132)] rfl (fun G C hn => ?_)
  unfold fX12_isName
  refine r_aload_n C dX12_isName_0 rfl rfl ?_
  refine q_geti C clX12 kd_132 (k := 8) (by decide) flX12_57 dX12_isName_1 (kz := 8) rfl (by decide) ?_
  refine r_join (γ := Int × Mem) (pcJ := fun _ => 35) (al' := fun q3 => [none]) (st' := fun q3 => [zi q3.1]) (M' := fun q3 => q3.2) ?_ ?_
  · intro q3
    exact r_zreturn C dX12_isName_35 rfl
  · intro hJq3
    refine q_if_ne (tgt := 34) C dX12_isName_4 (by decide) (fun _ => ?_) (fun _ => ?_)
    · refine r_iconst C dX12_isName_34 (by decide) ?_
      refine r_less [false] rfl ?_
      exact hJq3 (0, M)
    · refine r_aload_n C dX12_isName_7 rfl rfl ?_
      refine r_getp C clX12 kd_132 (k := 4) (by decide) flX12_43 dX12_isName_8 pt_132_4 ?_
      refine r_aload_n C dX12_isName_11 rfl rfl ?_
      refine q_geti C clX12 kd_132 (k := 7) (by decide) flX12_54 dX12_isName_12 (kz := 7) rfl (by decide) ?_
      refine r_iaload C dX12_isName_15 (fun v1 _ => ?_)
      refine r_iconst C dX12_isName_16 (by decide) ?_
      refine q_icmp_ne (tgt := 34) C dX12_isName_17 (by decide) (fun _ => ?_) (fun _ => ?_)
      · refine r_iconst C dX12_isName_34 (by decide) ?_
        refine r_less [false] rfl ?_
        exact hJq3 (0, M)
      · refine r_aload_n C dX12_isName_20 rfl rfl ?_
        refine r_iconst C dX12_isName_21 (by decide) ?_
        refine r_bipush C dX12_isName_22 (by decide) ?_
        refine q_callVi (av := [zi 0, zi 23]) (rest := []) C (tX12_wordHere 0 23 M) lkX12_70 kd_132 rfl rfl rfl (Nat.le_of_ble_eq_true rfl) ⟨by decide, by decide⟩ dX12_isName_24 (fun q2 _ => ?_)
        refine q_if_ge (tgt := 34) C dX12_isName_27 (by decide) (fun _ => ?_) (fun _ => ?_)
        · refine r_iconst C dX12_isName_34 (by decide) ?_
          refine r_less [false] rfl ?_
          exact hJq3 (0, q2.2)
        · refine r_iconst C dX12_isName_30 (by decide) ?_
          refine r_goto (tgt := 35) C dX12_isName_31 (by decide) ?_
          refine r_less [false] rfl ?_
          exact hJq3 (1, q2.2)
set_option maxRecDepth 100000 in
set_option maxHeartbeats 4000000 in
theorem tX12_takeNumber (p1 : Int) (p2 : Int) (M : Mem) : Cn yX12_takeNumber cX12_takeNumber 3 (some .int) 1 21 [zr 132, zi p1, zi p2] M ((fX12_takeNumber p1 p2 M).map oI) := by
  refine Cn_mk (own := RX12) rfl (by decide) (Nat.le_of_ble_eq_true rfl) [some (zr 132), some (zi p1), some (zi p2)] rfl (fun G C hn => ?_)
  unfold fX12_takeNumber
  refine r_aload_n C dX12_takeNumber_0 rfl rfl ?_
  refine q_geti C clX12 kd_132 (k := 8) (by decide) flX12_57 dX12_takeNumber_1 (kz := 8) rfl (by decide) ?_
  refine r_join (γ := Bool) (pcJ := fun q2 => if q2 = true then 28 else 20) (al' := fun q2 => [some (zr 132), some (zi p1), some (zi p2)]) (st' := fun q2 => []) (M' := fun q2 => M) ?_ ?_
  · intro q2
    refine r_join (γ := Mem) (pcJ := fun _ => 70) (al' := fun q8 => [some (zr 132), none, none]) (st' := fun q8 => []) (M' := fun q8 => q8) ?_ ?_
    · intro q8
      refine r_aload_n C dX12_takeNumber_70 rfl rfl ?_
      refine q_geti C clX12 kd_132 (k := 8) (by decide) flX12_57 dX12_takeNumber_71 (kz := 8) rfl (by decide) ?_
      refine q_if_le (tgt := 79) C dX12_takeNumber_74 (by decide) (fun _ => ?_) (fun _ => ?_)
      · refine r_aload_n C dX12_takeNumber_79 rfl rfl ?_
        refine r_dup C dX12_takeNumber_80 rfl ?_
        refine q_geti C clX12 kd_132 (k := 7) (by decide) flX12_54 dX12_takeNumber_81 (kz := 7) rfl (by decide) ?_
        refine r_iconst C dX12_takeNumber_84 (by decide) ?_
        refine r_iadd C dX12_takeNumber_85 ?_
        refine q_puti C clX12 kd_132 (k := 7) (by decide) flX12_54 rfl dX12_takeNumber_86 rfl rfl (fun M9 => ?_)
        refine r_aload_n C dX12_takeNumber_89 rfl rfl ?_
        refine r_getp C clX12 kd_132 (k := 6) (by decide) flX12_46 dX12_takeNumber_90 pt_132_6 ?_
        refine r_aload_n C dX12_takeNumber_93 rfl rfl ?_
        refine q_geti C clX12 kd_132 (k := 7) (by decide) flX12_54 dX12_takeNumber_94 (kz := 7) rfl (by decide) ?_
        refine r_iconst C dX12_takeNumber_97 (by decide) ?_
        refine r_isub C dX12_takeNumber_98 ?_
        refine r_laload C dX12_takeNumber_99 (fun v10 _ => ?_)
        refine r_l2i C dX12_takeNumber_100 ?_
        exact r_ireturn C dX12_takeNumber_101 rfl
      · refine r_iconst C dX12_takeNumber_77 (by decide) ?_
        exact r_ireturn C dX12_takeNumber_78 rfl
    · intro hJq8
      refine r_itp (fun _ => ?_) (fun _ => ?_)
      · refine r_aload_n C dX12_takeNumber_28 rfl rfl ?_
        refine q_geti C clX12 kd_132 (k := 8) (by decide) flX12_57 dX12_takeNumber_29 (kz := 8) rfl (by decide) ?_
        refine q_if_ne (tgt := 70) C dX12_takeNumber_32 (by decide) (fun _ => ?_) (fun _ => ?_)
        · refine r_less [true, false, false] rfl ?_
          exact hJq8 M
        · refine r_aload_n C dX12_takeNumber_35 rfl rfl ?_
          refine r_getp C clX12 kd_132 (k := 6) (by decide) flX12_46 dX12_takeNumber_36 pt_132_6 ?_
          refine r_aload_n C dX12_takeNumber_39 rfl rfl ?_
          refine q_geti C clX12 kd_132 (k := 7) (by decide) flX12_54 dX12_takeNumber_40 (kz := 7) rfl (by decide) ?_
          refine r_laload C dX12_takeNumber_43 (fun v3 _ => ?_)
          refine r_iload_n C dX12_takeNumber_44 rfl rfl ?_
          refine r_i2l C dX12_takeNumber_45 ?_
          refine r_lcmp C dX12_takeNumber_46 ?_
          refine q_if_lt (tgt := 65) C dX12_takeNumber_47 (by decide) (fun _ => ?_) (fun _ => ?_)
          · refine r_aload_n C dX12_takeNumber_65 rfl rfl ?_
            refine r_iconst C dX12_takeNumber_66 (by decide) ?_
            refine q_callVv (av := [zi 4]) (rest := []) C (tX12_wrong 4 M) lkX12_66 kd_132 rfl rfl rfl (Nat.le_of_ble_eq_true rfl) ⟨by decide, by decide⟩ dX12_takeNumber_67 (fun q4 _ => ?_)
            refine r_less [true, false, false] rfl ?_
            exact hJq8 q4
          · refine r_aload_n C dX12_takeNumber_50 rfl rfl ?_
            refine r_getp C clX12 kd_132 (k := 6) (by decide) flX12_46 dX12_takeNumber_51 pt_132_6 ?_
            refine r_aload_n C dX12_takeNumber_54 rfl rfl ?_
            refine q_geti C clX12 kd_132 (k := 7) (by decide) flX12_54 dX12_takeNumber_55 (kz := 7) rfl (by decide) ?_
            refine r_laload C dX12_takeNumber_58 (fun v5 _ => ?_)
            refine r_iload_n C dX12_takeNumber_59 rfl rfl ?_
            refine r_i2l C dX12_takeNumber_60 ?_
            refine r_lcmp C dX12_takeNumber_61 ?_
            refine q_if_le (tgt := 70) C dX12_takeNumber_62 (by decide) (fun _ => ?_) (fun _ => ?_)
            · refine r_less [true, false, false] rfl ?_
              exact hJq8 M
            · refine r_aload_n C dX12_takeNumber_65 rfl rfl ?_
              refine r_iconst C dX12_takeNumber_66 (by decide) ?_
              refine q_callVv (av := [zi 4]) (rest := []) C (tX12_wrong 4 M) lkX12_66 kd_132 rfl rfl rfl (Nat.le_of_ble_eq_true rfl) ⟨by decide, by decide⟩ dX12_takeNumber_67 (fun q6 _ => ?_)
              refine r_less [true, false, false] rfl ?_
              exact hJq8 q6
      · refine r_aload_n C dX12_takeNumber_20 rfl rfl ?_
        refine r_iconst C dX12_takeNumber_21 (by decide) ?_
        refine q_callVv (av := [zi 1]) (rest := []) C (tX12_wrong 1 M) lkX12_66 kd_132 rfl rfl rfl (Nat.le_of_ble_eq_true rfl) ⟨by decide, by decide⟩ dX12_takeNumber_22 (fun q7 _ => ?_)
        refine r_goto (tgt := 70) C dX12_takeNumber_25 (by decide) ?_
        refine r_less [true, false, false] rfl ?_
        exact hJq8 q7
  · intro hJq2
    refine q_if_ne (tgt := 28) C dX12_takeNumber_4 (by decide) (fun _ => ?_) (fun _ => ?_)
    · exact hJq2 true
    · refine r_aload_n C dX12_takeNumber_7 rfl rfl ?_
      refine r_getp C clX12 kd_132 (k := 4) (by decide) flX12_43 dX12_takeNumber_8 pt_132_4 ?_
      refine r_aload_n C dX12_takeNumber_11 rfl rfl ?_
      refine q_geti C clX12 kd_132 (k := 7) (by decide) flX12_54 dX12_takeNumber_12 (kz := 7) rfl (by decide) ?_
      refine r_iaload C dX12_takeNumber_15 (fun v1 _ => ?_)
      refine r_iconst C dX12_takeNumber_16 (by decide) ?_
      refine q_icmp_eq (tgt := 28) C dX12_takeNumber_17 (by decide) (fun _ => ?_) (fun _ => ?_)
      · exact hJq2 true
      · exact hJq2 false
set_option maxRecDepth 100000 in
set_option maxHeartbeats 4000000 in
theorem tX12_within (p1 : Int) (p2 : Int) (p3 : Int) (M : Mem) : Cn yX12_within cX12_within 3 (some .boolean) 0 0 [zi p1, zi p2, zi p3] M ((fX12_within p1 p2 p3 M).map oI) := by
  refine Cn_mk (own := RX12) rfl (by decide) (Nat.le_of_ble_eq_true rfl) [some (zi p1), some (zi p2), some (zi p3)] rfl (fun G C hn => ?_)
  unfold fX12_within
  refine r_iload_n C dX12_within_0 rfl rfl ?_
  refine r_iload_n C dX12_within_1 rfl rfl ?_
  refine r_join (γ := Int) (pcJ := fun _ => 15) (al' := fun q1 => [none, none, none]) (st' := fun q1 => [zi q1]) (M' := fun q1 => M) ?_ ?_
  · intro q1
    exact r_zreturn C dX12_within_15 rfl
  · intro hJq1
    refine q_icmp_lt (tgt := 14) C dX12_within_2 (by decide) (fun _ => ?_) (fun _ => ?_)
    · refine r_iconst C dX12_within_14 (by decide) ?_
      refine r_less [false, false, false] rfl ?_
      exact hJq1 0
    · refine r_iload_n C dX12_within_5 rfl rfl ?_
      refine r_iload_n C dX12_within_6 rfl rfl ?_
      refine q_icmp_gt (tgt := 14) C dX12_within_7 (by decide) (fun _ => ?_) (fun _ => ?_)
      · refine r_iconst C dX12_within_14 (by decide) ?_
        refine r_less [false, false, false] rfl ?_
        exact hJq1 0
      · refine r_iconst C dX12_within_10 (by decide) ?_
        refine r_goto (tgt := 15) C dX12_within_11 (by decide) ?_
        refine r_less [false, false, false] rfl ?_
        exact hJq1 1
