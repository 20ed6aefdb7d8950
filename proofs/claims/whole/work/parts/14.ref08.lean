set_option maxRecDepth 100000 in
set_option maxHeartbeats 4000000 in
theorem tX12_lives  (M : Mem) : Cn yX12_lives cX12_lives 4 none 4 92 [zr 132] M ((fX12_lives  M).map oU) := by
  refine Cn_mk (own := RX12) rfl (by decide) (Nat.le_of_ble_eq_true rfl) [some (zr 132), none, none, none] rfl (fun G C hn => ?_)
  unfold fX12_lives
  refine r_iconst C dX12_lives_0 (by decide) ?_
  refine r_istore_n (al' := [some (zr 132), some (zi 0), none, none]) C dX12_lives_1 rfl (by rw [hn]; decide) rfl ?_
  refine r_lp (S := Int × Mem) (R := Mem) (pcX := 28) (AL := fun s1 => [some (zr 132), some (zi s1.1), none, none]) (MM := fun s1 => s1.2) (AX := fun q4 => [some (zr 132), none, none, none]) (MX := fun q4 => q4) ?_ ?_ (0, M)
  · intro q4
    refine r_iconst C dX12_lives_28 (by decide) ?_
    refine r_istore_n (al' := [some (zr 132), some (zi 0), none, none]) C dX12_lives_29 rfl (by rw [hn]; decide) rfl ?_
    refine r_lp (S := Int × Mem) (R := Mem) (pcX := 141) (AL := fun s5 => [some (zr 132), some (zi s5.1), none, none]) (MM := fun s5 => s5.2) (AX := fun q22 => [some (zr 132), none, none, none]) (MX := fun q22 => q22) ?_ ?_ (0, q4)
    · intro q22
      refine r_aload_n C dX12_lives_141 rfl rfl ?_
      refine q_callVv (av := []) (rest := []) C (tX12_cuts  q22) lkX12_499 kd_132 rfl rfl rfl (Nat.le_of_ble_eq_true rfl) ⟨by decide, by decide⟩ dX12_lives_142 (fun q23 _ => ?_)
      exact r_return C dX12_lives_145 rfl
    · intro gs5 hCs5 hXs5 s5
      unfold fX12_lives_b2
      refine r_iload_n C dX12_lives_30 rfl rfl ?_
      refine r_aload_n C dX12_lives_31 rfl rfl ?_
      refine q_geti C clX12 kd_132 (k := 41) (by decide) flX12_489 dX12_lives_32 (kz := 41) rfl (by decide) ?_
      refine q_icmp_ge (tgt := 141) C dX12_lives_35 (by decide) (fun _ => ?_) (fun _ => ?_)
      · refine r_less [true, false, false, false] rfl ?_
        exact hXs5 s5.2
      · refine r_aload_n C dX12_lives_38 rfl rfl ?_
        refine r_getp C clX12 kd_132 (k := 40) (by decide) flX12_199 dX12_lives_39 pt_132_40 ?_
        refine r_iload_n C dX12_lives_42 rfl rfl ?_
        refine r_iaload C dX12_lives_43 (fun v6 _ => ?_)
        refine r_istore_n (al' := [some (zr 132), some (zi s5.1), some (zi v6), none]) C dX12_lives_44 rfl (by rw [hn]; decide) rfl ?_
        refine r_aload_n C dX12_lives_45 rfl rfl ?_
        refine r_getp C clX12 kd_132 (k := 43) (by decide) flX12_205 dX12_lives_46 pt_132_43 ?_
        refine r_iload_n C dX12_lives_49 rfl rfl ?_
        refine r_aload_n C dX12_lives_50 rfl rfl ?_
        refine q_getl C clX12 kd_132 (k := 39) (by decide) flX12_460 dX12_lives_51 (kz := 39) rfl rfl ?_
        refine r_iload_n C dX12_lives_54 rfl rfl ?_
        refine q_callSi (av := [zl (s5.2 132 39), zi v6]) (rest := [zi v6, zr 164]) C (tX12_has (s5.2 132 39) v6 s5.2) lkX12_449 rfl rfl (Nat.le_of_ble_eq_true rfl) ⟨by decide, by decide⟩ dX12_lives_55 (fun q7 _ => ?_)
        refine r_join (γ := Int) (pcJ := fun _ => 69) (al' := fun q8 => [some (zr 132), some (zi s5.1), some (zi v6), none]) (st' := fun q8 => [zi q8, zi v6, zr 164]) (M' := fun q8 => q7.2) ?_ ?_
        · intro q8
          refine r_iastore C dX12_lives_69 (fun M9 _ => ?_)
          refine r_iconst C dX12_lives_70 (by decide) ?_
          refine r_istore_n (al' := [some (zr 132), some (zi s5.1), some (zi v6), some (zi 0)]) C dX12_lives_71 rfl (by rw [hn]; decide) rfl ?_
          refine r_lp (S := Int × Mem) (R := Mem) (pcX := 135) (AL := fun s10 => [some (zr 132), some (zi s5.1), some (zi v6), some (zi s10.1)]) (MM := fun s10 => s10.2) (AX := fun q21 => [some (zr 132), some (zi s5.1), none, none]) (MX := fun q21 => q21) ?_ ?_ (0, M9)
          · intro q21
            refine r_iinc (al' := [some (zr 132), some (zi (w32 (s5.1 + 1))), none, none]) C dX12_lives_135 rfl (by rw [hn]; decide) rfl ?_
            refine r_goto (tgt := 30) C dX12_lives_138 (by decide) ?_
            exact hCs5 (w32 (s5.1 + 1), q21)
          · intro gs10 hCs10 hXs10 s10
            unfold fX12_lives_b3
            refine r_iload_n C dX12_lives_72 rfl rfl ?_
            refine r_aload_n C dX12_lives_73 rfl rfl ?_
            refine q_callVi (av := []) (rest := [zi s10.1]) C (tX12_values  s10.2) lkX12_352 kd_132 rfl rfl rfl (Nat.le_of_ble_eq_true rfl) ⟨by decide, by decide⟩ dX12_lives_74 (fun q11 _ => ?_)
            refine q_icmp_ge (tgt := 135) C dX12_lives_77 (by decide) (fun _ => ?_) (fun _ => ?_)
            · refine r_less [true, true, false, false] rfl ?_
              exact hXs10 q11.2
            · refine r_aload_n C dX12_lives_80 rfl rfl ?_
              refine r_getp C clX12 kd_132 (k := 43) (by decide) flX12_205 dX12_lives_81 pt_132_43 ?_
              refine r_iload_n C dX12_lives_84 rfl rfl ?_
              refine r_aload_n C dX12_lives_85 rfl rfl ?_
              refine r_getp C clX12 kd_132 (k := 36) (by decide) flX12_193 dX12_lives_86 pt_132_36 ?_
              refine r_iload_n C dX12_lives_89 rfl rfl ?_
              refine r_laload C dX12_lives_90 (fun v12 _ => ?_)
              refine r_iload_n C dX12_lives_91 rfl rfl ?_
              refine q_callSi (av := [zl v12, zi s10.1]) (rest := [zi v6, zr 164]) C (tX12_has v12 s10.1 q11.2) lkX12_449 rfl rfl (Nat.le_of_ble_eq_true rfl) ⟨by decide, by decide⟩ dX12_lives_92 (fun q13 _ => ?_)
              refine r_join (γ := Int) (pcJ := fun _ => 128) (al' := fun q19 => [some (zr 132), some (zi s5.1), some (zi v6), some (zi s10.1)]) (st' := fun q19 => [zi q19, zi v6, zr 164]) (M' := fun q19 => q13.2) ?_ ?_
              · intro q19
                refine r_iastore C dX12_lives_128 (fun M20 _ => ?_)
                refine r_iinc (al' := [some (zr 132), some (zi s5.1), some (zi v6), some (zi (w32 (s10.1 + 1)))]) C dX12_lives_129 rfl (by rw [hn]; decide) rfl ?_
                refine r_goto (tgt := 72) C dX12_lives_132 (by decide) ?_
                exact hCs10 (w32 (s10.1 + 1), M20)
              · intro hJq19
                refine q_if_eq (tgt := 122) C dX12_lives_95 (by decide) (fun _ => ?_) (fun _ => ?_)
                · refine r_aload_n C dX12_lives_122 rfl rfl ?_
                  refine r_getp C clX12 kd_132 (k := 43) (by decide) flX12_205 dX12_lives_123 pt_132_43 ?_
                  refine r_iload_n C dX12_lives_126 rfl rfl ?_
                  refine r_iaload C dX12_lives_127 (fun v14 _ => ?_)
                  exact hJq19 v14
                · refine r_aload_n C dX12_lives_98 rfl rfl ?_
                  refine r_getp C clX12 kd_132 (k := 42) (by decide) flX12_202 dX12_lives_99 pt_132_42 ?_
                  refine r_iload_n C dX12_lives_102 rfl rfl ?_
                  refine r_iaload C dX12_lives_103 (fun v15 _ => ?_)
                  refine r_aload_n C dX12_lives_104 rfl rfl ?_
                  refine r_getp C clX12 kd_132 (k := 43) (by decide) flX12_205 dX12_lives_105 pt_132_43 ?_
                  refine r_iload_n C dX12_lives_108 rfl rfl ?_
                  refine r_iaload C dX12_lives_109 (fun v16 _ => ?_)
                  refine q_icmp_le (tgt := 122) C dX12_lives_110 (by decide) (fun _ => ?_) (fun _ => ?_)
                  · refine r_aload_n C dX12_lives_122 rfl rfl ?_
                    refine r_getp C clX12 kd_132 (k := 43) (by decide) flX12_205 dX12_lives_123 pt_132_43 ?_
                    refine r_iload_n C dX12_lives_126 rfl rfl ?_
                    refine r_iaload C dX12_lives_127 (fun v17 _ => ?_)
                    exact hJq19 v17
                  · refine r_aload_n C dX12_lives_113 rfl rfl ?_
                    refine r_getp C clX12 kd_132 (k := 42) (by decide) flX12_202 dX12_lives_114 pt_132_42 ?_
                    refine r_iload_n C dX12_lives_117 rfl rfl ?_
                    refine r_iaload C dX12_lives_118 (fun v18 _ => ?_)
                    refine r_goto (tgt := 128) C dX12_lives_119 (by decide) ?_
                    exact hJq19 v18
        · intro hJq8
          refine q_if_eq (tgt := 68) C dX12_lives_58 (by decide) (fun _ => ?_) (fun _ => ?_)
          · refine r_iload_n C dX12_lives_68 rfl rfl ?_
            exact hJq8 s5.1
          · refine r_aload_n C dX12_lives_61 rfl rfl ?_
            refine q_geti C clX12 kd_132 (k := 41) (by decide) flX12_489 dX12_lives_62 (kz := 41) rfl (by decide) ?_
            refine r_goto (tgt := 69) C dX12_lives_65 (by decide) ?_
            exact hJq8 (q7.2 132 41)
  · intro gs1 hCs1 hXs1 s1
    unfold fX12_lives_b1
    refine r_iload_n C dX12_lives_2 rfl rfl ?_
    refine r_aload_n C dX12_lives_3 rfl rfl ?_
    refine q_geti C clX12 kd_132 (k := 41) (by decide) flX12_489 dX12_lives_4 (kz := 41) rfl (by decide) ?_
    refine q_icmp_ge (tgt := 28) C dX12_lives_7 (by decide) (fun _ => ?_) (fun _ => ?_)
    · refine r_less [true, false, false, false] rfl ?_
      exact hXs1 s1.2
    · refine r_aload_n C dX12_lives_10 rfl rfl ?_
      refine r_getp C clX12 kd_132 (k := 42) (by decide) flX12_202 dX12_lives_11 pt_132_42 ?_
      refine r_aload_n C dX12_lives_14 rfl rfl ?_
      refine r_getp C clX12 kd_132 (k := 40) (by decide) flX12_199 dX12_lives_15 pt_132_40 ?_
      refine r_iload_n C dX12_lives_18 rfl rfl ?_
      refine r_iaload C dX12_lives_19 (fun v2 _ => ?_)
      refine r_iload_n C dX12_lives_20 rfl rfl ?_
      refine r_iastore C dX12_lives_21 (fun M3 _ => ?_)
      refine r_iinc (al' := [some (zr 132), some (zi (w32 (s1.1 + 1))), none, none]) C dX12_lives_22 rfl (by rw [hn]; decide) rfl ?_
      refine r_goto (tgt := 2) C dX12_lives_25 (by decide) ?_
      exact hCs1 (w32 (s1.1 + 1), M3)
set_option maxRecDepth 100000 in
set_option maxHeartbeats 4000000 in
theorem tX12_orders (p1 : Int) (M : Mem) : Cn yX12_orders cX12_orders 7 none 5 115 [zr 132, zi p1] M ((fX12_orders p1 M).map oU) := by
  refine Cn_mk (own := RX12) rfl (by decide) (Nat.le_of_ble_eq_true rfl) [some (zr 132), some (zi p1), none, none, none, none, none] rfl (fun G C hn => ?_)
  unfold fX12_orders
  refine r_aload_n C dX12_orders_0 rfl rfl ?_
  refine r_iconst C dX12_orders_1 (by decide) ?_
  refine q_puti C clX12 kd_132 (k := 41) (by decide) flX12_489 rfl dX12_orders_2 rfl rfl (fun M1 => ?_)
  refine r_lconst C dX12_orders_5 rfl ?_
  refine r_lstore_n (al' := [some (zr 132), some (zi p1), some (zl 0), none, none, none, none]) C dX12_orders_6 rfl (by rw [hn]; decide) rfl ?_
  refine r_lp (S := Int × Mem) (R := Mem) (pcX := 146) (AL := fun s2 => [some (zr 132), some (zi p1), some (zl s2.1), none, none, none, none]) (MM := fun s2 => s2.2) (AX := fun q15 => [some (zr 132), none, none, none, none, none, none]) (MX := fun q15 => q15) ?_ ?_ (0, M1)
  · intro q15
    refine r_aload_n C dX12_orders_146 rfl rfl ?_
    refine q_callVv (av := []) (rest := []) C (tX12_lives  q15) lkX12_496 kd_132 rfl rfl rfl (Nat.le_of_ble_eq_true rfl) ⟨by decide, by decide⟩ dX12_orders_147 (fun q16 _ => ?_)
    exact r_return C dX12_orders_150 rfl
  · intro gs2 hCs2 hXs2 s2
    unfold fX12_orders_b1
    refine r_lload_n C dX12_orders_7 rfl rfl ?_
    refine r_aload_n C dX12_orders_8 rfl rfl ?_
    refine q_getl C clX12 kd_132 (k := 38) (by decide) flX12_464 dX12_orders_9 (kz := 38) rfl rfl ?_
    refine r_lcmp C dX12_orders_12 ?_
    refine q_if_eq (tgt := 146) C dX12_orders_13 (by decide) (fun _ => ?_) (fun _ => ?_)
    · refine r_less [true, false, false, false, false, false, false] rfl ?_
      exact hXs2 s2.2
    · refine r_iconst C dX12_orders_16 (by decide) ?_
      refine r_istore (al' := [some (zr 132), some (zi p1), some (zl s2.1), none, some (zi (-1)), none, none]) C dX12_orders_17 (by rw [hn]; decide) rfl ?_
      refine r_iconst C dX12_orders_19 (by decide) ?_
      refine r_istore (al' := [some (zr 132), some (zi p1), some (zl s2.1), none, some (zi (-1)), some (zi 0), none]) C dX12_orders_20 (by rw [hn]; decide) rfl ?_
      refine r_lp (S := Int × Int × Mem) (R := Int × Mem) (pcX := 115) (AL := fun s3 => [some (zr 132), some (zi p1), some (zl s2.1), none, some (zi s3.1), some (zi s3.2.1), none]) (MM := fun s3 => s3.2.2) (AX := fun q11 => [some (zr 132), some (zi p1), some (zl s2.1), none, some (zi q11.1), none, none]) (MX := fun q11 => q11.2) ?_ ?_ ((-1), 0, s2.2)
      · intro q11
        refine r_aload_n C dX12_orders_115 rfl rfl ?_
        refine r_getp C clX12 kd_132 (k := 40) (by decide) flX12_199 dX12_orders_116 pt_132_40 ?_
        refine r_aload_n C dX12_orders_119 rfl rfl ?_
        refine q_geti C clX12 kd_132 (k := 41) (by decide) flX12_489 dX12_orders_120 (kz := 41) rfl (by decide) ?_
        refine r_iload C dX12_orders_123 rfl ?_
        refine r_iastore C dX12_orders_125 (fun M12 _ => ?_)
        refine r_aload_n C dX12_orders_126 rfl rfl ?_
        refine r_dup C dX12_orders_127 rfl ?_
        refine q_geti C clX12 kd_132 (k := 41) (by decide) flX12_489 dX12_orders_128 (kz := 41) rfl (by decide) ?_
        refine r_iconst C dX12_orders_131 (by decide) ?_
        refine r_iadd C dX12_orders_132 ?_
        refine q_puti C clX12 kd_132 (k := 41) (by decide) flX12_489 rfl dX12_orders_133 rfl rfl (fun M13 => ?_)
        refine r_lload_n C dX12_orders_136 rfl rfl ?_
        refine r_lconst C dX12_orders_137 rfl ?_
        refine r_iload C dX12_orders_138 rfl ?_
        refine r_lshl C dX12_orders_140 ?_
        refine r_lor C dX12_orders_141 ?_
        refine r_letl (fun v14 _ => ?_)
        refine r_lstore_n (al' := [some (zr 132), some (zi p1), some (zl v14), none, some (zi q11.1), none, none]) C dX12_orders_142 rfl (by rw [hn]; decide) rfl ?_
        refine r_goto (tgt := 7) C dX12_orders_143 (by decide) ?_
        refine r_less [true, true, true, false, false, false, false] rfl ?_
        exact hCs2 (v14, M13)
      · intro gs3 hCs3 hXs3 s3
        unfold fX12_orders_b2
        refine r_iload C dX12_orders_22 rfl ?_
        refine r_aload_n C dX12_orders_24 rfl rfl ?_
        refine q_callVi (av := []) (rest := [zi s3.2.1]) C (tX12_values  s3.2.2) lkX12_352 kd_132 rfl rfl rfl (Nat.le_of_ble_eq_true rfl) ⟨by decide, by decide⟩ dX12_orders_25 (fun q4 _ => ?_)
        refine q_icmp_ge (tgt := 115) C dX12_orders_28 (by decide) (fun _ => ?_) (fun _ => ?_)
        · refine r_less [true, true, true, false, true, false, false] rfl ?_
          exact hXs3 (s3.1, q4.2)
        · refine r_aload_n C dX12_orders_31 rfl rfl ?_
          refine q_getl C clX12 kd_132 (k := 38) (by decide) flX12_464 dX12_orders_32 (kz := 38) rfl rfl ?_
          refine r_iload C dX12_orders_35 rfl ?_
          refine q_callSi (av := [zl (q4.2 132 38), zi s3.2.1]) (rest := []) C (tX12_has (q4.2 132 38) s3.2.1 q4.2) lkX12_449 rfl rfl (Nat.le_of_ble_eq_true rfl) ⟨by decide, by decide⟩ dX12_orders_37 (fun q5 _ => ?_)
          refine r_join (γ := Int × Mem) (pcJ := fun _ => 75) (al' := fun q8 => [some (zr 132), some (zi p1), some (zl s2.1), none, some (zi s3.1), some (zi s3.2.1), none]) (st' := fun q8 => [zi q8.1]) (M' := fun q8 => q8.2) ?_ ?_
          · intro q8
            refine r_istore (al' := [some (zr 132), some (zi p1), some (zl s2.1), none, some (zi s3.1), some (zi s3.2.1), some (zi q8.1)]) C dX12_orders_75 (by rw [hn]; decide) rfl ?_
            refine r_iload C dX12_orders_77 rfl ?_
            refine r_join (γ := Int × Mem) (pcJ := fun _ => 107) (al' := fun q10 => [some (zr 132), some (zi p1), some (zl s2.1), none, none, some (zi s3.2.1), none]) (st' := fun q10 => [zi q10.1]) (M' := fun q10 => q10.2) ?_ ?_
            · intro q10
              refine r_istore (al' := [some (zr 132), some (zi p1), some (zl s2.1), none, some (zi q10.1), some (zi s3.2.1), none]) C dX12_orders_107 (by rw [hn]; decide) rfl ?_
              refine r_iinc (al' := [some (zr 132), some (zi p1), some (zl s2.1), none, some (zi q10.1), some (zi (w32 (s3.2.1 + 1))), none]) C dX12_orders_109 rfl (by rw [hn]; decide) rfl ?_
              refine r_goto (tgt := 22) C dX12_orders_112 (by decide) ?_
              exact hCs3 (q10.1, w32 (s3.2.1 + 1), q10.2)
            · intro hJq10
              refine q_if_eq (tgt := 105) C dX12_orders_79 (by decide) (fun _ => ?_) (fun _ => ?_)
              · refine r_iload C dX12_orders_105 rfl ?_
                refine r_less [true, true, true, false, false, true, false] rfl ?_
                exact hJq10 (s3.1, q8.2)
              · refine r_iload C dX12_orders_82 rfl ?_
                refine q_if_lt (tgt := 100) C dX12_orders_84 (by decide) (fun _ => ?_) (fun _ => ?_)
                · refine r_iload C dX12_orders_100 rfl ?_
                  refine r_goto (tgt := 107) C dX12_orders_102 (by decide) ?_
                  refine r_less [true, true, true, false, false, true, false] rfl ?_
                  exact hJq10 (s3.2.1, q8.2)
                · refine r_aload_n C dX12_orders_87 rfl rfl ?_
                  refine r_iload C dX12_orders_88 rfl ?_
                  refine r_iload C dX12_orders_90 rfl ?_
                  refine r_iload_n C dX12_orders_92 rfl rfl ?_
                  refine r_lload_n C dX12_orders_93 rfl rfl ?_
                  refine q_callVi (av := [zi s3.2.1, zi s3.1, zi p1, zl s2.1]) (rest := []) C (tX12_goesAhead s3.2.1 s3.1 p1 s2.1 q8.2) lkX12_492 kd_132 rfl rfl rfl (Nat.le_of_ble_eq_true rfl) ⟨by decide, by decide⟩ dX12_orders_94 (fun q9 _ => ?_)
                  refine q_if_eq (tgt := 105) C dX12_orders_97 (by decide) (fun _ => ?_) (fun _ => ?_)
                  · refine r_iload C dX12_orders_105 rfl ?_
                    refine r_less [true, true, true, false, false, true, false] rfl ?_
                    exact hJq10 (s3.1, q9.2)
                  · refine r_iload C dX12_orders_100 rfl ?_
                    refine r_goto (tgt := 107) C dX12_orders_102 (by decide) ?_
                    refine r_less [true, true, true, false, false, true, false] rfl ?_
                    exact hJq10 (s3.2.1, q9.2)
          · intro hJq8
            refine q_if_eq (tgt := 74) C dX12_orders_40 (by decide) (fun _ => ?_) (fun _ => ?_)
            · refine r_iconst C dX12_orders_74 (by decide) ?_
              exact hJq8 (0, q5.2)
            · refine r_lload_n C dX12_orders_43 rfl rfl ?_
              refine r_iload C dX12_orders_44 rfl ?_
              refine q_callSi (av := [zl s2.1, zi s3.2.1]) (rest := []) C (tX12_has s2.1 s3.2.1 q5.2) lkX12_449 rfl rfl (Nat.le_of_ble_eq_true rfl) ⟨by decide, by decide⟩ dX12_orders_46 (fun q6 _ => ?_)
              refine q_if_ne (tgt := 74) C dX12_orders_49 (by decide) (fun _ => ?_) (fun _ => ?_)
              · refine r_iconst C dX12_orders_74 (by decide) ?_
                exact hJq8 (0, q6.2)
              · refine r_aload_n C dX12_orders_52 rfl rfl ?_
                refine r_getp C clX12 kd_132 (k := 35) (by decide) flX12_190 dX12_orders_53 pt_132_35 ?_
                refine r_iload C dX12_orders_56 rfl ?_
                refine r_laload C dX12_orders_58 (fun v7 _ => ?_)
                refine r_lload_n C dX12_orders_59 rfl rfl ?_
                refine r_ldc2 C klX12_483 rfl dX12_orders_60 ?_
                refine r_lxor C dX12_orders_63 ?_
                refine r_land C dX12_orders_64 ?_
                refine r_lconst C dX12_orders_65 rfl ?_
                refine r_lcmp C dX12_orders_66 ?_
                refine q_if_ne (tgt := 74) C dX12_orders_67 (by decide) (fun _ => ?_) (fun _ => ?_)
                · refine r_iconst C dX12_orders_74 (by decide) ?_
                  exact hJq8 (0, q6.2)
                · refine r_iconst C dX12_orders_70 (by decide) ?_
                  refine r_goto (tgt := 75) C dX12_orders_71 (by decide) ?_
                  exact hJq8 (1, q6.2)
set_option maxRecDepth 100000 in
set_option maxHeartbeats 4000000 in
theorem tX12_fileOf (p1 : Int) (M : Mem) : Cn yX12_fileOf cX12_fileOf 2 (some .int) 0 0 [zr 132, zi p1] M ((fX12_fileOf p1 M).map oI) := by
  refine Cn_mk (own := RX12) rfl (by decide) (Nat.le_of_ble_eq_true rfl) [some (zr 132), some (zi p1)] rfl (fun G C hn => ?_)
  unfold fX12_fileOf
  refine r_aload_n C dX12_fileOf_0 rfl rfl ?_
  refine r_getp C clX12 kd_132 (k := 32) (by decide) flX12_181 dX12_fileOf_1 pt_132_32 ?_
  refine r_iload_n C dX12_fileOf_4 rfl rfl ?_
  refine r_zaload C dX12_fileOf_5 (fun v1 _ => ?_)
  refine r_join (γ := Int) (pcJ := fun _ => 14) (al' := fun q2 => [none, none]) (st' := fun q2 => [zi q2]) (M' := fun q2 => M) ?_ ?_
  · intro q2
    exact r_ireturn C dX12_fileOf_14 rfl
  · intro hJq2
    refine q_if_eq (tgt := 13) C dX12_fileOf_6 (by decide) (fun _ => ?_) (fun _ => ?_)
    · refine r_iconst C dX12_fileOf_13 (by decide) ?_
      refine r_less [false, false] rfl ?_
      exact hJq2 1
    · refine r_iconst C dX12_fileOf_9 (by decide) ?_
      refine r_goto (tgt := 14) C dX12_fileOf_10 (by decide) ?_
      refine r_less [false, false] rfl ?_
      exact hJq2 0
set_option maxRecDepth 100000 in
set_option maxHeartbeats 4000000 in
theorem tX12_livesAt (p1 : Int) (p2 : Int) (M : Mem) : Cn yX12_livesAt cX12_livesAt 6 (some .int) 2 42 [zr 132, zi p1, zi p2] M ((fX12_livesAt p1 p2 M).map oI) := by
  refine Cn_mk (own := RX12) rfl (by decide) (Nat.le_of_ble_eq_true rfl) [some (zr 132), some (zi p1), some (zi p2), none, none, none] rfl (fun G C hn => ?_)
  unfold fX12_livesAt
  refine r_iconst C dX12_livesAt_0 (by decide) ?_
  refine r_istore_n (al' := [some (zr 132), some (zi p1), some (zi p2), some (zi 0), none, none]) C dX12_livesAt_1 rfl (by rw [hn]; decide) rfl ?_
  refine r_iconst C dX12_livesAt_2 (by decide) ?_
  refine r_istore (al' := [some (zr 132), some (zi p1), some (zi p2), some (zi 0), some (zi 0), none]) C dX12_livesAt_3 (by rw [hn]; decide) rfl ?_
  refine r_lp (S := Int × Int × Mem) (R := Int × Mem) (pcX := 65) (AL := fun s1 => [some (zr 132), some (zi p1), some (zi p2), some (zi s1.1), some (zi s1.2.1), none]) (MM := fun s1 => s1.2.2) (AX := fun q9 => [none, none, none, some (zi q9.1), none, none]) (MX := fun q9 => q9.2) ?_ ?_ (0, 0, M)
  · intro q9
    refine r_iload_n C dX12_livesAt_65 rfl rfl ?_
    exact r_ireturn C dX12_livesAt_66 rfl
  · intro gs1 hCs1 hXs1 s1
    unfold fX12_livesAt_b1
    refine r_iload C dX12_livesAt_5 rfl ?_
    refine r_iload_n C dX12_livesAt_7 rfl rfl ?_
    refine q_icmp_gt (tgt := 65) C dX12_livesAt_8 (by decide) (fun _ => ?_) (fun _ => ?_)
    · refine r_less [false, false, false, true, false, false] rfl ?_
      exact hXs1 (s1.1, s1.2.2)
    · refine r_aload_n C dX12_livesAt_11 rfl rfl ?_
      refine r_getp C clX12 kd_132 (k := 40) (by decide) flX12_199 dX12_livesAt_12 pt_132_40 ?_
      refine r_iload C dX12_livesAt_15 rfl ?_
      refine r_iaload C dX12_livesAt_17 (fun v2 _ => ?_)
      refine r_istore (al' := [some (zr 132), some (zi p1), some (zi p2), some (zi s1.1), some (zi s1.2.1), some (zi v2)]) C dX12_livesAt_18 (by rw [hn]; decide) rfl ?_
      refine r_iload_n C dX12_livesAt_20 rfl rfl ?_
      refine r_aload_n C dX12_livesAt_21 rfl rfl ?_
      refine r_getp C clX12 kd_132 (k := 43) (by decide) flX12_205 dX12_livesAt_22 pt_132_43 ?_
      refine r_iload C dX12_livesAt_25 rfl ?_
      refine r_iaload C dX12_livesAt_27 (fun v3 _ => ?_)
      refine r_iload_n C dX12_livesAt_28 rfl rfl ?_
      refine r_join (γ := Int × Mem) (pcJ := fun _ => 57) (al' := fun q7 => [some (zr 132), some (zi p1), some (zi p2), none, some (zi s1.2.1), none]) (st' := fun q7 => [zi q7.1, zi s1.1]) (M' := fun q7 => q7.2) ?_ ?_
      · intro q7
        refine r_iadd C dX12_livesAt_57 ?_
        refine r_let (fun v8 _ => ?_)
        refine r_istore_n (al' := [some (zr 132), some (zi p1), some (zi p2), some (zi v8), some (zi s1.2.1), none]) C dX12_livesAt_58 rfl (by rw [hn]; decide) rfl ?_
        refine r_iinc (al' := [some (zr 132), some (zi p1), some (zi p2), some (zi v8), some (zi (w32 (s1.2.1 + 1))), none]) C dX12_livesAt_59 rfl (by rw [hn]; decide) rfl ?_
        refine r_goto (tgt := 5) C dX12_livesAt_62 (by decide) ?_
        exact hCs1 (v8, w32 (s1.2.1 + 1), q7.2)
      · intro hJq7
        refine q_icmp_le (tgt := 56) C dX12_livesAt_29 (by decide) (fun _ => ?_) (fun _ => ?_)
        · refine r_iconst C dX12_livesAt_56 (by decide) ?_
          refine r_less [true, true, true, false, true, false] rfl ?_
          exact hJq7 (0, s1.2.2)
        · refine r_iload_n C dX12_livesAt_32 rfl rfl ?_
          refine r_iconst C dX12_livesAt_33 (by decide) ?_
          refine q_icmp_eq (tgt := 47) C dX12_livesAt_34 (by decide) (fun _ => ?_) (fun _ => ?_)
          · refine r_aload_n C dX12_livesAt_47 rfl rfl ?_
            refine r_iload C dX12_livesAt_48 rfl ?_
            refine q_callVi (av := [zi v2]) (rest := [zi s1.1]) C (tX12_widthOf v2 s1.2.2) lkX12_473 kd_132 rfl rfl rfl (Nat.le_of_ble_eq_true rfl) ⟨by decide, by decide⟩ dX12_livesAt_50 (fun q4 _ => ?_)
            refine r_goto (tgt := 57) C dX12_livesAt_53 (by decide) ?_
            refine r_less [true, true, true, false, true, false] rfl ?_
            exact hJq7 (q4.1, q4.2)
          · refine r_aload_n C dX12_livesAt_37 rfl rfl ?_
            refine r_iload C dX12_livesAt_38 rfl ?_
            refine q_callVi (av := [zi v2]) (rest := [zi s1.1]) C (tX12_fileOf v2 s1.2.2) lkX12_502 kd_132 rfl rfl rfl (Nat.le_of_ble_eq_true rfl) ⟨by decide, by decide⟩ dX12_livesAt_40 (fun q5 _ => ?_)
            refine r_iload_n C dX12_livesAt_43 rfl rfl ?_
            refine q_icmp_ne (tgt := 56) C dX12_livesAt_44 (by decide) (fun _ => ?_) (fun _ => ?_)
            · refine r_iconst C dX12_livesAt_56 (by decide) ?_
              refine r_less [true, true, true, false, true, false] rfl ?_
              exact hJq7 (0, q5.2)
            · refine r_aload_n C dX12_livesAt_47 rfl rfl ?_
              refine r_iload C dX12_livesAt_48 rfl ?_
              refine q_callVi (av := [zi v2]) (rest := [zi s1.1]) C (tX12_widthOf v2 q5.2) lkX12_473 kd_132 rfl rfl rfl (Nat.le_of_ble_eq_true rfl) ⟨by decide, by decide⟩ dX12_livesAt_50 (fun q6 _ => ?_)
              refine r_goto (tgt := 57) C dX12_livesAt_53 (by decide) ?_
              refine r_less [true, true, true, false, true, false] rfl ?_
              exact hJq7 (q6.1, q6.2)
set_option maxRecDepth 100000 in
set_option maxHeartbeats 4000000 in
theorem tX12_most (p1 : Int) (M : Mem) : Cn yX12_most cX12_most 4 (some .int) 3 67 [zr 132, zi p1] M ((fX12_most p1 M).map oI) := by
  refine Cn_mk (own := RX12) rfl (by decide) (Nat.le_of_ble_eq_true rfl) [some (zr 132), some (zi p1), none, none] rfl (fun G C hn => ?_)
  unfold fX12_most
  refine r_iconst C dX12_most_0 (by decide) ?_
  refine r_istore_n (al' := [some (zr 132), some (zi p1), some (zi 0), none]) C dX12_most_1 rfl (by rw [hn]; decide) rfl ?_
  refine r_iconst C dX12_most_2 (by decide) ?_
  refine r_istore_n (al' := [some (zr 132), some (zi p1), some (zi 0), some (zi 0)]) C dX12_most_3 rfl (by rw [hn]; decide) rfl ?_
  refine r_lp (S := Int × Int × Mem) (R := Int × Mem) (pcX := 29) (AL := fun s1 => [some (zr 132), some (zi p1), some (zi s1.1), some (zi s1.2.1)]) (MM := fun s1 => s1.2.2) (AX := fun q4 => [none, none, some (zi q4.1), none]) (MX := fun q4 => q4.2) ?_ ?_ (0, 0, M)
  · intro q4
    refine r_iload_n C dX12_most_29 rfl rfl ?_
    exact r_ireturn C dX12_most_30 rfl
  · intro gs1 hCs1 hXs1 s1
    unfold fX12_most_b1
    refine r_iload_n C dX12_most_4 rfl rfl ?_
    refine r_aload_n C dX12_most_5 rfl rfl ?_
    refine q_geti C clX12 kd_132 (k := 41) (by decide) flX12_489 dX12_most_6 (kz := 41) rfl (by decide) ?_
    refine q_icmp_ge (tgt := 29) C dX12_most_9 (by decide) (fun _ => ?_) (fun _ => ?_)
    · refine r_less [false, false, true, false] rfl ?_
      exact hXs1 (s1.1, s1.2.2)
    · refine r_iload_n C dX12_most_12 rfl rfl ?_
      refine r_aload_n C dX12_most_13 rfl rfl ?_
      refine r_iload_n C dX12_most_14 rfl rfl ?_
      refine r_iload_n C dX12_most_15 rfl rfl ?_
      refine q_callVi (av := [zi s1.2.1, zi p1]) (rest := [zi s1.1]) C (tX12_livesAt s1.2.1 p1 s1.2.2) lkX12_505 kd_132 rfl rfl rfl (Nat.le_of_ble_eq_true rfl) ⟨by decide, by decide⟩ dX12_most_16 (fun q2 _ => ?_)
      refine q_callSi (av := [zi s1.1, zi q2.1]) (rest := []) C (tX12_greater s1.1 q2.1 q2.2) lkX12_385 rfl rfl (Nat.le_of_ble_eq_true rfl) ⟨by decide, by decide⟩ dX12_most_19 (fun q3 _ => ?_)
      refine r_istore_n (al' := [some (zr 132), some (zi p1), some (zi q3.1), some (zi s1.2.1)]) C dX12_most_22 rfl (by rw [hn]; decide) rfl ?_
      refine r_iinc (al' := [some (zr 132), some (zi p1), some (zi q3.1), some (zi (w32 (s1.2.1 + 1)))]) C dX12_most_23 rfl (by rw [hn]; decide) rfl ?_
      refine r_goto (tgt := 4) C dX12_most_26 (by decide) ?_
      exact hCs1 (q3.1, w32 (s1.2.1 + 1), q3.2)
set_option maxRecDepth 100000 in
set_option maxHeartbeats 4000000 in
theorem tX12_isFree (p1 : Int) (p2 : Int) (p3 : Int) (M : Mem) : Cn yX12_isFree cX12_isFree 4 (some .boolean) 0 0 [zr 132, zi p1, zi p2, zi p3] M ((fX12_isFree p1 p2 p3 M).map oI) := by
  refine Cn_mk (own := RX12) rfl (by decide) (Nat.le_of_ble_eq_true rfl) [some (zr 132), some (zi p1), some (zi p2), some (zi p3)] rfl (fun G C hn => ?_)
  unfold fX12_isFree
  refine r_aload_n C dX12_isFree_0 rfl rfl ?_
  refine r_getp C clX12 kd_132 (k := 47) (by decide) flX12_217 dX12_isFree_1 pt_132_47 ?_
  refine r_sipush C dX12_isFree_4 (by decide) ?_
  refine r_iload_n C dX12_isFree_7 rfl rfl ?_
  refine r_imul C dX12_isFree_8 ?_
  refine r_iload_n C dX12_isFree_9 rfl rfl ?_
  refine r_iadd C dX12_isFree_10 ?_
  refine r_iaload C dX12_isFree_11 (fun v1 _ => ?_)
  refine r_iload_n C dX12_isFree_12 rfl rfl ?_
  refine r_join (γ := Int) (pcJ := fun _ => 21) (al' := fun q2 => [none, none, none, none]) (st' := fun q2 => [zi q2]) (M' := fun q2 => M) ?_ ?_
  · intro q2
    exact r_zreturn C dX12_isFree_21 rfl
  · intro hJq2
    refine q_icmp_gt (tgt := 20) C dX12_isFree_13 (by decide) (fun _ => ?_) (fun _ => ?_)
    · refine r_iconst C dX12_isFree_20 (by decide) ?_
      refine r_less [false, false, false, false] rfl ?_
      exact hJq2 0
    · refine r_iconst C dX12_isFree_16 (by decide) ?_
      refine r_goto (tgt := 21) C dX12_isFree_17 (by decide) ?_
      refine r_less [false, false, false, false] rfl ?_
      exact hJq2 1
set_option maxRecDepth 100000 in
set_option maxHeartbeats 4000000 in
theorem tX12_registers  (M : Mem) : Cn yX12_registers cX12_registers 7 none 2 42 [zr 132] M ((fX12_registers  M).map oU) := by
  refine Cn_mk (own := RX12) rfl (by decide) (Nat.le_of_ble_eq_true rfl) [some (zr 132), none, none, none, none, none, none] rfl (fun G C hn => ?_)
  unfold fX12_registers
  refine r_iconst C dX12_registers_0 (by decide) ?_
  refine r_istore_n (al' := [some (zr 132), some (zi 0), none, none, none, none, none]) C dX12_registers_1 rfl (by rw [hn]; decide) rfl ?_
  refine r_lp (S := Int × Mem) (R := Mem) (pcX := 22) (AL := fun s1 => [some (zr 132), some (zi s1.1), none, none, none, none, none]) (MM := fun s1 => s1.2) (AX := fun q3 => [some (zr 132), none, none, none, none, none, none]) (MX := fun q3 => q3) ?_ ?_ (0, M)
  · intro q3
    refine r_aload_n C dX12_registers_22 rfl rfl ?_
    refine r_getp C clX12 kd_132 (k := 46) (by decide) flX12_214 dX12_registers_23 pt_132_46 ?_
    refine r_iconst C dX12_registers_26 (by decide) ?_
    refine r_iconst C dX12_registers_27 (by decide) ?_
    refine r_iastore C dX12_registers_28 (fun M4 _ => ?_)
    refine r_aload_n C dX12_registers_29 rfl rfl ?_
    refine r_getp C clX12 kd_132 (k := 46) (by decide) flX12_214 dX12_registers_30 pt_132_46 ?_
    refine r_iconst C dX12_registers_33 (by decide) ?_
    refine r_iconst C dX12_registers_34 (by decide) ?_
    refine r_iastore C dX12_registers_35 (fun M5 _ => ?_)
    refine r_iconst C dX12_registers_36 (by decide) ?_
    refine r_istore_n (al' := [some (zr 132), some (zi 0), none, none, none, none, none]) C dX12_registers_37 rfl (by rw [hn]; decide) rfl ?_
    refine r_lp (S := Int × Mem) (R := Mem) (pcX := 181) (AL := fun s6 => [some (zr 132), some (zi s6.1), none, none, none, none, none]) (MM := fun s6 => s6.2) (AX := fun q24 => [none, none, none, none, none, none, none]) (MX := fun q24 => q24) ?_ ?_ (0, M5)
    · intro q24
      exact r_return C dX12_registers_181 rfl
    · intro gs6 hCs6 hXs6 s6
      unfold fX12_registers_b2
      refine r_iload_n C dX12_registers_38 rfl rfl ?_
      refine r_aload_n C dX12_registers_39 rfl rfl ?_
      refine q_geti C clX12 kd_132 (k := 41) (by decide) flX12_489 dX12_registers_40 (kz := 41) rfl (by decide) ?_
      refine q_icmp_ge (tgt := 181) C dX12_registers_43 (by decide) (fun _ => ?_) (fun _ => ?_)
      · refine r_less [false, false, false, false, false, false, false] rfl ?_
        exact hXs6 s6.2
      · refine r_aload_n C dX12_registers_46 rfl rfl ?_
        refine r_getp C clX12 kd_132 (k := 40) (by decide) flX12_199 dX12_registers_47 pt_132_40 ?_
        refine r_iload_n C dX12_registers_50 rfl rfl ?_
        refine r_iaload C dX12_registers_51 (fun v7 _ => ?_)
        refine r_istore_n (al' := [some (zr 132), some (zi s6.1), some (zi v7), none, none, none, none]) C dX12_registers_52 rfl (by rw [hn]; decide) rfl ?_
        refine r_aload_n C dX12_registers_53 rfl rfl ?_
        refine r_iload_n C dX12_registers_54 rfl rfl ?_
        refine q_callVi (av := [zi v7]) (rest := []) C (tX12_fileOf v7 s6.2) lkX12_502 kd_132 rfl rfl rfl (Nat.le_of_ble_eq_true rfl) ⟨by decide, by decide⟩ dX12_registers_55 (fun q8 _ => ?_)
        refine r_istore_n (al' := [some (zr 132), some (zi s6.1), some (zi v7), some (zi q8.1), none, none, none]) C dX12_registers_58 rfl (by rw [hn]; decide) rfl ?_
        refine r_aload_n C dX12_registers_59 rfl rfl ?_
        refine r_iload_n C dX12_registers_60 rfl rfl ?_
        refine q_callVi (av := [zi v7]) (rest := []) C (tX12_widthOf v7 q8.2) lkX12_473 kd_132 rfl rfl rfl (Nat.le_of_ble_eq_true rfl) ⟨by decide, by decide⟩ dX12_registers_61 (fun q9 _ => ?_)
        refine r_istore (al' := [some (zr 132), some (zi s6.1), some (zi v7), some (zi q8.1), some (zi q9.1), none, none]) C dX12_registers_64 (by rw [hn]; decide) rfl ?_
        refine r_iconst C dX12_registers_66 (by decide) ?_
        refine r_istore (al' := [some (zr 132), some (zi s6.1), some (zi v7), some (zi q8.1), some (zi q9.1), some (zi 0), none]) C dX12_registers_67 (by rw [hn]; decide) rfl ?_
        refine r_lp (S := Int × Mem) (R := Int × Mem) (pcX := 109) (AL := fun s10 => [some (zr 132), some (zi s6.1), some (zi v7), some (zi q8.1), some (zi q9.1), some (zi s10.1), none]) (MM := fun s10 => s10.2) (AX := fun q15 => [some (zr 132), some (zi s6.1), some (zi v7), some (zi q8.1), some (zi q9.1), some (zi q15.1), none]) (MX := fun q15 => q15.2) ?_ ?_ (0, q9.2)
        · intro q15
          refine r_aload_n C dX12_registers_109 rfl rfl ?_
          refine r_getp C clX12 kd_132 (k := 44) (by decide) flX12_208 dX12_registers_110 pt_132_44 ?_
          refine r_iload_n C dX12_registers_113 rfl rfl ?_
          refine r_iload C dX12_registers_114 rfl ?_
          refine r_iastore C dX12_registers_116 (fun M16 _ => ?_)
          refine r_iconst C dX12_registers_117 (by decide) ?_
          refine r_istore (al' := [some (zr 132), some (zi s6.1), some (zi v7), some (zi q8.1), some (zi q9.1), some (zi q15.1), some (zi 0)]) C dX12_registers_118 (by rw [hn]; decide) rfl ?_
          refine r_lp (S := Int × Mem) (R := Mem) (pcX := 155) (AL := fun s17 => [some (zr 132), some (zi s6.1), some (zi v7), some (zi q8.1), some (zi q9.1), some (zi q15.1), some (zi s17.1)]) (MM := fun s17 => s17.2) (AX := fun q20 => [some (zr 132), some (zi s6.1), none, some (zi q8.1), some (zi q9.1), some (zi q15.1), none]) (MX := fun q20 => q20) ?_ ?_ (0, M16)
          · intro q20
            refine r_aload_n C dX12_registers_155 rfl rfl ?_
            refine r_getp C clX12 kd_132 (k := 46) (by decide) flX12_214 dX12_registers_156 pt_132_46 ?_
            refine r_iload_n C dX12_registers_159 rfl rfl ?_
            refine r_aload_n C dX12_registers_160 rfl rfl ?_
            refine r_getp C clX12 kd_132 (k := 46) (by decide) flX12_214 dX12_registers_161 pt_132_46 ?_
            refine r_iload_n C dX12_registers_164 rfl rfl ?_
            refine r_iaload C dX12_registers_165 (fun v21 _ => ?_)
            refine r_iload C dX12_registers_166 rfl ?_
            refine r_iload C dX12_registers_168 rfl ?_
            refine r_iadd C dX12_registers_170 ?_
            refine q_callSi (av := [zi v21, zi (w32 (q15.1 + q9.1))]) (rest := [zi q8.1, zr 167]) C (tX12_greater v21 (w32 (q15.1 + q9.1)) q20) lkX12_385 rfl rfl (Nat.le_of_ble_eq_true rfl) ⟨by decide, by decide⟩ dX12_registers_171 (fun q22 _ => ?_)
            refine r_iastore C dX12_registers_174 (fun M23 _ => ?_)
            refine r_iinc (al' := [some (zr 132), some (zi (w32 (s6.1 + 1))), none, some (zi q8.1), some (zi q9.1), some (zi q15.1), none]) C dX12_registers_175 rfl (by rw [hn]; decide) rfl ?_
            refine r_goto (tgt := 38) C dX12_registers_178 (by decide) ?_
            refine r_less [true, true, false, false, false, false, false] rfl ?_
            exact hCs6 (w32 (s6.1 + 1), M23)
          · intro gs17 hCs17 hXs17 s17
            unfold fX12_registers_b4
            refine r_iload C dX12_registers_120 rfl ?_
            refine r_iload C dX12_registers_122 rfl ?_
            refine q_icmp_ge (tgt := 155) C dX12_registers_124 (by decide) (fun _ => ?_) (fun _ => ?_)
            · refine r_less [true, true, false, true, true, true, false] rfl ?_
              exact hXs17 s17.2
            · refine r_aload_n C dX12_registers_127 rfl rfl ?_
              refine r_getp C clX12 kd_132 (k := 47) (by decide) flX12_217 dX12_registers_128 pt_132_47 ?_
              refine r_sipush C dX12_registers_131 (by decide) ?_
              refine r_iload_n C dX12_registers_134 rfl rfl ?_
              refine r_imul C dX12_registers_135 ?_
              refine r_iload C dX12_registers_136 rfl ?_
              refine r_iadd C dX12_registers_138 ?_
              refine r_iload C dX12_registers_139 rfl ?_
              refine r_iadd C dX12_registers_141 ?_
              refine r_aload_n C dX12_registers_142 rfl rfl ?_
              refine r_getp C clX12 kd_132 (k := 43) (by decide) flX12_205 dX12_registers_143 pt_132_43 ?_
              refine r_iload_n C dX12_registers_146 rfl rfl ?_
              refine r_iaload C dX12_registers_147 (fun v18 _ => ?_)
              refine r_iastore C dX12_registers_148 (fun M19 _ => ?_)
              refine r_iinc (al' := [some (zr 132), some (zi s6.1), some (zi v7), some (zi q8.1), some (zi q9.1), some (zi q15.1), some (zi (w32 (s17.1 + 1)))]) C dX12_registers_149 rfl (by rw [hn]; decide) rfl ?_
              refine r_goto (tgt := 120) C dX12_registers_152 (by decide) ?_
              exact hCs17 (w32 (s17.1 + 1), M19)
        · intro gs10 hCs10 hXs10 s10
          unfold fX12_registers_b3
          refine r_aload_n C dX12_registers_69 rfl rfl ?_
          refine r_iload_n C dX12_registers_70 rfl rfl ?_
          refine r_iload C dX12_registers_71 rfl ?_
          refine r_iload_n C dX12_registers_73 rfl rfl ?_
          refine q_callVi (av := [zi q8.1, zi s10.1, zi s6.1]) (rest := []) C (tX12_isFree q8.1 s10.1 s6.1 s10.2) lkX12_508 kd_132 rfl rfl rfl (Nat.le_of_ble_eq_true rfl) ⟨by decide, by decide⟩ dX12_registers_74 (fun q11 _ => ?_)
          refine q_if_eq (tgt := 99) C dX12_registers_77 (by decide) (fun _ => ?_) (fun _ => ?_)
          · refine r_iload C dX12_registers_99 rfl ?_
            refine r_iload C dX12_registers_101 rfl ?_
            refine r_iadd C dX12_registers_103 ?_
            refine r_let (fun v12 _ => ?_)
            refine r_istore (al' := [some (zr 132), some (zi s6.1), some (zi v7), some (zi q8.1), some (zi q9.1), some (zi v12), none]) C dX12_registers_104 (by rw [hn]; decide) rfl ?_
            refine r_goto (tgt := 69) C dX12_registers_106 (by decide) ?_
            exact hCs10 (v12, q11.2)
          · refine r_iload C dX12_registers_80 rfl ?_
            refine r_iconst C dX12_registers_82 (by decide) ?_
            refine q_icmp_ne (tgt := 109) C dX12_registers_83 (by decide) (fun _ => ?_) (fun _ => ?_)
            · exact hXs10 (s10.1, q11.2)
            · refine r_aload_n C dX12_registers_86 rfl rfl ?_
              refine r_iload_n C dX12_registers_87 rfl rfl ?_
              refine r_iload C dX12_registers_88 rfl ?_
              refine r_iconst C dX12_registers_90 (by decide) ?_
              refine r_iadd C dX12_registers_91 ?_
              refine r_iload_n C dX12_registers_92 rfl rfl ?_
              refine q_callVi (av := [zi q8.1, zi (w32 (s10.1 + 1)), zi s6.1]) (rest := []) C (tX12_isFree q8.1 (w32 (s10.1 + 1)) s6.1 q11.2) lkX12_508 kd_132 rfl rfl rfl (Nat.le_of_ble_eq_true rfl) ⟨by decide, by decide⟩ dX12_registers_93 (fun q13 _ => ?_)
              refine q_if_ne (tgt := 109) C dX12_registers_96 (by decide) (fun _ => ?_) (fun _ => ?_)
              · exact hXs10 (s10.1, q13.2)
              · refine r_iload C dX12_registers_99 rfl ?_
                refine r_iload C dX12_registers_101 rfl ?_
                refine r_iadd C dX12_registers_103 ?_
                refine r_let (fun v14 _ => ?_)
                refine r_istore (al' := [some (zr 132), some (zi s6.1), some (zi v7), some (zi q8.1), some (zi q9.1), some (zi v14), none]) C dX12_registers_104 (by rw [hn]; decide) rfl ?_
                refine r_goto (tgt := 69) C dX12_registers_106 (by decide) ?_
                exact hCs10 (v14, q13.2)
  · intro gs1 hCs1 hXs1 s1
    unfold fX12_registers_b1
    refine r_iload_n C dX12_registers_2 rfl rfl ?_
    refine r_sipush C dX12_registers_3 (by decide) ?_
    refine q_icmp_ge (tgt := 22) C dX12_registers_6 (by decide) (fun _ => ?_) (fun _ => ?_)
    · refine r_less [true, false, false, false, false, false, false] rfl ?_
      exact hXs1 s1.2
    · refine r_aload_n C dX12_registers_9 rfl rfl ?_
      refine r_getp C clX12 kd_132 (k := 47) (by decide) flX12_217 dX12_registers_10 pt_132_47 ?_
      refine r_iload_n C dX12_registers_13 rfl rfl ?_
      refine r_iconst C dX12_registers_14 (by decide) ?_
      refine r_iastore C dX12_registers_15 (fun M2 _ => ?_)
      refine r_iinc (al' := [some (zr 132), some (zi (w32 (s1.1 + 1))), none, none, none, none, none]) C dX12_registers_16 rfl (by rw [hn]; decide) rfl ?_
      refine r_goto (tgt := 2) C dX12_registers_19 (by decide) ?_
      exact hCs1 (w32 (s1.1 + 1), M2)
set_option maxRecDepth 100000 in
set_option maxHeartbeats 4000000 in
theorem tX12_plans  (M : Mem) : Cn yX12_plans cX12_plans 1 none 6 145 [zr 132] M ((fX12_plans  M).map oU) := by
  refine Cn_mk (own := RX12) rfl (by decide) (Nat.le_of_ble_eq_true rfl) [some (zr 132)] rfl (fun G C hn => ?_)
  unfold fX12_plans
  refine r_aload_n C dX12_plans_0 rfl rfl ?_
  refine q_callVv (av := []) (rest := []) C (tX12_all0  M) lkX12_470 kd_132 rfl rfl rfl (Nat.le_of_ble_eq_true rfl) ⟨by decide, by decide⟩ dX12_plans_1 (fun q1 _ => ?_)
  refine r_aload_n C dX12_plans_4 rfl rfl ?_
  refine r_aload_n C dX12_plans_5 rfl rfl ?_
  refine q_geti C clX12 kd_132 (k := 28) (by decide) flX12_365 dX12_plans_6 (kz := 28) rfl (by decide) ?_
  refine q_callVv (av := [zi (q1 132 28)]) (rest := []) C (tX12_orders (q1 132 28) q1) lkX12_520 kd_132 rfl rfl rfl (Nat.le_of_ble_eq_true rfl) ⟨by decide, by decide⟩ dX12_plans_9 (fun q2 _ => ?_)
  refine r_aload_n C dX12_plans_12 rfl rfl ?_
  refine q_callVv (av := []) (rest := []) C (tX12_registers  q2) lkX12_523 kd_132 rfl rfl rfl (Nat.le_of_ble_eq_true rfl) ⟨by decide, by decide⟩ dX12_plans_13 (fun q3 _ => ?_)
  exact r_return C dX12_plans_16 rfl
set_option maxRecDepth 100000 in
set_option maxHeartbeats 4000000 in
theorem tX12_order (p1 : Int) (M : Mem) : Cn yX12_order cX12_order 2 (some .int) 7 165 [zr 132, zi p1] M ((fX12_order p1 M).map oI) := by
  refine Cn_mk (own := RX12) rfl (by decide) (Nat.le_of_ble_eq_true rfl) [some (zr 132), some (zi p1)] rfl (fun G C hn => ?_)
  unfold fX12_order
  refine r_aload_n C dX12_order_0 rfl rfl ?_
  refine r_iconst C dX12_order_1 (by decide) ?_
  refine q_puti C clX12 kd_132 (k := 0) (by decide) flX12_1 rfl dX12_order_2 rfl rfl (fun M1 => ?_)
  refine r_aload_n C dX12_order_5 rfl rfl ?_
  refine q_callVv (av := []) (rest := []) C (tX12_plans  M1) lkX12_526 kd_132 rfl rfl rfl (Nat.le_of_ble_eq_true rfl) ⟨by decide, by decide⟩ dX12_order_6 (fun q2 _ => ?_)
  refine r_iload_n C dX12_order_9 rfl rfl ?_
  refine r_iconst C dX12_order_10 (by decide) ?_
  refine r_aload_n C dX12_order_11 rfl rfl ?_
  refine q_geti C clX12 kd_132 (k := 41) (by decide) flX12_489 dX12_order_12 (kz := 41) rfl (by decide) ?_
  refine r_iconst C dX12_order_15 (by decide) ?_
  refine r_isub C dX12_order_16 ?_
  refine q_callSi (av := [zi p1, zi 0, zi (w32 ((q2 132 41) - 1))]) (rest := []) C (tX12_within p1 0 (w32 ((q2 132 41) - 1)) q2) lkX12_355 rfl rfl (Nat.le_of_ble_eq_true rfl) ⟨by decide, by decide⟩ dX12_order_17 (fun q3 _ => ?_)
  refine r_join (γ := Int) (pcJ := fun _ => 33) (al' := fun q5 => [none, none]) (st' := fun q5 => [zi q5]) (M' := fun q5 => q3.2) ?_ ?_
  · intro q5
    exact r_ireturn C dX12_order_33 rfl
  · intro hJq5
    refine q_if_eq (tgt := 32) C dX12_order_20 (by decide) (fun _ => ?_) (fun _ => ?_)
    · refine r_iconst C dX12_order_32 (by decide) ?_
      refine r_less [false, false] rfl ?_
      exact hJq5 (-1)
    · refine r_aload_n C dX12_order_23 rfl rfl ?_
      refine r_getp C clX12 kd_132 (k := 40) (by decide) flX12_199 dX12_order_24 pt_132_40 ?_
      refine r_iload_n C dX12_order_27 rfl rfl ?_
      refine r_iaload C dX12_order_28 (fun v4 _ => ?_)
      refine r_goto (tgt := 33) C dX12_order_29 (by decide) ?_
      refine r_less [false, false] rfl ?_
      exact hJq5 v4
set_option maxRecDepth 100000 in
set_option maxHeartbeats 4000000 in
theorem tX12_place (p1 : Int) (p2 : Int) (M : Mem) : Cn yX12_place cX12_place 3 (some .int) 7 165 [zr 132, zi p1, zi p2] M ((fX12_place p1 p2 M).map oI) := by
  refine Cn_mk (own := RX12) rfl (by decide) (Nat.le_of_ble_eq_true rfl) [some (zr 132), some (zi p1), some (zi p2)] rfl (fun G C hn => ?_)
  unfold fX12_place
  refine r_aload_n C dX12_place_0 rfl rfl ?_
  refine r_iconst C dX12_place_1 (by decide) ?_
  refine q_puti C clX12 kd_132 (k := 0) (by decide) flX12_1 rfl dX12_place_2 rfl rfl (fun M1 => ?_)
  refine r_aload_n C dX12_place_5 rfl rfl ?_
  refine q_callVv (av := []) (rest := []) C (tX12_plans  M1) lkX12_526 kd_132 rfl rfl rfl (Nat.le_of_ble_eq_true rfl) ⟨by decide, by decide⟩ dX12_place_6 (fun q2 _ => ?_)
  refine r_aload_n C dX12_place_9 rfl rfl ?_
  refine r_iload_n C dX12_place_10 rfl rfl ?_
  refine q_callVi (av := [zi p1]) (rest := []) C (tX12_isNeeded p1 q2) lkX12_476 kd_132 rfl rfl rfl (Nat.le_of_ble_eq_true rfl) ⟨by decide, by decide⟩ dX12_place_11 (fun q3 _ => ?_)
  refine q_if_ne (tgt := 19) C dX12_place_14 (by decide) (fun _ => ?_) (fun _ => ?_)
  · refine r_iload_n C dX12_place_19 rfl rfl ?_
    refine r_ite (fun hx0 => ?_) (fun hx0 => ?_)
    · refine r_sw 60 ?_ (fun J => ?_)
      · refine r_aload_n C dX12_place_60 rfl rfl ?_
        refine r_getp C clX12 kd_132 (k := 42) (by decide) flX12_202 dX12_place_61 pt_132_42 ?_
        refine r_iload_n C dX12_place_64 rfl rfl ?_
        refine r_iaload C dX12_place_65 (fun v4 _ => ?_)
        exact r_ireturn C dX12_place_66 rfl
      · skip
        exact r_tabIn (n := 0) C dX12_place_20 hx0 (by decide) (by decide) rfl (by decide) J
    refine r_ite (fun hx1 => ?_) (fun hx1 => ?_)
    · refine r_sw 67 ?_ (fun J => ?_)
      · refine r_aload_n C dX12_place_67 rfl rfl ?_
        refine r_getp C clX12 kd_132 (k := 43) (by decide) flX12_205 dX12_place_68 pt_132_43 ?_
        refine r_iload_n C dX12_place_71 rfl rfl ?_
        refine r_iaload C dX12_place_72 (fun v5 _ => ?_)
        exact r_ireturn C dX12_place_73 rfl
      · skip
        exact r_tabIn (n := 1) C dX12_place_20 hx1 (by decide) (by decide) rfl (by decide) J
    refine r_ite (fun hx2 => ?_) (fun hx2 => ?_)
    · refine r_sw 74 ?_ (fun J => ?_)
      · refine r_aload_n C dX12_place_74 rfl rfl ?_
        refine r_getp C clX12 kd_132 (k := 44) (by decide) flX12_208 dX12_place_75 pt_132_44 ?_
        refine r_iload_n C dX12_place_78 rfl rfl ?_
        refine r_iaload C dX12_place_79 (fun v6 _ => ?_)
        exact r_ireturn C dX12_place_80 rfl
      · skip
        exact r_tabIn (n := 2) C dX12_place_20 hx2 (by decide) (by decide) rfl (by decide) J
    refine r_ite (fun hx3 => ?_) (fun hx3 => ?_)
    · refine r_sw 81 ?_ (fun J => ?_)
      · refine r_aload_n C dX12_place_81 rfl rfl ?_
        refine r_getp C clX12 kd_132 (k := 45) (by decide) flX12_211 dX12_place_82 pt_132_45 ?_
        refine r_iload_n C dX12_place_85 rfl rfl ?_
        refine r_iaload C dX12_place_86 (fun v7 _ => ?_)
        exact r_ireturn C dX12_place_87 rfl
      · skip
        exact r_tabIn (n := 3) C dX12_place_20 hx3 (by decide) (by decide) rfl (by decide) J
    refine r_ite (fun hx4 => ?_) (fun hx4 => ?_)
    · refine r_sw 88 ?_ (fun J => ?_)
      · refine r_aload_n C dX12_place_88 rfl rfl ?_
        refine r_iload_n C dX12_place_89 rfl rfl ?_
        refine r_iconst C dX12_place_90 (by decide) ?_
        refine q_callVj (av := [zi p1, zi 0]) (rest := []) C (tX12_farKin p1 0 q3.2) lkX12_479 kd_132 rfl rfl rfl (Nat.le_of_ble_eq_true rfl) ⟨by decide, by decide⟩ dX12_place_91 (fun q8 _ => ?_)
        refine q_callSi (av := [zl q8.1]) (rest := []) C (tX12_manyOf q8.1 q8.2) lkX12_529 rfl rfl (Nat.le_of_ble_eq_true rfl) ⟨by decide, by decide⟩ dX12_place_94 (fun q9 _ => ?_)
        exact r_ireturn C dX12_place_97 rfl
      · skip
        exact r_tabIn (n := 4) C dX12_place_20 hx4 (by decide) (by decide) rfl (by decide) J
    refine r_ite (fun hx5 => ?_) (fun hx5 => ?_)
    · refine r_sw 98 ?_ (fun J => ?_)
      · refine r_aload_n C dX12_place_98 rfl rfl ?_
        refine q_geti C clX12 kd_132 (k := 41) (by decide) flX12_489 dX12_place_99 (kz := 41) rfl (by decide) ?_
        refine r_iconst C dX12_place_102 (by decide) ?_
        refine r_isub C dX12_place_103 ?_
        refine r_aload_n C dX12_place_104 rfl rfl ?_
        refine r_iload_n C dX12_place_105 rfl rfl ?_
        refine r_iconst C dX12_place_106 (by decide) ?_
        refine q_callVj (av := [zi p1, zi 1]) (rest := [zi (w32 ((q3.2 132 41) - 1))]) C (tX12_farKin p1 1 q3.2) lkX12_479 kd_132 rfl rfl rfl (Nat.le_of_ble_eq_true rfl) ⟨by decide, by decide⟩ dX12_place_107 (fun q10 _ => ?_)
        refine q_callSi (av := [zl q10.1]) (rest := [zi (w32 ((q3.2 132 41) - 1))]) C (tX12_manyOf q10.1 q10.2) lkX12_529 rfl rfl (Nat.le_of_ble_eq_true rfl) ⟨by decide, by decide⟩ dX12_place_110 (fun q11 _ => ?_)
        refine r_isub C dX12_place_113 ?_
        exact r_ireturn C dX12_place_114 rfl
      · skip
        exact r_tabIn (n := 5) C dX12_place_20 hx5 (by decide) (by decide) rfl (by decide) J
    refine r_tabOut (tgt := 115) C dX12_place_20 (by omega) (by decide) ?_
    refine r_iconst C dX12_place_115 (by decide) ?_
    exact r_ireturn C dX12_place_116 rfl
  · refine r_iconst C dX12_place_17 (by decide) ?_
    exact r_ireturn C dX12_place_18 rfl
set_option maxRecDepth 100000 in
set_option maxHeartbeats 4000000 in
theorem tX12_pressure (p1 : Int) (M : Mem) : Cn yX12_pressure cX12_pressure 2 (some .int) 7 165 [zr 132, zi p1] M ((fX12_pressure p1 M).map oI) := by
  refine Cn_mk (own := RX12) rfl (by decide) (Nat.le_of_ble_eq_true rfl) [some (zr 132), some (zi p1)] rfl (fun G C hn => ?_)
  unfold fX12_pressure
  refine r_aload_n C dX12_pressure_0 rfl rfl ?_
  refine r_iconst C dX12_pressure_1 (by decide) ?_
  refine q_puti C clX12 kd_132 (k := 0) (by decide) flX12_1 rfl dX12_pressure_2 rfl rfl (fun M1 => ?_)
  refine r_aload_n C dX12_pressure_5 rfl rfl ?_
  refine q_callVv (av := []) (rest := []) C (tX12_plans  M1) lkX12_526 kd_132 rfl rfl rfl (Nat.le_of_ble_eq_true rfl) ⟨by decide, by decide⟩ dX12_pressure_6 (fun q2 _ => ?_)
  refine r_iload_n C dX12_pressure_9 rfl rfl ?_
  refine r_iconst C dX12_pressure_10 (by decide) ?_
  refine r_iconst C dX12_pressure_11 (by decide) ?_
  refine q_callSi (av := [zi p1, zi 0, zi 2]) (rest := []) C (tX12_within p1 0 2 q2) lkX12_355 rfl rfl (Nat.le_of_ble_eq_true rfl) ⟨by decide, by decide⟩ dX12_pressure_12 (fun q3 _ => ?_)
  refine r_join (γ := Int × Mem) (pcJ := fun _ => 27) (al' := fun q5 => [none, none]) (st' := fun q5 => [zi q5.1]) (M' := fun q5 => q5.2) ?_ ?_
  · intro q5
    exact r_ireturn C dX12_pressure_27 rfl
  · intro hJq5
    refine q_if_eq (tgt := 26) C dX12_pressure_15 (by decide) (fun _ => ?_) (fun _ => ?_)
    · refine r_iconst C dX12_pressure_26 (by decide) ?_
      refine r_less [false, false] rfl ?_
      exact hJq5 ((-1), q3.2)
    · refine r_aload_n C dX12_pressure_18 rfl rfl ?_
      refine r_iload_n C dX12_pressure_19 rfl rfl ?_
      refine q_callVi (av := [zi p1]) (rest := []) C (tX12_most p1 q3.2) lkX12_532 kd_132 rfl rfl rfl (Nat.le_of_ble_eq_true rfl) ⟨by decide, by decide⟩ dX12_pressure_20 (fun q4 _ => ?_)
      refine r_goto (tgt := 27) C dX12_pressure_23 (by decide) ?_
      refine r_less [false, false] rfl ?_
      exact hJq5 (q4.1, q4.2)
set_option maxRecDepth 100000 in
set_option maxHeartbeats 4000000 in
theorem tX12_at (p1 : Int) (p2 : Int) (M : Mem) : Cn yX12_at cX12_at 3 (some .int) 7 165 [zr 132, zi p1, zi p2] M ((fX12_at p1 p2 M).map oI) := by
  refine Cn_mk (own := RX12) rfl (by decide) (Nat.le_of_ble_eq_true rfl) [some (zr 132), some (zi p1), some (zi p2)] rfl (fun G C hn => ?_)
  unfold fX12_at
  refine r_aload_n C dX12_at_0 rfl rfl ?_
  refine r_iconst C dX12_at_1 (by decide) ?_
  refine q_puti C clX12 kd_132 (k := 0) (by decide) flX12_1 rfl dX12_at_2 rfl rfl (fun M1 => ?_)
  refine r_aload_n C dX12_at_5 rfl rfl ?_
  refine q_callVv (av := []) (rest := []) C (tX12_plans  M1) lkX12_526 kd_132 rfl rfl rfl (Nat.le_of_ble_eq_true rfl) ⟨by decide, by decide⟩ dX12_at_6 (fun q2 _ => ?_)
  refine r_iload_n C dX12_at_9 rfl rfl ?_
  refine r_iconst C dX12_at_10 (by decide) ?_
  refine r_iconst C dX12_at_11 (by decide) ?_
  refine q_callSi (av := [zi p2, zi 0, zi 2]) (rest := []) C (tX12_within p2 0 2 q2) lkX12_355 rfl rfl (Nat.le_of_ble_eq_true rfl) ⟨by decide, by decide⟩ dX12_at_12 (fun q3 _ => ?_)
  refine r_join (γ := Int × Mem) (pcJ := fun _ => 42) (al' := fun q6 => [none, none, none]) (st' := fun q6 => [zi q6.1]) (M' := fun q6 => q6.2) ?_ ?_
  · intro q6
    exact r_ireturn C dX12_at_42 rfl
  · intro hJq6
    refine q_if_eq (tgt := 41) C dX12_at_15 (by decide) (fun _ => ?_) (fun _ => ?_)
    · refine r_iconst C dX12_at_41 (by decide) ?_
      refine r_less [false, false, false] rfl ?_
      exact hJq6 ((-1), q3.2)
    · refine r_iload_n C dX12_at_18 rfl rfl ?_
      refine r_iconst C dX12_at_19 (by decide) ?_
      refine r_aload_n C dX12_at_20 rfl rfl ?_
      refine q_geti C clX12 kd_132 (k := 41) (by decide) flX12_489 dX12_at_21 (kz := 41) rfl (by decide) ?_
      refine r_iconst C dX12_at_24 (by decide) ?_
      refine r_isub C dX12_at_25 ?_
      refine q_callSi (av := [zi p1, zi 0, zi (w32 ((q3.2 132 41) - 1))]) (rest := []) C (tX12_within p1 0 (w32 ((q3.2 132 41) - 1)) q3.2) lkX12_355 rfl rfl (Nat.le_of_ble_eq_true rfl) ⟨by decide, by decide⟩ dX12_at_26 (fun q4 _ => ?_)
      refine q_if_eq (tgt := 41) C dX12_at_29 (by decide) (fun _ => ?_) (fun _ => ?_)
      · refine r_iconst C dX12_at_41 (by decide) ?_
        refine r_less [false, false, false] rfl ?_
        exact hJq6 ((-1), q4.2)
      · refine r_aload_n C dX12_at_32 rfl rfl ?_
        refine r_iload_n C dX12_at_33 rfl rfl ?_
        refine r_iload_n C dX12_at_34 rfl rfl ?_
        refine q_callVi (av := [zi p1, zi p2]) (rest := []) C (tX12_livesAt p1 p2 q4.2) lkX12_505 kd_132 rfl rfl rfl (Nat.le_of_ble_eq_true rfl) ⟨by decide, by decide⟩ dX12_at_35 (fun q5 _ => ?_)
        refine r_goto (tgt := 42) C dX12_at_38 (by decide) ?_
        refine r_less [false, false, false] rfl ?_
        exact hJq6 (q5.1, q5.2)
set_option maxRecDepth 100000 in
set_option maxHeartbeats 4000000 in
theorem tX12_used (p1 : Int) (M : Mem) : Cn yX12_used cX12_used 2 (some .int) 7 165 [zr 132, zi p1] M ((fX12_used p1 M).map oI) := by
  refine Cn_mk (own := RX12) rfl (by decide) (Nat.le_of_ble_eq_true rfl) [some (zr 132), some (zi p1)] rfl (fun G C hn => ?_)
  unfold fX12_used
  refine r_aload_n C dX12_used_0 rfl rfl ?_
  refine r_iconst C dX12_used_1 (by decide) ?_
  refine q_puti C clX12 kd_132 (k := 0) (by decide) flX12_1 rfl dX12_used_2 rfl rfl (fun M1 => ?_)
  refine r_aload_n C dX12_used_5 rfl rfl ?_
  refine q_callVv (av := []) (rest := []) C (tX12_plans  M1) lkX12_526 kd_132 rfl rfl rfl (Nat.le_of_ble_eq_true rfl) ⟨by decide, by decide⟩ dX12_used_6 (fun q2 _ => ?_)
  refine r_iload_n C dX12_used_9 rfl rfl ?_
  refine r_iconst C dX12_used_10 (by decide) ?_
  refine r_iconst C dX12_used_11 (by decide) ?_
  refine q_callSi (av := [zi p1, zi 0, zi 1]) (rest := []) C (tX12_within p1 0 1 q2) lkX12_355 rfl rfl (Nat.le_of_ble_eq_true rfl) ⟨by decide, by decide⟩ dX12_used_12 (fun q3 _ => ?_)
  refine r_join (γ := Int) (pcJ := fun _ => 28) (al' := fun q5 => [none, none]) (st' := fun q5 => [zi q5]) (M' := fun q5 => q3.2) ?_ ?_
  · intro q5
    exact r_ireturn C dX12_used_28 rfl
  · intro hJq5
    refine q_if_eq (tgt := 27) C dX12_used_15 (by decide) (fun _ => ?_) (fun _ => ?_)
    · refine r_iconst C dX12_used_27 (by decide) ?_
      refine r_less [false, false] rfl ?_
      exact hJq5 (-1)
    · refine r_aload_n C dX12_used_18 rfl rfl ?_
      refine r_getp C clX12 kd_132 (k := 46) (by decide) flX12_214 dX12_used_19 pt_132_46 ?_
      refine r_iload_n C dX12_used_22 rfl rfl ?_
      refine r_iaload C dX12_used_23 (fun v4 _ => ?_)
      refine r_goto (tgt := 28) C dX12_used_24 (by decide) ?_
      refine r_less [false, false] rfl ?_
      exact hJq5 v4
set_option maxRecDepth 100000 in
set_option maxHeartbeats 4000000 in
theorem tX12_clause (p1 : Int) (p2 : Int) (M : Mem) : Cn yX12_clause cX12_clause 3 (some .int) 7 165 [zr 132, zi p1, zi p2] M ((fX12_clause p1 p2 M).map oI) := by
  refine Cn_mk (own := RX12) rfl (by decide) (Nat.le_of_ble_eq_true rfl) [some (zr 132), some (zi p1), some (zi p2)] rfl (fun G C hn => ?_)
  unfold fX12_clause
  refine r_aload_n C dX12_clause_0 rfl rfl ?_
  refine r_iconst C dX12_clause_1 (by decide) ?_
  refine q_puti C clX12 kd_132 (k := 0) (by decide) flX12_1 rfl dX12_clause_2 rfl rfl (fun M1 => ?_)
  refine r_aload_n C dX12_clause_5 rfl rfl ?_
  refine q_callVv (av := []) (rest := []) C (tX12_plans  M1) lkX12_526 kd_132 rfl rfl rfl (Nat.le_of_ble_eq_true rfl) ⟨by decide, by decide⟩ dX12_clause_6 (fun q2 _ => ?_)
  refine r_iload_n C dX12_clause_9 rfl rfl ?_
  refine r_iconst C dX12_clause_10 (by decide) ?_
  refine r_aload_n C dX12_clause_11 rfl rfl ?_
  refine q_geti C clX12 kd_132 (k := 48) (by decide) flX12_511 dX12_clause_12 (kz := 48) rfl (by decide) ?_
  refine r_iconst C dX12_clause_15 (by decide) ?_
  refine r_isub C dX12_clause_16 ?_
  refine q_callSi (av := [zi p1, zi 0, zi (w32 ((q2 132 48) - 1))]) (rest := []) C (tX12_within p1 0 (w32 ((q2 132 48) - 1)) q2) lkX12_355 rfl rfl (Nat.le_of_ble_eq_true rfl) ⟨by decide, by decide⟩ dX12_clause_17 (fun q3 _ => ?_)
  refine r_join (γ := Int × Mem) (pcJ := fun _ => 46) (al' := fun q6 => [none, none, none]) (st' := fun q6 => [zi q6.1]) (M' := fun q6 => q6.2) ?_ ?_
  · intro q6
    exact r_ireturn C dX12_clause_46 rfl
  · intro hJq6
    refine q_if_eq (tgt := 45) C dX12_clause_20 (by decide) (fun _ => ?_) (fun _ => ?_)
    · refine r_iconst C dX12_clause_45 (by decide) ?_
      refine r_less [false, false, false] rfl ?_
      exact hJq6 ((-1), q3.2)
    · refine r_iload_n C dX12_clause_23 rfl rfl ?_
      refine r_iconst C dX12_clause_24 (by decide) ?_
      refine r_iconst C dX12_clause_25 (by decide) ?_
      refine q_callSi (av := [zi p2, zi 0, zi 3]) (rest := []) C (tX12_within p2 0 3 q3.2) lkX12_355 rfl rfl (Nat.le_of_ble_eq_true rfl) ⟨by decide, by decide⟩ dX12_clause_26 (fun q4 _ => ?_)
      refine q_if_eq (tgt := 45) C dX12_clause_29 (by decide) (fun _ => ?_) (fun _ => ?_)
      · refine r_iconst C dX12_clause_45 (by decide) ?_
        refine r_less [false, false, false] rfl ?_
        exact hJq6 ((-1), q4.2)
      · refine r_aload_n C dX12_clause_32 rfl rfl ?_
        refine r_getp C clX12 kd_132 (k := 49) (by decide) flX12_220 dX12_clause_33 pt_132_49 ?_
        refine r_iconst C dX12_clause_36 (by decide) ?_
        refine r_iload_n C dX12_clause_37 rfl rfl ?_
        refine r_imul C dX12_clause_38 ?_
        refine r_iload_n C dX12_clause_39 rfl rfl ?_
        refine r_iadd C dX12_clause_40 ?_
        refine r_iaload C dX12_clause_41 (fun v5 _ => ?_)
        refine r_goto (tgt := 46) C dX12_clause_42 (by decide) ?_
        refine r_less [false, false, false] rfl ?_
        exact hJq6 (v5, q4.2)
set_option maxRecDepth 100000 in
set_option maxHeartbeats 4000000 in
theorem tX12_tell (p1 : Int) (M : Mem) : Cn yX12_tell cX12_tell 2 (some .int) 4 90 [zr 132, zi p1] M ((fX12_tell p1 M).map oI) := by
  refine Cn_mk (own := RX12) rfl (by decide) (Nat.le_of_ble_eq_true rfl) [some (zr 132), some (zi p1)] rfl (fun G C hn => ?_)
  unfold fX12_tell
  refine r_iload_n C dX12_tell_0 rfl rfl ?_
  refine r_join (γ := Int × Mem) (pcJ := fun _ => 44) (al' := fun q3 => [none, none]) (st' := fun q3 => [zi q3.1]) (M' := fun q3 => q3.2) ?_ ?_
  · intro q3
    exact r_ireturn C dX12_tell_44 rfl
  · intro hJq3
    refine q_if_ne (tgt := 12) C dX12_tell_1 (by decide) (fun _ => ?_) (fun _ => ?_)
    · refine r_iload_n C dX12_tell_12 rfl rfl ?_
      refine r_iconst C dX12_tell_13 (by decide) ?_
      refine q_icmp_ne (tgt := 24) C dX12_tell_14 (by decide) (fun _ => ?_) (fun _ => ?_)
      · refine r_iload_n C dX12_tell_24 rfl rfl ?_
        refine r_iconst C dX12_tell_25 (by decide) ?_
        refine q_icmp_ne (tgt := 36) C dX12_tell_26 (by decide) (fun _ => ?_) (fun _ => ?_)
        · refine r_aload_n C dX12_tell_36 rfl rfl ?_
          refine r_getp C clX12 kd_132 (k := 46) (by decide) flX12_214 dX12_tell_37 pt_132_46 ?_
          refine r_iload_n C dX12_tell_40 rfl rfl ?_
          refine r_iconst C dX12_tell_41 (by decide) ?_
          refine r_isub C dX12_tell_42 ?_
          refine r_iaload C dX12_tell_43 (fun v1 _ => ?_)
          refine r_less [false, false] rfl ?_
          exact hJq3 (v1, M)
        · refine r_aload_n C dX12_tell_29 rfl rfl ?_
          refine q_geti C clX12 kd_132 (k := 50) (by decide) flX12_514 dX12_tell_30 (kz := 50) rfl (by decide) ?_
          refine r_goto (tgt := 44) C dX12_tell_33 (by decide) ?_
          refine r_less [false, false] rfl ?_
          exact hJq3 (M 132 50, M)
      · refine r_aload_n C dX12_tell_17 rfl rfl ?_
        refine q_geti C clX12 kd_132 (k := 48) (by decide) flX12_511 dX12_tell_18 (kz := 48) rfl (by decide) ?_
        refine r_goto (tgt := 44) C dX12_tell_21 (by decide) ?_
        refine r_less [false, false] rfl ?_
        exact hJq3 (M 132 48, M)
    · refine r_aload_n C dX12_tell_4 rfl rfl ?_
      refine r_iconst C dX12_tell_5 (by decide) ?_
      refine q_callVi (av := [zi 2]) (rest := []) C (tX12_most 2 M) lkX12_532 kd_132 rfl rfl rfl (Nat.le_of_ble_eq_true rfl) ⟨by decide, by decide⟩ dX12_tell_6 (fun q2 _ => ?_)
      refine r_goto (tgt := 44) C dX12_tell_9 (by decide) ?_
      refine r_less [false, false] rfl ?_
      exact hJq3 (q2.1, q2.2)
set_option maxRecDepth 100000 in
set_option maxHeartbeats 4000000 in
theorem tX12_by (p1 : Int) (p2 : Int) (M : Mem) : Cn yX12_by cX12_by 3 (some .int) 6 145 [zr 132, zi p1, zi p2] M ((fX12_by p1 p2 M).map oI) := by
  refine Cn_mk (own := RX12) rfl (by decide) (Nat.le_of_ble_eq_true rfl) [some (zr 132), some (zi p1), some (zi p2)] rfl (fun G C hn => ?_)
  unfold fX12_by
  refine r_aload_n C dX12_by_0 rfl rfl ?_
  refine r_iconst C dX12_by_1 (by decide) ?_
  refine q_puti C clX12 kd_132 (k := 0) (by decide) flX12_1 rfl dX12_by_2 rfl rfl (fun M1 => ?_)
  refine r_iload_n C dX12_by_5 rfl rfl ?_
  refine r_iconst C dX12_by_6 (by decide) ?_
  refine r_iconst C dX12_by_7 (by decide) ?_
  refine q_callSi (av := [zi p1, zi 0, zi 3]) (rest := []) C (tX12_within p1 0 3 M1) lkX12_355 rfl rfl (Nat.le_of_ble_eq_true rfl) ⟨by decide, by decide⟩ dX12_by_8 (fun q2 _ => ?_)
  refine q_if_eq (tgt := 23) C dX12_by_11 (by decide) (fun _ => ?_) (fun _ => ?_)
  · refine r_iconst C dX12_by_23 (by decide) ?_
    exact r_ireturn C dX12_by_24 rfl
  · refine r_iload_n C dX12_by_14 rfl rfl ?_
    refine r_iconst C dX12_by_15 (by decide) ?_
    refine r_iconst C dX12_by_16 (by decide) ?_
    refine q_callSi (av := [zi p2, zi 0, zi 4]) (rest := []) C (tX12_within p2 0 4 q2.2) lkX12_355 rfl rfl (Nat.le_of_ble_eq_true rfl) ⟨by decide, by decide⟩ dX12_by_17 (fun q3 _ => ?_)
    refine q_if_ne (tgt := 25) C dX12_by_20 (by decide) (fun _ => ?_) (fun _ => ?_)
    · refine r_aload_n C dX12_by_25 rfl rfl ?_
      refine q_callVv (av := []) (rest := []) C (tX12_all0  q3.2) lkX12_470 kd_132 rfl rfl rfl (Nat.le_of_ble_eq_true rfl) ⟨by decide, by decide⟩ dX12_by_26 (fun q4 _ => ?_)
      refine r_aload_n C dX12_by_29 rfl rfl ?_
      refine r_iload_n C dX12_by_30 rfl rfl ?_
      refine q_callVv (av := [zi p1]) (rest := []) C (tX12_orders p1 q4) lkX12_520 kd_132 rfl rfl rfl (Nat.le_of_ble_eq_true rfl) ⟨by decide, by decide⟩ dX12_by_31 (fun q5 _ => ?_)
      refine r_aload_n C dX12_by_34 rfl rfl ?_
      refine q_callVv (av := []) (rest := []) C (tX12_registers  q5) lkX12_523 kd_132 rfl rfl rfl (Nat.le_of_ble_eq_true rfl) ⟨by decide, by decide⟩ dX12_by_35 (fun q6 _ => ?_)
      refine r_aload_n C dX12_by_38 rfl rfl ?_
      refine r_iload_n C dX12_by_39 rfl rfl ?_
      refine q_callVi (av := [zi p2]) (rest := []) C (tX12_tell p2 q6) lkX12_535 kd_132 rfl rfl rfl (Nat.le_of_ble_eq_true rfl) ⟨by decide, by decide⟩ dX12_by_40 (fun q7 _ => ?_)
      exact r_ireturn C dX12_by_43 rfl
    · refine r_iconst C dX12_by_23 (by decide) ?_
      exact r_ireturn C dX12_by_24 rfl
set_option maxRecDepth 100000 in
set_option maxHeartbeats 4000000 in
theorem tX12_alone (p1 : Int) (p2 : Int) (M : Mem) : Cn yX12_alone cX12_alone 3 (some .int) 6 141 [zr 132, zi p1, zi p2] M ((fX12_alone p1 p2 M).map oI) := by
  refine Cn_mk (own := RX12) rfl (by decide) (Nat.le_of_ble_eq_true rfl) [some (zr 132), some (zi p1), some (zi p2)] rfl (fun G C hn => ?_)
  unfold fX12_alone
  refine r_aload_n C dX12_alone_0 rfl rfl ?_
  refine r_iconst C dX12_alone_1 (by decide) ?_
  refine q_puti C clX12 kd_132 (k := 0) (by decide) flX12_1 rfl dX12_alone_2 rfl rfl (fun M1 => ?_)
  refine r_iload_n C dX12_alone_5 rfl rfl ?_
  refine q_if_lt (tgt := 29) C dX12_alone_6 (by decide) (fun _ => ?_) (fun _ => ?_)
  · refine r_iconst C dX12_alone_29 (by decide) ?_
    exact r_ireturn C dX12_alone_30 rfl
  · refine r_iload_n C dX12_alone_9 rfl rfl ?_
    refine r_aload_n C dX12_alone_10 rfl rfl ?_
    refine r_getp C clX12 kd_132 (k := 10) (by decide) flX12_126 dX12_alone_11 pt_132_10 ?_
    refine r_bipush C dX12_alone_14 (by decide) ?_
    refine r_iaload C dX12_alone_16 (fun v2 _ => ?_)
    refine q_icmp_ge (tgt := 29) C dX12_alone_17 (by decide) (fun _ => ?_) (fun _ => ?_)
    · refine r_iconst C dX12_alone_29 (by decide) ?_
      exact r_ireturn C dX12_alone_30 rfl
    · refine r_iload_n C dX12_alone_20 rfl rfl ?_
      refine r_iconst C dX12_alone_21 (by decide) ?_
      refine r_iconst C dX12_alone_22 (by decide) ?_
      refine q_callSi (av := [zi p2, zi 0, zi 5]) (rest := []) C (tX12_within p2 0 5 M1) lkX12_355 rfl rfl (Nat.le_of_ble_eq_true rfl) ⟨by decide, by decide⟩ dX12_alone_23 (fun q3 _ => ?_)
      refine q_if_ne (tgt := 31) C dX12_alone_26 (by decide) (fun _ => ?_) (fun _ => ?_)
      · refine r_aload_n C dX12_alone_31 rfl rfl ?_
        refine r_iconst C dX12_alone_32 (by decide) ?_
        refine r_iconst C dX12_alone_33 (by decide) ?_
        refine r_iconst C dX12_alone_34 (by decide) ?_
        refine q_callVv (av := [zi (-1), zi 0, zi 0]) (rest := []) C (tX12_rangesWith (-1) 0 0 q3.2) lkX12_428 kd_132 rfl rfl rfl (Nat.le_of_ble_eq_true rfl) ⟨by decide, by decide⟩ dX12_alone_35 (fun q4 _ => ?_)
        refine r_aload_n C dX12_alone_38 rfl rfl ?_
        refine r_iload_n C dX12_alone_39 rfl rfl ?_
        refine q_callVv (av := [zi p1]) (rest := []) C (tX12_needs p1 q4) lkX12_467 kd_132 rfl rfl rfl (Nat.le_of_ble_eq_true rfl) ⟨by decide, by decide⟩ dX12_alone_40 (fun q5 _ => ?_)
        refine r_aload_n C dX12_alone_43 rfl rfl ?_
        refine r_aload_n C dX12_alone_44 rfl rfl ?_
        refine q_geti C clX12 kd_132 (k := 28) (by decide) flX12_365 dX12_alone_45 (kz := 28) rfl (by decide) ?_
        refine q_callVv (av := [zi (q5 132 28)]) (rest := []) C (tX12_orders (q5 132 28) q5) lkX12_520 kd_132 rfl rfl rfl (Nat.le_of_ble_eq_true rfl) ⟨by decide, by decide⟩ dX12_alone_48 (fun q6 _ => ?_)
        refine r_aload_n C dX12_alone_51 rfl rfl ?_
        refine q_callVv (av := []) (rest := []) C (tX12_registers  q6) lkX12_523 kd_132 rfl rfl rfl (Nat.le_of_ble_eq_true rfl) ⟨by decide, by decide⟩ dX12_alone_52 (fun q7 _ => ?_)
        refine r_iload_n C dX12_alone_55 rfl rfl ?_
        refine r_iconst C dX12_alone_56 (by decide) ?_
        refine r_join (γ := Int × Mem) (pcJ := fun _ => 75) (al' := fun q10 => [none, none, none]) (st' := fun q10 => [zi q10.1]) (M' := fun q10 => q10.2) ?_ ?_
        · intro q10
          exact r_ireturn C dX12_alone_75 rfl
        · intro hJq10
          refine q_icmp_ne (tgt := 70) C dX12_alone_57 (by decide) (fun _ => ?_) (fun _ => ?_)
          · refine r_aload_n C dX12_alone_70 rfl rfl ?_
            refine r_iload_n C dX12_alone_71 rfl rfl ?_
            refine q_callVi (av := [zi p2]) (rest := []) C (tX12_tell p2 q7) lkX12_535 kd_132 rfl rfl rfl (Nat.le_of_ble_eq_true rfl) ⟨by decide, by decide⟩ dX12_alone_72 (fun q8 _ => ?_)
            refine r_less [false, false, false] rfl ?_
            exact hJq10 (q8.1, q8.2)
          · refine r_aload_n C dX12_alone_60 rfl rfl ?_
            refine q_getl C clX12 kd_132 (k := 38) (by decide) flX12_464 dX12_alone_61 (kz := 38) rfl rfl ?_
            refine q_callSi (av := [zl (q7 132 38)]) (rest := []) C (tX12_manyOf (q7 132 38) q7) lkX12_529 rfl rfl (Nat.le_of_ble_eq_true rfl) ⟨by decide, by decide⟩ dX12_alone_64 (fun q9 _ => ?_)
            refine r_goto (tgt := 75) C dX12_alone_67 (by decide) ?_
            refine r_less [false, false, false] rfl ?_
            exact hJq10 (q9.1, q9.2)
      · refine r_iconst C dX12_alone_29 (by decide) ?_
        exact r_ireturn C dX12_alone_30 rfl
set_option maxRecDepth 100000 in
set_option maxHeartbeats 4000000 in
theorem tX12_howMany (p1 : Int) (M : Mem) : Cn yX12_howMany cX12_howMany 4 (some .int) 1 21 [zr 132, zi p1] M ((fX12_howMany p1 M).map oI) := by
  refine Cn_mk (own := RX12) rfl (by decide) (Nat.le_of_ble_eq_true rfl) [some (zr 132), some (zi p1), none, none] rfl (fun G C hn => ?_)
  unfold fX12_howMany
  refine r_iconst C dX12_howMany_0 (by decide) ?_
  refine r_istore_n (al' := [some (zr 132), some (zi p1), some (zi 0), none]) C dX12_howMany_1 rfl (by rw [hn]; decide) rfl ?_
  refine r_iconst C dX12_howMany_2 (by decide) ?_
  refine r_istore_n (al' := [some (zr 132), some (zi p1), some (zi 0), some (zi 0)]) C dX12_howMany_3 rfl (by rw [hn]; decide) rfl ?_
  refine r_lp (S := Int × Int × Mem) (R := Int × Mem) (pcX := 49) (AL := fun s1 => [some (zr 132), some (zi p1), some (zi s1.1), some (zi s1.2.1)]) (MM := fun s1 => s1.2.2) (AX := fun q7 => [none, none, some (zi q7.1), none]) (MX := fun q7 => q7.2) ?_ ?_ (0, 0, M)
  · intro q7
    refine r_iload_n C dX12_howMany_49 rfl rfl ?_
    exact r_ireturn C dX12_howMany_50 rfl
  · intro gs1 hCs1 hXs1 s1
    unfold fX12_howMany_b1
    refine r_iload_n C dX12_howMany_4 rfl rfl ?_
    refine r_aload_n C dX12_howMany_5 rfl rfl ?_
    refine q_callVi (av := []) (rest := [zi s1.2.1]) C (tX12_values  s1.2.2) lkX12_352 kd_132 rfl rfl rfl (Nat.le_of_ble_eq_true rfl) ⟨by decide, by decide⟩ dX12_howMany_6 (fun q2 _ => ?_)
    refine q_icmp_ge (tgt := 49) C dX12_howMany_9 (by decide) (fun _ => ?_) (fun _ => ?_)
    · refine r_less [false, false, true, false] rfl ?_
      exact hXs1 (s1.1, q2.2)
    · refine r_iload_n C dX12_howMany_12 rfl rfl ?_
      refine r_iload_n C dX12_howMany_13 rfl rfl ?_
      refine r_join (γ := Int × Mem) (pcJ := fun _ => 41) (al' := fun q5 => [some (zr 132), some (zi p1), none, some (zi s1.2.1)]) (st' := fun q5 => [zi q5.1, zi s1.1]) (M' := fun q5 => q5.2) ?_ ?_
      · intro q5
        refine r_iadd C dX12_howMany_41 ?_
        refine r_let (fun v6 _ => ?_)
        refine r_istore_n (al' := [some (zr 132), some (zi p1), some (zi v6), some (zi s1.2.1)]) C dX12_howMany_42 rfl (by rw [hn]; decide) rfl ?_
        refine r_iinc (al' := [some (zr 132), some (zi p1), some (zi v6), some (zi (w32 (s1.2.1 + 1)))]) C dX12_howMany_43 rfl (by rw [hn]; decide) rfl ?_
        refine r_goto (tgt := 4) C dX12_howMany_46 (by decide) ?_
        exact hCs1 (v6, w32 (s1.2.1 + 1), q5.2)
      · intro hJq5
        refine q_if_eq (tgt := 28) C dX12_howMany_14 (by decide) (fun _ => ?_) (fun _ => ?_)
        · refine r_aload_n C dX12_howMany_28 rfl rfl ?_
          refine r_iload_n C dX12_howMany_29 rfl rfl ?_
          refine q_callVi (av := [zi s1.2.1]) (rest := [zi s1.1]) C (tX12_isKnown s1.2.1 q2.2) lkX12_453 kd_132 rfl rfl rfl (Nat.le_of_ble_eq_true rfl) ⟨by decide, by decide⟩ dX12_howMany_30 (fun q3 _ => ?_)
          refine q_if_eq (tgt := 40) C dX12_howMany_33 (by decide) (fun _ => ?_) (fun _ => ?_)
          · refine r_iconst C dX12_howMany_40 (by decide) ?_
            refine r_less [true, true, false, true] rfl ?_
            exact hJq5 (0, q3.2)
          · refine r_iconst C dX12_howMany_36 (by decide) ?_
            refine r_goto (tgt := 41) C dX12_howMany_37 (by decide) ?_
            refine r_less [true, true, false, true] rfl ?_
            exact hJq5 (1, q3.2)
        · refine r_aload_n C dX12_howMany_17 rfl rfl ?_
          refine r_iload_n C dX12_howMany_18 rfl rfl ?_
          refine q_callVi (av := [zi s1.2.1]) (rest := [zi s1.1]) C (tX12_isLow s1.2.1 q2.2) lkX12_419 kd_132 rfl rfl rfl (Nat.le_of_ble_eq_true rfl) ⟨by decide, by decide⟩ dX12_howMany_19 (fun q4 _ => ?_)
          refine q_if_eq (tgt := 40) C dX12_howMany_22 (by decide) (fun _ => ?_) (fun _ => ?_)
          · refine r_iconst C dX12_howMany_40 (by decide) ?_
            refine r_less [true, true, false, true] rfl ?_
            exact hJq5 (0, q4.2)
          · refine r_goto (tgt := 36) C dX12_howMany_25 (by decide) ?_
            refine r_iconst C dX12_howMany_36 (by decide) ?_
            refine r_goto (tgt := 41) C dX12_howMany_37 (by decide) ?_
            refine r_less [true, true, false, true] rfl ?_
            exact hJq5 (1, q4.2)
set_option maxRecDepth 100000 in
set_option maxHeartbeats 4000000 in
theorem tX12_narrowed (p1 : Int) (p2 : Int) (p3 : Int) (p4 : Int) (M : Mem) : Cn yX12_narrowed cX12_narrowed 5 (some .int) 6 141 [zr 132, zi p1, zi p2, zi p3, zi p4] M ((fX12_narrowed p1 p2 p3 p4 M).map oI) := by
  refine Cn_mk (own := RX12) rfl (by decide) (Nat.le_of_ble_eq_true rfl) [some (zr 132), some (zi p1), some (zi p2), some (zi p3), some (zi p4)] rfl (fun G C hn => ?_)
  unfold fX12_narrowed
  refine r_aload_n C dX12_narrowed_0 rfl rfl ?_
  refine r_iconst C dX12_narrowed_1 (by decide) ?_
  refine q_puti C clX12 kd_132 (k := 0) (by decide) flX12_1 rfl dX12_narrowed_2 rfl rfl (fun M1 => ?_)
  refine r_aload_n C dX12_narrowed_5 rfl rfl ?_
  refine r_iload_n C dX12_narrowed_6 rfl rfl ?_
  refine q_callVi (av := [zi p1]) (rest := []) C (tX12_isInput p1 M1) lkX12_359 kd_132 rfl rfl rfl (Nat.le_of_ble_eq_true rfl) ⟨by decide, by decide⟩ dX12_narrowed_7 (fun q2 _ => ?_)
  refine q_if_eq (tgt := 32) C dX12_narrowed_10 (by decide) (fun _ => ?_) (fun _ => ?_)
  · refine r_iconst C dX12_narrowed_32 (by decide) ?_
    exact r_ireturn C dX12_narrowed_33 rfl
  · refine r_iload_n C dX12_narrowed_13 rfl rfl ?_
    refine r_iload_n C dX12_narrowed_14 rfl rfl ?_
    refine q_callSi (av := [zi p2, zi p3]) (rest := []) C (tX12_isRange p2 p3 q2.2) lkX12_368 rfl rfl (Nat.le_of_ble_eq_true rfl) ⟨by decide, by decide⟩ dX12_narrowed_15 (fun q3 _ => ?_)
    refine q_if_eq (tgt := 32) C dX12_narrowed_18 (by decide) (fun _ => ?_) (fun _ => ?_)
    · refine r_iconst C dX12_narrowed_32 (by decide) ?_
      exact r_ireturn C dX12_narrowed_33 rfl
    · refine r_iload C dX12_narrowed_21 rfl ?_
      refine r_iconst C dX12_narrowed_23 (by decide) ?_
      refine r_bipush C dX12_narrowed_24 (by decide) ?_
      refine q_callSi (av := [zi p4, zi 0, zi 7]) (rest := []) C (tX12_within p4 0 7 q3.2) lkX12_355 rfl rfl (Nat.le_of_ble_eq_true rfl) ⟨by decide, by decide⟩ dX12_narrowed_26 (fun q4 _ => ?_)
      refine q_if_ne (tgt := 34) C dX12_narrowed_29 (by decide) (fun _ => ?_) (fun _ => ?_)
      · refine r_aload_n C dX12_narrowed_34 rfl rfl ?_
        refine r_iload_n C dX12_narrowed_35 rfl rfl ?_
        refine r_iload_n C dX12_narrowed_36 rfl rfl ?_
        refine r_iload_n C dX12_narrowed_37 rfl rfl ?_
        refine q_callVv (av := [zi p1, zi p2, zi p3]) (rest := []) C (tX12_rangesWith p1 p2 p3 q4.2) lkX12_428 kd_132 rfl rfl rfl (Nat.le_of_ble_eq_true rfl) ⟨by decide, by decide⟩ dX12_narrowed_38 (fun q5 _ => ?_)
        refine r_aload_n C dX12_narrowed_41 rfl rfl ?_
        refine r_iconst C dX12_narrowed_42 (by decide) ?_
        refine q_callVv (av := [zi (-1)]) (rest := []) C (tX12_needs (-1) q5) lkX12_467 kd_132 rfl rfl rfl (Nat.le_of_ble_eq_true rfl) ⟨by decide, by decide⟩ dX12_narrowed_43 (fun q6 _ => ?_)
        refine r_aload_n C dX12_narrowed_46 rfl rfl ?_
        refine r_aload_n C dX12_narrowed_47 rfl rfl ?_
        refine q_geti C clX12 kd_132 (k := 28) (by decide) flX12_365 dX12_narrowed_48 (kz := 28) rfl (by decide) ?_
        refine q_callVv (av := [zi (q6 132 28)]) (rest := []) C (tX12_orders (q6 132 28) q6) lkX12_520 kd_132 rfl rfl rfl (Nat.le_of_ble_eq_true rfl) ⟨by decide, by decide⟩ dX12_narrowed_51 (fun q7 _ => ?_)
        refine r_aload_n C dX12_narrowed_54 rfl rfl ?_
        refine q_callVv (av := []) (rest := []) C (tX12_registers  q7) lkX12_523 kd_132 rfl rfl rfl (Nat.le_of_ble_eq_true rfl) ⟨by decide, by decide⟩ dX12_narrowed_55 (fun q8 _ => ?_)
        refine r_iload C dX12_narrowed_58 rfl ?_
        refine r_iconst C dX12_narrowed_60 (by decide) ?_
        refine r_join (γ := Int × Mem) (pcJ := fun _ => 105) (al' := fun q13 => [none, none, none, none, none]) (st' := fun q13 => [zi q13.1]) (M' := fun q13 => q13.2) ?_ ?_
        · intro q13
          exact r_ireturn C dX12_narrowed_105 rfl
        · intro hJq13
          refine q_icmp_ge (tgt := 73) C dX12_narrowed_61 (by decide) (fun _ => ?_) (fun _ => ?_)
          · refine r_iload C dX12_narrowed_73 rfl ?_
            refine r_iconst C dX12_narrowed_75 (by decide) ?_
            refine q_icmp_ne (tgt := 89) C dX12_narrowed_76 (by decide) (fun _ => ?_) (fun _ => ?_)
            · refine r_aload_n C dX12_narrowed_89 rfl rfl ?_
              refine r_iload C dX12_narrowed_90 rfl ?_
              refine r_bipush C dX12_narrowed_92 (by decide) ?_
              refine r_join (γ := Int) (pcJ := fun _ => 102) (al' := fun q9 => [none, none, none, none, none]) (st' := fun q9 => [zi q9, zr 132]) (M' := fun q9 => q8) ?_ ?_
              · intro q9
                refine q_callVi (av := [zi q9]) (rest := []) C (tX12_howMany q9 q8) lkX12_538 kd_132 rfl rfl rfl (Nat.le_of_ble_eq_true rfl) ⟨by decide, by decide⟩ dX12_narrowed_102 (fun q10 _ => ?_)
                exact hJq13 (q10.1, q10.2)
              · intro hJq9
                refine q_icmp_ne (tgt := 101) C dX12_narrowed_94 (by decide) (fun _ => ?_) (fun _ => ?_)
                · refine r_iconst C dX12_narrowed_101 (by decide) ?_
                  refine r_less [false, false, false, false, false] rfl ?_
                  exact hJq9 0
                · refine r_iconst C dX12_narrowed_97 (by decide) ?_
                  refine r_goto (tgt := 102) C dX12_narrowed_98 (by decide) ?_
                  refine r_less [false, false, false, false, false] rfl ?_
                  exact hJq9 1
            · refine r_aload_n C dX12_narrowed_79 rfl rfl ?_
              refine q_getl C clX12 kd_132 (k := 38) (by decide) flX12_464 dX12_narrowed_80 (kz := 38) rfl rfl ?_
              refine q_callSi (av := [zl (q8 132 38)]) (rest := []) C (tX12_manyOf (q8 132 38) q8) lkX12_529 rfl rfl (Nat.le_of_ble_eq_true rfl) ⟨by decide, by decide⟩ dX12_narrowed_83 (fun q11 _ => ?_)
              refine r_goto (tgt := 105) C dX12_narrowed_86 (by decide) ?_
              refine r_less [false, false, false, false, false] rfl ?_
              exact hJq13 (q11.1, q11.2)
          · refine r_aload_n C dX12_narrowed_64 rfl rfl ?_
            refine r_iload C dX12_narrowed_65 rfl ?_
            refine q_callVi (av := [zi p4]) (rest := []) C (tX12_tell p4 q8) lkX12_535 kd_132 rfl rfl rfl (Nat.le_of_ble_eq_true rfl) ⟨by decide, by decide⟩ dX12_narrowed_67 (fun q12 _ => ?_)
            refine r_goto (tgt := 105) C dX12_narrowed_70 (by decide) ?_
            refine r_less [false, false, false, false, false] rfl ?_
            exact hJq13 (q12.1, q12.2)
      · refine r_iconst C dX12_narrowed_32 (by decide) ?_
        exact r_ireturn C dX12_narrowed_33 rfl
set_option maxRecDepth 100000 in
set_option maxHeartbeats 4000000 in
theorem tX12_swapped (p1 : Int) (p2 : Int) (M : Mem) : Cn yX12_swapped cX12_swapped 4 (some .int) 7 165 [zr 132, zi p1, zi p2] M ((fX12_swapped p1 p2 M).map oI) := by
  refine Cn_mk (own := RX12) rfl (by decide) (Nat.le_of_ble_eq_true rfl) [some (zr 132), some (zi p1), some (zi p2), none] rfl (fun G C hn => ?_)
  unfold fX12_swapped
  refine r_aload_n C dX12_swapped_0 rfl rfl ?_
  refine r_iconst C dX12_swapped_1 (by decide) ?_
  refine q_puti C clX12 kd_132 (k := 0) (by decide) flX12_1 rfl dX12_swapped_2 rfl rfl (fun M1 => ?_)
  refine r_aload_n C dX12_swapped_5 rfl rfl ?_
  refine q_callVv (av := []) (rest := []) C (tX12_plans  M1) lkX12_526 kd_132 rfl rfl rfl (Nat.le_of_ble_eq_true rfl) ⟨by decide, by decide⟩ dX12_swapped_6 (fun q2 _ => ?_)
  refine r_iload_n C dX12_swapped_9 rfl rfl ?_
  refine r_iconst C dX12_swapped_10 (by decide) ?_
  refine r_iconst C dX12_swapped_11 (by decide) ?_
  refine q_callSi (av := [zi p2, zi 0, zi 2]) (rest := []) C (tX12_within p2 0 2 q2) lkX12_355 rfl rfl (Nat.le_of_ble_eq_true rfl) ⟨by decide, by decide⟩ dX12_swapped_12 (fun q3 _ => ?_)
  refine q_if_eq (tgt := 57) C dX12_swapped_15 (by decide) (fun _ => ?_) (fun _ => ?_)
  · refine r_iconst C dX12_swapped_57 (by decide) ?_
    exact r_ireturn C dX12_swapped_58 rfl
  · refine r_iload_n C dX12_swapped_18 rfl rfl ?_
    refine r_iconst C dX12_swapped_19 (by decide) ?_
    refine r_aload_n C dX12_swapped_20 rfl rfl ?_
    refine q_geti C clX12 kd_132 (k := 41) (by decide) flX12_489 dX12_swapped_21 (kz := 41) rfl (by decide) ?_
    refine r_iconst C dX12_swapped_24 (by decide) ?_
    refine r_isub C dX12_swapped_25 ?_
    refine q_callSi (av := [zi p1, zi 0, zi (w32 ((q3.2 132 41) - 2))]) (rest := []) C (tX12_within p1 0 (w32 ((q3.2 132 41) - 2)) q3.2) lkX12_355 rfl rfl (Nat.le_of_ble_eq_true rfl) ⟨by decide, by decide⟩ dX12_swapped_26 (fun q4 _ => ?_)
    refine q_if_eq (tgt := 57) C dX12_swapped_29 (by decide) (fun _ => ?_) (fun _ => ?_)
    · refine r_iconst C dX12_swapped_57 (by decide) ?_
      exact r_ireturn C dX12_swapped_58 rfl
    · refine r_aload_n C dX12_swapped_32 rfl rfl ?_
      refine r_getp C clX12 kd_132 (k := 35) (by decide) flX12_190 dX12_swapped_33 pt_132_35 ?_
      refine r_aload_n C dX12_swapped_36 rfl rfl ?_
      refine r_getp C clX12 kd_132 (k := 40) (by decide) flX12_199 dX12_swapped_37 pt_132_40 ?_
      refine r_iload_n C dX12_swapped_40 rfl rfl ?_
      refine r_iconst C dX12_swapped_41 (by decide) ?_
      refine r_iadd C dX12_swapped_42 ?_
      refine r_iaload C dX12_swapped_43 (fun v5 _ => ?_)
      refine r_laload C dX12_swapped_44 (fun v6 _ => ?_)
      refine r_aload_n C dX12_swapped_45 rfl rfl ?_
      refine r_getp C clX12 kd_132 (k := 40) (by decide) flX12_199 dX12_swapped_46 pt_132_40 ?_
      refine r_iload_n C dX12_swapped_49 rfl rfl ?_
      refine r_iaload C dX12_swapped_50 (fun v7 _ => ?_)
      refine q_callSi (av := [zl v6, zi v7]) (rest := []) C (tX12_has v6 v7 q4.2) lkX12_449 rfl rfl (Nat.le_of_ble_eq_true rfl) ⟨by decide, by decide⟩ dX12_swapped_51 (fun q8 _ => ?_)
      refine q_if_eq (tgt := 59) C dX12_swapped_54 (by decide) (fun _ => ?_) (fun _ => ?_)
      · refine r_aload_n C dX12_swapped_59 rfl rfl ?_
        refine r_getp C clX12 kd_132 (k := 40) (by decide) flX12_199 dX12_swapped_60 pt_132_40 ?_
        refine r_iload_n C dX12_swapped_63 rfl rfl ?_
        refine r_iaload C dX12_swapped_64 (fun v9 _ => ?_)
        refine r_istore_n (al' := [some (zr 132), some (zi p1), some (zi p2), some (zi v9)]) C dX12_swapped_65 rfl (by rw [hn]; decide) rfl ?_
        refine r_aload_n C dX12_swapped_66 rfl rfl ?_
        refine r_getp C clX12 kd_132 (k := 40) (by decide) flX12_199 dX12_swapped_67 pt_132_40 ?_
        refine r_iload_n C dX12_swapped_70 rfl rfl ?_
        refine r_aload_n C dX12_swapped_71 rfl rfl ?_
        refine r_getp C clX12 kd_132 (k := 40) (by decide) flX12_199 dX12_swapped_72 pt_132_40 ?_
        refine r_iload_n C dX12_swapped_75 rfl rfl ?_
        refine r_iconst C dX12_swapped_76 (by decide) ?_
        refine r_iadd C dX12_swapped_77 ?_
        refine r_iaload C dX12_swapped_78 (fun v10 _ => ?_)
        refine r_iastore C dX12_swapped_79 (fun M11 _ => ?_)
        refine r_aload_n C dX12_swapped_80 rfl rfl ?_
        refine r_getp C clX12 kd_132 (k := 40) (by decide) flX12_199 dX12_swapped_81 pt_132_40 ?_
        refine r_iload_n C dX12_swapped_84 rfl rfl ?_
        refine r_iconst C dX12_swapped_85 (by decide) ?_
        refine r_iadd C dX12_swapped_86 ?_
        refine r_iload_n C dX12_swapped_87 rfl rfl ?_
        refine r_iastore C dX12_swapped_88 (fun M12 _ => ?_)
        refine r_aload_n C dX12_swapped_89 rfl rfl ?_
        refine q_callVv (av := []) (rest := []) C (tX12_lives  M12) lkX12_496 kd_132 rfl rfl rfl (Nat.le_of_ble_eq_true rfl) ⟨by decide, by decide⟩ dX12_swapped_90 (fun q13 _ => ?_)
        refine r_aload_n C dX12_swapped_93 rfl rfl ?_
        refine r_iload_n C dX12_swapped_94 rfl rfl ?_
        refine q_callVi (av := [zi p2]) (rest := []) C (tX12_tell p2 q13) lkX12_535 kd_132 rfl rfl rfl (Nat.le_of_ble_eq_true rfl) ⟨by decide, by decide⟩ dX12_swapped_95 (fun q14 _ => ?_)
        exact r_ireturn C dX12_swapped_98 rfl
      · refine r_iconst C dX12_swapped_57 (by decide) ?_
        exact r_ireturn C dX12_swapped_58 rfl
set_option maxRecDepth 100000 in
set_option maxHeartbeats 4000000 in
theorem tX12_argRun (p1 : Int) (p2 : Int) (M : Mem) : Cn yX12_argRun cX12_argRun 4 (some .int) 1 22 [zr 132, zi p1, zi p2] M ((fX12_argRun p1 p2 M).map oI) := by
  refine Cn_mk (own := RX12) rfl (by decide) (Nat.le_of_ble_eq_true rfl) [some (zr 132), some (zi p1), some (zi p2), none] rfl (fun G C hn => ?_)
  unfold fX12_argRun
  refine r_aload_n C dX12_argRun_0 rfl rfl ?_
  refine r_iload_n C dX12_argRun_1 rfl rfl ?_
  refine r_iload_n C dX12_argRun_2 rfl rfl ?_
  refine q_callVi (av := [zi p1, zi p2]) (rest := []) C (tX12_argOf p1 p2 M) lkX12_388 kd_132 rfl rfl rfl (Nat.le_of_ble_eq_true rfl) ⟨by decide, by decide⟩ dX12_argRun_3 (fun q1 _ => ?_)
  refine r_join (γ := Int × Mem) (pcJ := fun _ => 24) (al' := fun q4 => [some (zr 132), none, none, none]) (st' := fun q4 => [zi q4.1]) (M' := fun q4 => q4.2) ?_ ?_
  · intro q4
    refine r_istore_n (al' := [some (zr 132), none, none, some (zi q4.1)]) C dX12_argRun_24 rfl (by rw [hn]; decide) rfl ?_
    refine r_iload_n C dX12_argRun_25 rfl rfl ?_
    refine r_join (γ := Int × Mem) (pcJ := fun _ => 71) (al' := fun q10 => [none, none, none, none]) (st' := fun q10 => [zi q10.1]) (M' := fun q10 => q10.2) ?_ ?_
    · intro q10
      exact r_ireturn C dX12_argRun_71 rfl
    · intro hJq10
      refine q_if_ge (tgt := 33) C dX12_argRun_26 (by decide) (fun _ => ?_) (fun _ => ?_)
      · refine r_aload_n C dX12_argRun_33 rfl rfl ?_
        refine r_iload_n C dX12_argRun_34 rfl rfl ?_
        refine q_callVi (av := [zi q4.1]) (rest := []) C (tX12_isKnown q4.1 q4.2) lkX12_453 kd_132 rfl rfl rfl (Nat.le_of_ble_eq_true rfl) ⟨by decide, by decide⟩ dX12_argRun_35 (fun q5 _ => ?_)
        refine q_if_eq (tgt := 50) C dX12_argRun_38 (by decide) (fun _ => ?_) (fun _ => ?_)
        · refine r_aload_n C dX12_argRun_50 rfl rfl ?_
          refine r_getp C clX12 kd_132 (k := 51) (by decide) flX12_223 dX12_argRun_51 pt_132_51 ?_
          refine r_sipush C dX12_argRun_54 (by decide) ?_
          refine r_aload_n C dX12_argRun_57 rfl rfl ?_
          refine r_iload_n C dX12_argRun_58 rfl rfl ?_
          refine q_callVi (av := [zi q4.1]) (rest := [zi 128, zr 170]) C (tX12_fileOf q4.1 q5.2) lkX12_502 kd_132 rfl rfl rfl (Nat.le_of_ble_eq_true rfl) ⟨by decide, by decide⟩ dX12_argRun_59 (fun q6 _ => ?_)
          refine r_imul C dX12_argRun_62 ?_
          refine r_aload_n C dX12_argRun_63 rfl rfl ?_
          refine r_getp C clX12 kd_132 (k := 44) (by decide) flX12_208 dX12_argRun_64 pt_132_44 ?_
          refine r_iload_n C dX12_argRun_67 rfl rfl ?_
          refine r_iaload C dX12_argRun_68 (fun v7 _ => ?_)
          refine r_iadd C dX12_argRun_69 ?_
          refine r_iaload C dX12_argRun_70 (fun v8 _ => ?_)
          refine r_less [false, false, false, false] rfl ?_
          exact hJq10 (v8, q6.2)
        · refine r_aload_n C dX12_argRun_41 rfl rfl ?_
          refine r_getp C clX12 kd_132 (k := 29) (by decide) flX12_171 dX12_argRun_42 pt_132_29 ?_
          refine r_iload_n C dX12_argRun_45 rfl rfl ?_
          refine r_iaload C dX12_argRun_46 (fun v9 _ => ?_)
          refine r_goto (tgt := 71) C dX12_argRun_47 (by decide) ?_
          refine r_less [false, false, false, false] rfl ?_
          exact hJq10 (v9, q5.2)
      · refine r_iconst C dX12_argRun_29 (by decide) ?_
        refine r_goto (tgt := 71) C dX12_argRun_30 (by decide) ?_
        refine r_less [false, false, false, false] rfl ?_
        exact hJq10 (0, q4.2)
  · intro hJq4
    refine q_if_ge (tgt := 13) C dX12_argRun_6 (by decide) (fun _ => ?_) (fun _ => ?_)
    · refine r_aload_n C dX12_argRun_13 rfl rfl ?_
      refine r_getp C clX12 kd_132 (k := 34) (by decide) flX12_187 dX12_argRun_14 pt_132_34 ?_
      refine r_aload_n C dX12_argRun_17 rfl rfl ?_
      refine r_iload_n C dX12_argRun_18 rfl rfl ?_
      refine r_iload_n C dX12_argRun_19 rfl rfl ?_
      refine q_callVi (av := [zi p1, zi p2]) (rest := [zr 158]) C (tX12_argOf p1 p2 q1.2) lkX12_388 kd_132 rfl rfl rfl (Nat.le_of_ble_eq_true rfl) ⟨by decide, by decide⟩ dX12_argRun_20 (fun q2 _ => ?_)
      refine r_iaload C dX12_argRun_23 (fun v3 _ => ?_)
      refine r_less [true, false, false, false] rfl ?_
      exact hJq4 (v3, q2.2)
    · refine r_iconst C dX12_argRun_9 (by decide) ?_
      refine r_goto (tgt := 24) C dX12_argRun_10 (by decide) ?_
      refine r_less [true, false, false, false] rfl ?_
      exact hJq4 ((-1), q1.2)
set_option maxRecDepth 100000 in
set_option maxHeartbeats 4000000 in
theorem tX12_ran (p1 : Int) (p2 : Int) (M : Mem) : Cn yX12_ran cX12_ran 7 (some .int) 7 165 [zr 132, zi p1, zi p2] M ((fX12_ran p1 p2 M).map oI) := by
  refine Cn_mk (own := RX12) rfl (by decide) (Nat.le_of_ble_eq_true rfl) [some (zr 132), some (zi p1), some (zi p2), none, none, none, none] rfl (fun G C hn => ?_)
  unfold fX12_ran
  refine r_aload_n C dX12_ran_0 rfl rfl ?_
  refine r_aload_n C dX12_ran_1 rfl rfl ?_
  refine r_iload_n C dX12_ran_2 rfl rfl ?_
  refine r_iload_n C dX12_ran_3 rfl rfl ?_
  refine q_callVi (av := [zi p1, zi p2]) (rest := [zr 132]) C (tX12_isShown p1 p2 M) lkX12_443 kd_132 rfl rfl rfl (Nat.le_of_ble_eq_true rfl) ⟨by decide, by decide⟩ dX12_ran_4 (fun q1 _ => ?_)
  refine r_join (γ := Int) (pcJ := fun _ => 15) (al' := fun q2 => [some (zr 132), some (zi p1), some (zi p2), none, none, none, none]) (st' := fun q2 => [zi q2, zr 132]) (M' := fun q2 => q1.2) ?_ ?_
  · intro q2
    refine q_puti C clX12 kd_132 (k := 0) (by decide) flX12_1 rfl dX12_ran_15 rfl rfl (fun M3 => ?_)
    refine r_aload_n C dX12_ran_18 rfl rfl ?_
    refine q_geti C clX12 kd_132 (k := 0) (by decide) flX12_1 dX12_ran_19 (kz := 0) rfl (by decide) ?_
    refine q_if_le (tgt := 27) C dX12_ran_22 (by decide) (fun _ => ?_) (fun _ => ?_)
    · refine r_aload_n C dX12_ran_27 rfl rfl ?_
      refine q_callVv (av := []) (rest := []) C (tX12_plans  M3) lkX12_526 kd_132 rfl rfl rfl (Nat.le_of_ble_eq_true rfl) ⟨by decide, by decide⟩ dX12_ran_28 (fun q4 _ => ?_)
      refine r_iconst C dX12_ran_31 (by decide) ?_
      refine r_istore_n (al' := [some (zr 132), some (zi p1), some (zi p2), some (zi 0), none, none, none]) C dX12_ran_32 rfl (by rw [hn]; decide) rfl ?_
      refine r_lp (S := Int × Mem) (R := Mem) (pcX := 164) (AL := fun s5 => [some (zr 132), some (zi p1), some (zi p2), some (zi s5.1), none, none, none]) (MM := fun s5 => s5.2) (AX := fun q22 => [some (zr 132), none, some (zi p2), none, none, none, none]) (MX := fun q22 => q22) ?_ ?_ (0, q4)
      · intro q22
        refine r_aload_n C dX12_ran_164 rfl rfl ?_
        refine r_getp C clX12 kd_132 (k := 34) (by decide) flX12_187 dX12_ran_165 pt_132_34 ?_
        refine r_aload_n C dX12_ran_168 rfl rfl ?_
        refine r_getp C clX12 kd_132 (k := 10) (by decide) flX12_126 dX12_ran_169 pt_132_10 ?_
        refine r_bipush C dX12_ran_172 (by decide) ?_
        refine r_iload_n C dX12_ran_174 rfl rfl ?_
        refine r_iadd C dX12_ran_175 ?_
        refine r_iaload C dX12_ran_176 (fun v23 _ => ?_)
        refine r_iaload C dX12_ran_177 (fun v24 _ => ?_)
        refine r_istore_n (al' := [some (zr 132), none, some (zi p2), some (zi v24), none, none, none]) C dX12_ran_178 rfl (by rw [hn]; decide) rfl ?_
        refine r_aload_n C dX12_ran_179 rfl rfl ?_
        refine r_iload_n C dX12_ran_180 rfl rfl ?_
        refine q_callVi (av := [zi v24]) (rest := []) C (tX12_isKnown v24 q22) lkX12_453 kd_132 rfl rfl rfl (Nat.le_of_ble_eq_true rfl) ⟨by decide, by decide⟩ dX12_ran_181 (fun q25 _ => ?_)
        refine r_join (γ := Int × Mem) (pcJ := fun _ => 217) (al' := fun q30 => [none, none, none, none, none, none, none]) (st' := fun q30 => [zi q30.1]) (M' := fun q30 => q30.2) ?_ ?_
        · intro q30
          exact r_ireturn C dX12_ran_217 rfl
        · intro hJq30
          refine q_if_eq (tgt := 196) C dX12_ran_184 (by decide) (fun _ => ?_) (fun _ => ?_)
          · refine r_aload_n C dX12_ran_196 rfl rfl ?_
            refine r_getp C clX12 kd_132 (k := 51) (by decide) flX12_223 dX12_ran_197 pt_132_51 ?_
            refine r_sipush C dX12_ran_200 (by decide) ?_
            refine r_aload_n C dX12_ran_203 rfl rfl ?_
            refine r_iload_n C dX12_ran_204 rfl rfl ?_
            refine q_callVi (av := [zi v24]) (rest := [zi 128, zr 170]) C (tX12_fileOf v24 q25.2) lkX12_502 kd_132 rfl rfl rfl (Nat.le_of_ble_eq_true rfl) ⟨by decide, by decide⟩ dX12_ran_205 (fun q26 _ => ?_)
            refine r_imul C dX12_ran_208 ?_
            refine r_aload_n C dX12_ran_209 rfl rfl ?_
            refine r_getp C clX12 kd_132 (k := 44) (by decide) flX12_208 dX12_ran_210 pt_132_44 ?_
            refine r_iload_n C dX12_ran_213 rfl rfl ?_
            refine r_iaload C dX12_ran_214 (fun v27 _ => ?_)
            refine r_iadd C dX12_ran_215 ?_
            refine r_iaload C dX12_ran_216 (fun v28 _ => ?_)
            refine r_less [false, false, false, false, false, false, false] rfl ?_
            exact hJq30 (v28, q26.2)
          · refine r_aload_n C dX12_ran_187 rfl rfl ?_
            refine r_getp C clX12 kd_132 (k := 29) (by decide) flX12_171 dX12_ran_188 pt_132_29 ?_
            refine r_iload_n C dX12_ran_191 rfl rfl ?_
            refine r_iaload C dX12_ran_192 (fun v29 _ => ?_)
            refine r_goto (tgt := 217) C dX12_ran_193 (by decide) ?_
            refine r_less [false, false, false, false, false, false, false] rfl ?_
            exact hJq30 (v29, q25.2)
      · intro gs5 hCs5 hXs5 s5
        unfold fX12_ran_b1
        refine r_iload_n C dX12_ran_33 rfl rfl ?_
        refine r_aload_n C dX12_ran_34 rfl rfl ?_
        refine q_geti C clX12 kd_132 (k := 41) (by decide) flX12_489 dX12_ran_35 (kz := 41) rfl (by decide) ?_
        refine q_icmp_ge (tgt := 164) C dX12_ran_38 (by decide) (fun _ => ?_) (fun _ => ?_)
        · refine r_less [true, false, true, false, false, false, false] rfl ?_
          exact hXs5 s5.2
        · refine r_aload_n C dX12_ran_41 rfl rfl ?_
          refine r_getp C clX12 kd_132 (k := 40) (by decide) flX12_199 dX12_ran_42 pt_132_40 ?_
          refine r_iload_n C dX12_ran_45 rfl rfl ?_
          refine r_iaload C dX12_ran_46 (fun v6 _ => ?_)
          refine r_istore (al' := [some (zr 132), some (zi p1), some (zi p2), some (zi s5.1), some (zi v6), none, none]) C dX12_ran_47 (by rw [hn]; decide) rfl ?_
          refine r_aload_n C dX12_ran_49 rfl rfl ?_
          refine r_iload C dX12_ran_50 rfl ?_
          refine q_callVi (av := [zi v6]) (rest := []) C (tX12_howOf v6 s5.2) lkX12_391 kd_132 rfl rfl rfl (Nat.le_of_ble_eq_true rfl) ⟨by decide, by decide⟩ dX12_ran_52 (fun q7 _ => ?_)
          refine r_join (γ := Int × Mem) (pcJ := fun _ => 108) (al' := fun q15 => [some (zr 132), some (zi p1), some (zi p2), some (zi s5.1), some (zi v6), none, none]) (st' := fun q15 => [zi q15.1]) (M' := fun q15 => q15.2) ?_ ?_
          · intro q15
            refine r_istore (al' := [some (zr 132), some (zi p1), some (zi p2), some (zi s5.1), some (zi v6), some (zi q15.1), none]) C dX12_ran_108 (by rw [hn]; decide) rfl ?_
            refine r_iconst C dX12_ran_110 (by decide) ?_
            refine r_istore (al' := [some (zr 132), some (zi p1), some (zi p2), some (zi s5.1), some (zi v6), some (zi q15.1), some (zi 0)]) C dX12_ran_111 (by rw [hn]; decide) rfl ?_
            refine r_lp (S := Int × Mem) (R := Mem) (pcX := 158) (AL := fun s16 => [some (zr 132), some (zi p1), some (zi p2), some (zi s5.1), some (zi v6), some (zi q15.1), some (zi s16.1)]) (MM := fun s16 => s16.2) (AX := fun q21 => [some (zr 132), some (zi p1), some (zi p2), some (zi s5.1), none, none, none]) (MX := fun q21 => q21) ?_ ?_ (0, q15.2)
            · intro q21
              refine r_iinc (al' := [some (zr 132), some (zi p1), some (zi p2), some (zi (w32 (s5.1 + 1))), none, none, none]) C dX12_ran_158 rfl (by rw [hn]; decide) rfl ?_
              refine r_goto (tgt := 33) C dX12_ran_161 (by decide) ?_
              exact hCs5 (w32 (s5.1 + 1), q21)
            · intro gs16 hCs16 hXs16 s16
              unfold fX12_ran_b2
              refine r_iload C dX12_ran_113 rfl ?_
              refine r_aload_n C dX12_ran_115 rfl rfl ?_
              refine r_iload C dX12_ran_116 rfl ?_
              refine q_callVi (av := [zi v6]) (rest := [zi s16.1]) C (tX12_widthOf v6 s16.2) lkX12_473 kd_132 rfl rfl rfl (Nat.le_of_ble_eq_true rfl) ⟨by decide, by decide⟩ dX12_ran_118 (fun q17 _ => ?_)
              refine q_icmp_ge (tgt := 158) C dX12_ran_121 (by decide) (fun _ => ?_) (fun _ => ?_)
              · refine r_less [true, true, true, true, false, false, false] rfl ?_
                exact hXs16 q17.2
              · refine r_aload_n C dX12_ran_124 rfl rfl ?_
                refine r_getp C clX12 kd_132 (k := 51) (by decide) flX12_223 dX12_ran_125 pt_132_51 ?_
                refine r_sipush C dX12_ran_128 (by decide) ?_
                refine r_aload_n C dX12_ran_131 rfl rfl ?_
                refine r_iload C dX12_ran_132 rfl ?_
                refine q_callVi (av := [zi v6]) (rest := [zi 128, zr 170]) C (tX12_fileOf v6 q17.2) lkX12_502 kd_132 rfl rfl rfl (Nat.le_of_ble_eq_true rfl) ⟨by decide, by decide⟩ dX12_ran_134 (fun q18 _ => ?_)
                refine r_imul C dX12_ran_137 ?_
                refine r_aload_n C dX12_ran_138 rfl rfl ?_
                refine r_getp C clX12 kd_132 (k := 44) (by decide) flX12_208 dX12_ran_139 pt_132_44 ?_
                refine r_iload C dX12_ran_142 rfl ?_
                refine r_iaload C dX12_ran_144 (fun v19 _ => ?_)
                refine r_iadd C dX12_ran_145 ?_
                refine r_iload C dX12_ran_146 rfl ?_
                refine r_iadd C dX12_ran_148 ?_
                refine r_iload C dX12_ran_149 rfl ?_
                refine r_iastore C dX12_ran_151 (fun M20 _ => ?_)
                refine r_iinc (al' := [some (zr 132), some (zi p1), some (zi p2), some (zi s5.1), some (zi v6), some (zi q15.1), some (zi (w32 (s16.1 + 1)))]) C dX12_ran_152 rfl (by rw [hn]; decide) rfl ?_
                refine r_goto (tgt := 113) C dX12_ran_155 (by decide) ?_
                exact hCs16 (w32 (s16.1 + 1), M20)
          · intro hJq15
            refine q_if_ne (tgt := 77) C dX12_ran_55 (by decide) (fun _ => ?_) (fun _ => ?_)
            · refine r_aload_n C dX12_ran_77 rfl rfl ?_
              refine r_aload_n C dX12_ran_78 rfl rfl ?_
              refine r_iload C dX12_ran_79 rfl ?_
              refine q_callVi (av := [zi v6]) (rest := [zr 132]) C (tX12_howOf v6 q7.2) lkX12_391 kd_132 rfl rfl rfl (Nat.le_of_ble_eq_true rfl) ⟨by decide, by decide⟩ dX12_ran_81 (fun q8 _ => ?_)
              refine r_aload_n C dX12_ran_84 rfl rfl ?_
              refine r_iload C dX12_ran_85 rfl ?_
              refine r_iconst C dX12_ran_87 (by decide) ?_
              refine q_callVi (av := [zi v6, zi 0]) (rest := [zi q8.1, zr 132]) C (tX12_argRun v6 0 q8.2) lkX12_542 kd_132 rfl rfl rfl (Nat.le_of_ble_eq_true rfl) ⟨by decide, by decide⟩ dX12_ran_88 (fun q9 _ => ?_)
              refine r_aload_n C dX12_ran_91 rfl rfl ?_
              refine r_iload C dX12_ran_92 rfl ?_
              refine r_iconst C dX12_ran_94 (by decide) ?_
              refine q_callVi (av := [zi v6, zi 1]) (rest := [zi q9.1, zi q8.1, zr 132]) C (tX12_argRun v6 1 q9.2) lkX12_542 kd_132 rfl rfl rfl (Nat.le_of_ble_eq_true rfl) ⟨by decide, by decide⟩ dX12_ran_95 (fun q10 _ => ?_)
              refine r_aload_n C dX12_ran_98 rfl rfl ?_
              refine r_iload C dX12_ran_99 rfl ?_
              refine r_iconst C dX12_ran_101 (by decide) ?_
              refine q_callVi (av := [zi v6, zi 2]) (rest := [zi q10.1, zi q9.1, zi q8.1, zr 132]) C (tX12_argRun v6 2 q10.2) lkX12_542 kd_132 rfl rfl rfl (Nat.le_of_ble_eq_true rfl) ⟨by decide, by decide⟩ dX12_ran_102 (fun q11 _ => ?_)
              refine q_callVi (av := [zi q8.1, zi q9.1, zi q10.1, zi q11.1]) (rest := []) C (tX12_worked q8.1 q9.1 q10.1 q11.1 q11.2) lkX12_397 kd_132 rfl rfl rfl (Nat.le_of_ble_eq_true rfl) ⟨by decide, by decide⟩ dX12_ran_105 (fun q12 _ => ?_)
              exact hJq15 (q12.1, q12.2)
            · refine r_aload_n C dX12_ran_58 rfl rfl ?_
              refine r_getp C clX12 kd_132 (k := 26) (by decide) flX12_165 dX12_ran_59 pt_132_26 ?_
              refine r_iconst C dX12_ran_62 (by decide) ?_
              refine r_aload_n C dX12_ran_63 rfl rfl ?_
              refine r_iload C dX12_ran_64 rfl ?_
              refine r_iconst C dX12_ran_66 (by decide) ?_
              refine q_callVi (av := [zi v6, zi 0]) (rest := [zi 4, zr 151]) C (tX12_argOf v6 0 q7.2) lkX12_388 kd_132 rfl rfl rfl (Nat.le_of_ble_eq_true rfl) ⟨by decide, by decide⟩ dX12_ran_67 (fun q13 _ => ?_)
              refine r_imul C dX12_ran_70 ?_
              refine r_iload_n C dX12_ran_71 rfl rfl ?_
              refine r_iadd C dX12_ran_72 ?_
              refine r_iaload C dX12_ran_73 (fun v14 _ => ?_)
              refine r_goto (tgt := 108) C dX12_ran_74 (by decide) ?_
              exact hJq15 (v14, q13.2)
    · refine r_iconst C dX12_ran_25 (by decide) ?_
      exact r_ireturn C dX12_ran_26 rfl
  · intro hJq2
    refine q_if_eq (tgt := 14) C dX12_ran_7 (by decide) (fun _ => ?_) (fun _ => ?_)
    · refine r_iconst C dX12_ran_14 (by decide) ?_
      exact hJq2 1
    · refine r_iconst C dX12_ran_10 (by decide) ?_
      refine r_goto (tgt := 15) C dX12_ran_11 (by decide) ?_
      exact hJq2 0
set_option maxRecDepth 100000 in
set_option maxHeartbeats 4000000 in
theorem tX12_livesIn (p1 : Int) (p2 : Int) (M : Mem) : Cn yX12_livesIn cX12_livesIn 8 (some .int) 2 42 [zr 132, zi p1, zi p2] M ((fX12_livesIn p1 p2 M).map oI) := by
  refine Cn_mk (own := RX12) rfl (by decide) (Nat.le_of_ble_eq_true rfl) [some (zr 132), some (zi p1), some (zi p2), none, none, none, none, none] rfl (fun G C hn => ?_)
  unfold fX12_livesIn
  refine r_lconst C dX12_livesIn_0 rfl ?_
  refine r_lstore_n (al' := [some (zr 132), some (zi p1), some (zi p2), some (zl 0), none, none, none, none]) C dX12_livesIn_1 rfl (by rw [hn]; decide) rfl ?_
  refine r_iconst C dX12_livesIn_2 (by decide) ?_
  refine r_istore (al' := [some (zr 132), some (zi p1), some (zi p2), some (zl 0), none, some (zi 0), none, none]) C dX12_livesIn_3 (by rw [hn]; decide) rfl ?_
  refine r_lp (S := Int × Int) (R := Int) (pcX := 43) (AL := fun s1 => [some (zr 132), some (zi p1), some (zi p2), some (zl s1.1), none, some (zi s1.2), none, none]) (MM := fun s1 => M) (AX := fun q5 => [some (zr 132), none, some (zi p2), some (zl q5), none, none, none, none]) (MX := fun q5 => M) ?_ ?_ (0, 0)
  · intro q5
    refine r_iconst C dX12_livesIn_43 (by decide) ?_
    refine r_istore (al' := [some (zr 132), none, some (zi p2), some (zl q5), none, some (zi 0), none, none]) C dX12_livesIn_44 (by rw [hn]; decide) rfl ?_
    refine r_iconst C dX12_livesIn_46 (by decide) ?_
    refine r_istore (al' := [some (zr 132), none, some (zi p2), some (zl q5), none, some (zi 0), some (zi 0), none]) C dX12_livesIn_47 (by rw [hn]; decide) rfl ?_
    refine r_lp (S := Int × Int × Mem) (R := Int × Mem) (pcX := 124) (AL := fun s6 => [some (zr 132), none, some (zi p2), some (zl q5), none, some (zi s6.1), some (zi s6.2.1), none]) (MM := fun s6 => s6.2.2) (AX := fun q15 => [none, none, none, none, none, some (zi q15.1), none, none]) (MX := fun q15 => q15.2) ?_ ?_ (0, 0, M)
    · intro q15
      refine r_iload C dX12_livesIn_124 rfl ?_
      exact r_ireturn C dX12_livesIn_126 rfl
    · intro gs6 hCs6 hXs6 s6
      unfold fX12_livesIn_b2
      refine r_iload C dX12_livesIn_49 rfl ?_
      refine r_iload_n C dX12_livesIn_51 rfl rfl ?_
      refine q_icmp_ge (tgt := 124) C dX12_livesIn_52 (by decide) (fun _ => ?_) (fun _ => ?_)
      · refine r_less [false, false, false, false, false, true, false, false] rfl ?_
        exact hXs6 (s6.1, s6.2.2)
      · refine r_aload_n C dX12_livesIn_55 rfl rfl ?_
        refine r_getp C clX12 kd_132 (k := 52) (by decide) flX12_226 dX12_livesIn_56 pt_132_52 ?_
        refine r_iload C dX12_livesIn_59 rfl ?_
        refine r_iaload C dX12_livesIn_61 (fun v7 _ => ?_)
        refine r_istore (al' := [some (zr 132), none, some (zi p2), some (zl q5), none, some (zi s6.1), some (zi s6.2.1), some (zi v7)]) C dX12_livesIn_62 (by rw [hn]; decide) rfl ?_
        refine r_iload C dX12_livesIn_64 rfl ?_
        refine r_lload_n C dX12_livesIn_66 rfl rfl ?_
        refine r_iload C dX12_livesIn_67 rfl ?_
        refine q_callSi (av := [zl q5, zi v7]) (rest := [zi s6.1]) C (tX12_has q5 v7 s6.2.2) lkX12_449 rfl rfl (Nat.le_of_ble_eq_true rfl) ⟨by decide, by decide⟩ dX12_livesIn_69 (fun q8 _ => ?_)
        refine r_join (γ := Int × Mem) (pcJ := fun _ => 115) (al' := fun q13 => [some (zr 132), none, some (zi p2), some (zl q5), none, none, some (zi s6.2.1), none]) (st' := fun q13 => [zi q13.1, zi s6.1]) (M' := fun q13 => q13.2) ?_ ?_
        · intro q13
          refine r_iadd C dX12_livesIn_115 ?_
          refine r_let (fun v14 _ => ?_)
          refine r_istore (al' := [some (zr 132), none, some (zi p2), some (zl q5), none, some (zi v14), some (zi s6.2.1), none]) C dX12_livesIn_116 (by rw [hn]; decide) rfl ?_
          refine r_iinc (al' := [some (zr 132), none, some (zi p2), some (zl q5), none, some (zi v14), some (zi (w32 (s6.2.1 + 1))), none]) C dX12_livesIn_118 rfl (by rw [hn]; decide) rfl ?_
          refine r_goto (tgt := 49) C dX12_livesIn_121 (by decide) ?_
          exact hCs6 (v14, w32 (s6.2.1 + 1), q13.2)
        · intro hJq13
          refine q_if_eq (tgt := 114) C dX12_livesIn_72 (by decide) (fun _ => ?_) (fun _ => ?_)
          · refine r_iconst C dX12_livesIn_114 (by decide) ?_
            refine r_less [true, false, true, true, false, false, true, false] rfl ?_
            exact hJq13 (0, q8.2)
          · refine r_aload_n C dX12_livesIn_75 rfl rfl ?_
            refine q_getl C clX12 kd_132 (k := 39) (by decide) flX12_460 dX12_livesIn_76 (kz := 39) rfl rfl ?_
            refine r_iload C dX12_livesIn_79 rfl ?_
            refine q_callSi (av := [zl (q8.2 132 39), zi v7]) (rest := [zi s6.1]) C (tX12_has (q8.2 132 39) v7 q8.2) lkX12_449 rfl rfl (Nat.le_of_ble_eq_true rfl) ⟨by decide, by decide⟩ dX12_livesIn_81 (fun q9 _ => ?_)
            refine q_if_ne (tgt := 105) C dX12_livesIn_84 (by decide) (fun _ => ?_) (fun _ => ?_)
            · refine r_aload_n C dX12_livesIn_105 rfl rfl ?_
              refine r_iload C dX12_livesIn_106 rfl ?_
              refine q_callVi (av := [zi v7]) (rest := [zi s6.1]) C (tX12_widthOf v7 q9.2) lkX12_473 kd_132 rfl rfl rfl (Nat.le_of_ble_eq_true rfl) ⟨by decide, by decide⟩ dX12_livesIn_108 (fun q10 _ => ?_)
              refine r_goto (tgt := 115) C dX12_livesIn_111 (by decide) ?_
              refine r_less [true, false, true, true, false, false, true, false] rfl ?_
              exact hJq13 (q10.1, q10.2)
            · refine r_aload_n C dX12_livesIn_87 rfl rfl ?_
              refine r_getp C clX12 kd_132 (k := 36) (by decide) flX12_193 dX12_livesIn_88 pt_132_36 ?_
              refine r_iload C dX12_livesIn_91 rfl ?_
              refine r_laload C dX12_livesIn_93 (fun v11 _ => ?_)
              refine r_lload_n C dX12_livesIn_94 rfl rfl ?_
              refine r_ldc2 C klX12_483 rfl dX12_livesIn_95 ?_
              refine r_lxor C dX12_livesIn_98 ?_
              refine r_land C dX12_livesIn_99 ?_
              refine r_lconst C dX12_livesIn_100 rfl ?_
              refine r_lcmp C dX12_livesIn_101 ?_
              refine q_if_eq (tgt := 114) C dX12_livesIn_102 (by decide) (fun _ => ?_) (fun _ => ?_)
              · refine r_iconst C dX12_livesIn_114 (by decide) ?_
                refine r_less [true, false, true, true, false, false, true, false] rfl ?_
                exact hJq13 (0, q9.2)
              · refine r_aload_n C dX12_livesIn_105 rfl rfl ?_
                refine r_iload C dX12_livesIn_106 rfl ?_
                refine q_callVi (av := [zi v7]) (rest := [zi s6.1]) C (tX12_widthOf v7 q9.2) lkX12_473 kd_132 rfl rfl rfl (Nat.le_of_ble_eq_true rfl) ⟨by decide, by decide⟩ dX12_livesIn_108 (fun q12 _ => ?_)
                refine r_goto (tgt := 115) C dX12_livesIn_111 (by decide) ?_
                refine r_less [true, false, true, true, false, false, true, false] rfl ?_
                exact hJq13 (q12.1, q12.2)
  · intro gs1 hCs1 hXs1 s1
    unfold fX12_livesIn_b1
    refine r_iload C dX12_livesIn_5 rfl ?_
    refine r_iload_n C dX12_livesIn_7 rfl rfl ?_
    refine q_icmp_ge (tgt := 43) C dX12_livesIn_8 (by decide) (fun _ => ?_) (fun _ => ?_)
    · refine r_less [true, false, true, true, false, false, false, false] rfl ?_
      exact hXs1 s1.1
    · refine r_lload_n C dX12_livesIn_11 rfl rfl ?_
      refine r_iload_n C dX12_livesIn_12 rfl rfl ?_
      refine r_iload C dX12_livesIn_13 rfl ?_
      refine r_ishr C dX12_livesIn_15 ?_
      refine r_iconst C dX12_livesIn_16 (by decide) ?_
      refine r_iand C dX12_livesIn_17 ?_
      refine r_iconst C dX12_livesIn_18 (by decide) ?_
      refine r_join (γ := Int) (pcJ := fun _ => 35) (al' := fun q3 => [some (zr 132), some (zi p1), some (zi p2), none, none, some (zi s1.2), none, none]) (st' := fun q3 => [zl q3, zl s1.1]) (M' := fun q3 => M) ?_ ?_
      · intro q3
        refine r_lor C dX12_livesIn_35 ?_
        refine r_letl (fun v4 _ => ?_)
        refine r_lstore_n (al' := [some (zr 132), some (zi p1), some (zi p2), some (zl v4), none, some (zi s1.2), none, none]) C dX12_livesIn_36 rfl (by rw [hn]; decide) rfl ?_
        refine r_iinc (al' := [some (zr 132), some (zi p1), some (zi p2), some (zl v4), none, some (zi (w32 (s1.2 + 1))), none, none]) C dX12_livesIn_37 rfl (by rw [hn]; decide) rfl ?_
        refine r_goto (tgt := 5) C dX12_livesIn_40 (by decide) ?_
        exact hCs1 (v4, w32 (s1.2 + 1))
      · intro hJq3
        refine q_icmp_ne (tgt := 34) C dX12_livesIn_19 (by decide) (fun _ => ?_) (fun _ => ?_)
        · refine r_lconst C dX12_livesIn_34 rfl ?_
          refine r_less [true, true, true, false, false, true, false, false] rfl ?_
          exact hJq3 0
        · refine r_lconst C dX12_livesIn_22 rfl ?_
          refine r_aload_n C dX12_livesIn_23 rfl rfl ?_
          refine r_getp C clX12 kd_132 (k := 52) (by decide) flX12_226 dX12_livesIn_24 pt_132_52 ?_
          refine r_iload C dX12_livesIn_27 rfl ?_
          refine r_iaload C dX12_livesIn_29 (fun v2 _ => ?_)
          refine r_lshl C dX12_livesIn_30 ?_
          refine r_goto (tgt := 35) C dX12_livesIn_31 (by decide) ?_
          refine r_less [true, true, true, false, false, true, false, false] rfl ?_
          exact hJq3 (lshl 1 v2)
set_option maxRecDepth 100000 in
set_option maxHeartbeats 4000000 in
theorem tX12_comesBehind (p1 : Int) (p2 : Int) (p3 : Int) (M : Mem) : Cn yX12_comesBehind cX12_comesBehind 7 (some .boolean) 0 0 [zr 132, zi p1, zi p2, zi p3] M ((fX12_comesBehind p1 p2 p3 M).map oI) := by
  refine Cn_mk (own := RX12) rfl (by decide) (Nat.le_of_ble_eq_true rfl) [some (zr 132), some (zi p1), some (zi p2), some (zi p3), none, none, none] rfl (fun G C hn => ?_)
  unfold fX12_comesBehind
  refine r_lconst C dX12_comesBehind_0 rfl ?_
  refine r_lstore (al' := [some (zr 132), some (zi p1), some (zi p2), some (zi p3), some (zl 0), none, none]) C dX12_comesBehind_1 (by rw [hn]; decide) rfl ?_
  refine r_iconst C dX12_comesBehind_3 (by decide) ?_
  refine r_istore (al' := [some (zr 132), some (zi p1), some (zi p2), some (zi p3), some (zl 0), none, some (zi 0)]) C dX12_comesBehind_4 (by rw [hn]; decide) rfl ?_
  refine r_lp (S := Int × Int) (R := Int) (pcX := 46) (AL := fun s1 => [some (zr 132), some (zi p1), some (zi p2), some (zi p3), some (zl s1.1), none, some (zi s1.2)]) (MM := fun s1 => M) (AX := fun q5 => [some (zr 132), none, some (zi p2), none, some (zl q5), none, none]) (MX := fun q5 => M) ?_ ?_ (0, 0)
  · intro q5
    refine r_aload_n C dX12_comesBehind_46 rfl rfl ?_
    refine r_getp C clX12 kd_132 (k := 35) (by decide) flX12_190 dX12_comesBehind_47 pt_132_35 ?_
    refine r_aload_n C dX12_comesBehind_50 rfl rfl ?_
    refine r_getp C clX12 kd_132 (k := 52) (by decide) flX12_226 dX12_comesBehind_51 pt_132_52 ?_
    refine r_iload_n C dX12_comesBehind_54 rfl rfl ?_
    refine r_iaload C dX12_comesBehind_55 (fun v6 _ => ?_)
    refine r_laload C dX12_comesBehind_56 (fun v7 _ => ?_)
    refine r_lload C dX12_comesBehind_57 rfl ?_
    refine r_ldc2 C klX12_483 rfl dX12_comesBehind_59 ?_
    refine r_lxor C dX12_comesBehind_62 ?_
    refine r_land C dX12_comesBehind_63 ?_
    refine r_lconst C dX12_comesBehind_64 rfl ?_
    refine r_lcmp C dX12_comesBehind_65 ?_
    refine r_join (γ := Int) (pcJ := fun _ => 74) (al' := fun q8 => [none, none, none, none, none, none, none]) (st' := fun q8 => [zi q8]) (M' := fun q8 => M) ?_ ?_
    · intro q8
      exact r_zreturn C dX12_comesBehind_74 rfl
    · intro hJq8
      refine q_if_ne (tgt := 73) C dX12_comesBehind_66 (by decide) (fun _ => ?_) (fun _ => ?_)
      · refine r_iconst C dX12_comesBehind_73 (by decide) ?_
        refine r_less [false, false, false, false, false, false, false] rfl ?_
        exact hJq8 0
      · refine r_iconst C dX12_comesBehind_69 (by decide) ?_
        refine r_goto (tgt := 74) C dX12_comesBehind_70 (by decide) ?_
        refine r_less [false, false, false, false, false, false, false] rfl ?_
        exact hJq8 1
  · intro gs1 hCs1 hXs1 s1
    unfold fX12_comesBehind_b1
    refine r_iload C dX12_comesBehind_6 rfl ?_
    refine r_iload_n C dX12_comesBehind_8 rfl rfl ?_
    refine q_icmp_ge (tgt := 46) C dX12_comesBehind_9 (by decide) (fun _ => ?_) (fun _ => ?_)
    · refine r_less [true, false, true, false, true, false, false] rfl ?_
      exact hXs1 s1.1
    · refine r_lload C dX12_comesBehind_12 rfl ?_
      refine r_iload_n C dX12_comesBehind_14 rfl rfl ?_
      refine r_iload C dX12_comesBehind_15 rfl ?_
      refine r_ishr C dX12_comesBehind_17 ?_
      refine r_iconst C dX12_comesBehind_18 (by decide) ?_
      refine r_iand C dX12_comesBehind_19 ?_
      refine r_iconst C dX12_comesBehind_20 (by decide) ?_
      refine r_join (γ := Int) (pcJ := fun _ => 37) (al' := fun q3 => [some (zr 132), some (zi p1), some (zi p2), some (zi p3), none, none, some (zi s1.2)]) (st' := fun q3 => [zl q3, zl s1.1]) (M' := fun q3 => M) ?_ ?_
      · intro q3
        refine r_lor C dX12_comesBehind_37 ?_
        refine r_letl (fun v4 _ => ?_)
        refine r_lstore (al' := [some (zr 132), some (zi p1), some (zi p2), some (zi p3), some (zl v4), none, some (zi s1.2)]) C dX12_comesBehind_38 (by rw [hn]; decide) rfl ?_
        refine r_iinc (al' := [some (zr 132), some (zi p1), some (zi p2), some (zi p3), some (zl v4), none, some (zi (w32 (s1.2 + 1)))]) C dX12_comesBehind_40 rfl (by rw [hn]; decide) rfl ?_
        refine r_goto (tgt := 6) C dX12_comesBehind_43 (by decide) ?_
        exact hCs1 (v4, w32 (s1.2 + 1))
      · intro hJq3
        refine q_icmp_ne (tgt := 36) C dX12_comesBehind_21 (by decide) (fun _ => ?_) (fun _ => ?_)
        · refine r_lconst C dX12_comesBehind_36 rfl ?_
          refine r_less [true, true, true, true, false, false, true] rfl ?_
          exact hJq3 0
        · refine r_lconst C dX12_comesBehind_24 rfl ?_
          refine r_aload_n C dX12_comesBehind_25 rfl rfl ?_
          refine r_getp C clX12 kd_132 (k := 52) (by decide) flX12_226 dX12_comesBehind_26 pt_132_52 ?_
          refine r_iload C dX12_comesBehind_29 rfl ?_
          refine r_iaload C dX12_comesBehind_31 (fun v2 _ => ?_)
          refine r_lshl C dX12_comesBehind_32 ?_
          refine r_goto (tgt := 37) C dX12_comesBehind_33 (by decide) ?_
          refine r_less [true, true, true, true, false, false, true] rfl ?_
          exact hJq3 (lshl 1 v2)
set_option maxRecDepth 100000 in
set_option maxHeartbeats 4000000 in
theorem tX12_canBe (p1 : Int) (p2 : Int) (M : Mem) : Cn yX12_canBe cX12_canBe 6 (some .boolean) 3 69 [zr 132, zi p1, zi p2] M ((fX12_canBe p1 p2 M).map oI) := by
  refine Cn_mk (own := RX12) rfl (by decide) (Nat.le_of_ble_eq_true rfl) [some (zr 132), some (zi p1), some (zi p2), none, none, none] rfl (fun G C hn => ?_)
  unfold fX12_canBe
  refine r_aload_n C dX12_canBe_0 rfl rfl ?_
  refine r_getp C clX12 kd_132 (k := 53) (by decide) flX12_229 dX12_canBe_1 pt_132_53 ?_
  refine r_iconst C dX12_canBe_4 (by decide) ?_
  refine r_iconst C dX12_canBe_5 (by decide) ?_
  refine r_zastore C dX12_canBe_6 (fun M1 _ => ?_)
  refine r_iconst C dX12_canBe_7 (by decide) ?_
  refine r_istore_n (al' := [some (zr 132), some (zi p1), some (zi p2), some (zi 1), none, none]) C dX12_canBe_8 rfl (by rw [hn]; decide) rfl ?_
  refine r_lp (S := Int × Mem) (R := Mem) (pcX := 126) (AL := fun s2 => [some (zr 132), some (zi p1), some (zi p2), some (zi s2.1), none, none]) (MM := fun s2 => s2.2) (AX := fun q13 => [some (zr 132), none, some (zi p2), none, none, none]) (MX := fun q13 => q13) ?_ ?_ (1, M1)
  · intro q13
    refine r_aload_n C dX12_canBe_126 rfl rfl ?_
    refine r_getp C clX12 kd_132 (k := 53) (by decide) flX12_229 dX12_canBe_127 pt_132_53 ?_
    refine r_iconst C dX12_canBe_130 (by decide) ?_
    refine r_iload_n C dX12_canBe_131 rfl rfl ?_
    refine r_ishl C dX12_canBe_132 ?_
    refine r_iconst C dX12_canBe_133 (by decide) ?_
    refine r_isub C dX12_canBe_134 ?_
    refine r_zaload C dX12_canBe_135 (fun v14 _ => ?_)
    exact r_zreturn C dX12_canBe_136 rfl
  · intro gs2 hCs2 hXs2 s2
    unfold fX12_canBe_b1
    refine r_iload_n C dX12_canBe_9 rfl rfl ?_
    refine r_iconst C dX12_canBe_10 (by decide) ?_
    refine r_iload_n C dX12_canBe_11 rfl rfl ?_
    refine r_ishl C dX12_canBe_12 ?_
    refine q_icmp_ge (tgt := 126) C dX12_canBe_13 (by decide) (fun _ => ?_) (fun _ => ?_)
    · refine r_less [true, false, true, false, false, false] rfl ?_
      exact hXs2 s2.2
    · refine r_aload_n C dX12_canBe_16 rfl rfl ?_
      refine r_getp C clX12 kd_132 (k := 53) (by decide) flX12_229 dX12_canBe_17 pt_132_53 ?_
      refine r_iload_n C dX12_canBe_20 rfl rfl ?_
      refine r_iconst C dX12_canBe_21 (by decide) ?_
      refine r_zastore C dX12_canBe_22 (fun M3 _ => ?_)
      refine r_iconst C dX12_canBe_23 (by decide) ?_
      refine r_istore (al' := [some (zr 132), some (zi p1), some (zi p2), some (zi s2.1), some (zi 0), none]) C dX12_canBe_24 (by rw [hn]; decide) rfl ?_
      refine r_lp (S := Int × Mem) (R := Mem) (pcX := 120) (AL := fun s4 => [some (zr 132), some (zi p1), some (zi p2), some (zi s2.1), some (zi s4.1), none]) (MM := fun s4 => s4.2) (AX := fun q12 => [some (zr 132), some (zi p1), some (zi p2), some (zi s2.1), none, none]) (MX := fun q12 => q12) ?_ ?_ (0, M3)
      · intro q12
        refine r_iinc (al' := [some (zr 132), some (zi p1), some (zi p2), some (zi (w32 (s2.1 + 1))), none, none]) C dX12_canBe_120 rfl (by rw [hn]; decide) rfl ?_
        refine r_goto (tgt := 9) C dX12_canBe_123 (by decide) ?_
        exact hCs2 (w32 (s2.1 + 1), q12)
      · intro gs4 hCs4 hXs4 s4
        unfold fX12_canBe_b2
        refine r_iload C dX12_canBe_26 rfl ?_
        refine r_iload_n C dX12_canBe_28 rfl rfl ?_
        refine q_icmp_ge (tgt := 120) C dX12_canBe_29 (by decide) (fun _ => ?_) (fun _ => ?_)
        · refine r_less [true, true, true, true, false, false] rfl ?_
          exact hXs4 s4.2
        · refine r_aload_n C dX12_canBe_32 rfl rfl ?_
          refine r_getp C clX12 kd_132 (k := 53) (by decide) flX12_229 dX12_canBe_33 pt_132_53 ?_
          refine r_iload_n C dX12_canBe_36 rfl rfl ?_
          refine r_zaload C dX12_canBe_37 (fun v5 _ => ?_)
          refine q_if_ne (tgt := 120) C dX12_canBe_38 (by decide) (fun _ => ?_) (fun _ => ?_)
          · refine r_less [true, true, true, true, false, false] rfl ?_
            exact hXs4 s4.2
          · refine r_iload_n C dX12_canBe_41 rfl rfl ?_
            refine r_iload C dX12_canBe_42 rfl ?_
            refine r_ishr C dX12_canBe_44 ?_
            refine r_iconst C dX12_canBe_45 (by decide) ?_
            refine r_iand C dX12_canBe_46 ?_
            refine r_iconst C dX12_canBe_47 (by decide) ?_
            refine r_join (γ := Int) (pcJ := fun _ => 70) (al' := fun q7 => [some (zr 132), some (zi p1), some (zi p2), some (zi s2.1), some (zi s4.1), none]) (st' := fun q7 => [zi q7]) (M' := fun q7 => s4.2) ?_ ?_
            · intro q7
              refine r_istore (al' := [some (zr 132), some (zi p1), some (zi p2), some (zi s2.1), some (zi s4.1), some (zi q7)]) C dX12_canBe_70 (by rw [hn]; decide) rfl ?_
              refine r_aload_n C dX12_canBe_72 rfl rfl ?_
              refine r_getp C clX12 kd_132 (k := 53) (by decide) flX12_229 dX12_canBe_73 pt_132_53 ?_
              refine r_iload_n C dX12_canBe_76 rfl rfl ?_
              refine r_iload C dX12_canBe_77 rfl ?_
              refine r_join (γ := Int × Mem) (pcJ := fun _ => 113) (al' := fun q10 => [some (zr 132), some (zi p1), some (zi p2), some (zi s2.1), some (zi s4.1), none]) (st' := fun q10 => [zi q10.1, zi s2.1, zr 172]) (M' := fun q10 => q10.2) ?_ ?_
              · intro q10
                refine r_zastore C dX12_canBe_113 (fun M11 _ => ?_)
                refine r_iinc (al' := [some (zr 132), some (zi p1), some (zi p2), some (zi s2.1), some (zi (w32 (s4.1 + 1))), none]) C dX12_canBe_114 rfl (by rw [hn]; decide) rfl ?_
                refine r_goto (tgt := 26) C dX12_canBe_117 (by decide) ?_
                exact hCs4 (w32 (s4.1 + 1), M11)
              · intro hJq10
                refine q_if_eq (tgt := 112) C dX12_canBe_79 (by decide) (fun _ => ?_) (fun _ => ?_)
                · refine r_iconst C dX12_canBe_112 (by decide) ?_
                  refine r_less [true, true, true, true, true, false] rfl ?_
                  exact hJq10 (0, s4.2)
                · refine r_aload_n C dX12_canBe_82 rfl rfl ?_
                  refine r_iload_n C dX12_canBe_83 rfl rfl ?_
                  refine r_iconst C dX12_canBe_84 (by decide) ?_
                  refine r_iload C dX12_canBe_85 rfl ?_
                  refine r_ishl C dX12_canBe_87 ?_
                  refine r_isub C dX12_canBe_88 ?_
                  refine r_iload C dX12_canBe_89 rfl ?_
                  refine r_iload_n C dX12_canBe_91 rfl rfl ?_
                  refine q_callVi (av := [zi (w32 (s2.1 - (ishl 1 s4.1))), zi s4.1, zi p2]) (rest := [zi s2.1, zr 172]) C (tX12_comesBehind (w32 (s2.1 - (ishl 1 s4.1))) s4.1 p2 s4.2) lkX12_545 kd_132 rfl rfl rfl (Nat.le_of_ble_eq_true rfl) ⟨by decide, by decide⟩ dX12_canBe_92 (fun q8 _ => ?_)
                  refine q_if_eq (tgt := 112) C dX12_canBe_95 (by decide) (fun _ => ?_) (fun _ => ?_)
                  · refine r_iconst C dX12_canBe_112 (by decide) ?_
                    refine r_less [true, true, true, true, true, false] rfl ?_
                    exact hJq10 (0, q8.2)
                  · refine r_aload_n C dX12_canBe_98 rfl rfl ?_
                    refine r_iload_n C dX12_canBe_99 rfl rfl ?_
                    refine r_iload_n C dX12_canBe_100 rfl rfl ?_
                    refine q_callVi (av := [zi s2.1, zi p2]) (rest := [zi s2.1, zr 172]) C (tX12_livesIn s2.1 p2 q8.2) lkX12_548 kd_132 rfl rfl rfl (Nat.le_of_ble_eq_true rfl) ⟨by decide, by decide⟩ dX12_canBe_101 (fun q9 _ => ?_)
                    refine r_iload_n C dX12_canBe_104 rfl rfl ?_
                    refine q_icmp_gt (tgt := 112) C dX12_canBe_105 (by decide) (fun _ => ?_) (fun _ => ?_)
                    · refine r_iconst C dX12_canBe_112 (by decide) ?_
                      refine r_less [true, true, true, true, true, false] rfl ?_
                      exact hJq10 (0, q9.2)
                    · refine r_iconst C dX12_canBe_108 (by decide) ?_
                      refine r_goto (tgt := 113) C dX12_canBe_109 (by decide) ?_
                      refine r_less [true, true, true, true, true, false] rfl ?_
                      exact hJq10 (1, q9.2)
            · intro hJq7
              refine q_icmp_ne (tgt := 69) C dX12_canBe_48 (by decide) (fun _ => ?_) (fun _ => ?_)
              · refine r_iconst C dX12_canBe_69 (by decide) ?_
                exact hJq7 0
              · refine r_aload_n C dX12_canBe_51 rfl rfl ?_
                refine r_getp C clX12 kd_132 (k := 53) (by decide) flX12_229 dX12_canBe_52 pt_132_53 ?_
                refine r_iload_n C dX12_canBe_55 rfl rfl ?_
                refine r_iconst C dX12_canBe_56 (by decide) ?_
                refine r_iload C dX12_canBe_57 rfl ?_
                refine r_ishl C dX12_canBe_59 ?_
                refine r_isub C dX12_canBe_60 ?_
                refine r_zaload C dX12_canBe_61 (fun v6 _ => ?_)
                refine q_if_eq (tgt := 69) C dX12_canBe_62 (by decide) (fun _ => ?_) (fun _ => ?_)
                · refine r_iconst C dX12_canBe_69 (by decide) ?_
                  exact hJq7 0
                · refine r_iconst C dX12_canBe_65 (by decide) ?_
                  refine r_goto (tgt := 70) C dX12_canBe_66 (by decide) ?_
                  exact hJq7 1
set_option maxRecDepth 100000 in
set_option maxHeartbeats 4000000 in
theorem tX12_best  (M : Mem) : Cn yX12_best cX12_best 4 (some .int) 6 145 [zr 132] M ((fX12_best  M).map oI) := by
  refine Cn_mk (own := RX12) rfl (by decide) (Nat.le_of_ble_eq_true rfl) [some (zr 132), none, none, none] rfl (fun G C hn => ?_)
  unfold fX12_best
  refine r_aload_n C dX12_best_0 rfl rfl ?_
  refine r_iconst C dX12_best_1 (by decide) ?_
  refine q_puti C clX12 kd_132 (k := 0) (by decide) flX12_1 rfl dX12_best_2 rfl rfl (fun M1 => ?_)
  refine r_aload_n C dX12_best_5 rfl rfl ?_
  refine q_callVv (av := []) (rest := []) C (tX12_all0  M1) lkX12_470 kd_132 rfl rfl rfl (Nat.le_of_ble_eq_true rfl) ⟨by decide, by decide⟩ dX12_best_6 (fun q2 _ => ?_)
  refine r_aload_n C dX12_best_9 rfl rfl ?_
  refine q_getl C clX12 kd_132 (k := 38) (by decide) flX12_464 dX12_best_10 (kz := 38) rfl rfl ?_
  refine q_callSi (av := [zl (q2 132 38)]) (rest := []) C (tX12_manyOf (q2 132 38) q2) lkX12_529 rfl rfl (Nat.le_of_ble_eq_true rfl) ⟨by decide, by decide⟩ dX12_best_13 (fun q3 _ => ?_)
  refine r_istore_n (al' := [some (zr 132), some (zi q3.1), none, none]) C dX12_best_16 rfl (by rw [hn]; decide) rfl ?_
  refine r_iload_n C dX12_best_17 rfl rfl ?_
  refine r_bipush C dX12_best_18 (by decide) ?_
  refine q_icmp_le (tgt := 25) C dX12_best_20 (by decide) (fun _ => ?_) (fun _ => ?_)
  · refine r_iconst C dX12_best_25 (by decide) ?_
    refine r_istore_n (al' := [some (zr 132), some (zi q3.1), some (zi 0), none]) C dX12_best_26 rfl (by rw [hn]; decide) rfl ?_
    refine r_iconst C dX12_best_27 (by decide) ?_
    refine r_istore_n (al' := [some (zr 132), some (zi q3.1), some (zi 0), some (zi 0)]) C dX12_best_28 rfl (by rw [hn]; decide) rfl ?_
    refine r_lp (S := Int × Int × Mem) (R := Mem) (pcX := 64) (AL := fun s4 => [some (zr 132), some (zi q3.1), some (zi s4.1), some (zi s4.2.1)]) (MM := fun s4 => s4.2.2) (AX := fun q9 => [some (zr 132), some (zi q3.1), none, none]) (MX := fun q9 => q9) ?_ ?_ (0, 0, q3.2)
    · intro q9
      refine r_iconst C dX12_best_64 (by decide) ?_
      refine r_istore_n (al' := [some (zr 132), some (zi q3.1), none, some (zi 0)]) C dX12_best_65 rfl (by rw [hn]; decide) rfl ?_
      refine r_lp (S := Int × Mem) (R := Int × Mem) (pcX := 85) (AL := fun s10 => [some (zr 132), some (zi q3.1), none, some (zi s10.1)]) (MM := fun s10 => s10.2) (AX := fun q12 => [none, none, none, some (zi q12.1)]) (MX := fun q12 => q12.2) ?_ ?_ (0, q9)
      · intro q12
        refine r_iload_n C dX12_best_85 rfl rfl ?_
        exact r_ireturn C dX12_best_86 rfl
      · intro gs10 hCs10 hXs10 s10
        unfold fX12_best_b2
        refine r_iload_n C dX12_best_66 rfl rfl ?_
        refine q_if_le (tgt := 85) C dX12_best_67 (by decide) (fun _ => ?_) (fun _ => ?_)
        · refine r_less [false, false, false, true] rfl ?_
          exact hXs10 (s10.1, s10.2)
        · refine r_aload_n C dX12_best_70 rfl rfl ?_
          refine r_iload_n C dX12_best_71 rfl rfl ?_
          refine r_iload_n C dX12_best_72 rfl rfl ?_
          refine q_callVi (av := [zi s10.1, zi q3.1]) (rest := []) C (tX12_canBe s10.1 q3.1 s10.2) lkX12_551 kd_132 rfl rfl rfl (Nat.le_of_ble_eq_true rfl) ⟨by decide, by decide⟩ dX12_best_73 (fun q11 _ => ?_)
          refine q_if_ne (tgt := 85) C dX12_best_76 (by decide) (fun _ => ?_) (fun _ => ?_)
          · refine r_less [false, false, false, true] rfl ?_
            exact hXs10 (s10.1, q11.2)
          · refine r_iinc (al' := [some (zr 132), some (zi q3.1), none, some (zi (w32 (s10.1 + 1)))]) C dX12_best_79 rfl (by rw [hn]; decide) rfl ?_
            refine r_goto (tgt := 66) C dX12_best_82 (by decide) ?_
            exact hCs10 (w32 (s10.1 + 1), q11.2)
    · intro gs4 hCs4 hXs4 s4
      unfold fX12_best_b1
      refine r_iload_n C dX12_best_29 rfl rfl ?_
      refine r_aload_n C dX12_best_30 rfl rfl ?_
      refine q_callVi (av := []) (rest := [zi s4.2.1]) C (tX12_values  s4.2.2) lkX12_352 kd_132 rfl rfl rfl (Nat.le_of_ble_eq_true rfl) ⟨by decide, by decide⟩ dX12_best_31 (fun q5 _ => ?_)
      refine q_icmp_ge (tgt := 64) C dX12_best_34 (by decide) (fun _ => ?_) (fun _ => ?_)
      · refine r_less [true, true, false, false] rfl ?_
        exact hXs4 q5.2
      · refine r_aload_n C dX12_best_37 rfl rfl ?_
        refine q_getl C clX12 kd_132 (k := 38) (by decide) flX12_464 dX12_best_38 (kz := 38) rfl rfl ?_
        refine r_iload_n C dX12_best_41 rfl rfl ?_
        refine q_callSi (av := [zl (q5.2 132 38), zi s4.2.1]) (rest := []) C (tX12_has (q5.2 132 38) s4.2.1 q5.2) lkX12_449 rfl rfl (Nat.le_of_ble_eq_true rfl) ⟨by decide, by decide⟩ dX12_best_42 (fun q6 _ => ?_)
        refine r_join (γ := Int × Mem) (pcJ := fun _ => 58) (al' := fun q8 => [some (zr 132), some (zi q3.1), some (zi q8.1), some (zi s4.2.1)]) (st' := fun q8 => []) (M' := fun q8 => q8.2) ?_ ?_
        · intro q8
          refine r_iinc (al' := [some (zr 132), some (zi q3.1), some (zi q8.1), some (zi (w32 (s4.2.1 + 1)))]) C dX12_best_58 rfl (by rw [hn]; decide) rfl ?_
          refine r_goto (tgt := 29) C dX12_best_61 (by decide) ?_
          exact hCs4 (q8.1, w32 (s4.2.1 + 1), q8.2)
        · intro hJq8
          refine q_if_eq (tgt := 58) C dX12_best_45 (by decide) (fun _ => ?_) (fun _ => ?_)
          · exact hJq8 (s4.1, q6.2)
          · refine r_aload_n C dX12_best_48 rfl rfl ?_
            refine r_getp C clX12 kd_132 (k := 52) (by decide) flX12_226 dX12_best_49 pt_132_52 ?_
            refine r_iload_n C dX12_best_52 rfl rfl ?_
            refine r_iload_n C dX12_best_53 rfl rfl ?_
            refine r_iastore C dX12_best_54 (fun M7 _ => ?_)
            refine r_iinc (al' := [some (zr 132), some (zi q3.1), some (zi (w32 (s4.1 + 1))), some (zi s4.2.1)]) C dX12_best_55 rfl (by rw [hn]; decide) rfl ?_
            exact hJq8 (w32 (s4.1 + 1), M7)
  · refine r_iconst C dX12_best_23 (by decide) ?_
    exact r_ireturn C dX12_best_24 rfl
set_option maxRecDepth 100000 in
set_option maxHeartbeats 4000000 in
theorem tX12_parts (p1 : Int) (M : Mem) : Cn yX12_parts cX12_parts 2 (some .int) 0 0 [zr 132, zi p1] M ((fX12_parts p1 M).map oI) := by
  refine Cn_mk (own := RX12) rfl (by decide) (Nat.le_of_ble_eq_true rfl) [some (zr 132), some (zi p1)] rfl (fun G C hn => ?_)
  unfold fX12_parts
  refine r_aload_n C dX12_parts_0 rfl rfl ?_
  refine r_iconst C dX12_parts_1 (by decide) ?_
  refine q_puti C clX12 kd_132 (k := 0) (by decide) flX12_1 rfl dX12_parts_2 rfl rfl (fun M1 => ?_)
  refine r_iload_n C dX12_parts_5 rfl rfl ?_
  refine r_join (γ := Int) (pcJ := fun _ => 33) (al' := fun q4 => [none, none]) (st' := fun q4 => [zi q4]) (M' := fun q4 => M1) ?_ ?_
  · intro q4
    exact r_ireturn C dX12_parts_33 rfl
  · intro hJq4
    refine q_if_lt (tgt := 32) C dX12_parts_6 (by decide) (fun _ => ?_) (fun _ => ?_)
    · refine r_iconst C dX12_parts_32 (by decide) ?_
      refine r_less [false, false] rfl ?_
      exact hJq4 (-1)
    · refine r_iload_n C dX12_parts_9 rfl rfl ?_
      refine r_aload_n C dX12_parts_10 rfl rfl ?_
      refine r_getp C clX12 kd_132 (k := 10) (by decide) flX12_126 dX12_parts_11 pt_132_10 ?_
      refine r_iconst C dX12_parts_14 (by decide) ?_
      refine r_iaload C dX12_parts_15 (fun v2 _ => ?_)
      refine q_icmp_ge (tgt := 32) C dX12_parts_16 (by decide) (fun _ => ?_) (fun _ => ?_)
      · refine r_iconst C dX12_parts_32 (by decide) ?_
        refine r_less [false, false] rfl ?_
        exact hJq4 (-1)
      · refine r_aload_n C dX12_parts_19 rfl rfl ?_
        refine r_getp C clX12 kd_132 (k := 10) (by decide) flX12_126 dX12_parts_20 pt_132_10 ?_
        refine r_sipush C dX12_parts_23 (by decide) ?_
        refine r_iload_n C dX12_parts_26 rfl rfl ?_
        refine r_iadd C dX12_parts_27 ?_
        refine r_iaload C dX12_parts_28 (fun v3 _ => ?_)
        refine r_goto (tgt := 33) C dX12_parts_29 (by decide) ?_
        refine r_less [false, false] rfl ?_
        exact hJq4 v3
set_option maxRecDepth 100000 in
set_option maxHeartbeats 4000000 in
theorem tX12_count (p1 : Int) (M : Mem) : Cn yX12_count cX12_count 2 (some .int) 7 165 [zr 132, zi p1] M ((fX12_count p1 M).map oI) := by
  refine Cn_mk (own := RX12) rfl (by decide) (Nat.le_of_ble_eq_true rfl) [some (zr 132), some (zi p1)] rfl (fun G C hn => ?_)
  unfold fX12_count
  refine r_aload_n C dX12_count_0 rfl rfl ?_
  refine r_iconst C dX12_count_1 (by decide) ?_
  refine q_puti C clX12 kd_132 (k := 0) (by decide) flX12_1 rfl dX12_count_2 rfl rfl (fun M1 => ?_)
  refine r_aload_n C dX12_count_5 rfl rfl ?_
  refine q_callVv (av := []) (rest := []) C (tX12_plans  M1) lkX12_526 kd_132 rfl rfl rfl (Nat.le_of_ble_eq_true rfl) ⟨by decide, by decide⟩ dX12_count_6 (fun q2 _ => ?_)
  refine r_iload_n C dX12_count_9 rfl rfl ?_
  refine r_ite (fun hx0 => ?_) (fun hx0 => ?_)
  · refine r_sw 76 ?_ (fun J => ?_)
    · refine r_aload_n C dX12_count_76 rfl rfl ?_
      refine q_callVi (av := []) (rest := []) C (tX12_values  q2) lkX12_352 kd_132 rfl rfl rfl (Nat.le_of_ble_eq_true rfl) ⟨by decide, by decide⟩ dX12_count_77 (fun q3 _ => ?_)
      exact r_ireturn C dX12_count_80 rfl
    · skip
      exact r_tabIn (n := 0) C dX12_count_10 hx0 (by decide) (by decide) rfl (by decide) J
  refine r_ite (fun hx1 => ?_) (fun hx1 => ?_)
  · refine r_sw 81 ?_ (fun J => ?_)
    · refine r_aload_n C dX12_count_81 rfl rfl ?_
      refine q_callVi (av := []) (rest := []) C (tX12_inputs  q2) lkX12_320 kd_132 rfl rfl rfl (Nat.le_of_ble_eq_true rfl) ⟨by decide, by decide⟩ dX12_count_82 (fun q4 _ => ?_)
      exact r_ireturn C dX12_count_85 rfl
    · skip
      exact r_tabIn (n := 1) C dX12_count_10 hx1 (by decide) (by decide) rfl (by decide) J
  refine r_ite (fun hx2 => ?_) (fun hx2 => ?_)
  · refine r_sw 86 ?_ (fun J => ?_)
    · refine r_aload_n C dX12_count_86 rfl rfl ?_
      refine r_getp C clX12 kd_132 (k := 10) (by decide) flX12_126 dX12_count_87 pt_132_10 ?_
      refine r_bipush C dX12_count_90 (by decide) ?_
      refine r_iaload C dX12_count_92 (fun v5 _ => ?_)
      exact r_ireturn C dX12_count_93 rfl
    · skip
      exact r_tabIn (n := 2) C dX12_count_10 hx2 (by decide) (by decide) rfl (by decide) J
  refine r_ite (fun hx3 => ?_) (fun hx3 => ?_)
  · refine r_sw 94 ?_ (fun J => ?_)
    · refine r_aload_n C dX12_count_94 rfl rfl ?_
      refine q_getl C clX12 kd_132 (k := 38) (by decide) flX12_464 dX12_count_95 (kz := 38) rfl rfl ?_
      refine q_callSi (av := [zl (q2 132 38)]) (rest := []) C (tX12_manyOf (q2 132 38) q2) lkX12_529 rfl rfl (Nat.le_of_ble_eq_true rfl) ⟨by decide, by decide⟩ dX12_count_98 (fun q6 _ => ?_)
      exact r_ireturn C dX12_count_101 rfl
    · skip
      exact r_tabIn (n := 3) C dX12_count_10 hx3 (by decide) (by decide) rfl (by decide) J
  refine r_ite (fun hx4 => ?_) (fun hx4 => ?_)
  · refine r_sw 102 ?_ (fun J => ?_)
    · refine r_aload_n C dX12_count_102 rfl rfl ?_
      refine r_iconst C dX12_count_103 (by decide) ?_
      refine q_callVi (av := [zi 1]) (rest := []) C (tX12_howMany 1 q2) lkX12_538 kd_132 rfl rfl rfl (Nat.le_of_ble_eq_true rfl) ⟨by decide, by decide⟩ dX12_count_104 (fun q7 _ => ?_)
      exact r_ireturn C dX12_count_107 rfl
    · skip
      exact r_tabIn (n := 4) C dX12_count_10 hx4 (by decide) (by decide) rfl (by decide) J
  refine r_ite (fun hx5 => ?_) (fun hx5 => ?_)
  · refine r_sw 108 ?_ (fun J => ?_)
    · refine r_aload_n C dX12_count_108 rfl rfl ?_
      refine q_geti C clX12 kd_132 (k := 48) (by decide) flX12_511 dX12_count_109 (kz := 48) rfl (by decide) ?_
      exact r_ireturn C dX12_count_112 rfl
    · skip
      exact r_tabIn (n := 5) C dX12_count_10 hx5 (by decide) (by decide) rfl (by decide) J
  refine r_ite (fun hx6 => ?_) (fun hx6 => ?_)
  · refine r_sw 113 ?_ (fun J => ?_)
    · refine r_aload_n C dX12_count_113 rfl rfl ?_
      refine q_geti C clX12 kd_132 (k := 50) (by decide) flX12_514 dX12_count_114 (kz := 50) rfl (by decide) ?_
      exact r_ireturn C dX12_count_117 rfl
    · skip
      exact r_tabIn (n := 6) C dX12_count_10 hx6 (by decide) (by decide) rfl (by decide) J
  refine r_ite (fun hx7 => ?_) (fun hx7 => ?_)
  · refine r_sw 118 ?_ (fun J => ?_)
    · refine r_aload_n C dX12_count_118 rfl rfl ?_
      refine r_getp C clX12 kd_132 (k := 10) (by decide) flX12_126 dX12_count_119 pt_132_10 ?_
      refine r_iconst C dX12_count_122 (by decide) ?_
      refine r_iaload C dX12_count_123 (fun v8 _ => ?_)
      exact r_ireturn C dX12_count_124 rfl
    · skip
      exact r_tabIn (n := 7) C dX12_count_10 hx7 (by decide) (by decide) rfl (by decide) J
  refine r_ite (fun hx8 => ?_) (fun hx8 => ?_)
  · refine r_sw 125 ?_ (fun J => ?_)
    · refine r_aload_n C dX12_count_125 rfl rfl ?_
      refine r_getp C clX12 kd_132 (k := 10) (by decide) flX12_126 dX12_count_126 pt_132_10 ?_
      refine r_iconst C dX12_count_129 (by decide) ?_
      refine r_iaload C dX12_count_130 (fun v9 _ => ?_)
      exact r_ireturn C dX12_count_131 rfl
    · skip
      exact r_tabIn (n := 8) C dX12_count_10 hx8 (by decide) (by decide) rfl (by decide) J
  refine r_ite (fun hx9 => ?_) (fun hx9 => ?_)
  · refine r_sw 132 ?_ (fun J => ?_)
    · refine r_aload_n C dX12_count_132 rfl rfl ?_
      refine q_geti C clX12 kd_132 (k := 28) (by decide) flX12_365 dX12_count_133 (kz := 28) rfl (by decide) ?_
      exact r_ireturn C dX12_count_136 rfl
    · skip
      exact r_tabIn (n := 9) C dX12_count_10 hx9 (by decide) (by decide) rfl (by decide) J
  refine r_ite (fun hx10 => ?_) (fun hx10 => ?_)
  · refine r_sw 137 ?_ (fun J => ?_)
    · refine r_aload_n C dX12_count_137 rfl rfl ?_
      refine r_getp C clX12 kd_132 (k := 10) (by decide) flX12_126 dX12_count_138 pt_132_10 ?_
      refine r_iconst C dX12_count_141 (by decide) ?_
      refine r_iaload C dX12_count_142 (fun v10 _ => ?_)
      exact r_ireturn C dX12_count_143 rfl
    · skip
      exact r_tabIn (n := 10) C dX12_count_10 hx10 (by decide) (by decide) rfl (by decide) J
  refine r_ite (fun hx11 => ?_) (fun hx11 => ?_)
  · refine r_sw 144 ?_ (fun J => ?_)
    · refine r_aload_n C dX12_count_144 rfl rfl ?_
      refine q_geti C clX12 kd_132 (k := 2) (by decide) flX12_11 dX12_count_145 (kz := 2) rfl (by decide) ?_
      exact r_ireturn C dX12_count_148 rfl
    · skip
      exact r_tabIn (n := 11) C dX12_count_10 hx11 (by decide) (by decide) rfl (by decide) J
  refine r_ite (fun hx12 => ?_) (fun hx12 => ?_)
  · refine r_sw 149 ?_ (fun J => ?_)
    · refine r_aload_n C dX12_count_149 rfl rfl ?_
      refine r_getp C clX12 kd_132 (k := 10) (by decide) flX12_126 dX12_count_150 pt_132_10 ?_
      refine r_iconst C dX12_count_153 (by decide) ?_
      refine r_iaload C dX12_count_154 (fun v11 _ => ?_)
      exact r_ireturn C dX12_count_155 rfl
    · skip
      exact r_tabIn (n := 12) C dX12_count_10 hx12 (by decide) (by decide) rfl (by decide) J
  refine r_tabOut (tgt := 156) C dX12_count_10 (by omega) (by decide) ?_
  refine r_iconst C dX12_count_156 (by decide) ?_
  exact r_ireturn C dX12_count_157 rfl
set_option maxRecDepth 100000 in
set_option maxHeartbeats 4000000 in
theorem tX1_asSet (p1 : Int) (M : Mem) : Cn yX1_asSet cX1_asSet 5 (some .int) 0 0 [zr 114, zl p1] M ((fX1_asSet p1 M).map oI) := by
  refine Cn_mk (own := RX1) rfl (by decide) (Nat.le_of_ble_eq_true rfl) [some (zr 114), some (zl p1), none, none, none] rfl (fun G C hn => ?_)
  unfold fX1_asSet
  refine r_iconst C dX1_asSet_0 (by decide) ?_
  refine r_istore_n (al' := [some (zr 114), some (zl p1), none, some (zi 0), none]) C dX1_asSet_1 rfl (by rw [hn]; decide) rfl ?_
  refine r_iconst C dX1_asSet_2 (by decide) ?_
  refine r_istore (al' := [some (zr 114), some (zl p1), none, some (zi 0), some (zi 0)]) C dX1_asSet_3 (by rw [hn]; decide) rfl ?_
  refine r_lp (S := Int × Int) (R := Int) (pcX := 43) (AL := fun s1 => [some (zr 114), some (zl p1), none, some (zi s1.1), some (zi s1.2)]) (MM := fun s1 => M) (AX := fun q5 => [none, none, none, some (zi q5), none]) (MX := fun q5 => M) ?_ ?_ (0, 0)
  · intro q5
    refine r_iload_n C dX1_asSet_43 rfl rfl ?_
    exact r_ireturn C dX1_asSet_44 rfl
  · intro gs1 hCs1 hXs1 s1
    unfold fX1_asSet_b1
    refine r_iload C dX1_asSet_5 rfl ?_
    refine r_aload_n C dX1_asSet_7 rfl rfl ?_
    refine q_geti C clX1 kd_114 (k := 7) (by decide) flX1_41 dX1_asSet_8 (kz := 7) rfl (by decide) ?_
    refine q_icmp_ge (tgt := 43) C dX1_asSet_11 (by decide) (fun _ => ?_) (fun _ => ?_)
    · refine r_less [false, false, false, true, false] rfl ?_
      exact hXs1 s1.1
    · refine r_lload_n C dX1_asSet_14 rfl rfl ?_
      refine r_aload_n C dX1_asSet_15 rfl rfl ?_
      refine r_getp C clX1 kd_114 (k := 4) (by decide) flX1_17 dX1_asSet_16 pt_114_4 ?_
      refine r_iload C dX1_asSet_19 rfl ?_
      refine r_iaload C dX1_asSet_21 (fun v2 _ => ?_)
      refine r_lushr C dX1_asSet_22 ?_
      refine r_lconst C dX1_asSet_23 rfl ?_
      refine r_land C dX1_asSet_24 ?_
      refine r_lconst C dX1_asSet_25 rfl ?_
      refine r_lcmp C dX1_asSet_26 ?_
      refine r_join (γ := Int) (pcJ := fun _ => 37) (al' := fun q4 => [some (zr 114), some (zl p1), none, some (zi q4), some (zi s1.2)]) (st' := fun q4 => []) (M' := fun q4 => M) ?_ ?_
      · intro q4
        refine r_iinc (al' := [some (zr 114), some (zl p1), none, some (zi q4), some (zi (w32 (s1.2 + 1)))]) C dX1_asSet_37 rfl (by rw [hn]; decide) rfl ?_
        refine r_goto (tgt := 5) C dX1_asSet_40 (by decide) ?_
        exact hCs1 (q4, w32 (s1.2 + 1))
      · intro hJq4
        refine q_if_eq (tgt := 37) C dX1_asSet_27 (by decide) (fun _ => ?_) (fun _ => ?_)
        · exact hJq4 s1.1
        · refine r_iload_n C dX1_asSet_30 rfl rfl ?_
          refine r_iconst C dX1_asSet_31 (by decide) ?_
          refine r_iload C dX1_asSet_32 rfl ?_
          refine r_ishl C dX1_asSet_34 ?_
          refine r_ior C dX1_asSet_35 ?_
          refine r_let (fun v3 _ => ?_)
          refine r_istore_n (al' := [some (zr 114), some (zl p1), none, some (zi v3), some (zi s1.2)]) C dX1_asSet_36 rfl (by rw [hn]; decide) rfl ?_
          exact hJq4 v3
set_option maxRecDepth 100000 in
set_option maxHeartbeats 4000000 in
theorem tX1_gather  (M : Mem) : Cn yX1_gather cX1_gather 2 none 1 24 [zr 114] M ((fX1_gather  M).map oU) := by
  refine Cn_mk (own := RX1) rfl (by decide) (Nat.le_of_ble_eq_true rfl) [some (zr 114), none] rfl (fun G C hn => ?_)
  unfold fX1_gather
  refine r_aload_n C dX1_gather_0 rfl rfl ?_
  refine r_iconst C dX1_gather_1 (by decide) ?_
  refine q_puti C clX1 kd_114 (k := 7) (by decide) flX1_41 rfl dX1_gather_2 rfl rfl (fun M1 => ?_)
  refine r_iconst C dX1_gather_5 (by decide) ?_
  refine r_istore_n (al' := [some (zr 114), some (zi 0)]) C dX1_gather_6 rfl (by rw [hn]; decide) rfl ?_
  refine r_lp (S := Int × Mem) (R := Mem) (pcX := 64) (AL := fun s2 => [some (zr 114), some (zi s2.1)]) (MM := fun s2 => s2.2) (AX := fun q7 => [some (zr 114), none]) (MX := fun q7 => q7) ?_ ?_ (0, M1)
  · intro q7
    refine r_iconst C dX1_gather_64 (by decide) ?_
    refine r_istore_n (al' := [some (zr 114), some (zi 0)]) C dX1_gather_65 rfl (by rw [hn]; decide) rfl ?_
    refine r_lp (S := Int × Mem) (R := Mem) (pcX := 128) (AL := fun s8 => [some (zr 114), some (zi s8.1)]) (MM := fun s8 => s8.2) (AX := fun q17 => [none, none]) (MX := fun q17 => q17) ?_ ?_ (0, q7)
    · intro q17
      exact r_return C dX1_gather_128 rfl
    · intro gs8 hCs8 hXs8 s8
      unfold fX1_gather_b2
      refine r_iload_n C dX1_gather_66 rfl rfl ?_
      refine r_aload_n C dX1_gather_67 rfl rfl ?_
      refine q_geti C clX1 kd_114 (k := 7) (by decide) flX1_41 dX1_gather_68 (kz := 7) rfl (by decide) ?_
      refine q_icmp_ge (tgt := 128) C dX1_gather_71 (by decide) (fun _ => ?_) (fun _ => ?_)
      · refine r_less [false, false] rfl ?_
        exact hXs8 s8.2
      · refine r_aload_n C dX1_gather_74 rfl rfl ?_
        refine r_getp C clX1 kd_114 (k := 5) (by decide) flX1_20 dX1_gather_75 pt_114_5 ?_
        refine r_iload_n C dX1_gather_78 rfl rfl ?_
        refine r_aload_n C dX1_gather_79 rfl rfl ?_
        refine r_aload_n C dX1_gather_80 rfl rfl ?_
        refine r_getp C clX1 kd_114 (k := 2) (by decide) flX1_34 dX1_gather_81 pt_114_2 ?_
        refine r_getp C clX5 kd_66 (k := 7) (by decide) flX1_71 dX1_gather_84 pt_66_7 ?_
        refine r_aload_n C dX1_gather_87 rfl rfl ?_
        refine r_getp C clX1 kd_114 (k := 4) (by decide) flX1_17 dX1_gather_88 pt_114_4 ?_
        refine r_iload_n C dX1_gather_91 rfl rfl ?_
        refine r_iaload C dX1_gather_92 (fun v9 _ => ?_)
        refine r_laload C dX1_gather_93 (fun v10 _ => ?_)
        refine q_callVi (av := [zl v10]) (rest := [zi s8.1, zr 117]) C (tX1_asSet v10 s8.2) lkX1_75 kd_114 rfl rfl rfl (Nat.le_of_ble_eq_true rfl) ⟨by decide, by decide⟩ dX1_gather_94 (fun q11 _ => ?_)
        refine r_iastore C dX1_gather_97 (fun M12 _ => ?_)
        refine r_aload_n C dX1_gather_98 rfl rfl ?_
        refine r_getp C clX1 kd_114 (k := 6) (by decide) flX1_23 dX1_gather_99 pt_114_6 ?_
        refine r_iload_n C dX1_gather_102 rfl rfl ?_
        refine r_aload_n C dX1_gather_103 rfl rfl ?_
        refine r_aload_n C dX1_gather_104 rfl rfl ?_
        refine r_getp C clX1 kd_114 (k := 2) (by decide) flX1_34 dX1_gather_105 pt_114_2 ?_
        refine r_getp C clX5 kd_66 (k := 8) (by decide) flX1_79 dX1_gather_108 pt_66_8 ?_
        refine r_aload_n C dX1_gather_111 rfl rfl ?_
        refine r_getp C clX1 kd_114 (k := 4) (by decide) flX1_17 dX1_gather_112 pt_114_4 ?_
        refine r_iload_n C dX1_gather_115 rfl rfl ?_
        refine r_iaload C dX1_gather_116 (fun v13 _ => ?_)
        refine r_laload C dX1_gather_117 (fun v14 _ => ?_)
        refine q_callVi (av := [zl v14]) (rest := [zi s8.1, zr 118]) C (tX1_asSet v14 M12) lkX1_75 kd_114 rfl rfl rfl (Nat.le_of_ble_eq_true rfl) ⟨by decide, by decide⟩ dX1_gather_118 (fun q15 _ => ?_)
        refine r_iastore C dX1_gather_121 (fun M16 _ => ?_)
        refine r_iinc (al' := [some (zr 114), some (zi (w32 (s8.1 + 1)))]) C dX1_gather_122 rfl (by rw [hn]; decide) rfl ?_
        refine r_goto (tgt := 66) C dX1_gather_125 (by decide) ?_
        exact hCs8 (w32 (s8.1 + 1), M16)
  · intro gs2 hCs2 hXs2 s2
    unfold fX1_gather_b1
    refine r_iload_n C dX1_gather_7 rfl rfl ?_
    refine r_aload_n C dX1_gather_8 rfl rfl ?_
    refine r_getp C clX1 kd_114 (k := 0) (by decide) flX1_26 dX1_gather_9 pt_114_0 ?_
    refine q_geti C clX9 kd_44 (k := 0) (by decide) flX1_60 dX1_gather_12 (kz := 0) rfl (by decide) ?_
    refine q_icmp_ge (tgt := 64) C dX1_gather_15 (by decide) (fun _ => ?_) (fun _ => ?_)
    · refine r_less [true, false] rfl ?_
      exact hXs2 s2.2
    · refine r_aload_n C dX1_gather_18 rfl rfl ?_
      refine q_geti C clX1 kd_114 (k := 7) (by decide) flX1_41 dX1_gather_19 (kz := 7) rfl (by decide) ?_
      refine r_bipush C dX1_gather_22 (by decide) ?_
      refine q_icmp_ge (tgt := 64) C dX1_gather_24 (by decide) (fun _ => ?_) (fun _ => ?_)
      · refine r_less [true, false] rfl ?_
        exact hXs2 s2.2
      · refine r_aload_n C dX1_gather_27 rfl rfl ?_
        refine r_getp C clX1 kd_114 (k := 2) (by decide) flX1_34 dX1_gather_28 pt_114_2 ?_
        refine r_iload_n C dX1_gather_31 rfl rfl ?_
        refine q_callVi (av := [zi s2.1]) (rest := []) C (tX5_isNeeded 62 (Or.inl rfl) s2.1 s2.2) lkX1_65 kd_66 rfl rfl rfl (Nat.le_of_ble_eq_true rfl) ⟨by decide, by decide⟩ dX1_gather_32 (fun q3 _ => ?_)
        refine r_join (γ := Mem) (pcJ := fun _ => 58) (al' := fun q6 => [some (zr 114), some (zi s2.1)]) (st' := fun q6 => []) (M' := fun q6 => q6) ?_ ?_
        · intro q6
          refine r_iinc (al' := [some (zr 114), some (zi (w32 (s2.1 + 1)))]) C dX1_gather_58 rfl (by rw [hn]; decide) rfl ?_
          refine r_goto (tgt := 7) C dX1_gather_61 (by decide) ?_
          exact hCs2 (w32 (s2.1 + 1), q6)
        · intro hJq6
          refine q_if_eq (tgt := 58) C dX1_gather_35 (by decide) (fun _ => ?_) (fun _ => ?_)
          · exact hJq6 q3.2
          · refine r_aload_n C dX1_gather_38 rfl rfl ?_
            refine r_getp C clX1 kd_114 (k := 4) (by decide) flX1_17 dX1_gather_39 pt_114_4 ?_
            refine r_aload_n C dX1_gather_42 rfl rfl ?_
            refine q_geti C clX1 kd_114 (k := 7) (by decide) flX1_41 dX1_gather_43 (kz := 7) rfl (by decide) ?_
            refine r_iload_n C dX1_gather_46 rfl rfl ?_
            refine r_iastore C dX1_gather_47 (fun M4 _ => ?_)
            refine r_aload_n C dX1_gather_48 rfl rfl ?_
            refine r_dup C dX1_gather_49 rfl ?_
            refine q_geti C clX1 kd_114 (k := 7) (by decide) flX1_41 dX1_gather_50 (kz := 7) rfl (by decide) ?_
            refine r_iconst C dX1_gather_53 (by decide) ?_
            refine r_iadd C dX1_gather_54 ?_
            refine q_puti C clX1 kd_114 (k := 7) (by decide) flX1_41 rfl dX1_gather_55 rfl rfl (fun M5 => ?_)
            exact hJq6 M5
