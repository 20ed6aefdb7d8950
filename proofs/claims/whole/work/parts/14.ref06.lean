set_option maxRecDepth 100000 in
set_option maxHeartbeats 4000000 in
theorem tX12_opValue (p1 : Int) (M : Mem) : Cn yX12_opValue cX12_opValue 8 (some .int) 3 70 [zr 132, zi p1] M ((fX12_opValue p1 M).map oI) := by
  refine Cn_mk (own := RX12) rfl (by decide) (Nat.le_of_ble_eq_true rfl) [some (zr 132), some (zi p1), none, none, none, none, none, none] rfl (fun G C hn => ?_)
  unfold fX12_opValue
  refine r_aload_n C dX12_opValue_0 rfl rfl ?_
  refine r_getp C clX12 kd_132 (k := 11) (by decide) flX12_129 dX12_opValue_1 pt_132_11 ?_
  refine r_iload_n C dX12_opValue_4 rfl rfl ?_
  refine r_iconst C dX12_opValue_5 (by decide) ?_
  refine r_iadd C dX12_opValue_6 ?_
  refine r_iaload C dX12_opValue_7 (fun v1 _ => ?_)
  refine r_istore_n (al' := [some (zr 132), some (zi p1), some (zi v1), none, none, none, none, none]) C dX12_opValue_8 rfl (by rw [hn]; decide) rfl ?_
  refine r_iload_n C dX12_opValue_9 rfl rfl ?_
  refine q_callSi (av := [zi v1]) (rest := []) C (tX12_argsOf v1 M) lkX12_276 rfl rfl (Nat.le_of_ble_eq_true rfl) ⟨by decide, by decide⟩ dX12_opValue_10 (fun q2 _ => ?_)
  refine r_istore_n (al' := [some (zr 132), some (zi p1), some (zi v1), some (zi q2.1), none, none, none, none]) C dX12_opValue_13 rfl (by rw [hn]; decide) rfl ?_
  refine r_aload_n C dX12_opValue_14 rfl rfl ?_
  refine r_iload_n C dX12_opValue_15 rfl rfl ?_
  refine r_iconst C dX12_opValue_16 (by decide) ?_
  refine r_iadd C dX12_opValue_17 ?_
  refine q_callVi (av := [zi (w32 (p1 + 5))]) (rest := []) C (tX12_argValue (w32 (p1 + 5)) q2.2) lkX12_333 kd_132 rfl rfl rfl (Nat.le_of_ble_eq_true rfl) ⟨by decide, by decide⟩ dX12_opValue_18 (fun q3 _ => ?_)
  refine r_istore (al' := [some (zr 132), some (zi p1), some (zi v1), some (zi q2.1), some (zi q3.1), none, none, none]) C dX12_opValue_21 (by rw [hn]; decide) rfl ?_
  refine r_iload_n C dX12_opValue_23 rfl rfl ?_
  refine r_iconst C dX12_opValue_24 (by decide) ?_
  refine r_join (γ := Int × Mem) (pcJ := fun _ => 47) (al' := fun q5 => [some (zr 132), some (zi p1), some (zi v1), some (zi q2.1), some (zi q3.1), none, none, none]) (st' := fun q5 => [zi q5.1]) (M' := fun q5 => q5.2) ?_ ?_
  · intro q5
    refine r_istore (al' := [some (zr 132), some (zi p1), some (zi v1), some (zi q2.1), some (zi q3.1), some (zi q5.1), none, none]) C dX12_opValue_47 (by rw [hn]; decide) rfl ?_
    refine r_iload_n C dX12_opValue_49 rfl rfl ?_
    refine r_iconst C dX12_opValue_50 (by decide) ?_
    refine r_join (γ := Int × Mem) (pcJ := fun _ => 73) (al' := fun q7 => [some (zr 132), some (zi p1), some (zi v1), none, some (zi q3.1), some (zi q5.1), none, none]) (st' := fun q7 => [zi q7.1]) (M' := fun q7 => q7.2) ?_ ?_
    · intro q7
      refine r_istore (al' := [some (zr 132), some (zi p1), some (zi v1), none, some (zi q3.1), some (zi q5.1), some (zi q7.1), none]) C dX12_opValue_73 (by rw [hn]; decide) rfl ?_
      refine r_aload_n C dX12_opValue_75 rfl rfl ?_
      refine q_geti C clX12 kd_132 (k := 8) (by decide) flX12_57 dX12_opValue_76 (kz := 8) rfl (by decide) ?_
      refine q_if_le (tgt := 84) C dX12_opValue_79 (by decide) (fun _ => ?_) (fun _ => ?_)
      · refine r_iload_n C dX12_opValue_84 rfl rfl ?_
        refine r_bipush C dX12_opValue_85 (by decide) ?_
        refine r_join (γ := Bool) (pcJ := fun q8 => if q8 = true then 103 else 117) (al' := fun q8 => [some (zr 132), some (zi p1), some (zi v1), none, some (zi q3.1), some (zi q5.1), some (zi q7.1), none]) (st' := fun q8 => []) (M' := fun q8 => q7.2) ?_ ?_
        · intro q8
          refine r_itp (fun _ => ?_) (fun _ => ?_)
          · refine r_iload_n C dX12_opValue_103 rfl rfl ?_
            refine r_bipush C dX12_opValue_104 (by decide) ?_
            refine r_join (γ := Int) (pcJ := fun _ => 116) (al' := fun q9 => [none, none, none, none, none, none, none, none]) (st' := fun q9 => [zi q9]) (M' := fun q9 => q7.2) ?_ ?_
            · intro q9
              exact r_ireturn C dX12_opValue_116 rfl
            · intro hJq9
              refine q_icmp_ne (tgt := 114) C dX12_opValue_106 (by decide) (fun _ => ?_) (fun _ => ?_)
              · refine r_iload C dX12_opValue_114 rfl ?_
                refine r_less [false, false, false, false, false, false, false, false] rfl ?_
                exact hJq9 q5.1
              · refine r_iload C dX12_opValue_109 rfl ?_
                refine r_goto (tgt := 116) C dX12_opValue_111 (by decide) ?_
                refine r_less [false, false, false, false, false, false, false, false] rfl ?_
                exact hJq9 q3.1
          · refine r_iload_n C dX12_opValue_117 rfl rfl ?_
            refine q_callSi (av := [zi v1]) (rest := []) C (tX12_goesEitherWay v1 q7.2) lkX12_336 rfl rfl (Nat.le_of_ble_eq_true rfl) ⟨by decide, by decide⟩ dX12_opValue_118 (fun q10 _ => ?_)
            refine r_join (γ := Int) (pcJ := fun _ => 136) (al' := fun q11 => [some (zr 132), some (zi p1), some (zi v1), none, some (zi q3.1), some (zi q5.1), some (zi q7.1), none]) (st' := fun q11 => [zi q11]) (M' := fun q11 => q10.2) ?_ ?_
            · intro q11
              refine r_istore (al' := [some (zr 132), some (zi p1), some (zi v1), none, some (zi q3.1), some (zi q5.1), some (zi q7.1), some (zi q11)]) C dX12_opValue_136 (by rw [hn]; decide) rfl ?_
              refine r_aload_n C dX12_opValue_138 rfl rfl ?_
              refine r_iload_n C dX12_opValue_139 rfl rfl ?_
              refine r_iload C dX12_opValue_140 rfl ?_
              refine r_join (γ := Int) (pcJ := fun _ => 152) (al' := fun q12 => [some (zr 132), some (zi p1), none, none, some (zi q3.1), some (zi q5.1), some (zi q7.1), some (zi q11)]) (st' := fun q12 => [zi q12, zi v1, zr 132]) (M' := fun q12 => q10.2) ?_ ?_
              · intro q12
                refine r_iload C dX12_opValue_152 rfl ?_
                refine r_join (γ := Int) (pcJ := fun _ => 164) (al' := fun q13 => [some (zr 132), some (zi p1), none, none, none, none, some (zi q7.1), none]) (st' := fun q13 => [zi q13, zi q12, zi v1, zr 132]) (M' := fun q13 => q10.2) ?_ ?_
                · intro q13
                  refine r_iload C dX12_opValue_164 rfl ?_
                  refine r_aload_n C dX12_opValue_166 rfl rfl ?_
                  refine r_getp C clX12 kd_132 (k := 11) (by decide) flX12_129 dX12_opValue_167 pt_132_11 ?_
                  refine r_iload_n C dX12_opValue_170 rfl rfl ?_
                  refine r_iconst C dX12_opValue_171 (by decide) ?_
                  refine r_iadd C dX12_opValue_172 ?_
                  refine r_iaload C dX12_opValue_173 (fun v14 _ => ?_)
                  refine q_callVi (av := [zi v1, zi q12, zi q13, zi q7.1, zi v14]) (rest := []) C (tX12_made v1 q12 q13 q7.1 v14 q10.2) lkX12_329 kd_132 rfl rfl rfl (Nat.le_of_ble_eq_true rfl) ⟨by decide, by decide⟩ dX12_opValue_174 (fun q15 _ => ?_)
                  exact r_ireturn C dX12_opValue_177 rfl
                · intro hJq13
                  refine q_if_eq (tgt := 162) C dX12_opValue_154 (by decide) (fun _ => ?_) (fun _ => ?_)
                  · refine r_iload C dX12_opValue_162 rfl ?_
                    refine r_less [true, true, false, false, false, false, true, false] rfl ?_
                    exact hJq13 q5.1
                  · refine r_iload C dX12_opValue_157 rfl ?_
                    refine r_goto (tgt := 164) C dX12_opValue_159 (by decide) ?_
                    refine r_less [true, true, false, false, false, false, true, false] rfl ?_
                    exact hJq13 q3.1
              · intro hJq12
                refine q_if_eq (tgt := 150) C dX12_opValue_142 (by decide) (fun _ => ?_) (fun _ => ?_)
                · refine r_iload C dX12_opValue_150 rfl ?_
                  refine r_less [true, true, false, false, true, true, true, true] rfl ?_
                  exact hJq12 q3.1
                · refine r_iload C dX12_opValue_145 rfl ?_
                  refine r_goto (tgt := 152) C dX12_opValue_147 (by decide) ?_
                  refine r_less [true, true, false, false, true, true, true, true] rfl ?_
                  exact hJq12 q5.1
            · intro hJq11
              refine q_if_eq (tgt := 135) C dX12_opValue_121 (by decide) (fun _ => ?_) (fun _ => ?_)
              · refine r_iconst C dX12_opValue_135 (by decide) ?_
                exact hJq11 0
              · refine r_iload C dX12_opValue_124 rfl ?_
                refine r_iload C dX12_opValue_126 rfl ?_
                refine q_icmp_ge (tgt := 135) C dX12_opValue_128 (by decide) (fun _ => ?_) (fun _ => ?_)
                · refine r_iconst C dX12_opValue_135 (by decide) ?_
                  exact hJq11 0
                · refine r_iconst C dX12_opValue_131 (by decide) ?_
                  refine r_goto (tgt := 136) C dX12_opValue_132 (by decide) ?_
                  exact hJq11 1
        · intro hJq8
          refine q_icmp_eq (tgt := 103) C dX12_opValue_87 (by decide) (fun _ => ?_) (fun _ => ?_)
          · exact hJq8 true
          · refine r_iload_n C dX12_opValue_90 rfl rfl ?_
            refine r_bipush C dX12_opValue_91 (by decide) ?_
            refine q_icmp_ne (tgt := 117) C dX12_opValue_93 (by decide) (fun _ => ?_) (fun _ => ?_)
            · exact hJq8 false
            · refine r_iload C dX12_opValue_96 rfl ?_
              refine r_iload C dX12_opValue_98 rfl ?_
              refine q_icmp_ne (tgt := 117) C dX12_opValue_100 (by decide) (fun _ => ?_) (fun _ => ?_)
              · exact hJq8 false
              · exact hJq8 true
      · refine r_iconst C dX12_opValue_82 (by decide) ?_
        exact r_ireturn C dX12_opValue_83 rfl
    · intro hJq7
      refine q_icmp_le (tgt := 72) C dX12_opValue_51 (by decide) (fun _ => ?_) (fun _ => ?_)
      · refine r_iconst C dX12_opValue_72 (by decide) ?_
        refine r_less [true, true, true, false, true, true, false, false] rfl ?_
        exact hJq7 ((-1), q5.2)
      · refine r_aload_n C dX12_opValue_54 rfl rfl ?_
        refine q_geti C clX12 kd_132 (k := 8) (by decide) flX12_57 dX12_opValue_55 (kz := 8) rfl (by decide) ?_
        refine q_if_ne (tgt := 72) C dX12_opValue_58 (by decide) (fun _ => ?_) (fun _ => ?_)
        · refine r_iconst C dX12_opValue_72 (by decide) ?_
          refine r_less [true, true, true, false, true, true, false, false] rfl ?_
          exact hJq7 ((-1), q5.2)
        · refine r_aload_n C dX12_opValue_61 rfl rfl ?_
          refine r_iload_n C dX12_opValue_62 rfl rfl ?_
          refine r_bipush C dX12_opValue_63 (by decide) ?_
          refine r_iadd C dX12_opValue_65 ?_
          refine q_callVi (av := [zi (w32 (p1 + 9))]) (rest := []) C (tX12_argValue (w32 (p1 + 9)) q5.2) lkX12_333 kd_132 rfl rfl rfl (Nat.le_of_ble_eq_true rfl) ⟨by decide, by decide⟩ dX12_opValue_66 (fun q6 _ => ?_)
          refine r_goto (tgt := 73) C dX12_opValue_69 (by decide) ?_
          refine r_less [true, true, true, false, true, true, false, false] rfl ?_
          exact hJq7 (q6.1, q6.2)
  · intro hJq5
    refine q_icmp_le (tgt := 46) C dX12_opValue_25 (by decide) (fun _ => ?_) (fun _ => ?_)
    · refine r_iconst C dX12_opValue_46 (by decide) ?_
      exact hJq5 ((-1), q3.2)
    · refine r_aload_n C dX12_opValue_28 rfl rfl ?_
      refine q_geti C clX12 kd_132 (k := 8) (by decide) flX12_57 dX12_opValue_29 (kz := 8) rfl (by decide) ?_
      refine q_if_ne (tgt := 46) C dX12_opValue_32 (by decide) (fun _ => ?_) (fun _ => ?_)
      · refine r_iconst C dX12_opValue_46 (by decide) ?_
        exact hJq5 ((-1), q3.2)
      · refine r_aload_n C dX12_opValue_35 rfl rfl ?_
        refine r_iload_n C dX12_opValue_36 rfl rfl ?_
        refine r_bipush C dX12_opValue_37 (by decide) ?_
        refine r_iadd C dX12_opValue_39 ?_
        refine q_callVi (av := [zi (w32 (p1 + 7))]) (rest := []) C (tX12_argValue (w32 (p1 + 7)) q3.2) lkX12_333 kd_132 rfl rfl rfl (Nat.le_of_ble_eq_true rfl) ⟨by decide, by decide⟩ dX12_opValue_40 (fun q4 _ => ?_)
        refine r_goto (tgt := 47) C dX12_opValue_43 (by decide) ?_
        exact hJq5 (q4.1, q4.2)
set_option maxRecDepth 100000 in
set_option maxHeartbeats 4000000 in
theorem tX12_works  (M : Mem) : Cn yX12_works cX12_works 7 none 4 97 [zr 132] M ((fX12_works  M).map oU) := by
  refine Cn_mk (own := RX12) rfl (by decide) (Nat.le_of_ble_eq_true rfl) [some (zr 132), none, none, none, none, none, none] rfl (fun G C hn => ?_)
  unfold fX12_works
  refine r_iconst C dX12_works_0 (by decide) ?_
  refine r_istore_n (al' := [some (zr 132), some (zi 0), none, none, none, none, none]) C dX12_works_1 rfl (by rw [hn]; decide) rfl ?_
  refine r_lp (S := Int × Mem) (R := Mem) (pcX := 30) (AL := fun s1 => [some (zr 132), some (zi s1.1), none, none, none, none, none]) (MM := fun s1 => s1.2) (AX := fun q4 => [some (zr 132), none, none, none, none, none, none]) (MX := fun q4 => q4) ?_ ?_ (0, M)
  · intro q4
    refine r_iconst C dX12_works_30 (by decide) ?_
    refine r_istore_n (al' := [some (zr 132), some (zi 0), none, none, none, none, none]) C dX12_works_31 rfl (by rw [hn]; decide) rfl ?_
    refine r_iconst C dX12_works_32 (by decide) ?_
    refine r_istore_n (al' := [some (zr 132), some (zi 0), some (zi 0), none, none, none, none]) C dX12_works_33 rfl (by rw [hn]; decide) rfl ?_
    refine r_lp (S := Int × Int × Mem) (R := Mem) (pcX := 468) (AL := fun s5 => [some (zr 132), some (zi s5.1), some (zi s5.2.1), none, none, none, none]) (MM := fun s5 => s5.2.2) (AX := fun q48 => [none, none, none, none, none, none, none]) (MX := fun q48 => q48) ?_ ?_ (0, 0, q4)
    · intro q48
      exact r_return C dX12_works_468 rfl
    · intro gs5 hCs5 hXs5 s5
      unfold fX12_works_b2
      refine r_iload_n C dX12_works_34 rfl rfl ?_
      refine r_aload_n C dX12_works_35 rfl rfl ?_
      refine r_getp C clX12 kd_132 (k := 10) (by decide) flX12_126 dX12_works_36 pt_132_10 ?_
      refine r_sipush C dX12_works_39 (by decide) ?_
      refine r_iaload C dX12_works_42 (fun v6 _ => ?_)
      refine q_icmp_ge (tgt := 468) C dX12_works_43 (by decide) (fun _ => ?_) (fun _ => ?_)
      · refine r_less [false, false, false, false, false, false, false] rfl ?_
        exact hXs5 s5.2.2
      · refine r_aload_n C dX12_works_46 rfl rfl ?_
        refine q_geti C clX12 kd_132 (k := 8) (by decide) flX12_57 dX12_works_47 (kz := 8) rfl (by decide) ?_
        refine q_if_ne (tgt := 468) C dX12_works_50 (by decide) (fun _ => ?_) (fun _ => ?_)
        · refine r_less [false, false, false, false, false, false, false] rfl ?_
          exact hXs5 s5.2.2
        · refine r_bipush C dX12_works_53 (by decide) ?_
          refine r_sipush C dX12_works_55 (by decide) ?_
          refine r_iload_n C dX12_works_58 rfl rfl ?_
          refine r_iadd C dX12_works_59 ?_
          refine r_imul C dX12_works_60 ?_
          refine r_let (fun v7 _ => ?_)
          refine r_istore_n (al' := [some (zr 132), some (zi s5.1), some (zi s5.2.1), some (zi v7), none, none, none]) C dX12_works_61 rfl (by rw [hn]; decide) rfl ?_
          refine r_aload_n C dX12_works_62 rfl rfl ?_
          refine r_getp C clX12 kd_132 (k := 11) (by decide) flX12_129 dX12_works_63 pt_132_11 ?_
          refine r_iload_n C dX12_works_66 rfl rfl ?_
          refine r_iaload C dX12_works_67 (fun v8 _ => ?_)
          refine r_istore (al' := [some (zr 132), some (zi s5.1), some (zi s5.2.1), some (zi v7), some (zi v8), none, none]) C dX12_works_68 (by rw [hn]; decide) rfl ?_
          refine r_aload_n C dX12_works_70 rfl rfl ?_
          refine r_getp C clX12 kd_132 (k := 11) (by decide) flX12_129 dX12_works_71 pt_132_11 ?_
          refine r_iload_n C dX12_works_74 rfl rfl ?_
          refine r_bipush C dX12_works_75 (by decide) ?_
          refine r_iadd C dX12_works_77 ?_
          refine r_iaload C dX12_works_78 (fun v9 _ => ?_)
          refine r_istore (al' := [some (zr 132), some (zi s5.1), some (zi s5.2.1), some (zi v7), some (zi v8), some (zi v9), none]) C dX12_works_79 (by rw [hn]; decide) rfl ?_
          refine r_iinc (al' := [some (zr 132), some (zi s5.1), some (zi (w32 (s5.2.1 + 1))), some (zi v7), some (zi v8), some (zi v9), none]) C dX12_works_81 rfl (by rw [hn]; decide) rfl ?_
          refine r_iload_n C dX12_works_84 rfl rfl ?_
          refine r_iload C dX12_works_85 rfl ?_
          refine r_join (γ := Int) (pcJ := fun _ => 113) (al' := fun q10 => [some (zr 132), none, some (zi (w32 (s5.2.1 + 1))), some (zi v7), some (zi v8), some (zi v9), none]) (st' := fun q10 => [zi q10, zi s5.1]) (M' := fun q10 => s5.2.2) ?_ ?_
          · intro q10
            refine r_iadd C dX12_works_113 ?_
            refine r_let (fun v11 _ => ?_)
            refine r_istore_n (al' := [some (zr 132), some (zi v11), some (zi (w32 (s5.2.1 + 1))), some (zi v7), some (zi v8), some (zi v9), none]) C dX12_works_114 rfl (by rw [hn]; decide) rfl ?_
            refine r_iload_n C dX12_works_115 rfl rfl ?_
            refine r_sipush C dX12_works_116 (by decide) ?_
            refine r_join (γ := Bool) (pcJ := fun q13 => if q13 = true then 141 else 156) (al' := fun q13 => [some (zr 132), some (zi v11), some (zi (w32 (s5.2.1 + 1))), some (zi v7), some (zi v8), some (zi v9), none]) (st' := fun q13 => []) (M' := fun q13 => s5.2.2) ?_ ?_
            · intro q13
              refine r_join (γ := Int × Mem) (pcJ := fun _ => 465) (al' := fun q47 => [some (zr 132), some (zi v11), some (zi q47.1), none, none, none, none]) (st' := fun q47 => []) (M' := fun q47 => q47.2) ?_ ?_
              · intro q47
                refine r_goto (tgt := 34) C dX12_works_465 (by decide) ?_
                exact hCs5 (v11, q47.1, q47.2)
              · intro hJq47
                refine r_itp (fun _ => ?_) (fun _ => ?_)
                · refine r_aload_n C dX12_works_141 rfl rfl ?_
                  refine r_aload_n C dX12_works_142 rfl rfl ?_
                  refine r_getp C clX12 kd_132 (k := 11) (by decide) flX12_129 dX12_works_143 pt_132_11 ?_
                  refine r_iload_n C dX12_works_146 rfl rfl ?_
                  refine r_iconst C dX12_works_147 (by decide) ?_
                  refine r_iadd C dX12_works_148 ?_
                  refine r_iaload C dX12_works_149 (fun v14 _ => ?_)
                  refine q_callVv (av := [zi v14]) (rest := []) C (tX12_bad v14 s5.2.2) lkX12_326 kd_132 rfl rfl rfl (Nat.le_of_ble_eq_true rfl) ⟨by decide, by decide⟩ dX12_works_150 (fun q15 _ => ?_)
                  refine r_goto (tgt := 465) C dX12_works_153 (by decide) ?_
                  refine r_less [true, true, true, false, false, false, false] rfl ?_
                  exact hJq47 (w32 (s5.2.1 + 1), q15)
                · refine r_iload C dX12_works_156 rfl ?_
                  refine r_bipush C dX12_works_158 (by decide) ?_
                  refine q_icmp_ne (tgt := 187) C dX12_works_160 (by decide) (fun _ => ?_) (fun _ => ?_)
                  · refine r_iload C dX12_works_187 rfl ?_
                    refine q_if_ne (tgt := 213) C dX12_works_189 (by decide) (fun _ => ?_) (fun _ => ?_)
                    · refine r_iload C dX12_works_213 rfl ?_
                      refine r_iconst C dX12_works_215 (by decide) ?_
                      refine q_icmp_ne (tgt := 258) C dX12_works_216 (by decide) (fun _ => ?_) (fun _ => ?_)
                      · refine r_iload C dX12_works_258 rfl ?_
                        refine r_iconst C dX12_works_260 (by decide) ?_
                        refine q_icmp_ne (tgt := 341) C dX12_works_261 (by decide) (fun _ => ?_) (fun _ => ?_)
                        · refine r_iload C dX12_works_341 rfl ?_
                          refine r_iconst C dX12_works_343 (by decide) ?_
                          refine q_icmp_ne (tgt := 384) C dX12_works_344 (by decide) (fun _ => ?_) (fun _ => ?_)
                          · refine r_iload C dX12_works_384 rfl ?_
                            refine r_iconst C dX12_works_386 (by decide) ?_
                            refine q_icmp_ne (tgt := 408) C dX12_works_387 (by decide) (fun _ => ?_) (fun _ => ?_)
                            · refine r_aload_n C dX12_works_408 rfl rfl ?_
                              refine r_getp C clX12 kd_132 (k := 11) (by decide) flX12_129 dX12_works_409 pt_132_11 ?_
                              refine r_iload_n C dX12_works_412 rfl rfl ?_
                              refine r_iconst C dX12_works_413 (by decide) ?_
                              refine r_iadd C dX12_works_414 ?_
                              refine r_iaload C dX12_works_415 (fun v16 _ => ?_)
                              refine r_iconst C dX12_works_416 (by decide) ?_
                              refine q_icmp_eq (tgt := 428) C dX12_works_417 (by decide) (fun _ => ?_) (fun _ => ?_)
                              · refine r_aload_n C dX12_works_428 rfl rfl ?_
                                refine r_getp C clX12 kd_132 (k := 24) (by decide) flX12_159 dX12_works_429 pt_132_24 ?_
                                refine r_iload C dX12_works_432 rfl ?_
                                refine r_dup2 C dX12_works_434 rfl rfl ?_
                                refine r_iaload C dX12_works_435 (fun v17 _ => ?_)
                                refine r_iconst C dX12_works_436 (by decide) ?_
                                refine r_isub C dX12_works_437 ?_
                                refine r_iastore C dX12_works_438 (fun M18 _ => ?_)
                                refine r_aload_n C dX12_works_439 rfl rfl ?_
                                refine r_getp C clX12 kd_132 (k := 24) (by decide) flX12_159 dX12_works_440 pt_132_24 ?_
                                refine r_iload C dX12_works_443 rfl ?_
                                refine r_iaload C dX12_works_445 (fun v19 _ => ?_)
                                refine r_join (γ := Int) (pcJ := fun _ => 464) (al' := fun q21 => [some (zr 132), some (zi v11), none, none, none, none, none]) (st' := fun q21 => [zi q21]) (M' := fun q21 => M18) ?_ ?_
                                · intro q21
                                  refine r_istore_n (al' := [some (zr 132), some (zi v11), some (zi q21), none, none, none, none]) C dX12_works_464 rfl (by rw [hn]; decide) rfl ?_
                                  exact hJq47 (q21, M18)
                                · intro hJq21
                                  refine q_if_le (tgt := 463) C dX12_works_446 (by decide) (fun _ => ?_) (fun _ => ?_)
                                  · refine r_iload_n C dX12_works_463 rfl rfl ?_
                                    refine r_less [true, true, false, false, false, false, false] rfl ?_
                                    exact hJq21 (w32 (s5.2.1 + 1))
                                  · refine r_aload_n C dX12_works_449 rfl rfl ?_
                                    refine r_getp C clX12 kd_132 (k := 11) (by decide) flX12_129 dX12_works_450 pt_132_11 ?_
                                    refine r_iload_n C dX12_works_453 rfl rfl ?_
                                    refine r_bipush C dX12_works_454 (by decide) ?_
                                    refine r_iadd C dX12_works_456 ?_
                                    refine r_iaload C dX12_works_457 (fun v20 _ => ?_)
                                    refine r_iconst C dX12_works_458 (by decide) ?_
                                    refine r_iadd C dX12_works_459 ?_
                                    refine r_goto (tgt := 464) C dX12_works_460 (by decide) ?_
                                    refine r_less [true, true, false, false, false, false, false] rfl ?_
                                    exact hJq21 (w32 (v20 + 1))
                              · refine r_aload_n C dX12_works_420 rfl rfl ?_
                                refine r_iload_n C dX12_works_421 rfl rfl ?_
                                refine q_callVv (av := [zi v7]) (rest := []) C (tX12_closes v7 s5.2.2) lkX12_349 kd_132 rfl rfl rfl (Nat.le_of_ble_eq_true rfl) ⟨by decide, by decide⟩ dX12_works_422 (fun q22 _ => ?_)
                                refine r_goto (tgt := 465) C dX12_works_425 (by decide) ?_
                                refine r_less [true, true, true, false, false, false, false] rfl ?_
                                exact hJq47 (w32 (s5.2.1 + 1), q22)
                            · refine r_aload_n C dX12_works_390 rfl rfl ?_
                              refine r_getp C clX12 kd_132 (k := 24) (by decide) flX12_159 dX12_works_391 pt_132_24 ?_
                              refine r_iload C dX12_works_394 rfl ?_
                              refine r_aload_n C dX12_works_396 rfl rfl ?_
                              refine r_getp C clX12 kd_132 (k := 11) (by decide) flX12_129 dX12_works_397 pt_132_11 ?_
                              refine r_iload_n C dX12_works_400 rfl rfl ?_
                              refine r_iconst C dX12_works_401 (by decide) ?_
                              refine r_iadd C dX12_works_402 ?_
                              refine r_iaload C dX12_works_403 (fun v23 _ => ?_)
                              refine r_iastore C dX12_works_404 (fun M24 _ => ?_)
                              refine r_goto (tgt := 465) C dX12_works_405 (by decide) ?_
                              refine r_less [true, true, true, false, false, false, false] rfl ?_
                              exact hJq47 (w32 (s5.2.1 + 1), M24)
                          · refine r_aload_n C dX12_works_347 rfl rfl ?_
                            refine r_getp C clX12 kd_132 (k := 20) (by decide) flX12_147 dX12_works_348 pt_132_20 ?_
                            refine r_aload_n C dX12_works_351 rfl rfl ?_
                            refine r_getp C clX12 kd_132 (k := 22) (by decide) flX12_153 dX12_works_352 pt_132_22 ?_
                            refine r_iconst C dX12_works_355 (by decide) ?_
                            refine r_bipush C dX12_works_356 (by decide) ?_
                            refine r_iload C dX12_works_358 rfl ?_
                            refine r_imul C dX12_works_360 ?_
                            refine q_callSv (av := [zr 145, zr 147, zi 0, zi (w32 (20 * v9))]) (rest := []) C (tX12_moves 145 147 0 (w32 (20 * v9)) s5.2.2) lkX12_345 rfl rfl (Nat.le_of_ble_eq_true rfl) ⟨by decide, by decide⟩ dX12_works_361 (fun q25 _ => ?_)
                            refine r_aload_n C dX12_works_364 rfl rfl ?_
                            refine r_getp C clX12 kd_132 (k := 21) (by decide) flX12_150 dX12_works_365 pt_132_21 ?_
                            refine r_aload_n C dX12_works_368 rfl rfl ?_
                            refine r_getp C clX12 kd_132 (k := 20) (by decide) flX12_147 dX12_works_369 pt_132_20 ?_
                            refine r_bipush C dX12_works_372 (by decide) ?_
                            refine r_iload C dX12_works_374 rfl ?_
                            refine r_imul C dX12_works_376 ?_
                            refine r_iconst C dX12_works_377 (by decide) ?_
                            refine q_callSv (av := [zr 146, zr 145, zi (w32 (20 * v9)), zi 0]) (rest := []) C (tX12_moves 146 145 (w32 (20 * v9)) 0 q25) lkX12_345 rfl rfl (Nat.le_of_ble_eq_true rfl) ⟨by decide, by decide⟩ dX12_works_378 (fun q26 _ => ?_)
                            refine r_goto (tgt := 465) C dX12_works_381 (by decide) ?_
                            refine r_less [true, true, true, false, false, false, false] rfl ?_
                            exact hJq47 (w32 (s5.2.1 + 1), q26)
                        · refine r_aload_n C dX12_works_264 rfl rfl ?_
                          refine r_getp C clX12 kd_132 (k := 23) (by decide) flX12_156 dX12_works_265 pt_132_23 ?_
                          refine r_iload C dX12_works_268 rfl ?_
                          refine r_aload_n C dX12_works_270 rfl rfl ?_
                          refine r_iload_n C dX12_works_271 rfl rfl ?_
                          refine r_iconst C dX12_works_272 (by decide) ?_
                          refine r_iadd C dX12_works_273 ?_
                          refine q_callVi (av := [zi (w32 (v7 + 5))]) (rest := [zi v9, zr 148]) C (tX12_argValue (w32 (v7 + 5)) s5.2.2) lkX12_333 kd_132 rfl rfl rfl (Nat.le_of_ble_eq_true rfl) ⟨by decide, by decide⟩ dX12_works_274 (fun q27 _ => ?_)
                          refine r_iastore C dX12_works_277 (fun M28 _ => ?_)
                          refine r_aload_n C dX12_works_278 rfl rfl ?_
                          refine r_aload_n C dX12_works_279 rfl rfl ?_
                          refine r_getp C clX12 kd_132 (k := 23) (by decide) flX12_156 dX12_works_280 pt_132_23 ?_
                          refine r_iload C dX12_works_283 rfl ?_
                          refine r_iaload C dX12_works_285 (fun v29 _ => ?_)
                          refine q_callVi (av := [zi v29]) (rest := []) C (tX12_isUniformRead v29 M28) lkX12_342 kd_132 rfl rfl rfl (Nat.le_of_ble_eq_true rfl) ⟨by decide, by decide⟩ dX12_works_286 (fun q30 _ => ?_)
                          refine r_istore (al' := [some (zr 132), some (zi v11), some (zi (w32 (s5.2.1 + 1))), some (zi v7), some (zi v8), some (zi v9), some (zi q30.1)]) C dX12_works_289 (by rw [hn]; decide) rfl ?_
                          refine r_aload_n C dX12_works_291 rfl rfl ?_
                          refine r_getp C clX12 kd_132 (k := 10) (by decide) flX12_126 dX12_works_292 pt_132_10 ?_
                          refine r_sipush C dX12_works_295 (by decide) ?_
                          refine r_aload_n C dX12_works_298 rfl rfl ?_
                          refine r_getp C clX12 kd_132 (k := 11) (by decide) flX12_129 dX12_works_299 pt_132_11 ?_
                          refine r_iload_n C dX12_works_302 rfl rfl ?_
                          refine r_iconst C dX12_works_303 (by decide) ?_
                          refine r_iadd C dX12_works_304 ?_
                          refine r_iaload C dX12_works_305 (fun v31 _ => ?_)
                          refine r_iadd C dX12_works_306 ?_
                          refine r_dup2 C dX12_works_307 rfl rfl ?_
                          refine r_iaload C dX12_works_308 (fun v32 _ => ?_)
                          refine r_iload C dX12_works_309 rfl ?_
                          refine r_join (γ := Int) (pcJ := fun _ => 319) (al' := fun q33 => [some (zr 132), some (zi v11), some (zi (w32 (s5.2.1 + 1))), none, none, some (zi v9), none]) (st' := fun q33 => [zi q33, zi v32, zi (w32 (704 + v31)), zr 138]) (M' := fun q33 => q30.2) ?_ ?_
                          · intro q33
                            refine r_ior C dX12_works_319 ?_
                            refine r_iastore C dX12_works_320 (fun M34 _ => ?_)
                            refine r_aload_n C dX12_works_321 rfl rfl ?_
                            refine r_getp C clX12 kd_132 (k := 20) (by decide) flX12_147 dX12_works_322 pt_132_20 ?_
                            refine r_aload_n C dX12_works_325 rfl rfl ?_
                            refine r_getp C clX12 kd_132 (k := 21) (by decide) flX12_150 dX12_works_326 pt_132_21 ?_
                            refine r_iconst C dX12_works_329 (by decide) ?_
                            refine r_bipush C dX12_works_330 (by decide) ?_
                            refine r_iload C dX12_works_332 rfl ?_
                            refine r_imul C dX12_works_334 ?_
                            refine q_callSv (av := [zr 145, zr 146, zi 0, zi (w32 (20 * v9))]) (rest := []) C (tX12_moves 145 146 0 (w32 (20 * v9)) M34) lkX12_345 rfl rfl (Nat.le_of_ble_eq_true rfl) ⟨by decide, by decide⟩ dX12_works_335 (fun q35 _ => ?_)
                            refine r_goto (tgt := 465) C dX12_works_338 (by decide) ?_
                            refine r_less [true, true, true, false, false, false, false] rfl ?_
                            exact hJq47 (w32 (s5.2.1 + 1), q35)
                          · intro hJq33
                            refine q_if_eq (tgt := 318) C dX12_works_311 (by decide) (fun _ => ?_) (fun _ => ?_)
                            · refine r_iconst C dX12_works_318 (by decide) ?_
                              refine r_less [true, true, true, false, false, true, false] rfl ?_
                              exact hJq33 1
                            · refine r_iconst C dX12_works_314 (by decide) ?_
                              refine r_goto (tgt := 319) C dX12_works_315 (by decide) ?_
                              refine r_less [true, true, true, false, false, true, false] rfl ?_
                              exact hJq33 0
                      · refine r_aload_n C dX12_works_219 rfl rfl ?_
                        refine r_getp C clX12 kd_132 (k := 10) (by decide) flX12_126 dX12_works_220 pt_132_10 ?_
                        refine r_sipush C dX12_works_223 (by decide) ?_
                        refine r_aload_n C dX12_works_226 rfl rfl ?_
                        refine r_getp C clX12 kd_132 (k := 10) (by decide) flX12_126 dX12_works_227 pt_132_10 ?_
                        refine r_sipush C dX12_works_230 (by decide) ?_
                        refine r_iaload C dX12_works_233 (fun v36 _ => ?_)
                        refine r_iadd C dX12_works_234 ?_
                        refine r_aload_n C dX12_works_235 rfl rfl ?_
                        refine r_iload_n C dX12_works_236 rfl rfl ?_
                        refine r_iconst C dX12_works_237 (by decide) ?_
                        refine r_iadd C dX12_works_238 ?_
                        refine q_callVi (av := [zi (w32 (v7 + 5))]) (rest := [zi (w32 (440 + v36)), zr 138]) C (tX12_argValue (w32 (v7 + 5)) s5.2.2) lkX12_333 kd_132 rfl rfl rfl (Nat.le_of_ble_eq_true rfl) ⟨by decide, by decide⟩ dX12_works_239 (fun q37 _ => ?_)
                        refine r_iastore C dX12_works_242 (fun M38 _ => ?_)
                        refine r_aload_n C dX12_works_243 rfl rfl ?_
                        refine r_getp C clX12 kd_132 (k := 10) (by decide) flX12_126 dX12_works_244 pt_132_10 ?_
                        refine r_sipush C dX12_works_247 (by decide) ?_
                        refine r_dup2 C dX12_works_250 rfl rfl ?_
                        refine r_iaload C dX12_works_251 (fun v39 _ => ?_)
                        refine r_iconst C dX12_works_252 (by decide) ?_
                        refine r_iadd C dX12_works_253 ?_
                        refine r_iastore C dX12_works_254 (fun M40 _ => ?_)
                        refine r_goto (tgt := 465) C dX12_works_255 (by decide) ?_
                        refine r_less [true, true, true, false, false, false, false] rfl ?_
                        exact hJq47 (w32 (s5.2.1 + 1), M40)
                    · refine r_aload_n C dX12_works_192 rfl rfl ?_
                      refine r_getp C clX12 kd_132 (k := 20) (by decide) flX12_147 dX12_works_193 pt_132_20 ?_
                      refine r_aload_n C dX12_works_196 rfl rfl ?_
                      refine r_getp C clX12 kd_132 (k := 11) (by decide) flX12_129 dX12_works_197 pt_132_11 ?_
                      refine r_iload_n C dX12_works_200 rfl rfl ?_
                      refine r_iconst C dX12_works_201 (by decide) ?_
                      refine r_iadd C dX12_works_202 ?_
                      refine r_iaload C dX12_works_203 (fun v41 _ => ?_)
                      refine r_aload_n C dX12_works_204 rfl rfl ?_
                      refine r_iload_n C dX12_works_205 rfl rfl ?_
                      refine q_callVi (av := [zi v7]) (rest := [zi v41, zr 145]) C (tX12_opValue v7 s5.2.2) lkX12_339 kd_132 rfl rfl rfl (Nat.le_of_ble_eq_true rfl) ⟨by decide, by decide⟩ dX12_works_206 (fun q42 _ => ?_)
                      refine r_iastore C dX12_works_209 (fun M43 _ => ?_)
                      refine r_goto (tgt := 465) C dX12_works_210 (by decide) ?_
                      refine r_less [true, true, true, false, false, false, false] rfl ?_
                      exact hJq47 (w32 (s5.2.1 + 1), M43)
                  · refine r_aload_n C dX12_works_163 rfl rfl ?_
                    refine r_getp C clX12 kd_132 (k := 20) (by decide) flX12_147 dX12_works_164 pt_132_20 ?_
                    refine r_aload_n C dX12_works_167 rfl rfl ?_
                    refine r_getp C clX12 kd_132 (k := 11) (by decide) flX12_129 dX12_works_168 pt_132_11 ?_
                    refine r_iload_n C dX12_works_171 rfl rfl ?_
                    refine r_iconst C dX12_works_172 (by decide) ?_
                    refine r_iadd C dX12_works_173 ?_
                    refine r_iaload C dX12_works_174 (fun v44 _ => ?_)
                    refine r_aload_n C dX12_works_175 rfl rfl ?_
                    refine r_getp C clX12 kd_132 (k := 11) (by decide) flX12_129 dX12_works_176 pt_132_11 ?_
                    refine r_iload_n C dX12_works_179 rfl rfl ?_
                    refine r_iconst C dX12_works_180 (by decide) ?_
                    refine r_iadd C dX12_works_181 ?_
                    refine r_iaload C dX12_works_182 (fun v45 _ => ?_)
                    refine r_iastore C dX12_works_183 (fun M46 _ => ?_)
                    refine r_goto (tgt := 465) C dX12_works_184 (by decide) ?_
                    refine r_less [true, true, true, false, false, false, false] rfl ?_
                    exact hJq47 (w32 (s5.2.1 + 1), M46)
            · intro hJq13
              refine q_icmp_gt (tgt := 141) C dX12_works_119 (by decide) (fun _ => ?_) (fun _ => ?_)
              · exact hJq13 true
              · refine r_iload C dX12_works_122 rfl ?_
                refine r_iconst C dX12_works_124 (by decide) ?_
                refine q_icmp_ne (tgt := 156) C dX12_works_125 (by decide) (fun _ => ?_) (fun _ => ?_)
                · exact hJq13 false
                · refine r_aload_n C dX12_works_128 rfl rfl ?_
                  refine r_getp C clX12 kd_132 (k := 10) (by decide) flX12_126 dX12_works_129 pt_132_10 ?_
                  refine r_sipush C dX12_works_132 (by decide) ?_
                  refine r_iaload C dX12_works_135 (fun v12 _ => ?_)
                  refine r_bipush C dX12_works_136 (by decide) ?_
                  refine q_icmp_ne (tgt := 156) C dX12_works_138 (by decide) (fun _ => ?_) (fun _ => ?_)
                  · exact hJq13 false
                  · exact hJq13 true
          · intro hJq10
            refine q_if_eq (tgt := 108) C dX12_works_87 (by decide) (fun _ => ?_) (fun _ => ?_)
            · refine r_iconst C dX12_works_108 (by decide) ?_
              refine r_goto (tgt := 113) C dX12_works_109 (by decide) ?_
              refine r_less [true, false, true, true, true, true, false] rfl ?_
              exact hJq10 1
            · refine r_iload C dX12_works_90 rfl ?_
              refine r_iconst C dX12_works_92 (by decide) ?_
              refine q_icmp_eq (tgt := 108) C dX12_works_93 (by decide) (fun _ => ?_) (fun _ => ?_)
              · refine r_iconst C dX12_works_108 (by decide) ?_
                refine r_goto (tgt := 113) C dX12_works_109 (by decide) ?_
                refine r_less [true, false, true, true, true, true, false] rfl ?_
                exact hJq10 1
              · refine r_iload C dX12_works_96 rfl ?_
                refine r_iconst C dX12_works_98 (by decide) ?_
                refine q_icmp_eq (tgt := 108) C dX12_works_99 (by decide) (fun _ => ?_) (fun _ => ?_)
                · refine r_iconst C dX12_works_108 (by decide) ?_
                  refine r_goto (tgt := 113) C dX12_works_109 (by decide) ?_
                  refine r_less [true, false, true, true, true, true, false] rfl ?_
                  exact hJq10 1
                · refine r_iload C dX12_works_102 rfl ?_
                  refine r_iconst C dX12_works_104 (by decide) ?_
                  refine q_icmp_ne (tgt := 112) C dX12_works_105 (by decide) (fun _ => ?_) (fun _ => ?_)
                  · refine r_iconst C dX12_works_112 (by decide) ?_
                    refine r_less [true, false, true, true, true, true, false] rfl ?_
                    exact hJq10 0
                  · refine r_iconst C dX12_works_108 (by decide) ?_
                    refine r_goto (tgt := 113) C dX12_works_109 (by decide) ?_
                    refine r_less [true, false, true, true, true, true, false] rfl ?_
                    exact hJq10 1
  · intro gs1 hCs1 hXs1 s1
    unfold fX12_works_b1
    refine r_iload_n C dX12_works_2 rfl rfl ?_
    refine r_aload_n C dX12_works_3 rfl rfl ?_
    refine r_getp C clX12 kd_132 (k := 10) (by decide) flX12_126 dX12_works_4 pt_132_10 ?_
    refine r_sipush C dX12_works_7 (by decide) ?_
    refine r_iaload C dX12_works_10 (fun v2 _ => ?_)
    refine q_icmp_ge (tgt := 30) C dX12_works_11 (by decide) (fun _ => ?_) (fun _ => ?_)
    · refine r_less [true, false, false, false, false, false, false] rfl ?_
      exact hXs1 s1.2
    · refine r_aload_n C dX12_works_14 rfl rfl ?_
      refine r_iconst C dX12_works_15 (by decide) ?_
      refine r_iload_n C dX12_works_16 rfl rfl ?_
      refine r_iconst C dX12_works_17 (by decide) ?_
      refine r_iconst C dX12_works_18 (by decide) ?_
      refine r_iconst C dX12_works_19 (by decide) ?_
      refine q_callVi (av := [zi 0, zi s1.1, zi (-1), zi (-1), zi 0]) (rest := []) C (tX12_made 0 s1.1 (-1) (-1) 0 s1.2) lkX12_329 kd_132 rfl rfl rfl (Nat.le_of_ble_eq_true rfl) ⟨by decide, by decide⟩ dX12_works_20 (fun q3 _ => ?_)
      refine r_istore_n (al' := [some (zr 132), some (zi s1.1), some (zi q3.1), none, none, none, none]) C dX12_works_23 rfl (by rw [hn]; decide) rfl ?_
      refine r_iinc (al' := [some (zr 132), some (zi (w32 (s1.1 + 1))), some (zi q3.1), none, none, none, none]) C dX12_works_24 rfl (by rw [hn]; decide) rfl ?_
      refine r_goto (tgt := 2) C dX12_works_27 (by decide) ?_
      refine r_less [true, true, false, false, false, false, false] rfl ?_
      exact hCs1 (w32 (s1.1 + 1), q3.2)
set_option maxRecDepth 100000 in
set_option maxHeartbeats 4000000 in
theorem tX12_inputs  (M : Mem) : Cn yX12_inputs cX12_inputs 1 (some .int) 0 0 [zr 132] M ((fX12_inputs  M).map oI) := by
  refine Cn_mk (own := RX12) rfl (by decide) (Nat.le_of_ble_eq_true rfl) [some (zr 132)] rfl (fun G C hn => ?_)
  unfold fX12_inputs
  refine r_aload_n C dX12_inputs_0 rfl rfl ?_
  refine r_getp C clX12 kd_132 (k := 10) (by decide) flX12_126 dX12_inputs_1 pt_132_10 ?_
  refine r_iconst C dX12_inputs_4 (by decide) ?_
  refine r_iaload C dX12_inputs_5 (fun v1 _ => ?_)
  exact r_ireturn C dX12_inputs_6 rfl
set_option maxRecDepth 100000 in
set_option maxHeartbeats 4000000 in
theorem tX12_shader  (M : Mem) : Cn yX12_shader cX12_shader 3 (some .int) 6 138 [zr 132] M ((fX12_shader  M).map oI) := by
  refine Cn_mk (own := RX12) rfl (by decide) (Nat.le_of_ble_eq_true rfl) [some (zr 132), none, none] rfl (fun G C hn => ?_)
  unfold fX12_shader
  refine r_aload_n C dX12_shader_0 rfl rfl ?_
  refine r_iconst C dX12_shader_1 (by decide) ?_
  refine q_puti C clX12 kd_132 (k := 0) (by decide) flX12_1 rfl dX12_shader_2 rfl rfl (fun M1 => ?_)
  refine r_aload_n C dX12_shader_5 rfl rfl ?_
  refine q_callVv (av := []) (rest := []) C (tX12_cutAll  M1) lkX12_308 kd_132 rfl rfl rfl (Nat.le_of_ble_eq_true rfl) ⟨by decide, by decide⟩ dX12_shader_6 (fun q2 _ => ?_)
  refine r_aload_n C dX12_shader_9 rfl rfl ?_
  refine r_sipush C dX12_shader_10 (by decide) ?_
  refine q_callVv (av := [zi 412]) (rest := []) C (tX12_clears 412 q2) lkX12_232 kd_132 rfl rfl rfl (Nat.le_of_ble_eq_true rfl) ⟨by decide, by decide⟩ dX12_shader_13 (fun q3 _ => ?_)
  refine r_aload_n C dX12_shader_16 rfl rfl ?_
  refine r_iconst C dX12_shader_17 (by decide) ?_
  refine q_puti C clX12 kd_132 (k := 14) (by decide) flX12_235 rfl dX12_shader_18 rfl rfl (fun M4 => ?_)
  refine r_aload_n C dX12_shader_21 rfl rfl ?_
  refine r_iconst C dX12_shader_22 (by decide) ?_
  refine q_puti C clX12 kd_132 (k := 18) (by decide) flX12_238 rfl dX12_shader_23 rfl rfl (fun M5 => ?_)
  refine r_lp (S := Mem) (R := Mem) (pcX := 56) (AL := fun s6 => [some (zr 132), none, none]) (MM := fun s6 => s6) (AX := fun q10 => [some (zr 132), none, none]) (MX := fun q10 => q10) ?_ ?_ M5
  · intro q10
    refine r_aload_n C dX12_shader_56 rfl rfl ?_
    refine q_geti C clX12 kd_132 (k := 18) (by decide) flX12_238 dX12_shader_57 (kz := 18) rfl (by decide) ?_
    refine r_join (γ := Mem) (pcJ := fun _ => 68) (al' := fun q12 => [some (zr 132), none, none]) (st' := fun q12 => []) (M' := fun q12 => q12) ?_ ?_
    · intro q12
      refine r_aload_n C dX12_shader_68 rfl rfl ?_
      refine r_getp C clX12 kd_132 (k := 10) (by decide) flX12_126 dX12_shader_69 pt_132_10 ?_
      refine r_sipush C dX12_shader_72 (by decide) ?_
      refine r_aload_n C dX12_shader_75 rfl rfl ?_
      refine q_geti C clX12 kd_132 (k := 14) (by decide) flX12_235 dX12_shader_76 (kz := 14) rfl (by decide) ?_
      refine r_iastore C dX12_shader_79 (fun M13 _ => ?_)
      refine r_aload_n C dX12_shader_80 rfl rfl ?_
      refine q_geti C clX12 kd_132 (k := 8) (by decide) flX12_57 dX12_shader_81 (kz := 8) rfl (by decide) ?_
      refine r_join (γ := Mem) (pcJ := fun _ => 91) (al' := fun q15 => [some (zr 132), none, none]) (st' := fun q15 => []) (M' := fun q15 => q15) ?_ ?_
      · intro q15
        refine r_aload_n C dX12_shader_91 rfl rfl ?_
        refine q_geti C clX12 kd_132 (k := 8) (by decide) flX12_57 dX12_shader_92 (kz := 8) rfl (by decide) ?_
        refine q_if_le (tgt := 103) C dX12_shader_95 (by decide) (fun _ => ?_) (fun _ => ?_)
        · refine r_iconst C dX12_shader_103 (by decide) ?_
          refine r_istore_n (al' := [some (zr 132), some (zi 0), none]) C dX12_shader_104 rfl (by rw [hn]; decide) rfl ?_
          refine r_lp (S := Int × Mem) (R := Mem) (pcX := 134) (AL := fun s16 => [some (zr 132), some (zi s16.1), none]) (MM := fun s16 => s16.2) (AX := fun q19 => [some (zr 132), none, none]) (MX := fun q19 => q19) ?_ ?_ (0, q15)
          · intro q19
            refine r_iconst C dX12_shader_134 (by decide) ?_
            refine r_istore_n (al' := [some (zr 132), some (zi 0), none]) C dX12_shader_135 rfl (by rw [hn]; decide) rfl ?_
            refine r_lp (S := Int × Mem) (R := Mem) (pcX := 171) (AL := fun s20 => [some (zr 132), some (zi s20.1), none]) (MM := fun s20 => s20.2) (AX := fun q24 => [some (zr 132), none, none]) (MX := fun q24 => q24) ?_ ?_ (0, q19)
            · intro q24
              refine r_iconst C dX12_shader_171 (by decide) ?_
              refine r_istore_n (al' := [some (zr 132), some (zi 0), none]) C dX12_shader_172 rfl (by rw [hn]; decide) rfl ?_
              refine r_lp (S := Int × Mem) (R := Mem) (pcX := 260) (AL := fun s25 => [some (zr 132), some (zi s25.1), none]) (MM := fun s25 => s25.2) (AX := fun q35 => [none, none, none]) (MX := fun q35 => q35) ?_ ?_ (0, q24)
              · intro q35
                refine r_iconst C dX12_shader_260 (by decide) ?_
                exact r_ireturn C dX12_shader_261 rfl
              · intro gs25 hCs25 hXs25 s25
                unfold fX12_shader_b4
                refine r_iload_n C dX12_shader_173 rfl rfl ?_
                refine r_aload_n C dX12_shader_174 rfl rfl ?_
                refine q_callVi (av := []) (rest := [zi s25.1]) C (tX12_inputs  s25.2) lkX12_320 kd_132 rfl rfl rfl (Nat.le_of_ble_eq_true rfl) ⟨by decide, by decide⟩ dX12_shader_175 (fun q26 _ => ?_)
                refine q_icmp_ge (tgt := 260) C dX12_shader_178 (by decide) (fun _ => ?_) (fun _ => ?_)
                · refine r_less [false, false, false] rfl ?_
                  exact hXs25 q26.2
                · refine r_aload_n C dX12_shader_181 rfl rfl ?_
                  refine r_getp C clX12 kd_132 (k := 25) (by decide) flX12_162 dX12_shader_182 pt_132_25 ?_
                  refine r_iconst C dX12_shader_185 (by decide) ?_
                  refine r_iload_n C dX12_shader_186 rfl rfl ?_
                  refine r_imul C dX12_shader_187 ?_
                  refine r_aload_n C dX12_shader_188 rfl rfl ?_
                  refine r_getp C clX12 kd_132 (k := 10) (by decide) flX12_126 dX12_shader_189 pt_132_10 ?_
                  refine r_bipush C dX12_shader_192 (by decide) ?_
                  refine r_iconst C dX12_shader_194 (by decide) ?_
                  refine r_iload_n C dX12_shader_195 rfl rfl ?_
                  refine r_imul C dX12_shader_196 ?_
                  refine r_iadd C dX12_shader_197 ?_
                  refine r_iaload C dX12_shader_198 (fun v27 _ => ?_)
                  refine r_iastore C dX12_shader_199 (fun M28 _ => ?_)
                  refine r_aload_n C dX12_shader_200 rfl rfl ?_
                  refine r_getp C clX12 kd_132 (k := 25) (by decide) flX12_162 dX12_shader_201 pt_132_25 ?_
                  refine r_iconst C dX12_shader_204 (by decide) ?_
                  refine r_iload_n C dX12_shader_205 rfl rfl ?_
                  refine r_imul C dX12_shader_206 ?_
                  refine r_iconst C dX12_shader_207 (by decide) ?_
                  refine r_iadd C dX12_shader_208 ?_
                  refine r_aload_n C dX12_shader_209 rfl rfl ?_
                  refine r_getp C clX12 kd_132 (k := 10) (by decide) flX12_126 dX12_shader_210 pt_132_10 ?_
                  refine r_bipush C dX12_shader_213 (by decide) ?_
                  refine r_iconst C dX12_shader_215 (by decide) ?_
                  refine r_iload_n C dX12_shader_216 rfl rfl ?_
                  refine r_imul C dX12_shader_217 ?_
                  refine r_iadd C dX12_shader_218 ?_
                  refine r_iconst C dX12_shader_219 (by decide) ?_
                  refine r_iadd C dX12_shader_220 ?_
                  refine r_iaload C dX12_shader_221 (fun v29 _ => ?_)
                  refine r_iastore C dX12_shader_222 (fun M30 _ => ?_)
                  refine r_iconst C dX12_shader_223 (by decide) ?_
                  refine r_istore_n (al' := [some (zr 132), some (zi s25.1), some (zi 0)]) C dX12_shader_224 rfl (by rw [hn]; decide) rfl ?_
                  refine r_lp (S := Int × Mem) (R := Mem) (pcX := 254) (AL := fun s31 => [some (zr 132), some (zi s25.1), some (zi s31.1)]) (MM := fun s31 => s31.2) (AX := fun q34 => [some (zr 132), some (zi s25.1), none]) (MX := fun q34 => q34) ?_ ?_ (0, M30)
                  · intro q34
                    refine r_iinc (al' := [some (zr 132), some (zi (w32 (s25.1 + 1))), none]) C dX12_shader_254 rfl (by rw [hn]; decide) rfl ?_
                    refine r_goto (tgt := 173) C dX12_shader_257 (by decide) ?_
                    exact hCs25 (w32 (s25.1 + 1), q34)
                  · intro gs31 hCs31 hXs31 s31
                    unfold fX12_shader_b5
                    refine r_iload_n C dX12_shader_225 rfl rfl ?_
                    refine r_iconst C dX12_shader_226 (by decide) ?_
                    refine q_icmp_ge (tgt := 254) C dX12_shader_227 (by decide) (fun _ => ?_) (fun _ => ?_)
                    · refine r_less [true, true, false] rfl ?_
                      exact hXs31 s31.2
                    · refine r_aload_n C dX12_shader_230 rfl rfl ?_
                      refine r_getp C clX12 kd_132 (k := 26) (by decide) flX12_165 dX12_shader_231 pt_132_26 ?_
                      refine r_iconst C dX12_shader_234 (by decide) ?_
                      refine r_iload_n C dX12_shader_235 rfl rfl ?_
                      refine r_imul C dX12_shader_236 ?_
                      refine r_iload_n C dX12_shader_237 rfl rfl ?_
                      refine r_iadd C dX12_shader_238 ?_
                      refine r_aload_n C dX12_shader_239 rfl rfl ?_
                      refine r_getp C clX12 kd_132 (k := 25) (by decide) flX12_162 dX12_shader_240 pt_132_25 ?_
                      refine r_iconst C dX12_shader_243 (by decide) ?_
                      refine r_iload_n C dX12_shader_244 rfl rfl ?_
                      refine r_imul C dX12_shader_245 ?_
                      refine r_iaload C dX12_shader_246 (fun v32 _ => ?_)
                      refine r_iastore C dX12_shader_247 (fun M33 _ => ?_)
                      refine r_iinc (al' := [some (zr 132), some (zi s25.1), some (zi (w32 (s31.1 + 1)))]) C dX12_shader_248 rfl (by rw [hn]; decide) rfl ?_
                      refine r_goto (tgt := 225) C dX12_shader_251 (by decide) ?_
                      exact hCs31 (w32 (s31.1 + 1), M33)
            · intro gs20 hCs20 hXs20 s20
              unfold fX12_shader_b3
              refine r_iload_n C dX12_shader_136 rfl rfl ?_
              refine r_bipush C dX12_shader_137 (by decide) ?_
              refine r_aload_n C dX12_shader_139 rfl rfl ?_
              refine r_getp C clX12 kd_132 (k := 10) (by decide) flX12_126 dX12_shader_140 pt_132_10 ?_
              refine r_iconst C dX12_shader_143 (by decide) ?_
              refine r_iaload C dX12_shader_144 (fun v21 _ => ?_)
              refine r_imul C dX12_shader_145 ?_
              refine q_icmp_ge (tgt := 171) C dX12_shader_146 (by decide) (fun _ => ?_) (fun _ => ?_)
              · refine r_less [true, false, false] rfl ?_
                exact hXs20 s20.2
              · refine r_aload_n C dX12_shader_149 rfl rfl ?_
                refine r_getp C clX12 kd_132 (k := 11) (by decide) flX12_129 dX12_shader_150 pt_132_11 ?_
                refine r_iload_n C dX12_shader_153 rfl rfl ?_
                refine r_aload_n C dX12_shader_154 rfl rfl ?_
                refine r_getp C clX12 kd_132 (k := 11) (by decide) flX12_129 dX12_shader_155 pt_132_11 ?_
                refine r_sipush C dX12_shader_158 (by decide) ?_
                refine r_iload_n C dX12_shader_161 rfl rfl ?_
                refine r_iadd C dX12_shader_162 ?_
                refine r_iaload C dX12_shader_163 (fun v22 _ => ?_)
                refine r_iastore C dX12_shader_164 (fun M23 _ => ?_)
                refine r_iinc (al' := [some (zr 132), some (zi (w32 (s20.1 + 1))), none]) C dX12_shader_165 rfl (by rw [hn]; decide) rfl ?_
                refine r_goto (tgt := 136) C dX12_shader_168 (by decide) ?_
                exact hCs20 (w32 (s20.1 + 1), M23)
          · intro gs16 hCs16 hXs16 s16
            unfold fX12_shader_b2
            refine r_iload_n C dX12_shader_105 rfl rfl ?_
            refine r_sipush C dX12_shader_106 (by decide) ?_
            refine q_icmp_ge (tgt := 134) C dX12_shader_109 (by decide) (fun _ => ?_) (fun _ => ?_)
            · refine r_less [true, false, false] rfl ?_
              exact hXs16 s16.2
            · refine r_aload_n C dX12_shader_112 rfl rfl ?_
              refine r_getp C clX12 kd_132 (k := 10) (by decide) flX12_126 dX12_shader_113 pt_132_10 ?_
              refine r_iload_n C dX12_shader_116 rfl rfl ?_
              refine r_aload_n C dX12_shader_117 rfl rfl ?_
              refine r_getp C clX12 kd_132 (k := 10) (by decide) flX12_126 dX12_shader_118 pt_132_10 ?_
              refine r_sipush C dX12_shader_121 (by decide) ?_
              refine r_iload_n C dX12_shader_124 rfl rfl ?_
              refine r_iadd C dX12_shader_125 ?_
              refine r_iaload C dX12_shader_126 (fun v17 _ => ?_)
              refine r_iastore C dX12_shader_127 (fun M18 _ => ?_)
              refine r_iinc (al' := [some (zr 132), some (zi (w32 (s16.1 + 1))), none]) C dX12_shader_128 rfl (by rw [hn]; decide) rfl ?_
              refine r_goto (tgt := 105) C dX12_shader_131 (by decide) ?_
              exact hCs16 (w32 (s16.1 + 1), M18)
        · refine r_aload_n C dX12_shader_98 rfl rfl ?_
          refine q_geti C clX12 kd_132 (k := 8) (by decide) flX12_57 dX12_shader_99 (kz := 8) rfl (by decide) ?_
          exact r_ireturn C dX12_shader_102 rfl
      · intro hJq15
        refine q_if_ne (tgt := 91) C dX12_shader_84 (by decide) (fun _ => ?_) (fun _ => ?_)
        · exact hJq15 M13
        · refine r_aload_n C dX12_shader_87 rfl rfl ?_
          refine q_callVv (av := []) (rest := []) C (tX12_works  M13) lkX12_317 kd_132 rfl rfl rfl (Nat.le_of_ble_eq_true rfl) ⟨by decide, by decide⟩ dX12_shader_88 (fun q14 _ => ?_)
          exact hJq15 q14
    · intro hJq12
      refine q_if_le (tgt := 68) C dX12_shader_60 (by decide) (fun _ => ?_) (fun _ => ?_)
      · exact hJq12 q10
      · refine r_aload_n C dX12_shader_63 rfl rfl ?_
        refine r_iconst C dX12_shader_64 (by decide) ?_
        refine q_callVv (av := [zi 1]) (rest := []) C (tX12_wrong 1 q10) lkX12_66 kd_132 rfl rfl rfl (Nat.le_of_ble_eq_true rfl) ⟨by decide, by decide⟩ dX12_shader_65 (fun q11 _ => ?_)
        exact hJq12 q11
  · intro gs6 hCs6 hXs6 s6
    unfold fX12_shader_b1
    refine r_aload_n C dX12_shader_26 rfl rfl ?_
    refine q_geti C clX12 kd_132 (k := 8) (by decide) flX12_57 dX12_shader_27 (kz := 8) rfl (by decide) ?_
    refine q_if_ne (tgt := 56) C dX12_shader_30 (by decide) (fun _ => ?_) (fun _ => ?_)
    · exact hXs6 s6
    · refine r_aload_n C dX12_shader_33 rfl rfl ?_
      refine r_getp C clX12 kd_132 (k := 4) (by decide) flX12_43 dX12_shader_34 pt_132_4 ?_
      refine r_aload_n C dX12_shader_37 rfl rfl ?_
      refine q_geti C clX12 kd_132 (k := 7) (by decide) flX12_54 dX12_shader_38 (kz := 7) rfl (by decide) ?_
      refine r_iaload C dX12_shader_41 (fun v7 _ => ?_)
      refine q_if_eq (tgt := 56) C dX12_shader_42 (by decide) (fun _ => ?_) (fun _ => ?_)
      · exact hXs6 s6
      · refine r_aload_n C dX12_shader_45 rfl rfl ?_
        refine q_callVv (av := []) (rest := []) C (tX12_readLine  s6) lkX12_311 kd_132 rfl rfl rfl (Nat.le_of_ble_eq_true rfl) ⟨by decide, by decide⟩ dX12_shader_46 (fun q8 _ => ?_)
        refine r_aload_n C dX12_shader_49 rfl rfl ?_
        refine q_callVv (av := []) (rest := []) C (tX12_takeEnd  q8) lkX12_314 kd_132 rfl rfl rfl (Nat.le_of_ble_eq_true rfl) ⟨by decide, by decide⟩ dX12_shader_50 (fun q9 _ => ?_)
        refine r_goto (tgt := 26) C dX12_shader_53 (by decide) ?_
        exact hCs6 q9
set_option maxRecDepth 100000 in
set_option maxHeartbeats 4000000 in
theorem tX12_values  (M : Mem) : Cn yX12_values cX12_values 1 (some .int) 0 0 [zr 132] M ((fX12_values  M).map oI) := by
  refine Cn_mk (own := RX12) rfl (by decide) (Nat.le_of_ble_eq_true rfl) [some (zr 132)] rfl (fun G C hn => ?_)
  unfold fX12_values
  refine r_aload_n C dX12_values_0 rfl rfl ?_
  refine r_getp C clX12 kd_132 (k := 10) (by decide) flX12_126 dX12_values_1 pt_132_10 ?_
  refine r_bipush C dX12_values_4 (by decide) ?_
  refine r_iaload C dX12_values_6 (fun v1 _ => ?_)
  exact r_ireturn C dX12_values_7 rfl
set_option maxRecDepth 100000 in
set_option maxHeartbeats 4000000 in
theorem tX12_howOf (p1 : Int) (M : Mem) : Cn yX12_howOf cX12_howOf 2 (some .int) 0 0 [zr 132, zi p1] M ((fX12_howOf p1 M).map oI) := by
  refine Cn_mk (own := RX12) rfl (by decide) (Nat.le_of_ble_eq_true rfl) [some (zr 132), some (zi p1)] rfl (fun G C hn => ?_)
  unfold fX12_howOf
  refine r_aload_n C dX12_howOf_0 rfl rfl ?_
  refine r_getp C clX12 kd_132 (k := 10) (by decide) flX12_126 dX12_howOf_1 pt_132_10 ?_
  refine r_bipush C dX12_howOf_4 (by decide) ?_
  refine r_iconst C dX12_howOf_6 (by decide) ?_
  refine r_iload_n C dX12_howOf_7 rfl rfl ?_
  refine r_imul C dX12_howOf_8 ?_
  refine r_iadd C dX12_howOf_9 ?_
  refine r_iaload C dX12_howOf_10 (fun v1 _ => ?_)
  exact r_ireturn C dX12_howOf_11 rfl
set_option maxRecDepth 100000 in
set_option maxHeartbeats 4000000 in
theorem tX12_argOf (p1 : Int) (p2 : Int) (M : Mem) : Cn yX12_argOf cX12_argOf 3 (some .int) 0 0 [zr 132, zi p1, zi p2] M ((fX12_argOf p1 p2 M).map oI) := by
  refine Cn_mk (own := RX12) rfl (by decide) (Nat.le_of_ble_eq_true rfl) [some (zr 132), some (zi p1), some (zi p2)] rfl (fun G C hn => ?_)
  unfold fX12_argOf
  refine r_aload_n C dX12_argOf_0 rfl rfl ?_
  refine r_getp C clX12 kd_132 (k := 10) (by decide) flX12_126 dX12_argOf_1 pt_132_10 ?_
  refine r_bipush C dX12_argOf_4 (by decide) ?_
  refine r_iconst C dX12_argOf_6 (by decide) ?_
  refine r_iload_n C dX12_argOf_7 rfl rfl ?_
  refine r_imul C dX12_argOf_8 ?_
  refine r_iadd C dX12_argOf_9 ?_
  refine r_iconst C dX12_argOf_10 (by decide) ?_
  refine r_iadd C dX12_argOf_11 ?_
  refine r_iload_n C dX12_argOf_12 rfl rfl ?_
  refine r_iadd C dX12_argOf_13 ?_
  refine r_iaload C dX12_argOf_14 (fun v1 _ => ?_)
  exact r_ireturn C dX12_argOf_15 rfl
set_option maxRecDepth 100000 in
set_option maxHeartbeats 4000000 in
theorem tX12_isInput (p1 : Int) (M : Mem) : Cn yX12_isInput cX12_isInput 2 (some .boolean) 1 20 [zr 132, zi p1] M ((fX12_isInput p1 M).map oI) := by
  refine Cn_mk (own := RX12) rfl (by decide) (Nat.le_of_ble_eq_true rfl) [some (zr 132), some (zi p1)] rfl (fun G C hn => ?_)
  unfold fX12_isInput
  refine r_iload_n C dX12_isInput_0 rfl rfl ?_
  refine r_join (γ := Int × Mem) (pcJ := fun _ => 17) (al' := fun q2 => [none, none]) (st' := fun q2 => [zi q2.1]) (M' := fun q2 => q2.2) ?_ ?_
  · intro q2
    exact r_zreturn C dX12_isInput_17 rfl
  · intro hJq2
    refine q_if_lt (tgt := 16) C dX12_isInput_1 (by decide) (fun _ => ?_) (fun _ => ?_)
    · refine r_iconst C dX12_isInput_16 (by decide) ?_
      refine r_less [false, false] rfl ?_
      exact hJq2 (0, M)
    · refine r_iload_n C dX12_isInput_4 rfl rfl ?_
      refine r_aload_n C dX12_isInput_5 rfl rfl ?_
      refine q_callVi (av := []) (rest := [zi p1]) C (tX12_inputs  M) lkX12_320 kd_132 rfl rfl rfl (Nat.le_of_ble_eq_true rfl) ⟨by decide, by decide⟩ dX12_isInput_6 (fun q1 _ => ?_)
      refine q_icmp_ge (tgt := 16) C dX12_isInput_9 (by decide) (fun _ => ?_) (fun _ => ?_)
      · refine r_iconst C dX12_isInput_16 (by decide) ?_
        refine r_less [false, false] rfl ?_
        exact hJq2 (0, q1.2)
      · refine r_iconst C dX12_isInput_12 (by decide) ?_
        refine r_goto (tgt := 17) C dX12_isInput_13 (by decide) ?_
        refine r_less [false, false] rfl ?_
        exact hJq2 (1, q1.2)
set_option maxRecDepth 100000 in
set_option maxHeartbeats 4000000 in
theorem tX12_isValue (p1 : Int) (M : Mem) : Cn yX12_isValue cX12_isValue 2 (some .boolean) 1 20 [zr 132, zi p1] M ((fX12_isValue p1 M).map oI) := by
  refine Cn_mk (own := RX12) rfl (by decide) (Nat.le_of_ble_eq_true rfl) [some (zr 132), some (zi p1)] rfl (fun G C hn => ?_)
  unfold fX12_isValue
  refine r_iload_n C dX12_isValue_0 rfl rfl ?_
  refine r_join (γ := Int × Mem) (pcJ := fun _ => 17) (al' := fun q2 => [none, none]) (st' := fun q2 => [zi q2.1]) (M' := fun q2 => q2.2) ?_ ?_
  · intro q2
    exact r_zreturn C dX12_isValue_17 rfl
  · intro hJq2
    refine q_if_lt (tgt := 16) C dX12_isValue_1 (by decide) (fun _ => ?_) (fun _ => ?_)
    · refine r_iconst C dX12_isValue_16 (by decide) ?_
      refine r_less [false, false] rfl ?_
      exact hJq2 (0, M)
    · refine r_iload_n C dX12_isValue_4 rfl rfl ?_
      refine r_aload_n C dX12_isValue_5 rfl rfl ?_
      refine q_callVi (av := []) (rest := [zi p1]) C (tX12_values  M) lkX12_352 kd_132 rfl rfl rfl (Nat.le_of_ble_eq_true rfl) ⟨by decide, by decide⟩ dX12_isValue_6 (fun q1 _ => ?_)
      refine q_icmp_ge (tgt := 16) C dX12_isValue_9 (by decide) (fun _ => ?_) (fun _ => ?_)
      · refine r_iconst C dX12_isValue_16 (by decide) ?_
        refine r_less [false, false] rfl ?_
        exact hJq2 (0, q1.2)
      · refine r_iconst C dX12_isValue_12 (by decide) ?_
        refine r_goto (tgt := 17) C dX12_isValue_13 (by decide) ?_
        refine r_less [false, false] rfl ?_
        exact hJq2 (1, q1.2)
set_option maxRecDepth 100000 in
set_option maxHeartbeats 4000000 in
theorem tX12_isLane (p1 : Int) (M : Mem) : Cn yX12_isLane cX12_isLane 1 (some .boolean) 1 22 [zi p1] M ((fX12_isLane p1 M).map oI) := by
  refine Cn_mk (own := RX12) rfl (by decide) (Nat.le_of_ble_eq_true rfl) [some (zi p1)] rfl (fun G C hn => ?_)
  unfold fX12_isLane
  refine r_iload_n C dX12_isLane_0 rfl rfl ?_
  refine r_iconst C dX12_isLane_1 (by decide) ?_
  refine r_iconst C dX12_isLane_2 (by decide) ?_
  refine q_callSi (av := [zi p1, zi 0, zi 3]) (rest := []) C (tX12_within p1 0 3 M) lkX12_355 rfl rfl (Nat.le_of_ble_eq_true rfl) ⟨by decide, by decide⟩ dX12_isLane_3 (fun q1 _ => ?_)
  exact r_zreturn C dX12_isLane_6 rfl
set_option maxRecDepth 100000 in
set_option maxHeartbeats 4000000 in
theorem tX12_isRange (p1 : Int) (p2 : Int) (M : Mem) : Cn yX12_isRange cX12_isRange 2 (some .boolean) 1 22 [zi p1, zi p2] M ((fX12_isRange p1 p2 M).map oI) := by
  refine Cn_mk (own := RX12) rfl (by decide) (Nat.le_of_ble_eq_true rfl) [some (zi p1), some (zi p2)] rfl (fun G C hn => ?_)
  unfold fX12_isRange
  refine r_iload_n C dX12_isRange_0 rfl rfl ?_
  refine r_iconst C dX12_isRange_1 (by decide) ?_
  refine r_sipush C dX12_isRange_2 (by decide) ?_
  refine q_callSi (av := [zi p1, zi 0, zi 999]) (rest := []) C (tX12_within p1 0 999 M) lkX12_355 rfl rfl (Nat.le_of_ble_eq_true rfl) ⟨by decide, by decide⟩ dX12_isRange_5 (fun q1 _ => ?_)
  refine r_join (γ := Int × Mem) (pcJ := fun _ => 27) (al' := fun q3 => [none, none]) (st' := fun q3 => [zi q3.1]) (M' := fun q3 => q3.2) ?_ ?_
  · intro q3
    exact r_zreturn C dX12_isRange_27 rfl
  · intro hJq3
    refine q_if_eq (tgt := 26) C dX12_isRange_8 (by decide) (fun _ => ?_) (fun _ => ?_)
    · refine r_iconst C dX12_isRange_26 (by decide) ?_
      refine r_less [false, false] rfl ?_
      exact hJq3 (0, q1.2)
    · refine r_iload_n C dX12_isRange_11 rfl rfl ?_
      refine r_iload_n C dX12_isRange_12 rfl rfl ?_
      refine r_sipush C dX12_isRange_13 (by decide) ?_
      refine q_callSi (av := [zi p2, zi p1, zi 999]) (rest := []) C (tX12_within p2 p1 999 q1.2) lkX12_355 rfl rfl (Nat.le_of_ble_eq_true rfl) ⟨by decide, by decide⟩ dX12_isRange_16 (fun q2 _ => ?_)
      refine q_if_eq (tgt := 26) C dX12_isRange_19 (by decide) (fun _ => ?_) (fun _ => ?_)
      · refine r_iconst C dX12_isRange_26 (by decide) ?_
        refine r_less [false, false] rfl ?_
        exact hJq3 (0, q2.2)
      · refine r_iconst C dX12_isRange_22 (by decide) ?_
        refine r_goto (tgt := 27) C dX12_isRange_23 (by decide) ?_
        refine r_less [false, false] rfl ?_
        exact hJq3 (1, q2.2)
set_option maxRecDepth 100000 in
set_option maxHeartbeats 4000000 in
theorem tX12_set (p1 : Int) (p2 : Int) (p3 : Int) (M : Mem) : Cn yX12_set cX12_set 7 (some .int) 2 42 [zr 132, zi p1, zi p2, zi p3] M ((fX12_set p1 p2 p3 M).map oI) := by
  refine Cn_mk (own := RX12) rfl (by decide) (Nat.le_of_ble_eq_true rfl) [some (zr 132), some (zi p1), some (zi p2), some (zi p3), none, none, none] rfl (fun G C hn => ?_)
  unfold fX12_set
  refine r_aload_n C dX12_set_0 rfl rfl ?_
  refine r_iconst C dX12_set_1 (by decide) ?_
  refine q_puti C clX12 kd_132 (k := 0) (by decide) flX12_1 rfl dX12_set_2 rfl rfl (fun M1 => ?_)
  refine r_aload_n C dX12_set_5 rfl rfl ?_
  refine r_iload_n C dX12_set_6 rfl rfl ?_
  refine q_callVi (av := [zi p1]) (rest := []) C (tX12_isInput p1 M1) lkX12_359 kd_132 rfl rfl rfl (Nat.le_of_ble_eq_true rfl) ⟨by decide, by decide⟩ dX12_set_7 (fun q2 _ => ?_)
  refine q_if_eq (tgt := 45) C dX12_set_10 (by decide) (fun _ => ?_) (fun _ => ?_)
  · refine r_iconst C dX12_set_45 (by decide) ?_
    exact r_ireturn C dX12_set_46 rfl
  · refine r_iload_n C dX12_set_13 rfl rfl ?_
    refine q_callSi (av := [zi p2]) (rest := []) C (tX12_isLane p2 q2.2) lkX12_362 rfl rfl (Nat.le_of_ble_eq_true rfl) ⟨by decide, by decide⟩ dX12_set_14 (fun q3 _ => ?_)
    refine q_if_eq (tgt := 45) C dX12_set_17 (by decide) (fun _ => ?_) (fun _ => ?_)
    · refine r_iconst C dX12_set_45 (by decide) ?_
      exact r_ireturn C dX12_set_46 rfl
    · refine r_iload_n C dX12_set_20 rfl rfl ?_
      refine r_aload_n C dX12_set_21 rfl rfl ?_
      refine r_getp C clX12 kd_132 (k := 25) (by decide) flX12_162 dX12_set_22 pt_132_25 ?_
      refine r_iconst C dX12_set_25 (by decide) ?_
      refine r_iload_n C dX12_set_26 rfl rfl ?_
      refine r_imul C dX12_set_27 ?_
      refine r_iaload C dX12_set_28 (fun v4 _ => ?_)
      refine r_aload_n C dX12_set_29 rfl rfl ?_
      refine r_getp C clX12 kd_132 (k := 25) (by decide) flX12_162 dX12_set_30 pt_132_25 ?_
      refine r_iconst C dX12_set_33 (by decide) ?_
      refine r_iload_n C dX12_set_34 rfl rfl ?_
      refine r_imul C dX12_set_35 ?_
      refine r_iconst C dX12_set_36 (by decide) ?_
      refine r_iadd C dX12_set_37 ?_
      refine r_iaload C dX12_set_38 (fun v5 _ => ?_)
      refine q_callSi (av := [zi p3, zi v4, zi v5]) (rest := []) C (tX12_within p3 v4 v5 q3.2) lkX12_355 rfl rfl (Nat.le_of_ble_eq_true rfl) ⟨by decide, by decide⟩ dX12_set_39 (fun q6 _ => ?_)
      refine q_if_ne (tgt := 47) C dX12_set_42 (by decide) (fun _ => ?_) (fun _ => ?_)
      · refine r_aload_n C dX12_set_47 rfl rfl ?_
        refine r_getp C clX12 kd_132 (k := 26) (by decide) flX12_165 dX12_set_48 pt_132_26 ?_
        refine r_iconst C dX12_set_51 (by decide) ?_
        refine r_iload_n C dX12_set_52 rfl rfl ?_
        refine r_imul C dX12_set_53 ?_
        refine r_iload_n C dX12_set_54 rfl rfl ?_
        refine r_iadd C dX12_set_55 ?_
        refine r_iaload C dX12_set_56 (fun v7 _ => ?_)
        refine r_istore (al' := [some (zr 132), some (zi p1), some (zi p2), some (zi p3), some (zi v7), none, none]) C dX12_set_57 (by rw [hn]; decide) rfl ?_
        refine r_iconst C dX12_set_59 (by decide) ?_
        refine r_istore (al' := [some (zr 132), some (zi p1), some (zi p2), some (zi p3), some (zi v7), some (zi 0), none]) C dX12_set_60 (by rw [hn]; decide) rfl ?_
        refine r_lp (S := Int × Mem) (R := Mem) (pcX := 135) (AL := fun s8 => [some (zr 132), some (zi p1), some (zi p2), some (zi p3), some (zi v7), some (zi s8.1), none]) (MM := fun s8 => s8.2) (AX := fun q14 => [none, none, none, none, some (zi v7), none, none]) (MX := fun q14 => q14) ?_ ?_ (0, q6.2)
        · intro q14
          refine r_iload C dX12_set_135 rfl ?_
          exact r_ireturn C dX12_set_137 rfl
        · intro gs8 hCs8 hXs8 s8
          unfold fX12_set_b1
          refine r_iload C dX12_set_62 rfl ?_
          refine r_iconst C dX12_set_64 (by decide) ?_
          refine q_icmp_ge (tgt := 135) C dX12_set_65 (by decide) (fun _ => ?_) (fun _ => ?_)
          · refine r_less [false, false, false, false, true, false, false] rfl ?_
            exact hXs8 s8.2
          · refine r_iload C dX12_set_68 rfl ?_
            refine r_iload_n C dX12_set_70 rfl rfl ?_
            refine r_join (γ := Int) (pcJ := fun _ => 96) (al' := fun q10 => [some (zr 132), some (zi p1), some (zi p2), some (zi p3), some (zi v7), some (zi s8.1), none]) (st' := fun q10 => [zi q10]) (M' := fun q10 => s8.2) ?_ ?_
            · intro q10
              refine r_istore (al' := [some (zr 132), some (zi p1), some (zi p2), some (zi p3), some (zi v7), some (zi s8.1), some (zi q10)]) C dX12_set_96 (by rw [hn]; decide) rfl ?_
              refine r_aload_n C dX12_set_98 rfl rfl ?_
              refine r_getp C clX12 kd_132 (k := 26) (by decide) flX12_165 dX12_set_99 pt_132_26 ?_
              refine r_iconst C dX12_set_102 (by decide) ?_
              refine r_iload_n C dX12_set_103 rfl rfl ?_
              refine r_imul C dX12_set_104 ?_
              refine r_iload C dX12_set_105 rfl ?_
              refine r_iadd C dX12_set_107 ?_
              refine r_iload C dX12_set_108 rfl ?_
              refine r_join (γ := Int) (pcJ := fun _ => 128) (al' := fun q12 => [some (zr 132), some (zi p1), some (zi p2), some (zi p3), some (zi v7), some (zi s8.1), none]) (st' := fun q12 => [zi q12, zi (w32 ((w32 (4 * p1)) + s8.1)), zr 151]) (M' := fun q12 => s8.2) ?_ ?_
              · intro q12
                refine r_iastore C dX12_set_128 (fun M13 _ => ?_)
                refine r_iinc (al' := [some (zr 132), some (zi p1), some (zi p2), some (zi p3), some (zi v7), some (zi (w32 (s8.1 + 1))), none]) C dX12_set_129 rfl (by rw [hn]; decide) rfl ?_
                refine r_goto (tgt := 62) C dX12_set_132 (by decide) ?_
                exact hCs8 (w32 (s8.1 + 1), M13)
              · intro hJq12
                refine q_if_eq (tgt := 117) C dX12_set_110 (by decide) (fun _ => ?_) (fun _ => ?_)
                · refine r_aload_n C dX12_set_117 rfl rfl ?_
                  refine r_getp C clX12 kd_132 (k := 26) (by decide) flX12_165 dX12_set_118 pt_132_26 ?_
                  refine r_iconst C dX12_set_121 (by decide) ?_
                  refine r_iload_n C dX12_set_122 rfl rfl ?_
                  refine r_imul C dX12_set_123 ?_
                  refine r_iload C dX12_set_124 rfl ?_
                  refine r_iadd C dX12_set_126 ?_
                  refine r_iaload C dX12_set_127 (fun v11 _ => ?_)
                  refine r_less [true, true, true, true, true, true, false] rfl ?_
                  exact hJq12 v11
                · refine r_iload_n C dX12_set_113 rfl rfl ?_
                  refine r_goto (tgt := 128) C dX12_set_114 (by decide) ?_
                  refine r_less [true, true, true, true, true, true, false] rfl ?_
                  exact hJq12 p3
            · intro hJq10
              refine q_icmp_eq (tgt := 91) C dX12_set_71 (by decide) (fun _ => ?_) (fun _ => ?_)
              · refine r_iconst C dX12_set_91 (by decide) ?_
                refine r_goto (tgt := 96) C dX12_set_92 (by decide) ?_
                exact hJq10 1
              · refine r_aload_n C dX12_set_74 rfl rfl ?_
                refine r_getp C clX12 kd_132 (k := 10) (by decide) flX12_126 dX12_set_75 pt_132_10 ?_
                refine r_bipush C dX12_set_78 (by decide) ?_
                refine r_iconst C dX12_set_80 (by decide) ?_
                refine r_iload_n C dX12_set_81 rfl rfl ?_
                refine r_imul C dX12_set_82 ?_
                refine r_iadd C dX12_set_83 ?_
                refine r_iconst C dX12_set_84 (by decide) ?_
                refine r_iadd C dX12_set_85 ?_
                refine r_iaload C dX12_set_86 (fun v9 _ => ?_)
                refine r_iconst C dX12_set_87 (by decide) ?_
                refine q_icmp_ne (tgt := 95) C dX12_set_88 (by decide) (fun _ => ?_) (fun _ => ?_)
                · refine r_iconst C dX12_set_95 (by decide) ?_
                  exact hJq10 0
                · refine r_iconst C dX12_set_91 (by decide) ?_
                  refine r_goto (tgt := 96) C dX12_set_92 (by decide) ?_
                  exact hJq10 1
      · refine r_iconst C dX12_set_45 (by decide) ?_
        exact r_ireturn C dX12_set_46 rfl
set_option maxRecDepth 100000 in
set_option maxHeartbeats 4000000 in
theorem tX12_cell (p1 : Int) (p2 : Int) (M : Mem) : Cn yX12_cell cX12_cell 4 (some .int) 1 22 [zr 132, zi p1, zi p2] M ((fX12_cell p1 p2 M).map oI) := by
  refine Cn_mk (own := RX12) rfl (by decide) (Nat.le_of_ble_eq_true rfl) [some (zr 132), some (zi p1), some (zi p2), none] rfl (fun G C hn => ?_)
  unfold fX12_cell
  refine r_aload_n C dX12_cell_0 rfl rfl ?_
  refine r_iconst C dX12_cell_1 (by decide) ?_
  refine q_puti C clX12 kd_132 (k := 0) (by decide) flX12_1 rfl dX12_cell_2 rfl rfl (fun M1 => ?_)
  refine r_iload_n C dX12_cell_5 rfl rfl ?_
  refine r_iconst C dX12_cell_6 (by decide) ?_
  refine r_bipush C dX12_cell_7 (by decide) ?_
  refine q_callSi (av := [zi p1, zi 0, zi 15]) (rest := []) C (tX12_within p1 0 15 M1) lkX12_355 rfl rfl (Nat.le_of_ble_eq_true rfl) ⟨by decide, by decide⟩ dX12_cell_9 (fun q2 _ => ?_)
  refine q_if_eq (tgt := 26) C dX12_cell_12 (by decide) (fun _ => ?_) (fun _ => ?_)
  · refine r_iconst C dX12_cell_26 (by decide) ?_
    exact r_ireturn C dX12_cell_27 rfl
  · refine r_iload_n C dX12_cell_15 rfl rfl ?_
    refine r_iconst C dX12_cell_16 (by decide) ?_
    refine r_sipush C dX12_cell_17 (by decide) ?_
    refine q_callSi (av := [zi p2, zi 0, zi 999]) (rest := []) C (tX12_within p2 0 999 q2.2) lkX12_355 rfl rfl (Nat.le_of_ble_eq_true rfl) ⟨by decide, by decide⟩ dX12_cell_20 (fun q3 _ => ?_)
    refine q_if_ne (tgt := 28) C dX12_cell_23 (by decide) (fun _ => ?_) (fun _ => ?_)
    · refine r_aload_n C dX12_cell_28 rfl rfl ?_
      refine r_getp C clX12 kd_132 (k := 27) (by decide) flX12_168 dX12_cell_29 pt_132_27 ?_
      refine r_iload_n C dX12_cell_32 rfl rfl ?_
      refine r_iaload C dX12_cell_33 (fun v4 _ => ?_)
      refine r_istore_n (al' := [some (zr 132), some (zi p1), some (zi p2), some (zi v4)]) C dX12_cell_34 rfl (by rw [hn]; decide) rfl ?_
      refine r_aload_n C dX12_cell_35 rfl rfl ?_
      refine r_getp C clX12 kd_132 (k := 27) (by decide) flX12_168 dX12_cell_36 pt_132_27 ?_
      refine r_iload_n C dX12_cell_39 rfl rfl ?_
      refine r_iload_n C dX12_cell_40 rfl rfl ?_
      refine r_iastore C dX12_cell_41 (fun M5 _ => ?_)
      refine r_iload_n C dX12_cell_42 rfl rfl ?_
      exact r_ireturn C dX12_cell_43 rfl
    · refine r_iconst C dX12_cell_26 (by decide) ?_
      exact r_ireturn C dX12_cell_27 rfl
set_option maxRecDepth 100000 in
set_option maxHeartbeats 4000000 in
theorem tX12_rule (p1 : Int) (M : Mem) : Cn yX12_rule cX12_rule 3 (some .int) 1 22 [zr 132, zi p1] M ((fX12_rule p1 M).map oI) := by
  refine Cn_mk (own := RX12) rfl (by decide) (Nat.le_of_ble_eq_true rfl) [some (zr 132), some (zi p1), none] rfl (fun G C hn => ?_)
  unfold fX12_rule
  refine r_aload_n C dX12_rule_0 rfl rfl ?_
  refine r_iconst C dX12_rule_1 (by decide) ?_
  refine q_puti C clX12 kd_132 (k := 0) (by decide) flX12_1 rfl dX12_rule_2 rfl rfl (fun M1 => ?_)
  refine r_iload_n C dX12_rule_5 rfl rfl ?_
  refine r_iconst C dX12_rule_6 (by decide) ?_
  refine r_iconst C dX12_rule_7 (by decide) ?_
  refine q_callSi (av := [zi p1, zi 0, zi 3]) (rest := []) C (tX12_within p1 0 3 M1) lkX12_355 rfl rfl (Nat.le_of_ble_eq_true rfl) ⟨by decide, by decide⟩ dX12_rule_8 (fun q2 _ => ?_)
  refine q_if_ne (tgt := 16) C dX12_rule_11 (by decide) (fun _ => ?_) (fun _ => ?_)
  · refine r_aload_n C dX12_rule_16 rfl rfl ?_
    refine q_geti C clX12 kd_132 (k := 28) (by decide) flX12_365 dX12_rule_17 (kz := 28) rfl (by decide) ?_
    refine r_let (fun v3 _ => ?_)
    refine r_istore_n (al' := [some (zr 132), some (zi p1), some (zi v3)]) C dX12_rule_20 rfl (by rw [hn]; decide) rfl ?_
    refine r_aload_n C dX12_rule_21 rfl rfl ?_
    refine r_iload_n C dX12_rule_22 rfl rfl ?_
    refine q_puti C clX12 kd_132 (k := 28) (by decide) flX12_365 rfl dX12_rule_23 rfl rfl (fun M4 => ?_)
    refine r_iload_n C dX12_rule_26 rfl rfl ?_
    exact r_ireturn C dX12_rule_27 rfl
  · refine r_iconst C dX12_rule_14 (by decide) ?_
    exact r_ireturn C dX12_rule_15 rfl
set_option maxRecDepth 100000 in
set_option maxHeartbeats 4000000 in
theorem tX12_narrow (p1 : Int) (p2 : Int) (p3 : Int) (M : Mem) : Cn yX12_narrow cX12_narrow 6 (some .boolean) 2 43 [zr 132, zi p1, zi p2, zi p3] M ((fX12_narrow p1 p2 p3 M).map oI) := by
  refine Cn_mk (own := RX12) rfl (by decide) (Nat.le_of_ble_eq_true rfl) [some (zr 132), some (zi p1), some (zi p2), some (zi p3), none, none] rfl (fun G C hn => ?_)
  unfold fX12_narrow
  refine r_aload_n C dX12_narrow_0 rfl rfl ?_
  refine r_iconst C dX12_narrow_1 (by decide) ?_
  refine q_puti C clX12 kd_132 (k := 0) (by decide) flX12_1 rfl dX12_narrow_2 rfl rfl (fun M1 => ?_)
  refine r_aload_n C dX12_narrow_5 rfl rfl ?_
  refine r_iload_n C dX12_narrow_6 rfl rfl ?_
  refine q_callVi (av := [zi p1]) (rest := []) C (tX12_isInput p1 M1) lkX12_359 kd_132 rfl rfl rfl (Nat.le_of_ble_eq_true rfl) ⟨by decide, by decide⟩ dX12_narrow_7 (fun q2 _ => ?_)
  refine r_join (γ := Int × Mem) (pcJ := fun _ => 26) (al' := fun q4 => [some (zr 132), some (zi p1), some (zi p2), some (zi p3), none, none]) (st' := fun q4 => [zi q4.1]) (M' := fun q4 => q4.2) ?_ ?_
  · intro q4
    refine r_istore (al' := [some (zr 132), some (zi p1), some (zi p2), some (zi p3), some (zi q4.1), none]) C dX12_narrow_26 (by rw [hn]; decide) rfl ?_
    refine r_iconst C dX12_narrow_28 (by decide) ?_
    refine r_istore (al' := [some (zr 132), some (zi p1), some (zi p2), some (zi p3), some (zi q4.1), some (zi 0)]) C dX12_narrow_29 (by rw [hn]; decide) rfl ?_
    refine r_lp (S := Int × Int × Mem) (R := Int × Mem) (pcX := 66) (AL := fun s5 => [some (zr 132), some (zi p1), some (zi p2), some (zi p3), some (zi s5.1), some (zi s5.2.1)]) (MM := fun s5 => s5.2.2) (AX := fun q8 => [some (zr 132), some (zi p1), some (zi p2), some (zi p3), some (zi q8.1), none]) (MX := fun q8 => q8.2) ?_ ?_ (q4.1, 0, q4.2)
    · intro q8
      refine r_iload C dX12_narrow_66 rfl ?_
      refine r_join (γ := Mem) (pcJ := fun _ => 91) (al' := fun q11 => [none, none, none, none, some (zi q8.1), none]) (st' := fun q11 => []) (M' := fun q11 => q11) ?_ ?_
      · intro q11
        refine r_iload C dX12_narrow_91 rfl ?_
        exact r_zreturn C dX12_narrow_93 rfl
      · intro hJq11
        refine q_if_eq (tgt := 91) C dX12_narrow_68 (by decide) (fun _ => ?_) (fun _ => ?_)
        · refine r_less [false, false, false, false, true, false] rfl ?_
          exact hJq11 q8.2
        · refine r_aload_n C dX12_narrow_71 rfl rfl ?_
          refine r_getp C clX12 kd_132 (k := 25) (by decide) flX12_162 dX12_narrow_72 pt_132_25 ?_
          refine r_iconst C dX12_narrow_75 (by decide) ?_
          refine r_iload_n C dX12_narrow_76 rfl rfl ?_
          refine r_imul C dX12_narrow_77 ?_
          refine r_iload_n C dX12_narrow_78 rfl rfl ?_
          refine r_iastore C dX12_narrow_79 (fun M9 _ => ?_)
          refine r_aload_n C dX12_narrow_80 rfl rfl ?_
          refine r_getp C clX12 kd_132 (k := 25) (by decide) flX12_162 dX12_narrow_81 pt_132_25 ?_
          refine r_iconst C dX12_narrow_84 (by decide) ?_
          refine r_iload_n C dX12_narrow_85 rfl rfl ?_
          refine r_imul C dX12_narrow_86 ?_
          refine r_iconst C dX12_narrow_87 (by decide) ?_
          refine r_iadd C dX12_narrow_88 ?_
          refine r_iload_n C dX12_narrow_89 rfl rfl ?_
          refine r_iastore C dX12_narrow_90 (fun M10 _ => ?_)
          refine r_less [false, false, false, false, true, false] rfl ?_
          exact hJq11 M10
    · intro gs5 hCs5 hXs5 s5
      unfold fX12_narrow_b1
      refine r_iload C dX12_narrow_31 rfl ?_
      refine q_if_eq (tgt := 66) C dX12_narrow_33 (by decide) (fun _ => ?_) (fun _ => ?_)
      · refine r_less [true, true, true, true, true, false] rfl ?_
        exact hXs5 (s5.1, s5.2.2)
      · refine r_iload C dX12_narrow_36 rfl ?_
        refine r_iconst C dX12_narrow_38 (by decide) ?_
        refine q_icmp_ge (tgt := 66) C dX12_narrow_39 (by decide) (fun _ => ?_) (fun _ => ?_)
        · refine r_less [true, true, true, true, true, false] rfl ?_
          exact hXs5 (s5.1, s5.2.2)
        · refine r_aload_n C dX12_narrow_42 rfl rfl ?_
          refine r_getp C clX12 kd_132 (k := 26) (by decide) flX12_165 dX12_narrow_43 pt_132_26 ?_
          refine r_iconst C dX12_narrow_46 (by decide) ?_
          refine r_iload_n C dX12_narrow_47 rfl rfl ?_
          refine r_imul C dX12_narrow_48 ?_
          refine r_iload C dX12_narrow_49 rfl ?_
          refine r_iadd C dX12_narrow_51 ?_
          refine r_iaload C dX12_narrow_52 (fun v6 _ => ?_)
          refine r_iload_n C dX12_narrow_53 rfl rfl ?_
          refine r_iload_n C dX12_narrow_54 rfl rfl ?_
          refine q_callSi (av := [zi v6, zi p2, zi p3]) (rest := []) C (tX12_within v6 p2 p3 s5.2.2) lkX12_355 rfl rfl (Nat.le_of_ble_eq_true rfl) ⟨by decide, by decide⟩ dX12_narrow_55 (fun q7 _ => ?_)
          refine r_istore (al' := [some (zr 132), some (zi p1), some (zi p2), some (zi p3), some (zi q7.1), some (zi s5.2.1)]) C dX12_narrow_58 (by rw [hn]; decide) rfl ?_
          refine r_iinc (al' := [some (zr 132), some (zi p1), some (zi p2), some (zi p3), some (zi q7.1), some (zi (w32 (s5.2.1 + 1)))]) C dX12_narrow_60 rfl (by rw [hn]; decide) rfl ?_
          refine r_goto (tgt := 31) C dX12_narrow_63 (by decide) ?_
          exact hCs5 (q7.1, w32 (s5.2.1 + 1), q7.2)
  · intro hJq4
    refine q_if_eq (tgt := 25) C dX12_narrow_10 (by decide) (fun _ => ?_) (fun _ => ?_)
    · refine r_iconst C dX12_narrow_25 (by decide) ?_
      exact hJq4 (0, q2.2)
    · refine r_iload_n C dX12_narrow_13 rfl rfl ?_
      refine r_iload_n C dX12_narrow_14 rfl rfl ?_
      refine q_callSi (av := [zi p2, zi p3]) (rest := []) C (tX12_isRange p2 p3 q2.2) lkX12_368 rfl rfl (Nat.le_of_ble_eq_true rfl) ⟨by decide, by decide⟩ dX12_narrow_15 (fun q3 _ => ?_)
      refine q_if_eq (tgt := 25) C dX12_narrow_18 (by decide) (fun _ => ?_) (fun _ => ?_)
      · refine r_iconst C dX12_narrow_25 (by decide) ?_
        exact hJq4 (0, q3.2)
      · refine r_iconst C dX12_narrow_21 (by decide) ?_
        refine r_goto (tgt := 26) C dX12_narrow_22 (by decide) ?_
        exact hJq4 (1, q3.2)
set_option maxRecDepth 100000 in
set_option maxHeartbeats 4000000 in
theorem tX12_input (p1 : Int) (p2 : Int) (M : Mem) : Cn yX12_input cX12_input 3 (some .int) 2 41 [zr 132, zi p1, zi p2] M ((fX12_input p1 p2 M).map oI) := by
  refine Cn_mk (own := RX12) rfl (by decide) (Nat.le_of_ble_eq_true rfl) [some (zr 132), some (zi p1), some (zi p2)] rfl (fun G C hn => ?_)
  unfold fX12_input
  refine r_aload_n C dX12_input_0 rfl rfl ?_
  refine r_iconst C dX12_input_1 (by decide) ?_
  refine q_puti C clX12 kd_132 (k := 0) (by decide) flX12_1 rfl dX12_input_2 rfl rfl (fun M1 => ?_)
  refine r_aload_n C dX12_input_5 rfl rfl ?_
  refine r_iload_n C dX12_input_6 rfl rfl ?_
  refine q_callVi (av := [zi p1]) (rest := []) C (tX12_isInput p1 M1) lkX12_359 kd_132 rfl rfl rfl (Nat.le_of_ble_eq_true rfl) ⟨by decide, by decide⟩ dX12_input_7 (fun q2 _ => ?_)
  refine q_if_eq (tgt := 23) C dX12_input_10 (by decide) (fun _ => ?_) (fun _ => ?_)
  · refine r_iconst C dX12_input_23 (by decide) ?_
    exact r_ireturn C dX12_input_24 rfl
  · refine r_iload_n C dX12_input_13 rfl rfl ?_
    refine r_iconst C dX12_input_14 (by decide) ?_
    refine r_bipush C dX12_input_15 (by decide) ?_
    refine q_callSi (av := [zi p2, zi 0, zi 7]) (rest := []) C (tX12_within p2 0 7 q2.2) lkX12_355 rfl rfl (Nat.le_of_ble_eq_true rfl) ⟨by decide, by decide⟩ dX12_input_17 (fun q3 _ => ?_)
    refine q_if_ne (tgt := 25) C dX12_input_20 (by decide) (fun _ => ?_) (fun _ => ?_)
    · refine r_iload_n C dX12_input_25 rfl rfl ?_
      refine r_join (γ := Int) (pcJ := fun _ => 86) (al' := fun q7 => [none, none, none]) (st' := fun q7 => [zi q7]) (M' := fun q7 => q3.2) ?_ ?_
      · intro q7
        exact r_ireturn C dX12_input_86 rfl
      · intro hJq7
        refine q_if_ne (tgt := 33) C dX12_input_26 (by decide) (fun _ => ?_) (fun _ => ?_)
        · refine r_iload_n C dX12_input_33 rfl rfl ?_
          refine r_iconst C dX12_input_34 (by decide) ?_
          refine q_icmp_ge (tgt := 53) C dX12_input_35 (by decide) (fun _ => ?_) (fun _ => ?_)
          · refine r_iload_n C dX12_input_53 rfl rfl ?_
            refine r_iconst C dX12_input_54 (by decide) ?_
            refine q_icmp_ne (tgt := 74) C dX12_input_55 (by decide) (fun _ => ?_) (fun _ => ?_)
            · refine r_aload_n C dX12_input_74 rfl rfl ?_
              refine r_getp C clX12 kd_132 (k := 26) (by decide) flX12_165 dX12_input_75 pt_132_26 ?_
              refine r_iconst C dX12_input_78 (by decide) ?_
              refine r_iload_n C dX12_input_79 rfl rfl ?_
              refine r_imul C dX12_input_80 ?_
              refine r_iload_n C dX12_input_81 rfl rfl ?_
              refine r_iadd C dX12_input_82 ?_
              refine r_iconst C dX12_input_83 (by decide) ?_
              refine r_isub C dX12_input_84 ?_
              refine r_iaload C dX12_input_85 (fun v4 _ => ?_)
              refine r_less [false, false, false] rfl ?_
              exact hJq7 v4
            · refine r_aload_n C dX12_input_58 rfl rfl ?_
              refine r_getp C clX12 kd_132 (k := 10) (by decide) flX12_126 dX12_input_59 pt_132_10 ?_
              refine r_bipush C dX12_input_62 (by decide) ?_
              refine r_iconst C dX12_input_64 (by decide) ?_
              refine r_iload_n C dX12_input_65 rfl rfl ?_
              refine r_imul C dX12_input_66 ?_
              refine r_iadd C dX12_input_67 ?_
              refine r_iconst C dX12_input_68 (by decide) ?_
              refine r_iadd C dX12_input_69 ?_
              refine r_iaload C dX12_input_70 (fun v5 _ => ?_)
              refine r_goto (tgt := 86) C dX12_input_71 (by decide) ?_
              refine r_less [false, false, false] rfl ?_
              exact hJq7 v5
          · refine r_aload_n C dX12_input_38 rfl rfl ?_
            refine r_getp C clX12 kd_132 (k := 25) (by decide) flX12_162 dX12_input_39 pt_132_25 ?_
            refine r_iconst C dX12_input_42 (by decide) ?_
            refine r_iload_n C dX12_input_43 rfl rfl ?_
            refine r_imul C dX12_input_44 ?_
            refine r_iload_n C dX12_input_45 rfl rfl ?_
            refine r_iadd C dX12_input_46 ?_
            refine r_iconst C dX12_input_47 (by decide) ?_
            refine r_isub C dX12_input_48 ?_
            refine r_iaload C dX12_input_49 (fun v6 _ => ?_)
            refine r_goto (tgt := 86) C dX12_input_50 (by decide) ?_
            refine r_less [false, false, false] rfl ?_
            exact hJq7 v6
        · refine r_iload_n C dX12_input_29 rfl rfl ?_
          refine r_goto (tgt := 86) C dX12_input_30 (by decide) ?_
          refine r_less [false, false, false] rfl ?_
          exact hJq7 p1
    · refine r_iconst C dX12_input_23 (by decide) ?_
      exact r_ireturn C dX12_input_24 rfl
set_option maxRecDepth 100000 in
set_option maxHeartbeats 4000000 in
theorem tX12_held (p1 : Int) (M : Mem) : Cn yX12_held cX12_held 2 (some .int) 0 0 [zl p1] M ((fX12_held p1 M).map oI) := by
  refine Cn_mk (own := RX12) rfl (by decide) (Nat.le_of_ble_eq_true rfl) [some (zl p1), none] rfl (fun G C hn => ?_)
  unfold fX12_held
  refine r_lload_n C dX12_held_0 rfl rfl ?_
  refine r_ldc2 C klX12_372 rfl dX12_held_1 ?_
  refine r_lcmp C dX12_held_4 ?_
  refine r_join (γ := Int) (pcJ := fun _ => 30) (al' := fun q1 => [none, none]) (st' := fun q1 => [zi q1]) (M' := fun q1 => M) ?_ ?_
  · intro q1
    exact r_ireturn C dX12_held_30 rfl
  · intro hJq1
    refine q_if_ge (tgt := 14) C dX12_held_5 (by decide) (fun _ => ?_) (fun _ => ?_)
    · refine r_lload_n C dX12_held_14 rfl rfl ?_
      refine r_ldc2 C klX12_375 rfl dX12_held_15 ?_
      refine r_lcmp C dX12_held_18 ?_
      refine q_if_le (tgt := 28) C dX12_held_19 (by decide) (fun _ => ?_) (fun _ => ?_)
      · refine r_lload_n C dX12_held_28 rfl rfl ?_
        refine r_l2i C dX12_held_29 ?_
        refine r_less [false, false] rfl ?_
        exact hJq1 (w32 p1)
      · refine r_ldcw C kiX12_377 rfl dX12_held_22 ?_
        refine r_goto (tgt := 30) C dX12_held_25 (by decide) ?_
        refine r_less [false, false] rfl ?_
        exact hJq1 99999
    · refine r_ldcw C kiX12_374 rfl dX12_held_8 ?_
      refine r_goto (tgt := 30) C dX12_held_11 (by decide) ?_
      refine r_less [false, false] rfl ?_
      exact hJq1 (-99999)
set_option maxRecDepth 100000 in
set_option maxHeartbeats 4000000 in
theorem tX12_lesser (p1 : Int) (p2 : Int) (M : Mem) : Cn yX12_lesser cX12_lesser 2 (some .int) 0 0 [zi p1, zi p2] M ((fX12_lesser p1 p2 M).map oI) := by
  refine Cn_mk (own := RX12) rfl (by decide) (Nat.le_of_ble_eq_true rfl) [some (zi p1), some (zi p2)] rfl (fun G C hn => ?_)
  unfold fX12_lesser
  refine r_iload_n C dX12_lesser_0 rfl rfl ?_
  refine r_iload_n C dX12_lesser_1 rfl rfl ?_
  refine r_join (γ := Int) (pcJ := fun _ => 10) (al' := fun q1 => [none, none]) (st' := fun q1 => [zi q1]) (M' := fun q1 => M) ?_ ?_
  · intro q1
    exact r_ireturn C dX12_lesser_10 rfl
  · intro hJq1
    refine q_icmp_ge (tgt := 9) C dX12_lesser_2 (by decide) (fun _ => ?_) (fun _ => ?_)
    · refine r_iload_n C dX12_lesser_9 rfl rfl ?_
      refine r_less [false, false] rfl ?_
      exact hJq1 p2
    · refine r_iload_n C dX12_lesser_5 rfl rfl ?_
      refine r_goto (tgt := 10) C dX12_lesser_6 (by decide) ?_
      refine r_less [false, false] rfl ?_
      exact hJq1 p1
set_option maxRecDepth 100000 in
set_option maxHeartbeats 4000000 in
theorem tX12_greater (p1 : Int) (p2 : Int) (M : Mem) : Cn yX12_greater cX12_greater 2 (some .int) 0 0 [zi p1, zi p2] M ((fX12_greater p1 p2 M).map oI) := by
  refine Cn_mk (own := RX12) rfl (by decide) (Nat.le_of_ble_eq_true rfl) [some (zi p1), some (zi p2)] rfl (fun G C hn => ?_)
  unfold fX12_greater
  refine r_iload_n C dX12_greater_0 rfl rfl ?_
  refine r_iload_n C dX12_greater_1 rfl rfl ?_
  refine r_join (γ := Int) (pcJ := fun _ => 10) (al' := fun q1 => [none, none]) (st' := fun q1 => [zi q1]) (M' := fun q1 => M) ?_ ?_
  · intro q1
    exact r_ireturn C dX12_greater_10 rfl
  · intro hJq1
    refine q_icmp_le (tgt := 9) C dX12_greater_2 (by decide) (fun _ => ?_) (fun _ => ?_)
    · refine r_iload_n C dX12_greater_9 rfl rfl ?_
      refine r_less [false, false] rfl ?_
      exact hJq1 p2
    · refine r_iload_n C dX12_greater_5 rfl rfl ?_
      refine r_goto (tgt := 10) C dX12_greater_6 (by decide) ?_
      refine r_less [false, false] rfl ?_
      exact hJq1 p1
set_option maxRecDepth 100000 in
set_option maxHeartbeats 4000000 in
theorem tX12_worked (p1 : Int) (p2 : Int) (p3 : Int) (p4 : Int) (M : Mem) : Cn yX12_worked cX12_worked 5 (some .int) 1 21 [zr 132, zi p1, zi p2, zi p3, zi p4] M ((fX12_worked p1 p2 p3 p4 M).map oI) := by
  refine Cn_mk (own := RX12) rfl (by decide) (Nat.le_of_ble_eq_true rfl) [some (zr 132), some (zi p1), some (zi p2), some (zi p3), some (zi p4)] rfl (fun G C hn => ?_)
  unfold fX12_worked
  refine r_iload_n C dX12_worked_0 rfl rfl ?_
  refine r_ite (fun hx0 => ?_) (fun hx0 => ?_)
  · refine r_sw 60 ?_ (fun J => ?_)
    · refine r_iload_n C dX12_worked_60 rfl rfl ?_
      refine r_i2l C dX12_worked_61 ?_
      refine r_iload_n C dX12_worked_62 rfl rfl ?_
      refine r_i2l C dX12_worked_63 ?_
      refine r_ladd C dX12_worked_64 ?_
      refine q_callSi (av := [zl (w64 (p2 + p3))]) (rest := []) C (tX12_held (w64 (p2 + p3)) M) lkX12_378 rfl rfl (Nat.le_of_ble_eq_true rfl) ⟨by decide, by decide⟩ dX12_worked_65 (fun q1 _ => ?_)
      exact r_ireturn C dX12_worked_68 rfl
    · skip
      exact r_tabIn (n := 2) C dX12_worked_1 hx0 (by decide) (by decide) rfl (by decide) J
  refine r_ite (fun hx1 => ?_) (fun hx1 => ?_)
  · refine r_sw 69 ?_ (fun J => ?_)
    · refine r_iload_n C dX12_worked_69 rfl rfl ?_
      refine r_i2l C dX12_worked_70 ?_
      refine r_iload_n C dX12_worked_71 rfl rfl ?_
      refine r_i2l C dX12_worked_72 ?_
      refine r_lsub C dX12_worked_73 ?_
      refine q_callSi (av := [zl (w64 (p2 - p3))]) (rest := []) C (tX12_held (w64 (p2 - p3)) M) lkX12_378 rfl rfl (Nat.le_of_ble_eq_true rfl) ⟨by decide, by decide⟩ dX12_worked_74 (fun q2 _ => ?_)
      exact r_ireturn C dX12_worked_77 rfl
    · skip
      exact r_tabIn (n := 3) C dX12_worked_1 hx1 (by decide) (by decide) rfl (by decide) J
  refine r_ite (fun hx2 => ?_) (fun hx2 => ?_)
  · refine r_sw 78 ?_ (fun J => ?_)
    · refine r_iload_n C dX12_worked_78 rfl rfl ?_
      refine r_i2l C dX12_worked_79 ?_
      refine r_iload_n C dX12_worked_80 rfl rfl ?_
      refine r_i2l C dX12_worked_81 ?_
      refine r_lmul C dX12_worked_82 ?_
      refine q_callSi (av := [zl (w64 (p2 * p3))]) (rest := []) C (tX12_held (w64 (p2 * p3)) M) lkX12_378 rfl rfl (Nat.le_of_ble_eq_true rfl) ⟨by decide, by decide⟩ dX12_worked_83 (fun q3 _ => ?_)
      exact r_ireturn C dX12_worked_86 rfl
    · skip
      exact r_tabIn (n := 4) C dX12_worked_1 hx2 (by decide) (by decide) rfl (by decide) J
  refine r_ite (fun hx3 => ?_) (fun hx3 => ?_)
  · refine r_sw 87 ?_ (fun J => ?_)
    · refine r_iload_n C dX12_worked_87 rfl rfl ?_
      refine r_iload_n C dX12_worked_88 rfl rfl ?_
      refine q_callSi (av := [zi p2, zi p3]) (rest := []) C (tX12_lesser p2 p3 M) lkX12_382 rfl rfl (Nat.le_of_ble_eq_true rfl) ⟨by decide, by decide⟩ dX12_worked_89 (fun q4 _ => ?_)
      exact r_ireturn C dX12_worked_92 rfl
    · rcases hx3 with hx3 | hx3
      · exact r_tabIn (n := 5) C dX12_worked_1 hx3 (by decide) (by decide) rfl (by decide) J
      · exact r_tabIn (n := 10) C dX12_worked_1 hx3 (by decide) (by decide) rfl (by decide) J
  refine r_ite (fun hx4 => ?_) (fun hx4 => ?_)
  · refine r_sw 93 ?_ (fun J => ?_)
    · refine r_iload_n C dX12_worked_93 rfl rfl ?_
      refine r_iload_n C dX12_worked_94 rfl rfl ?_
      refine q_callSi (av := [zi p2, zi p3]) (rest := []) C (tX12_greater p2 p3 M) lkX12_385 rfl rfl (Nat.le_of_ble_eq_true rfl) ⟨by decide, by decide⟩ dX12_worked_95 (fun q5 _ => ?_)
      exact r_ireturn C dX12_worked_98 rfl
    · rcases hx4 with hx4 | hx4
      · exact r_tabIn (n := 6) C dX12_worked_1 hx4 (by decide) (by decide) rfl (by decide) J
      · exact r_tabIn (n := 11) C dX12_worked_1 hx4 (by decide) (by decide) rfl (by decide) J
  refine r_ite (fun hx5 => ?_) (fun hx5 => ?_)
  · refine r_sw 99 ?_ (fun J => ?_)
    · refine r_aload_n C dX12_worked_99 rfl rfl ?_
      refine r_getp C clX12 kd_132 (k := 27) (by decide) flX12_168 dX12_worked_100 pt_132_27 ?_
      refine r_iload_n C dX12_worked_103 rfl rfl ?_
      refine r_bipush C dX12_worked_104 (by decide) ?_
      refine r_iand C dX12_worked_106 ?_
      refine r_iaload C dX12_worked_107 (fun v6 _ => ?_)
      exact r_ireturn C dX12_worked_108 rfl
    · skip
      exact r_tabIn (n := 7) C dX12_worked_1 hx5 (by decide) (by decide) rfl (by decide) J
  refine r_ite (fun hx6 => ?_) (fun hx6 => ?_)
  · refine r_sw 109 ?_ (fun J => ?_)
    · refine r_iload_n C dX12_worked_109 rfl rfl ?_
      refine r_iload_n C dX12_worked_110 rfl rfl ?_
      refine r_join (γ := Int) (pcJ := fun _ => 119) (al' := fun q7 => [none, none, none, none, none]) (st' := fun q7 => [zi q7]) (M' := fun q7 => M) ?_ ?_
      · intro q7
        exact r_ireturn C dX12_worked_119 rfl
      · intro hJq7
        refine q_icmp_ge (tgt := 118) C dX12_worked_111 (by decide) (fun _ => ?_) (fun _ => ?_)
        · refine r_iconst C dX12_worked_118 (by decide) ?_
          refine r_less [false, false, false, false, false] rfl ?_
          exact hJq7 0
        · refine r_iconst C dX12_worked_114 (by decide) ?_
          refine r_goto (tgt := 119) C dX12_worked_115 (by decide) ?_
          refine r_less [false, false, false, false, false] rfl ?_
          exact hJq7 1
    · skip
      exact r_tabIn (n := 8) C dX12_worked_1 hx6 (by decide) (by decide) rfl (by decide) J
  refine r_ite (fun hx7 => ?_) (fun hx7 => ?_)
  · refine r_sw 120 ?_ (fun J => ?_)
    · refine r_iload_n C dX12_worked_120 rfl rfl ?_
      refine r_iload_n C dX12_worked_121 rfl rfl ?_
      refine r_join (γ := Int) (pcJ := fun _ => 130) (al' := fun q8 => [none, none, none, none, none]) (st' := fun q8 => [zi q8]) (M' := fun q8 => M) ?_ ?_
      · intro q8
        exact r_ireturn C dX12_worked_130 rfl
      · intro hJq8
        refine q_icmp_ne (tgt := 129) C dX12_worked_122 (by decide) (fun _ => ?_) (fun _ => ?_)
        · refine r_iconst C dX12_worked_129 (by decide) ?_
          refine r_less [false, false, false, false, false] rfl ?_
          exact hJq8 0
        · refine r_iconst C dX12_worked_125 (by decide) ?_
          refine r_goto (tgt := 130) C dX12_worked_126 (by decide) ?_
          refine r_less [false, false, false, false, false] rfl ?_
          exact hJq8 1
    · skip
      exact r_tabIn (n := 9) C dX12_worked_1 hx7 (by decide) (by decide) rfl (by decide) J
  refine r_ite (fun hx8 => ?_) (fun hx8 => ?_)
  · refine r_sw 131 ?_ (fun J => ?_)
    · refine r_iconst C dX12_worked_131 (by decide) ?_
      refine r_iload_n C dX12_worked_132 rfl rfl ?_
      refine r_isub C dX12_worked_133 ?_
      exact r_ireturn C dX12_worked_134 rfl
    · skip
      exact r_tabIn (n := 12) C dX12_worked_1 hx8 (by decide) (by decide) rfl (by decide) J
  refine r_tabOut (tgt := 135) C dX12_worked_1 (by omega) (by decide) ?_
  refine r_iload_n C dX12_worked_135 rfl rfl ?_
  refine r_iconst C dX12_worked_136 (by decide) ?_
  refine r_join (γ := Int) (pcJ := fun _ => 146) (al' := fun q9 => [none, none, none, none, none]) (st' := fun q9 => [zi q9]) (M' := fun q9 => M) ?_ ?_
  · intro q9
    exact r_ireturn C dX12_worked_146 rfl
  · intro hJq9
    refine q_icmp_ne (tgt := 144) C dX12_worked_137 (by decide) (fun _ => ?_) (fun _ => ?_)
    · refine r_iload C dX12_worked_144 rfl ?_
      refine r_less [false, false, false, false, false] rfl ?_
      exact hJq9 p4
    · refine r_iload_n C dX12_worked_140 rfl rfl ?_
      refine r_goto (tgt := 146) C dX12_worked_141 (by decide) ?_
      refine r_less [false, false, false, false, false] rfl ?_
      exact hJq9 p3
set_option maxRecDepth 100000 in
set_option maxHeartbeats 4000000 in
theorem tX12_numberOf (p1 : Int) (p2 : Int) (M : Mem) : Cn yX12_numberOf cX12_numberOf 3 (some .int) 1 22 [zr 132, zi p1, zi p2] M ((fX12_numberOf p1 p2 M).map oI) := by
  refine Cn_mk (own := RX12) rfl (by decide) (Nat.le_of_ble_eq_true rfl) [some (zr 132), some (zi p1), some (zi p2)] rfl (fun G C hn => ?_)
  unfold fX12_numberOf
  refine r_aload_n C dX12_numberOf_0 rfl rfl ?_
  refine r_iload_n C dX12_numberOf_1 rfl rfl ?_
  refine r_iload_n C dX12_numberOf_2 rfl rfl ?_
  refine q_callVi (av := [zi p1, zi p2]) (rest := []) C (tX12_argOf p1 p2 M) lkX12_388 kd_132 rfl rfl rfl (Nat.le_of_ble_eq_true rfl) ⟨by decide, by decide⟩ dX12_numberOf_3 (fun q1 _ => ?_)
  refine r_join (γ := Int × Mem) (pcJ := fun _ => 24) (al' := fun q4 => [none, none, none]) (st' := fun q4 => [zi q4.1]) (M' := fun q4 => q4.2) ?_ ?_
  · intro q4
    exact r_ireturn C dX12_numberOf_24 rfl
  · intro hJq4
    refine q_if_ge (tgt := 13) C dX12_numberOf_6 (by decide) (fun _ => ?_) (fun _ => ?_)
    · refine r_aload_n C dX12_numberOf_13 rfl rfl ?_
      refine r_getp C clX12 kd_132 (k := 33) (by decide) flX12_184 dX12_numberOf_14 pt_132_33 ?_
      refine r_aload_n C dX12_numberOf_17 rfl rfl ?_
      refine r_iload_n C dX12_numberOf_18 rfl rfl ?_
      refine r_iload_n C dX12_numberOf_19 rfl rfl ?_
      refine q_callVi (av := [zi p1, zi p2]) (rest := [zr 157]) C (tX12_argOf p1 p2 q1.2) lkX12_388 kd_132 rfl rfl rfl (Nat.le_of_ble_eq_true rfl) ⟨by decide, by decide⟩ dX12_numberOf_20 (fun q2 _ => ?_)
      refine r_iaload C dX12_numberOf_23 (fun v3 _ => ?_)
      refine r_less [false, false, false] rfl ?_
      exact hJq4 (v3, q2.2)
    · refine r_iconst C dX12_numberOf_9 (by decide) ?_
      refine r_goto (tgt := 24) C dX12_numberOf_10 (by decide) ?_
      refine r_less [false, false, false] rfl ?_
      exact hJq4 (0, q1.2)
set_option maxRecDepth 100000 in
set_option maxHeartbeats 4000000 in
theorem tX12_numbersIn (p1 : Int) (M : Mem) : Cn yX12_numbersIn cX12_numbersIn 4 none 2 45 [zr 132, zi p1] M ((fX12_numbersIn p1 M).map oU) := by
  refine Cn_mk (own := RX12) rfl (by decide) (Nat.le_of_ble_eq_true rfl) [some (zr 132), some (zi p1), none, none] rfl (fun G C hn => ?_)
  unfold fX12_numbersIn
  refine r_iconst C dX12_numbersIn_0 (by decide) ?_
  refine r_istore_n (al' := [some (zr 132), some (zi p1), some (zi 0), none]) C dX12_numbersIn_1 rfl (by rw [hn]; decide) rfl ?_
  refine r_lp (S := Int × Mem) (R := Mem) (pcX := 93) (AL := fun s1 => [some (zr 132), some (zi p1), some (zi s1.1), none]) (MM := fun s1 => s1.2) (AX := fun q15 => [none, none, none, none]) (MX := fun q15 => q15) ?_ ?_ (0, M)
  · intro q15
    exact r_return C dX12_numbersIn_93 rfl
  · intro gs1 hCs1 hXs1 s1
    unfold fX12_numbersIn_b1
    refine r_iload_n C dX12_numbersIn_2 rfl rfl ?_
    refine r_aload_n C dX12_numbersIn_3 rfl rfl ?_
    refine q_callVi (av := []) (rest := [zi s1.1]) C (tX12_values  s1.2) lkX12_352 kd_132 rfl rfl rfl (Nat.le_of_ble_eq_true rfl) ⟨by decide, by decide⟩ dX12_numbersIn_4 (fun q2 _ => ?_)
    refine q_icmp_ge (tgt := 93) C dX12_numbersIn_7 (by decide) (fun _ => ?_) (fun _ => ?_)
    · refine r_less [false, false, false, false] rfl ?_
      exact hXs1 q2.2
    · refine r_aload_n C dX12_numbersIn_10 rfl rfl ?_
      refine r_iload_n C dX12_numbersIn_11 rfl rfl ?_
      refine q_callVi (av := [zi s1.1]) (rest := []) C (tX12_howOf s1.1 q2.2) lkX12_391 kd_132 rfl rfl rfl (Nat.le_of_ble_eq_true rfl) ⟨by decide, by decide⟩ dX12_numbersIn_12 (fun q3 _ => ?_)
      refine r_istore_n (al' := [some (zr 132), some (zi p1), some (zi s1.1), some (zi q3.1)]) C dX12_numbersIn_15 rfl (by rw [hn]; decide) rfl ?_
      refine r_iload_n C dX12_numbersIn_16 rfl rfl ?_
      refine r_iconst C dX12_numbersIn_17 (by decide) ?_
      refine r_join (γ := Mem) (pcJ := fun _ => 87) (al' := fun q14 => [some (zr 132), some (zi p1), some (zi s1.1), none]) (st' := fun q14 => []) (M' := fun q14 => q14) ?_ ?_
      · intro q14
        refine r_iinc (al' := [some (zr 132), some (zi p1), some (zi (w32 (s1.1 + 1))), none]) C dX12_numbersIn_87 rfl (by rw [hn]; decide) rfl ?_
        refine r_goto (tgt := 2) C dX12_numbersIn_90 (by decide) ?_
        exact hCs1 (w32 (s1.1 + 1), q14)
      · intro hJq14
        refine q_icmp_ge (tgt := 58) C dX12_numbersIn_18 (by decide) (fun _ => ?_) (fun _ => ?_)
        · refine r_aload_n C dX12_numbersIn_58 rfl rfl ?_
          refine r_getp C clX12 kd_132 (k := 33) (by decide) flX12_184 dX12_numbersIn_59 pt_132_33 ?_
          refine r_iload_n C dX12_numbersIn_62 rfl rfl ?_
          refine r_aload_n C dX12_numbersIn_63 rfl rfl ?_
          refine r_iload_n C dX12_numbersIn_64 rfl rfl ?_
          refine r_aload_n C dX12_numbersIn_65 rfl rfl ?_
          refine r_iload_n C dX12_numbersIn_66 rfl rfl ?_
          refine r_iconst C dX12_numbersIn_67 (by decide) ?_
          refine q_callVi (av := [zi s1.1, zi 0]) (rest := [zi q3.1, zr 132, zi s1.1, zr 157]) C (tX12_numberOf s1.1 0 q3.2) lkX12_394 kd_132 rfl rfl rfl (Nat.le_of_ble_eq_true rfl) ⟨by decide, by decide⟩ dX12_numbersIn_68 (fun q4 _ => ?_)
          refine r_aload_n C dX12_numbersIn_71 rfl rfl ?_
          refine r_iload_n C dX12_numbersIn_72 rfl rfl ?_
          refine r_iconst C dX12_numbersIn_73 (by decide) ?_
          refine q_callVi (av := [zi s1.1, zi 1]) (rest := [zi q4.1, zi q3.1, zr 132, zi s1.1, zr 157]) C (tX12_numberOf s1.1 1 q4.2) lkX12_394 kd_132 rfl rfl rfl (Nat.le_of_ble_eq_true rfl) ⟨by decide, by decide⟩ dX12_numbersIn_74 (fun q5 _ => ?_)
          refine r_aload_n C dX12_numbersIn_77 rfl rfl ?_
          refine r_iload_n C dX12_numbersIn_78 rfl rfl ?_
          refine r_iconst C dX12_numbersIn_79 (by decide) ?_
          refine q_callVi (av := [zi s1.1, zi 2]) (rest := [zi q5.1, zi q4.1, zi q3.1, zr 132, zi s1.1, zr 157]) C (tX12_numberOf s1.1 2 q5.2) lkX12_394 kd_132 rfl rfl rfl (Nat.le_of_ble_eq_true rfl) ⟨by decide, by decide⟩ dX12_numbersIn_80 (fun q6 _ => ?_)
          refine q_callVi (av := [zi q3.1, zi q4.1, zi q5.1, zi q6.1]) (rest := [zi s1.1, zr 157]) C (tX12_worked q3.1 q4.1 q5.1 q6.1 q6.2) lkX12_397 kd_132 rfl rfl rfl (Nat.le_of_ble_eq_true rfl) ⟨by decide, by decide⟩ dX12_numbersIn_83 (fun q7 _ => ?_)
          refine r_iastore C dX12_numbersIn_86 (fun M8 _ => ?_)
          refine r_less [true, true, true, false] rfl ?_
          exact hJq14 M8
        · refine r_aload_n C dX12_numbersIn_21 rfl rfl ?_
          refine r_getp C clX12 kd_132 (k := 33) (by decide) flX12_184 dX12_numbersIn_22 pt_132_33 ?_
          refine r_iload_n C dX12_numbersIn_25 rfl rfl ?_
          refine r_iload_n C dX12_numbersIn_26 rfl rfl ?_
          refine r_join (γ := Int × Mem) (pcJ := fun _ => 54) (al' := fun q12 => [some (zr 132), some (zi p1), some (zi s1.1), none]) (st' := fun q12 => [zi q12.1, zi s1.1, zr 157]) (M' := fun q12 => q12.2) ?_ ?_
          · intro q12
            refine r_iastore C dX12_numbersIn_54 (fun M13 _ => ?_)
            refine r_goto (tgt := 87) C dX12_numbersIn_55 (by decide) ?_
            exact hJq14 M13
          · intro hJq12
            refine q_if_ne (tgt := 48) C dX12_numbersIn_27 (by decide) (fun _ => ?_) (fun _ => ?_)
            · refine r_aload_n C dX12_numbersIn_48 rfl rfl ?_
              refine r_iload_n C dX12_numbersIn_49 rfl rfl ?_
              refine r_iconst C dX12_numbersIn_50 (by decide) ?_
              refine q_callVi (av := [zi s1.1, zi 0]) (rest := [zi s1.1, zr 157]) C (tX12_argOf s1.1 0 q3.2) lkX12_388 kd_132 rfl rfl rfl (Nat.le_of_ble_eq_true rfl) ⟨by decide, by decide⟩ dX12_numbersIn_51 (fun q9 _ => ?_)
              refine r_less [true, true, true, false] rfl ?_
              exact hJq12 (q9.1, q9.2)
            · refine r_aload_n C dX12_numbersIn_30 rfl rfl ?_
              refine r_getp C clX12 kd_132 (k := 26) (by decide) flX12_165 dX12_numbersIn_31 pt_132_26 ?_
              refine r_iconst C dX12_numbersIn_34 (by decide) ?_
              refine r_aload_n C dX12_numbersIn_35 rfl rfl ?_
              refine r_iload_n C dX12_numbersIn_36 rfl rfl ?_
              refine r_iconst C dX12_numbersIn_37 (by decide) ?_
              refine q_callVi (av := [zi s1.1, zi 0]) (rest := [zi 4, zr 151, zi s1.1, zr 157]) C (tX12_argOf s1.1 0 q3.2) lkX12_388 kd_132 rfl rfl rfl (Nat.le_of_ble_eq_true rfl) ⟨by decide, by decide⟩ dX12_numbersIn_38 (fun q10 _ => ?_)
              refine r_imul C dX12_numbersIn_41 ?_
              refine r_iload_n C dX12_numbersIn_42 rfl rfl ?_
              refine r_iadd C dX12_numbersIn_43 ?_
              refine r_iaload C dX12_numbersIn_44 (fun v11 _ => ?_)
              refine r_goto (tgt := 54) C dX12_numbersIn_45 (by decide) ?_
              refine r_less [true, true, true, false] rfl ?_
              exact hJq12 (v11, q10.2)
set_option maxRecDepth 100000 in
set_option maxHeartbeats 4000000 in
theorem tX12_rangeIs (p1 : Int) (p2 : Int) (p3 : Int) (M : Mem) : Cn yX12_rangeIs cX12_rangeIs 4 none 0 0 [zr 132, zi p1, zi p2, zi p3] M ((fX12_rangeIs p1 p2 p3 M).map oU) := by
  refine Cn_mk (own := RX12) rfl (by decide) (Nat.le_of_ble_eq_true rfl) [some (zr 132), some (zi p1), some (zi p2), some (zi p3)] rfl (fun G C hn => ?_)
  unfold fX12_rangeIs
  refine r_aload_n C dX12_rangeIs_0 rfl rfl ?_
  refine r_getp C clX12 kd_132 (k := 29) (by decide) flX12_171 dX12_rangeIs_1 pt_132_29 ?_
  refine r_iload_n C dX12_rangeIs_4 rfl rfl ?_
  refine r_iload_n C dX12_rangeIs_5 rfl rfl ?_
  refine r_iastore C dX12_rangeIs_6 (fun M1 _ => ?_)
  refine r_aload_n C dX12_rangeIs_7 rfl rfl ?_
  refine r_getp C clX12 kd_132 (k := 30) (by decide) flX12_174 dX12_rangeIs_8 pt_132_30 ?_
  refine r_iload_n C dX12_rangeIs_11 rfl rfl ?_
  refine r_iload_n C dX12_rangeIs_12 rfl rfl ?_
  refine r_iastore C dX12_rangeIs_13 (fun M2 _ => ?_)
  exact r_return C dX12_rangeIs_14 rfl
set_option maxRecDepth 100000 in
set_option maxHeartbeats 4000000 in
theorem tX12_lowOf (p1 : Int) (p2 : Int) (M : Mem) : Cn yX12_lowOf cX12_lowOf 3 (some .int) 1 22 [zr 132, zi p1, zi p2] M ((fX12_lowOf p1 p2 M).map oI) := by
  refine Cn_mk (own := RX12) rfl (by decide) (Nat.le_of_ble_eq_true rfl) [some (zr 132), some (zi p1), some (zi p2)] rfl (fun G C hn => ?_)
  unfold fX12_lowOf
  refine r_aload_n C dX12_lowOf_0 rfl rfl ?_
  refine r_iload_n C dX12_lowOf_1 rfl rfl ?_
  refine r_iload_n C dX12_lowOf_2 rfl rfl ?_
  refine q_callVi (av := [zi p1, zi p2]) (rest := []) C (tX12_argOf p1 p2 M) lkX12_388 kd_132 rfl rfl rfl (Nat.le_of_ble_eq_true rfl) ⟨by decide, by decide⟩ dX12_lowOf_3 (fun q1 _ => ?_)
  refine r_join (γ := Int × Mem) (pcJ := fun _ => 24) (al' := fun q4 => [none, none, none]) (st' := fun q4 => [zi q4.1]) (M' := fun q4 => q4.2) ?_ ?_
  · intro q4
    exact r_ireturn C dX12_lowOf_24 rfl
  · intro hJq4
    refine q_if_ge (tgt := 13) C dX12_lowOf_6 (by decide) (fun _ => ?_) (fun _ => ?_)
    · refine r_aload_n C dX12_lowOf_13 rfl rfl ?_
      refine r_getp C clX12 kd_132 (k := 29) (by decide) flX12_171 dX12_lowOf_14 pt_132_29 ?_
      refine r_aload_n C dX12_lowOf_17 rfl rfl ?_
      refine r_iload_n C dX12_lowOf_18 rfl rfl ?_
      refine r_iload_n C dX12_lowOf_19 rfl rfl ?_
      refine q_callVi (av := [zi p1, zi p2]) (rest := [zr 153]) C (tX12_argOf p1 p2 q1.2) lkX12_388 kd_132 rfl rfl rfl (Nat.le_of_ble_eq_true rfl) ⟨by decide, by decide⟩ dX12_lowOf_20 (fun q2 _ => ?_)
      refine r_iaload C dX12_lowOf_23 (fun v3 _ => ?_)
      refine r_less [false, false, false] rfl ?_
      exact hJq4 (v3, q2.2)
    · refine r_iconst C dX12_lowOf_9 (by decide) ?_
      refine r_goto (tgt := 24) C dX12_lowOf_10 (by decide) ?_
      refine r_less [false, false, false] rfl ?_
      exact hJq4 (0, q1.2)
set_option maxRecDepth 100000 in
set_option maxHeartbeats 4000000 in
theorem tX12_highOf (p1 : Int) (p2 : Int) (M : Mem) : Cn yX12_highOf cX12_highOf 3 (some .int) 1 22 [zr 132, zi p1, zi p2] M ((fX12_highOf p1 p2 M).map oI) := by
  refine Cn_mk (own := RX12) rfl (by decide) (Nat.le_of_ble_eq_true rfl) [some (zr 132), some (zi p1), some (zi p2)] rfl (fun G C hn => ?_)
  unfold fX12_highOf
  refine r_aload_n C dX12_highOf_0 rfl rfl ?_
  refine r_iload_n C dX12_highOf_1 rfl rfl ?_
  refine r_iload_n C dX12_highOf_2 rfl rfl ?_
  refine q_callVi (av := [zi p1, zi p2]) (rest := []) C (tX12_argOf p1 p2 M) lkX12_388 kd_132 rfl rfl rfl (Nat.le_of_ble_eq_true rfl) ⟨by decide, by decide⟩ dX12_highOf_3 (fun q1 _ => ?_)
  refine r_join (γ := Int × Mem) (pcJ := fun _ => 24) (al' := fun q4 => [none, none, none]) (st' := fun q4 => [zi q4.1]) (M' := fun q4 => q4.2) ?_ ?_
  · intro q4
    exact r_ireturn C dX12_highOf_24 rfl
  · intro hJq4
    refine q_if_ge (tgt := 13) C dX12_highOf_6 (by decide) (fun _ => ?_) (fun _ => ?_)
    · refine r_aload_n C dX12_highOf_13 rfl rfl ?_
      refine r_getp C clX12 kd_132 (k := 30) (by decide) flX12_174 dX12_highOf_14 pt_132_30 ?_
      refine r_aload_n C dX12_highOf_17 rfl rfl ?_
      refine r_iload_n C dX12_highOf_18 rfl rfl ?_
      refine r_iload_n C dX12_highOf_19 rfl rfl ?_
      refine q_callVi (av := [zi p1, zi p2]) (rest := [zr 154]) C (tX12_argOf p1 p2 q1.2) lkX12_388 kd_132 rfl rfl rfl (Nat.le_of_ble_eq_true rfl) ⟨by decide, by decide⟩ dX12_highOf_20 (fun q2 _ => ?_)
      refine r_iaload C dX12_highOf_23 (fun v3 _ => ?_)
      refine r_less [false, false, false] rfl ?_
      exact hJq4 (v3, q2.2)
    · refine r_iconst C dX12_highOf_9 (by decide) ?_
      refine r_goto (tgt := 24) C dX12_highOf_10 (by decide) ?_
      refine r_less [false, false, false] rfl ?_
      exact hJq4 (0, q1.2)
set_option maxRecDepth 100000 in
set_option maxHeartbeats 4000000 in
theorem tX12_timesRange (p1 : Int) (M : Mem) : Cn yX12_timesRange cX12_timesRange 8 none 2 44 [zr 132, zi p1] M ((fX12_timesRange p1 M).map oU) := by
  refine Cn_mk (own := RX12) rfl (by decide) (Nat.le_of_ble_eq_true rfl) [some (zr 132), some (zi p1), none, none, none, none, none, none] rfl (fun G C hn => ?_)
  unfold fX12_timesRange
  refine r_ldcw C kiX12_377 rfl dX12_timesRange_0 ?_
  refine r_istore_n (al' := [some (zr 132), some (zi p1), some (zi 99999), none, none, none, none, none]) C dX12_timesRange_3 rfl (by rw [hn]; decide) rfl ?_
  refine r_ldcw C kiX12_374 rfl dX12_timesRange_4 ?_
  refine r_istore_n (al' := [some (zr 132), some (zi p1), some (zi 99999), some (zi (-99999)), none, none, none, none]) C dX12_timesRange_7 rfl (by rw [hn]; decide) rfl ?_
  refine r_iconst C dX12_timesRange_8 (by decide) ?_
  refine r_istore (al' := [some (zr 132), some (zi p1), some (zi 99999), some (zi (-99999)), some (zi 0), none, none, none]) C dX12_timesRange_9 (by rw [hn]; decide) rfl ?_
  refine r_lp (S := Int × Int × Int × Mem) (R := Int × Int × Mem) (pcX := 96) (AL := fun s1 => [some (zr 132), some (zi p1), some (zi s1.1), some (zi s1.2.1), some (zi s1.2.2.1), none, none, none]) (MM := fun s1 => s1.2.2.2) (AX := fun q11 => [some (zr 132), some (zi p1), some (zi q11.1), some (zi q11.2.1), none, none, none, none]) (MX := fun q11 => q11.2.2) ?_ ?_ (99999, (-99999), 0, M)
  · intro q11
    refine r_aload_n C dX12_timesRange_96 rfl rfl ?_
    refine r_iload_n C dX12_timesRange_97 rfl rfl ?_
    refine r_iload_n C dX12_timesRange_98 rfl rfl ?_
    refine r_iload_n C dX12_timesRange_99 rfl rfl ?_
    refine q_callVv (av := [zi p1, zi q11.1, zi q11.2.1]) (rest := []) C (tX12_rangeIs p1 q11.1 q11.2.1 q11.2.2) lkX12_407 kd_132 rfl rfl rfl (Nat.le_of_ble_eq_true rfl) ⟨by decide, by decide⟩ dX12_timesRange_100 (fun q12 _ => ?_)
    exact r_return C dX12_timesRange_103 rfl
  · intro gs1 hCs1 hXs1 s1
    unfold fX12_timesRange_b1
    refine r_iload C dX12_timesRange_11 rfl ?_
    refine r_iconst C dX12_timesRange_13 (by decide) ?_
    refine q_icmp_ge (tgt := 96) C dX12_timesRange_14 (by decide) (fun _ => ?_) (fun _ => ?_)
    · refine r_less [true, true, true, true, false, false, false, false] rfl ?_
      exact hXs1 (s1.1, s1.2.1, s1.2.2.2)
    · refine r_iload C dX12_timesRange_17 rfl ?_
      refine r_iconst C dX12_timesRange_19 (by decide) ?_
      refine r_join (γ := Int × Mem) (pcJ := fun _ => 38) (al' := fun q4 => [some (zr 132), some (zi p1), some (zi s1.1), some (zi s1.2.1), some (zi s1.2.2.1), none, none, none]) (st' := fun q4 => [zi q4.1]) (M' := fun q4 => q4.2) ?_ ?_
      · intro q4
        refine r_istore (al' := [some (zr 132), some (zi p1), some (zi s1.1), some (zi s1.2.1), some (zi s1.2.2.1), some (zi q4.1), none, none]) C dX12_timesRange_38 (by rw [hn]; decide) rfl ?_
        refine r_iload C dX12_timesRange_40 rfl ?_
        refine r_iconst C dX12_timesRange_42 (by decide) ?_
        refine r_irem C dX12_timesRange_43 (by decide) ?_
        refine r_join (γ := Int × Mem) (pcJ := fun _ => 62) (al' := fun q7 => [some (zr 132), some (zi p1), some (zi s1.1), some (zi s1.2.1), some (zi s1.2.2.1), some (zi q4.1), none, none]) (st' := fun q7 => [zi q7.1]) (M' := fun q7 => q7.2) ?_ ?_
        · intro q7
          refine r_istore (al' := [some (zr 132), some (zi p1), some (zi s1.1), some (zi s1.2.1), some (zi s1.2.2.1), some (zi q4.1), some (zi q7.1), none]) C dX12_timesRange_62 (by rw [hn]; decide) rfl ?_
          refine r_iload C dX12_timesRange_64 rfl ?_
          refine r_i2l C dX12_timesRange_66 ?_
          refine r_iload C dX12_timesRange_67 rfl ?_
          refine r_i2l C dX12_timesRange_69 ?_
          refine r_lmul C dX12_timesRange_70 ?_
          refine q_callSi (av := [zl (w64 (q4.1 * q7.1))]) (rest := []) C (tX12_held (w64 (q4.1 * q7.1)) q7.2) lkX12_378 rfl rfl (Nat.le_of_ble_eq_true rfl) ⟨by decide, by decide⟩ dX12_timesRange_71 (fun q8 _ => ?_)
          refine r_istore (al' := [some (zr 132), some (zi p1), some (zi s1.1), some (zi s1.2.1), some (zi s1.2.2.1), some (zi q4.1), some (zi q7.1), some (zi q8.1)]) C dX12_timesRange_74 (by rw [hn]; decide) rfl ?_
          refine r_iload_n C dX12_timesRange_76 rfl rfl ?_
          refine r_iload C dX12_timesRange_77 rfl ?_
          refine q_callSi (av := [zi s1.1, zi q8.1]) (rest := []) C (tX12_lesser s1.1 q8.1 q8.2) lkX12_382 rfl rfl (Nat.le_of_ble_eq_true rfl) ⟨by decide, by decide⟩ dX12_timesRange_79 (fun q9 _ => ?_)
          refine r_istore_n (al' := [some (zr 132), some (zi p1), some (zi q9.1), some (zi s1.2.1), some (zi s1.2.2.1), some (zi q4.1), some (zi q7.1), some (zi q8.1)]) C dX12_timesRange_82 rfl (by rw [hn]; decide) rfl ?_
          refine r_iload_n C dX12_timesRange_83 rfl rfl ?_
          refine r_iload C dX12_timesRange_84 rfl ?_
          refine q_callSi (av := [zi s1.2.1, zi q8.1]) (rest := []) C (tX12_greater s1.2.1 q8.1 q9.2) lkX12_385 rfl rfl (Nat.le_of_ble_eq_true rfl) ⟨by decide, by decide⟩ dX12_timesRange_86 (fun q10 _ => ?_)
          refine r_istore_n (al' := [some (zr 132), some (zi p1), some (zi q9.1), some (zi q10.1), some (zi s1.2.2.1), some (zi q4.1), some (zi q7.1), some (zi q8.1)]) C dX12_timesRange_89 rfl (by rw [hn]; decide) rfl ?_
          refine r_iinc (al' := [some (zr 132), some (zi p1), some (zi q9.1), some (zi q10.1), some (zi (w32 (s1.2.2.1 + 1))), some (zi q4.1), some (zi q7.1), some (zi q8.1)]) C dX12_timesRange_90 rfl (by rw [hn]; decide) rfl ?_
          refine r_goto (tgt := 11) C dX12_timesRange_93 (by decide) ?_
          refine r_less [true, true, true, true, true, false, false, false] rfl ?_
          exact hCs1 (q9.1, q10.1, w32 (s1.2.2.1 + 1), q10.2)
        · intro hJq7
          refine q_if_ne (tgt := 56) C dX12_timesRange_44 (by decide) (fun _ => ?_) (fun _ => ?_)
          · refine r_aload_n C dX12_timesRange_56 rfl rfl ?_
            refine r_iload_n C dX12_timesRange_57 rfl rfl ?_
            refine r_iconst C dX12_timesRange_58 (by decide) ?_
            refine q_callVi (av := [zi p1, zi 1]) (rest := []) C (tX12_highOf p1 1 q4.2) lkX12_404 kd_132 rfl rfl rfl (Nat.le_of_ble_eq_true rfl) ⟨by decide, by decide⟩ dX12_timesRange_59 (fun q5 _ => ?_)
            exact hJq7 (q5.1, q5.2)
          · refine r_aload_n C dX12_timesRange_47 rfl rfl ?_
            refine r_iload_n C dX12_timesRange_48 rfl rfl ?_
            refine r_iconst C dX12_timesRange_49 (by decide) ?_
            refine q_callVi (av := [zi p1, zi 1]) (rest := []) C (tX12_lowOf p1 1 q4.2) lkX12_401 kd_132 rfl rfl rfl (Nat.le_of_ble_eq_true rfl) ⟨by decide, by decide⟩ dX12_timesRange_50 (fun q6 _ => ?_)
            refine r_goto (tgt := 62) C dX12_timesRange_53 (by decide) ?_
            exact hJq7 (q6.1, q6.2)
      · intro hJq4
        refine q_icmp_ge (tgt := 32) C dX12_timesRange_20 (by decide) (fun _ => ?_) (fun _ => ?_)
        · refine r_aload_n C dX12_timesRange_32 rfl rfl ?_
          refine r_iload_n C dX12_timesRange_33 rfl rfl ?_
          refine r_iconst C dX12_timesRange_34 (by decide) ?_
          refine q_callVi (av := [zi p1, zi 0]) (rest := []) C (tX12_highOf p1 0 s1.2.2.2) lkX12_404 kd_132 rfl rfl rfl (Nat.le_of_ble_eq_true rfl) ⟨by decide, by decide⟩ dX12_timesRange_35 (fun q2 _ => ?_)
          exact hJq4 (q2.1, q2.2)
        · refine r_aload_n C dX12_timesRange_23 rfl rfl ?_
          refine r_iload_n C dX12_timesRange_24 rfl rfl ?_
          refine r_iconst C dX12_timesRange_25 (by decide) ?_
          refine q_callVi (av := [zi p1, zi 0]) (rest := []) C (tX12_lowOf p1 0 s1.2.2.2) lkX12_401 kd_132 rfl rfl rfl (Nat.le_of_ble_eq_true rfl) ⟨by decide, by decide⟩ dX12_timesRange_26 (fun q3 _ => ?_)
          refine r_goto (tgt := 38) C dX12_timesRange_29 (by decide) ?_
          exact hJq4 (q3.1, q3.2)
set_option maxRecDepth 100000 in
set_option maxHeartbeats 4000000 in
theorem tX12_pickRange (p1 : Int) (M : Mem) : Cn yX12_pickRange cX12_pickRange 6 none 2 44 [zr 132, zi p1] M ((fX12_pickRange p1 M).map oU) := by
  refine Cn_mk (own := RX12) rfl (by decide) (Nat.le_of_ble_eq_true rfl) [some (zr 132), some (zi p1), none, none, none, none] rfl (fun G C hn => ?_)
  unfold fX12_pickRange
  refine r_aload_n C dX12_pickRange_0 rfl rfl ?_
  refine r_iload_n C dX12_pickRange_1 rfl rfl ?_
  refine r_iconst C dX12_pickRange_2 (by decide) ?_
  refine q_callVi (av := [zi p1, zi 0]) (rest := []) C (tX12_highOf p1 0 M) lkX12_404 kd_132 rfl rfl rfl (Nat.le_of_ble_eq_true rfl) ⟨by decide, by decide⟩ dX12_pickRange_3 (fun q1 _ => ?_)
  refine r_iconst C dX12_pickRange_6 (by decide) ?_
  refine r_join (γ := Int) (pcJ := fun _ => 15) (al' := fun q2 => [some (zr 132), some (zi p1), none, none, none, none]) (st' := fun q2 => [zi q2]) (M' := fun q2 => q1.2) ?_ ?_
  · intro q2
    refine r_istore_n (al' := [some (zr 132), some (zi p1), some (zi q2), none, none, none]) C dX12_pickRange_15 rfl (by rw [hn]; decide) rfl ?_
    refine r_aload_n C dX12_pickRange_16 rfl rfl ?_
    refine r_iload_n C dX12_pickRange_17 rfl rfl ?_
    refine r_iconst C dX12_pickRange_18 (by decide) ?_
    refine q_callVi (av := [zi p1, zi 0]) (rest := []) C (tX12_lowOf p1 0 q1.2) lkX12_401 kd_132 rfl rfl rfl (Nat.le_of_ble_eq_true rfl) ⟨by decide, by decide⟩ dX12_pickRange_19 (fun q3 _ => ?_)
    refine r_join (γ := Int) (pcJ := fun _ => 30) (al' := fun q4 => [some (zr 132), some (zi p1), some (zi q2), none, none, none]) (st' := fun q4 => [zi q4]) (M' := fun q4 => q3.2) ?_ ?_
    · intro q4
      refine r_istore_n (al' := [some (zr 132), some (zi p1), some (zi q2), some (zi q4), none, none]) C dX12_pickRange_30 rfl (by rw [hn]; decide) rfl ?_
      refine r_iload_n C dX12_pickRange_31 rfl rfl ?_
      refine r_join (γ := Bool) (pcJ := fun q5 => if q5 = true then 57 else 39) (al' := fun q5 => [some (zr 132), some (zi p1), some (zi q2), some (zi q4), none, none]) (st' := fun q5 => []) (M' := fun q5 => q3.2) ?_ ?_
      · intro q5
        refine r_join (γ := Int × Mem) (pcJ := fun _ => 76) (al' := fun q11 => [some (zr 132), some (zi p1), some (zi q2), some (zi q4), none, none]) (st' := fun q11 => [zi q11.1]) (M' := fun q11 => q11.2) ?_ ?_
        · intro q11
          refine r_istore (al' := [some (zr 132), some (zi p1), some (zi q2), some (zi q4), some (zi q11.1), none]) C dX12_pickRange_76 (by rw [hn]; decide) rfl ?_
          refine r_iload_n C dX12_pickRange_78 rfl rfl ?_
          refine r_join (γ := Bool) (pcJ := fun q12 => if q12 = true then 104 else 86) (al' := fun q12 => [some (zr 132), some (zi p1), some (zi q2), some (zi q4), some (zi q11.1), none]) (st' := fun q12 => []) (M' := fun q12 => q11.2) ?_ ?_
          · intro q12
            refine r_join (γ := Int × Mem) (pcJ := fun _ => 123) (al' := fun q18 => [some (zr 132), some (zi p1), none, none, some (zi q11.1), none]) (st' := fun q18 => [zi q18.1]) (M' := fun q18 => q18.2) ?_ ?_
            · intro q18
              refine r_istore (al' := [some (zr 132), some (zi p1), none, none, some (zi q11.1), some (zi q18.1)]) C dX12_pickRange_123 (by rw [hn]; decide) rfl ?_
              refine r_aload_n C dX12_pickRange_125 rfl rfl ?_
              refine r_iload_n C dX12_pickRange_126 rfl rfl ?_
              refine r_iload C dX12_pickRange_127 rfl ?_
              refine r_iload C dX12_pickRange_129 rfl ?_
              refine q_callVv (av := [zi p1, zi q11.1, zi q18.1]) (rest := []) C (tX12_rangeIs p1 q11.1 q18.1 q18.2) lkX12_407 kd_132 rfl rfl rfl (Nat.le_of_ble_eq_true rfl) ⟨by decide, by decide⟩ dX12_pickRange_131 (fun q19 _ => ?_)
              exact r_return C dX12_pickRange_134 rfl
            · intro hJq18
              refine r_itp (fun _ => ?_) (fun _ => ?_)
              · refine r_iload_n C dX12_pickRange_104 rfl rfl ?_
                refine q_if_eq (tgt := 117) C dX12_pickRange_105 (by decide) (fun _ => ?_) (fun _ => ?_)
                · refine r_aload_n C dX12_pickRange_117 rfl rfl ?_
                  refine r_iload_n C dX12_pickRange_118 rfl rfl ?_
                  refine r_iconst C dX12_pickRange_119 (by decide) ?_
                  refine q_callVi (av := [zi p1, zi 2]) (rest := []) C (tX12_highOf p1 2 q11.2) lkX12_404 kd_132 rfl rfl rfl (Nat.le_of_ble_eq_true rfl) ⟨by decide, by decide⟩ dX12_pickRange_120 (fun q13 _ => ?_)
                  refine r_less [true, true, false, false, true, false] rfl ?_
                  exact hJq18 (q13.1, q13.2)
                · refine r_aload_n C dX12_pickRange_108 rfl rfl ?_
                  refine r_iload_n C dX12_pickRange_109 rfl rfl ?_
                  refine r_iconst C dX12_pickRange_110 (by decide) ?_
                  refine q_callVi (av := [zi p1, zi 1]) (rest := []) C (tX12_highOf p1 1 q11.2) lkX12_404 kd_132 rfl rfl rfl (Nat.le_of_ble_eq_true rfl) ⟨by decide, by decide⟩ dX12_pickRange_111 (fun q14 _ => ?_)
                  refine r_goto (tgt := 123) C dX12_pickRange_114 (by decide) ?_
                  refine r_less [true, true, false, false, true, false] rfl ?_
                  exact hJq18 (q14.1, q14.2)
              · refine r_aload_n C dX12_pickRange_86 rfl rfl ?_
                refine r_iload_n C dX12_pickRange_87 rfl rfl ?_
                refine r_iconst C dX12_pickRange_88 (by decide) ?_
                refine q_callVi (av := [zi p1, zi 1]) (rest := []) C (tX12_highOf p1 1 q11.2) lkX12_404 kd_132 rfl rfl rfl (Nat.le_of_ble_eq_true rfl) ⟨by decide, by decide⟩ dX12_pickRange_89 (fun q15 _ => ?_)
                refine r_aload_n C dX12_pickRange_92 rfl rfl ?_
                refine r_iload_n C dX12_pickRange_93 rfl rfl ?_
                refine r_iconst C dX12_pickRange_94 (by decide) ?_
                refine q_callVi (av := [zi p1, zi 2]) (rest := [zi q15.1]) C (tX12_highOf p1 2 q15.2) lkX12_404 kd_132 rfl rfl rfl (Nat.le_of_ble_eq_true rfl) ⟨by decide, by decide⟩ dX12_pickRange_95 (fun q16 _ => ?_)
                refine q_callSi (av := [zi q15.1, zi q16.1]) (rest := []) C (tX12_greater q15.1 q16.1 q16.2) lkX12_385 rfl rfl (Nat.le_of_ble_eq_true rfl) ⟨by decide, by decide⟩ dX12_pickRange_98 (fun q17 _ => ?_)
                refine r_goto (tgt := 123) C dX12_pickRange_101 (by decide) ?_
                refine r_less [true, true, false, false, true, false] rfl ?_
                exact hJq18 (q17.1, q17.2)
          · intro hJq12
            refine q_if_eq (tgt := 104) C dX12_pickRange_79 (by decide) (fun _ => ?_) (fun _ => ?_)
            · exact hJq12 true
            · refine r_iload_n C dX12_pickRange_82 rfl rfl ?_
              refine q_if_eq (tgt := 104) C dX12_pickRange_83 (by decide) (fun _ => ?_) (fun _ => ?_)
              · exact hJq12 true
              · exact hJq12 false
        · intro hJq11
          refine r_itp (fun _ => ?_) (fun _ => ?_)
          · refine r_iload_n C dX12_pickRange_57 rfl rfl ?_
            refine q_if_eq (tgt := 70) C dX12_pickRange_58 (by decide) (fun _ => ?_) (fun _ => ?_)
            · refine r_aload_n C dX12_pickRange_70 rfl rfl ?_
              refine r_iload_n C dX12_pickRange_71 rfl rfl ?_
              refine r_iconst C dX12_pickRange_72 (by decide) ?_
              refine q_callVi (av := [zi p1, zi 2]) (rest := []) C (tX12_lowOf p1 2 q3.2) lkX12_401 kd_132 rfl rfl rfl (Nat.le_of_ble_eq_true rfl) ⟨by decide, by decide⟩ dX12_pickRange_73 (fun q6 _ => ?_)
              exact hJq11 (q6.1, q6.2)
            · refine r_aload_n C dX12_pickRange_61 rfl rfl ?_
              refine r_iload_n C dX12_pickRange_62 rfl rfl ?_
              refine r_iconst C dX12_pickRange_63 (by decide) ?_
              refine q_callVi (av := [zi p1, zi 1]) (rest := []) C (tX12_lowOf p1 1 q3.2) lkX12_401 kd_132 rfl rfl rfl (Nat.le_of_ble_eq_true rfl) ⟨by decide, by decide⟩ dX12_pickRange_64 (fun q7 _ => ?_)
              refine r_goto (tgt := 76) C dX12_pickRange_67 (by decide) ?_
              exact hJq11 (q7.1, q7.2)
          · refine r_aload_n C dX12_pickRange_39 rfl rfl ?_
            refine r_iload_n C dX12_pickRange_40 rfl rfl ?_
            refine r_iconst C dX12_pickRange_41 (by decide) ?_
            refine q_callVi (av := [zi p1, zi 1]) (rest := []) C (tX12_lowOf p1 1 q3.2) lkX12_401 kd_132 rfl rfl rfl (Nat.le_of_ble_eq_true rfl) ⟨by decide, by decide⟩ dX12_pickRange_42 (fun q8 _ => ?_)
            refine r_aload_n C dX12_pickRange_45 rfl rfl ?_
            refine r_iload_n C dX12_pickRange_46 rfl rfl ?_
            refine r_iconst C dX12_pickRange_47 (by decide) ?_
            refine q_callVi (av := [zi p1, zi 2]) (rest := [zi q8.1]) C (tX12_lowOf p1 2 q8.2) lkX12_401 kd_132 rfl rfl rfl (Nat.le_of_ble_eq_true rfl) ⟨by decide, by decide⟩ dX12_pickRange_48 (fun q9 _ => ?_)
            refine q_callSi (av := [zi q8.1, zi q9.1]) (rest := []) C (tX12_lesser q8.1 q9.1 q9.2) lkX12_382 rfl rfl (Nat.le_of_ble_eq_true rfl) ⟨by decide, by decide⟩ dX12_pickRange_51 (fun q10 _ => ?_)
            refine r_goto (tgt := 76) C dX12_pickRange_54 (by decide) ?_
            exact hJq11 (q10.1, q10.2)
      · intro hJq5
        refine q_if_eq (tgt := 57) C dX12_pickRange_32 (by decide) (fun _ => ?_) (fun _ => ?_)
        · exact hJq5 true
        · refine r_iload_n C dX12_pickRange_35 rfl rfl ?_
          refine q_if_eq (tgt := 57) C dX12_pickRange_36 (by decide) (fun _ => ?_) (fun _ => ?_)
          · exact hJq5 true
          · exact hJq5 false
    · intro hJq4
      refine q_if_ne (tgt := 29) C dX12_pickRange_22 (by decide) (fun _ => ?_) (fun _ => ?_)
      · refine r_iconst C dX12_pickRange_29 (by decide) ?_
        exact hJq4 0
      · refine r_iconst C dX12_pickRange_25 (by decide) ?_
        refine r_goto (tgt := 30) C dX12_pickRange_26 (by decide) ?_
        exact hJq4 1
  · intro hJq2
    refine q_icmp_ne (tgt := 14) C dX12_pickRange_7 (by decide) (fun _ => ?_) (fun _ => ?_)
    · refine r_iconst C dX12_pickRange_14 (by decide) ?_
      exact hJq2 0
    · refine r_iconst C dX12_pickRange_10 (by decide) ?_
      refine r_goto (tgt := 15) C dX12_pickRange_11 (by decide) ?_
      exact hJq2 1
set_option maxRecDepth 100000 in
set_option maxHeartbeats 4000000 in
theorem tX12_rangeOf (p1 : Int) (M : Mem) : Cn yX12_rangeOf cX12_rangeOf 7 none 3 71 [zr 132, zi p1] M ((fX12_rangeOf p1 M).map oU) := by
  refine Cn_mk (own := RX12) rfl (by decide) (Nat.le_of_ble_eq_true rfl) [some (zr 132), some (zi p1), none, none, none, none, none] rfl (fun G C hn => ?_)
  unfold fX12_rangeOf
  refine r_aload_n C dX12_rangeOf_0 rfl rfl ?_
  refine r_iload_n C dX12_rangeOf_1 rfl rfl ?_
  refine r_iconst C dX12_rangeOf_2 (by decide) ?_
  refine q_callVi (av := [zi p1, zi 0]) (rest := []) C (tX12_lowOf p1 0 M) lkX12_401 kd_132 rfl rfl rfl (Nat.le_of_ble_eq_true rfl) ⟨by decide, by decide⟩ dX12_rangeOf_3 (fun q1 _ => ?_)
  refine r_istore_n (al' := [some (zr 132), some (zi p1), some (zi q1.1), none, none, none, none]) C dX12_rangeOf_6 rfl (by rw [hn]; decide) rfl ?_
  refine r_aload_n C dX12_rangeOf_7 rfl rfl ?_
  refine r_iload_n C dX12_rangeOf_8 rfl rfl ?_
  refine r_iconst C dX12_rangeOf_9 (by decide) ?_
  refine q_callVi (av := [zi p1, zi 1]) (rest := []) C (tX12_lowOf p1 1 q1.2) lkX12_401 kd_132 rfl rfl rfl (Nat.le_of_ble_eq_true rfl) ⟨by decide, by decide⟩ dX12_rangeOf_10 (fun q2 _ => ?_)
  refine r_istore_n (al' := [some (zr 132), some (zi p1), some (zi q1.1), some (zi q2.1), none, none, none]) C dX12_rangeOf_13 rfl (by rw [hn]; decide) rfl ?_
  refine r_aload_n C dX12_rangeOf_14 rfl rfl ?_
  refine r_iload_n C dX12_rangeOf_15 rfl rfl ?_
  refine r_iconst C dX12_rangeOf_16 (by decide) ?_
  refine q_callVi (av := [zi p1, zi 0]) (rest := []) C (tX12_highOf p1 0 q2.2) lkX12_404 kd_132 rfl rfl rfl (Nat.le_of_ble_eq_true rfl) ⟨by decide, by decide⟩ dX12_rangeOf_17 (fun q3 _ => ?_)
  refine r_istore (al' := [some (zr 132), some (zi p1), some (zi q1.1), some (zi q2.1), some (zi q3.1), none, none]) C dX12_rangeOf_20 (by rw [hn]; decide) rfl ?_
  refine r_aload_n C dX12_rangeOf_22 rfl rfl ?_
  refine r_iload_n C dX12_rangeOf_23 rfl rfl ?_
  refine r_iconst C dX12_rangeOf_24 (by decide) ?_
  refine q_callVi (av := [zi p1, zi 1]) (rest := []) C (tX12_highOf p1 1 q3.2) lkX12_404 kd_132 rfl rfl rfl (Nat.le_of_ble_eq_true rfl) ⟨by decide, by decide⟩ dX12_rangeOf_25 (fun q4 _ => ?_)
  refine r_istore (al' := [some (zr 132), some (zi p1), some (zi q1.1), some (zi q2.1), some (zi q3.1), some (zi q4.1), none]) C dX12_rangeOf_28 (by rw [hn]; decide) rfl ?_
  refine r_iload_n C dX12_rangeOf_30 rfl rfl ?_
  refine r_iload C dX12_rangeOf_31 rfl ?_
  refine r_join (γ := Int) (pcJ := fun _ => 52) (al' := fun q5 => [some (zr 132), some (zi p1), some (zi q1.1), some (zi q2.1), some (zi q3.1), some (zi q4.1), none]) (st' := fun q5 => [zi q5]) (M' := fun q5 => q4.2) ?_ ?_
  · intro q5
    refine r_istore (al' := [some (zr 132), some (zi p1), some (zi q1.1), some (zi q2.1), some (zi q3.1), some (zi q4.1), some (zi q5)]) C dX12_rangeOf_52 (by rw [hn]; decide) rfl ?_
    refine r_aload_n C dX12_rangeOf_54 rfl rfl ?_
    refine r_iload_n C dX12_rangeOf_55 rfl rfl ?_
    refine q_callVi (av := [zi p1]) (rest := []) C (tX12_howOf p1 q4.2) lkX12_391 kd_132 rfl rfl rfl (Nat.le_of_ble_eq_true rfl) ⟨by decide, by decide⟩ dX12_rangeOf_56 (fun q6 _ => ?_)
    refine r_join (γ := Mem) (pcJ := fun _ => 313) (al' := fun q29 => [none, none, none, none, none, none, none]) (st' := fun q29 => []) (M' := fun q29 => q29) ?_ ?_
    · intro q29
      exact r_return C dX12_rangeOf_313 rfl
    · intro hJq29
      refine r_ite (fun hx0 => ?_) (fun hx0 => ?_)
      · refine r_sw 116 ?_ (fun J => ?_)
        · refine r_aload_n C dX12_rangeOf_116 rfl rfl ?_
          refine r_iload_n C dX12_rangeOf_117 rfl rfl ?_
          refine r_iload_n C dX12_rangeOf_118 rfl rfl ?_
          refine r_i2l C dX12_rangeOf_119 ?_
          refine r_iload_n C dX12_rangeOf_120 rfl rfl ?_
          refine r_i2l C dX12_rangeOf_121 ?_
          refine r_ladd C dX12_rangeOf_122 ?_
          refine q_callSi (av := [zl (w64 (q1.1 + q2.1))]) (rest := [zi p1, zr 132]) C (tX12_held (w64 (q1.1 + q2.1)) q6.2) lkX12_378 rfl rfl (Nat.le_of_ble_eq_true rfl) ⟨by decide, by decide⟩ dX12_rangeOf_123 (fun q7 _ => ?_)
          refine r_iload C dX12_rangeOf_126 rfl ?_
          refine r_i2l C dX12_rangeOf_128 ?_
          refine r_iload C dX12_rangeOf_129 rfl ?_
          refine r_i2l C dX12_rangeOf_131 ?_
          refine r_ladd C dX12_rangeOf_132 ?_
          refine q_callSi (av := [zl (w64 (q3.1 + q4.1))]) (rest := [zi q7.1, zi p1, zr 132]) C (tX12_held (w64 (q3.1 + q4.1)) q7.2) lkX12_378 rfl rfl (Nat.le_of_ble_eq_true rfl) ⟨by decide, by decide⟩ dX12_rangeOf_133 (fun q8 _ => ?_)
          refine q_callVv (av := [zi p1, zi q7.1, zi q8.1]) (rest := []) C (tX12_rangeIs p1 q7.1 q8.1 q8.2) lkX12_407 kd_132 rfl rfl rfl (Nat.le_of_ble_eq_true rfl) ⟨by decide, by decide⟩ dX12_rangeOf_136 (fun q9 _ => ?_)
          refine r_goto (tgt := 313) C dX12_rangeOf_139 (by decide) ?_
          refine r_less [false, false, false, false, false, false, false] rfl ?_
          exact hJq29 q9
        · skip
          exact r_tabIn (n := 2) C dX12_rangeOf_59 hx0 (by decide) (by decide) rfl (by decide) J
      refine r_ite (fun hx1 => ?_) (fun hx1 => ?_)
      · refine r_sw 142 ?_ (fun J => ?_)
        · refine r_aload_n C dX12_rangeOf_142 rfl rfl ?_
          refine r_iload_n C dX12_rangeOf_143 rfl rfl ?_
          refine r_iload_n C dX12_rangeOf_144 rfl rfl ?_
          refine r_i2l C dX12_rangeOf_145 ?_
          refine r_iload C dX12_rangeOf_146 rfl ?_
          refine r_i2l C dX12_rangeOf_148 ?_
          refine r_lsub C dX12_rangeOf_149 ?_
          refine q_callSi (av := [zl (w64 (q1.1 - q4.1))]) (rest := [zi p1, zr 132]) C (tX12_held (w64 (q1.1 - q4.1)) q6.2) lkX12_378 rfl rfl (Nat.le_of_ble_eq_true rfl) ⟨by decide, by decide⟩ dX12_rangeOf_150 (fun q10 _ => ?_)
          refine r_iload C dX12_rangeOf_153 rfl ?_
          refine r_i2l C dX12_rangeOf_155 ?_
          refine r_iload_n C dX12_rangeOf_156 rfl rfl ?_
          refine r_i2l C dX12_rangeOf_157 ?_
          refine r_lsub C dX12_rangeOf_158 ?_
          refine q_callSi (av := [zl (w64 (q3.1 - q2.1))]) (rest := [zi q10.1, zi p1, zr 132]) C (tX12_held (w64 (q3.1 - q2.1)) q10.2) lkX12_378 rfl rfl (Nat.le_of_ble_eq_true rfl) ⟨by decide, by decide⟩ dX12_rangeOf_159 (fun q11 _ => ?_)
          refine q_callVv (av := [zi p1, zi q10.1, zi q11.1]) (rest := []) C (tX12_rangeIs p1 q10.1 q11.1 q11.2) lkX12_407 kd_132 rfl rfl rfl (Nat.le_of_ble_eq_true rfl) ⟨by decide, by decide⟩ dX12_rangeOf_162 (fun q12 _ => ?_)
          refine r_goto (tgt := 313) C dX12_rangeOf_165 (by decide) ?_
          refine r_less [false, false, false, false, false, false, false] rfl ?_
          exact hJq29 q12
        · skip
          exact r_tabIn (n := 3) C dX12_rangeOf_59 hx1 (by decide) (by decide) rfl (by decide) J
      refine r_ite (fun hx2 => ?_) (fun hx2 => ?_)
      · refine r_sw 168 ?_ (fun J => ?_)
        · refine r_aload_n C dX12_rangeOf_168 rfl rfl ?_
          refine r_iload_n C dX12_rangeOf_169 rfl rfl ?_
          refine q_callVv (av := [zi p1]) (rest := []) C (tX12_timesRange p1 q6.2) lkX12_410 kd_132 rfl rfl rfl (Nat.le_of_ble_eq_true rfl) ⟨by decide, by decide⟩ dX12_rangeOf_170 (fun q13 _ => ?_)
          refine r_goto (tgt := 313) C dX12_rangeOf_173 (by decide) ?_
          refine r_less [false, false, false, false, false, false, false] rfl ?_
          exact hJq29 q13
        · skip
          exact r_tabIn (n := 4) C dX12_rangeOf_59 hx2 (by decide) (by decide) rfl (by decide) J
      refine r_ite (fun hx3 => ?_) (fun hx3 => ?_)
      · refine r_sw 176 ?_ (fun J => ?_)
        · refine r_aload_n C dX12_rangeOf_176 rfl rfl ?_
          refine r_iload_n C dX12_rangeOf_177 rfl rfl ?_
          refine r_iload_n C dX12_rangeOf_178 rfl rfl ?_
          refine r_iload_n C dX12_rangeOf_179 rfl rfl ?_
          refine q_callSi (av := [zi q1.1, zi q2.1]) (rest := [zi p1, zr 132]) C (tX12_lesser q1.1 q2.1 q6.2) lkX12_382 rfl rfl (Nat.le_of_ble_eq_true rfl) ⟨by decide, by decide⟩ dX12_rangeOf_180 (fun q14 _ => ?_)
          refine r_iload C dX12_rangeOf_183 rfl ?_
          refine r_iload C dX12_rangeOf_185 rfl ?_
          refine q_callSi (av := [zi q3.1, zi q4.1]) (rest := [zi q14.1, zi p1, zr 132]) C (tX12_lesser q3.1 q4.1 q14.2) lkX12_382 rfl rfl (Nat.le_of_ble_eq_true rfl) ⟨by decide, by decide⟩ dX12_rangeOf_187 (fun q15 _ => ?_)
          refine q_callVv (av := [zi p1, zi q14.1, zi q15.1]) (rest := []) C (tX12_rangeIs p1 q14.1 q15.1 q15.2) lkX12_407 kd_132 rfl rfl rfl (Nat.le_of_ble_eq_true rfl) ⟨by decide, by decide⟩ dX12_rangeOf_190 (fun q16 _ => ?_)
          refine r_goto (tgt := 313) C dX12_rangeOf_193 (by decide) ?_
          refine r_less [false, false, false, false, false, false, false] rfl ?_
          exact hJq29 q16
        · rcases hx3 with hx3 | hx3
          · exact r_tabIn (n := 5) C dX12_rangeOf_59 hx3 (by decide) (by decide) rfl (by decide) J
          · exact r_tabIn (n := 10) C dX12_rangeOf_59 hx3 (by decide) (by decide) rfl (by decide) J
      refine r_ite (fun hx4 => ?_) (fun hx4 => ?_)
      · refine r_sw 196 ?_ (fun J => ?_)
        · refine r_aload_n C dX12_rangeOf_196 rfl rfl ?_
          refine r_iload_n C dX12_rangeOf_197 rfl rfl ?_
          refine r_iload_n C dX12_rangeOf_198 rfl rfl ?_
          refine r_iload_n C dX12_rangeOf_199 rfl rfl ?_
          refine q_callSi (av := [zi q1.1, zi q2.1]) (rest := [zi p1, zr 132]) C (tX12_greater q1.1 q2.1 q6.2) lkX12_385 rfl rfl (Nat.le_of_ble_eq_true rfl) ⟨by decide, by decide⟩ dX12_rangeOf_200 (fun q17 _ => ?_)
          refine r_iload C dX12_rangeOf_203 rfl ?_
          refine r_iload C dX12_rangeOf_205 rfl ?_
          refine q_callSi (av := [zi q3.1, zi q4.1]) (rest := [zi q17.1, zi p1, zr 132]) C (tX12_greater q3.1 q4.1 q17.2) lkX12_385 rfl rfl (Nat.le_of_ble_eq_true rfl) ⟨by decide, by decide⟩ dX12_rangeOf_207 (fun q18 _ => ?_)
          refine q_callVv (av := [zi p1, zi q17.1, zi q18.1]) (rest := []) C (tX12_rangeIs p1 q17.1 q18.1 q18.2) lkX12_407 kd_132 rfl rfl rfl (Nat.le_of_ble_eq_true rfl) ⟨by decide, by decide⟩ dX12_rangeOf_210 (fun q19 _ => ?_)
          refine r_goto (tgt := 313) C dX12_rangeOf_213 (by decide) ?_
          refine r_less [false, false, false, false, false, false, false] rfl ?_
          exact hJq29 q19
        · rcases hx4 with hx4 | hx4
          · exact r_tabIn (n := 6) C dX12_rangeOf_59 hx4 (by decide) (by decide) rfl (by decide) J
          · exact r_tabIn (n := 11) C dX12_rangeOf_59 hx4 (by decide) (by decide) rfl (by decide) J
      refine r_ite (fun hx5 => ?_) (fun hx5 => ?_)
      · refine r_sw 216 ?_ (fun J => ?_)
        · refine r_aload_n C dX12_rangeOf_216 rfl rfl ?_
          refine r_iload_n C dX12_rangeOf_217 rfl rfl ?_
          refine r_iconst C dX12_rangeOf_218 (by decide) ?_
          refine r_sipush C dX12_rangeOf_219 (by decide) ?_
          refine q_callVv (av := [zi p1, zi 0, zi 999]) (rest := []) C (tX12_rangeIs p1 0 999 q6.2) lkX12_407 kd_132 rfl rfl rfl (Nat.le_of_ble_eq_true rfl) ⟨by decide, by decide⟩ dX12_rangeOf_222 (fun q20 _ => ?_)
          refine r_goto (tgt := 313) C dX12_rangeOf_225 (by decide) ?_
          refine r_less [false, false, false, false, false, false, false] rfl ?_
          exact hJq29 q20
        · skip
          exact r_tabIn (n := 7) C dX12_rangeOf_59 hx5 (by decide) (by decide) rfl (by decide) J
      refine r_ite (fun hx6 => ?_) (fun hx6 => ?_)
      · refine r_sw 228 ?_ (fun J => ?_)
        · refine r_aload_n C dX12_rangeOf_228 rfl rfl ?_
          refine r_iload_n C dX12_rangeOf_229 rfl rfl ?_
          refine r_iload C dX12_rangeOf_230 rfl ?_
          refine r_iload_n C dX12_rangeOf_232 rfl rfl ?_
          refine r_join (γ := Int) (pcJ := fun _ => 241) (al' := fun q21 => [none, none, some (zi q1.1), none, none, some (zi q4.1), none]) (st' := fun q21 => [zi q21, zi p1, zr 132]) (M' := fun q21 => q6.2) ?_ ?_
          · intro q21
            refine r_iload_n C dX12_rangeOf_241 rfl rfl ?_
            refine r_iload C dX12_rangeOf_242 rfl ?_
            refine r_join (γ := Int) (pcJ := fun _ => 252) (al' := fun q22 => [none, none, none, none, none, none, none]) (st' := fun q22 => [zi q22, zi q21, zi p1, zr 132]) (M' := fun q22 => q6.2) ?_ ?_
            · intro q22
              refine q_callVv (av := [zi p1, zi q21, zi q22]) (rest := []) C (tX12_rangeIs p1 q21 q22 q6.2) lkX12_407 kd_132 rfl rfl rfl (Nat.le_of_ble_eq_true rfl) ⟨by decide, by decide⟩ dX12_rangeOf_252 (fun q23 _ => ?_)
              refine r_goto (tgt := 313) C dX12_rangeOf_255 (by decide) ?_
              exact hJq29 q23
            · intro hJq22
              refine q_icmp_lt (tgt := 251) C dX12_rangeOf_244 (by decide) (fun _ => ?_) (fun _ => ?_)
              · refine r_iconst C dX12_rangeOf_251 (by decide) ?_
                refine r_less [false, false, false, false, false, false, false] rfl ?_
                exact hJq22 1
              · refine r_iconst C dX12_rangeOf_247 (by decide) ?_
                refine r_goto (tgt := 252) C dX12_rangeOf_248 (by decide) ?_
                refine r_less [false, false, false, false, false, false, false] rfl ?_
                exact hJq22 0
          · intro hJq21
            refine q_icmp_ge (tgt := 240) C dX12_rangeOf_233 (by decide) (fun _ => ?_) (fun _ => ?_)
            · refine r_iconst C dX12_rangeOf_240 (by decide) ?_
              refine r_less [false, false, true, false, false, true, false] rfl ?_
              exact hJq21 0
            · refine r_iconst C dX12_rangeOf_236 (by decide) ?_
              refine r_goto (tgt := 241) C dX12_rangeOf_237 (by decide) ?_
              refine r_less [false, false, true, false, false, true, false] rfl ?_
              exact hJq21 1
        · skip
          exact r_tabIn (n := 8) C dX12_rangeOf_59 hx6 (by decide) (by decide) rfl (by decide) J
      refine r_ite (fun hx7 => ?_) (fun hx7 => ?_)
      · refine r_sw 258 ?_ (fun J => ?_)
        · refine r_aload_n C dX12_rangeOf_258 rfl rfl ?_
          refine r_iload_n C dX12_rangeOf_259 rfl rfl ?_
          refine r_iload C dX12_rangeOf_260 rfl ?_
          refine r_join (γ := Int) (pcJ := fun _ => 270) (al' := fun q24 => [none, none, some (zi q1.1), some (zi q2.1), some (zi q3.1), some (zi q4.1), none]) (st' := fun q24 => [zi q24, zi p1, zr 132]) (M' := fun q24 => q6.2) ?_ ?_
          · intro q24
            refine r_iload C dX12_rangeOf_270 rfl ?_
            refine r_iload_n C dX12_rangeOf_272 rfl rfl ?_
            refine r_join (γ := Int) (pcJ := fun _ => 287) (al' := fun q25 => [none, none, none, none, none, none, none]) (st' := fun q25 => [zi q25, zi q24, zi p1, zr 132]) (M' := fun q25 => q6.2) ?_ ?_
            · intro q25
              refine q_callVv (av := [zi p1, zi q24, zi q25]) (rest := []) C (tX12_rangeIs p1 q24 q25 q6.2) lkX12_407 kd_132 rfl rfl rfl (Nat.le_of_ble_eq_true rfl) ⟨by decide, by decide⟩ dX12_rangeOf_287 (fun q26 _ => ?_)
              refine r_goto (tgt := 313) C dX12_rangeOf_290 (by decide) ?_
              exact hJq29 q26
            · intro hJq25
              refine q_icmp_lt (tgt := 282) C dX12_rangeOf_273 (by decide) (fun _ => ?_) (fun _ => ?_)
              · refine r_iconst C dX12_rangeOf_282 (by decide) ?_
                refine r_goto (tgt := 287) C dX12_rangeOf_283 (by decide) ?_
                refine r_less [false, false, false, false, false, false, false] rfl ?_
                exact hJq25 0
              · refine r_iload C dX12_rangeOf_276 rfl ?_
                refine r_iload_n C dX12_rangeOf_278 rfl rfl ?_
                refine q_icmp_ge (tgt := 286) C dX12_rangeOf_279 (by decide) (fun _ => ?_) (fun _ => ?_)
                · refine r_iconst C dX12_rangeOf_286 (by decide) ?_
                  refine r_less [false, false, false, false, false, false, false] rfl ?_
                  exact hJq25 1
                · refine r_iconst C dX12_rangeOf_282 (by decide) ?_
                  refine r_goto (tgt := 287) C dX12_rangeOf_283 (by decide) ?_
                  refine r_less [false, false, false, false, false, false, false] rfl ?_
                  exact hJq25 0
          · intro hJq24
            refine q_if_eq (tgt := 269) C dX12_rangeOf_262 (by decide) (fun _ => ?_) (fun _ => ?_)
            · refine r_iconst C dX12_rangeOf_269 (by decide) ?_
              refine r_less [false, false, true, true, true, true, false] rfl ?_
              exact hJq24 0
            · refine r_iconst C dX12_rangeOf_265 (by decide) ?_
              refine r_goto (tgt := 270) C dX12_rangeOf_266 (by decide) ?_
              refine r_less [false, false, true, true, true, true, false] rfl ?_
              exact hJq24 1
        · skip
          exact r_tabIn (n := 9) C dX12_rangeOf_59 hx7 (by decide) (by decide) rfl (by decide) J
      refine r_ite (fun hx8 => ?_) (fun hx8 => ?_)
      · refine r_sw 293 ?_ (fun J => ?_)
        · refine r_aload_n C dX12_rangeOf_293 rfl rfl ?_
          refine r_iload_n C dX12_rangeOf_294 rfl rfl ?_
          refine r_iconst C dX12_rangeOf_295 (by decide) ?_
          refine r_iload C dX12_rangeOf_296 rfl ?_
          refine r_isub C dX12_rangeOf_298 ?_
          refine r_iconst C dX12_rangeOf_299 (by decide) ?_
          refine r_iload_n C dX12_rangeOf_300 rfl rfl ?_
          refine r_isub C dX12_rangeOf_301 ?_
          refine q_callVv (av := [zi p1, zi (w32 (1 - q3.1)), zi (w32 (1 - q1.1))]) (rest := []) C (tX12_rangeIs p1 (w32 (1 - q3.1)) (w32 (1 - q1.1)) q6.2) lkX12_407 kd_132 rfl rfl rfl (Nat.le_of_ble_eq_true rfl) ⟨by decide, by decide⟩ dX12_rangeOf_302 (fun q27 _ => ?_)
          refine r_goto (tgt := 313) C dX12_rangeOf_305 (by decide) ?_
          refine r_less [false, false, false, false, false, false, false] rfl ?_
          exact hJq29 q27
        · skip
          exact r_tabIn (n := 12) C dX12_rangeOf_59 hx8 (by decide) (by decide) rfl (by decide) J
      refine r_tabOut (tgt := 308) C dX12_rangeOf_59 (by omega) (by decide) ?_
      refine r_aload_n C dX12_rangeOf_308 rfl rfl ?_
      refine r_iload_n C dX12_rangeOf_309 rfl rfl ?_
      refine q_callVv (av := [zi p1]) (rest := []) C (tX12_pickRange p1 q6.2) lkX12_413 kd_132 rfl rfl rfl (Nat.le_of_ble_eq_true rfl) ⟨by decide, by decide⟩ dX12_rangeOf_310 (fun q28 _ => ?_)
      refine r_less [false, false, false, false, false, false, false] rfl ?_
      exact hJq29 q28
  · intro hJq5
    refine q_icmp_ne (tgt := 51) C dX12_rangeOf_33 (by decide) (fun _ => ?_) (fun _ => ?_)
    · refine r_iconst C dX12_rangeOf_51 (by decide) ?_
      exact hJq5 0
    · refine r_iload_n C dX12_rangeOf_36 rfl rfl ?_
      refine r_iload C dX12_rangeOf_37 rfl ?_
      refine q_icmp_ne (tgt := 51) C dX12_rangeOf_39 (by decide) (fun _ => ?_) (fun _ => ?_)
      · refine r_iconst C dX12_rangeOf_51 (by decide) ?_
        exact hJq5 0
      · refine r_iload_n C dX12_rangeOf_42 rfl rfl ?_
        refine r_iload_n C dX12_rangeOf_43 rfl rfl ?_
        refine q_icmp_ne (tgt := 51) C dX12_rangeOf_44 (by decide) (fun _ => ?_) (fun _ => ?_)
        · refine r_iconst C dX12_rangeOf_51 (by decide) ?_
          exact hJq5 0
        · refine r_iconst C dX12_rangeOf_47 (by decide) ?_
          refine r_goto (tgt := 52) C dX12_rangeOf_48 (by decide) ?_
          exact hJq5 1
set_option maxRecDepth 100000 in
set_option maxHeartbeats 4000000 in
theorem tX12_rangesWith (p1 : Int) (p2 : Int) (p3 : Int) (M : Mem) : Cn yX12_rangesWith cX12_rangesWith 9 none 4 97 [zr 132, zi p1, zi p2, zi p3] M ((fX12_rangesWith p1 p2 p3 M).map oU) := by
  refine Cn_mk (own := RX12) rfl (by decide) (Nat.le_of_ble_eq_true rfl) [some (zr 132), some (zi p1), some (zi p2), some (zi p3), none, none, none, none, none] rfl (fun G C hn => ?_)
  unfold fX12_rangesWith
  refine r_iconst C dX12_rangesWith_0 (by decide) ?_
  refine r_istore (al' := [some (zr 132), some (zi p1), some (zi p2), some (zi p3), some (zi 0), none, none, none, none]) C dX12_rangesWith_1 (by rw [hn]; decide) rfl ?_
  refine r_lp (S := Int × Mem) (R := Mem) (pcX := 250) (AL := fun s1 => [some (zr 132), some (zi p1), some (zi p2), some (zi p3), some (zi s1.1), none, none, none, none]) (MM := fun s1 => s1.2) (AX := fun q28 => [none, none, none, none, none, none, none, none, none]) (MX := fun q28 => q28) ?_ ?_ (0, M)
  · intro q28
    exact r_return C dX12_rangesWith_250 rfl
  · intro gs1 hCs1 hXs1 s1
    unfold fX12_rangesWith_b1
    refine r_iload C dX12_rangesWith_3 rfl ?_
    refine r_aload_n C dX12_rangesWith_5 rfl rfl ?_
    refine q_callVi (av := []) (rest := [zi s1.1]) C (tX12_values  s1.2) lkX12_352 kd_132 rfl rfl rfl (Nat.le_of_ble_eq_true rfl) ⟨by decide, by decide⟩ dX12_rangesWith_6 (fun q2 _ => ?_)
    refine q_icmp_ge (tgt := 250) C dX12_rangesWith_9 (by decide) (fun _ => ?_) (fun _ => ?_)
    · refine r_less [false, false, false, false, false, false, false, false, false] rfl ?_
      exact hXs1 q2.2
    · refine r_aload_n C dX12_rangesWith_12 rfl rfl ?_
      refine r_iload C dX12_rangesWith_13 rfl ?_
      refine q_callVi (av := [zi s1.1]) (rest := []) C (tX12_howOf s1.1 q2.2) lkX12_391 kd_132 rfl rfl rfl (Nat.le_of_ble_eq_true rfl) ⟨by decide, by decide⟩ dX12_rangesWith_15 (fun q3 _ => ?_)
      refine r_istore (al' := [some (zr 132), some (zi p1), some (zi p2), some (zi p3), some (zi s1.1), some (zi q3.1), none, none, none]) C dX12_rangesWith_18 (by rw [hn]; decide) rfl ?_
      refine r_aload_n C dX12_rangesWith_20 rfl rfl ?_
      refine r_iload C dX12_rangesWith_21 rfl ?_
      refine r_iconst C dX12_rangesWith_23 (by decide) ?_
      refine q_callVi (av := [zi s1.1, zi 0]) (rest := []) C (tX12_argOf s1.1 0 q3.2) lkX12_388 kd_132 rfl rfl rfl (Nat.le_of_ble_eq_true rfl) ⟨by decide, by decide⟩ dX12_rangesWith_24 (fun q4 _ => ?_)
      refine r_istore (al' := [some (zr 132), some (zi p1), some (zi p2), some (zi p3), some (zi s1.1), some (zi q3.1), some (zi q4.1), none, none]) C dX12_rangesWith_27 (by rw [hn]; decide) rfl ?_
      refine r_iload C dX12_rangesWith_29 rfl ?_
      refine r_join (γ := Mem) (pcJ := fun _ => 99) (al' := fun q11 => [some (zr 132), some (zi p1), some (zi p2), some (zi p3), some (zi s1.1), some (zi q3.1), some (zi q4.1), none, none]) (st' := fun q11 => []) (M' := fun q11 => q11) ?_ ?_
      · intro q11
        refine r_aload_n C dX12_rangesWith_99 rfl rfl ?_
        refine r_getp C clX12 kd_132 (k := 31) (by decide) flX12_177 dX12_rangesWith_100 pt_132_31 ?_
        refine r_iload C dX12_rangesWith_103 rfl ?_
        refine r_iload C dX12_rangesWith_105 rfl ?_
        refine r_bipush C dX12_rangesWith_107 (by decide) ?_
        refine r_join (γ := Int × Mem) (pcJ := fun _ => 132) (al' := fun q15 => [some (zr 132), some (zi p1), some (zi p2), some (zi p3), some (zi s1.1), some (zi q3.1), some (zi q4.1), none, none]) (st' := fun q15 => [zi q15.1, zi s1.1, zr 155]) (M' := fun q15 => q15.2) ?_ ?_
        · intro q15
          refine r_zastore C dX12_rangesWith_132 (fun M16 _ => ?_)
          refine r_iload C dX12_rangesWith_133 rfl ?_
          refine r_join (γ := Int) (pcJ := fun _ => 161) (al' := fun q18 => [some (zr 132), some (zi p1), some (zi p2), some (zi p3), some (zi s1.1), some (zi q3.1), none, none, none]) (st' := fun q18 => [zi q18]) (M' := fun q18 => M16) ?_ ?_
          · intro q18
            refine r_istore (al' := [some (zr 132), some (zi p1), some (zi p2), some (zi p3), some (zi s1.1), some (zi q3.1), none, some (zi q18), none]) C dX12_rangesWith_161 (by rw [hn]; decide) rfl ?_
            refine r_iconst C dX12_rangesWith_163 (by decide) ?_
            refine r_istore (al' := [some (zr 132), some (zi p1), some (zi p2), some (zi p3), some (zi s1.1), some (zi q3.1), none, some (zi q18), some (zi 0)]) C dX12_rangesWith_164 (by rw [hn]; decide) rfl ?_
            refine r_lp (S := Int × Int × Mem) (R := Int × Mem) (pcX := 223) (AL := fun s19 => [some (zr 132), some (zi p1), some (zi p2), some (zi p3), some (zi s1.1), some (zi q3.1), none, some (zi s19.1), some (zi s19.2.1)]) (MM := fun s19 => s19.2.2) (AX := fun q24 => [some (zr 132), some (zi p1), some (zi p2), some (zi p3), some (zi s1.1), some (zi q3.1), none, some (zi q24.1), none]) (MX := fun q24 => q24.2) ?_ ?_ (q18, 0, M16)
            · intro q24
              refine r_aload_n C dX12_rangesWith_223 rfl rfl ?_
              refine r_getp C clX12 kd_132 (k := 32) (by decide) flX12_181 dX12_rangesWith_224 pt_132_32 ?_
              refine r_iload C dX12_rangesWith_227 rfl ?_
              refine r_iload C dX12_rangesWith_229 rfl ?_
              refine r_zastore C dX12_rangesWith_231 (fun M25 _ => ?_)
              refine r_iload C dX12_rangesWith_232 rfl ?_
              refine r_iconst C dX12_rangesWith_234 (by decide) ?_
              refine r_join (γ := Mem) (pcJ := fun _ => 244) (al' := fun q27 => [some (zr 132), some (zi p1), some (zi p2), some (zi p3), some (zi s1.1), none, none, none, none]) (st' := fun q27 => []) (M' := fun q27 => q27) ?_ ?_
              · intro q27
                refine r_iinc (al' := [some (zr 132), some (zi p1), some (zi p2), some (zi p3), some (zi (w32 (s1.1 + 1))), none, none, none, none]) C dX12_rangesWith_244 rfl (by rw [hn]; decide) rfl ?_
                refine r_goto (tgt := 3) C dX12_rangesWith_247 (by decide) ?_
                exact hCs1 (w32 (s1.1 + 1), q27)
              · intro hJq27
                refine q_icmp_lt (tgt := 244) C dX12_rangesWith_235 (by decide) (fun _ => ?_) (fun _ => ?_)
                · refine r_less [true, true, true, true, true, false, false, false, false] rfl ?_
                  exact hJq27 M25
                · refine r_aload_n C dX12_rangesWith_238 rfl rfl ?_
                  refine r_iload C dX12_rangesWith_239 rfl ?_
                  refine q_callVv (av := [zi s1.1]) (rest := []) C (tX12_rangeOf s1.1 M25) lkX12_416 kd_132 rfl rfl rfl (Nat.le_of_ble_eq_true rfl) ⟨by decide, by decide⟩ dX12_rangesWith_241 (fun q26 _ => ?_)
                  refine r_less [true, true, true, true, true, false, false, false, false] rfl ?_
                  exact hJq27 q26
            · intro gs19 hCs19 hXs19 s19
              unfold fX12_rangesWith_b2
              refine r_iload C dX12_rangesWith_166 rfl ?_
              refine r_iconst C dX12_rangesWith_168 (by decide) ?_
              refine q_icmp_ge (tgt := 223) C dX12_rangesWith_169 (by decide) (fun _ => ?_) (fun _ => ?_)
              · refine r_less [true, true, true, true, true, true, false, true, false] rfl ?_
                exact hXs19 (s19.1, s19.2.2)
              · refine r_iload C dX12_rangesWith_172 rfl ?_
                refine r_iconst C dX12_rangesWith_174 (by decide) ?_
                refine q_icmp_lt (tgt := 223) C dX12_rangesWith_175 (by decide) (fun _ => ?_) (fun _ => ?_)
                · refine r_less [true, true, true, true, true, true, false, true, false] rfl ?_
                  exact hXs19 (s19.1, s19.2.2)
                · refine r_iload C dX12_rangesWith_178 rfl ?_
                  refine r_join (γ := Int × Mem) (pcJ := fun _ => 215) (al' := fun q23 => [some (zr 132), some (zi p1), some (zi p2), some (zi p3), some (zi s1.1), some (zi q3.1), none, none, some (zi s19.2.1)]) (st' := fun q23 => [zi q23.1]) (M' := fun q23 => q23.2) ?_ ?_
                  · intro q23
                    refine r_istore (al' := [some (zr 132), some (zi p1), some (zi p2), some (zi p3), some (zi s1.1), some (zi q3.1), none, some (zi q23.1), some (zi s19.2.1)]) C dX12_rangesWith_215 (by rw [hn]; decide) rfl ?_
                    refine r_iinc (al' := [some (zr 132), some (zi p1), some (zi p2), some (zi p3), some (zi s1.1), some (zi q3.1), none, some (zi q23.1), some (zi (w32 (s19.2.1 + 1)))]) C dX12_rangesWith_217 rfl (by rw [hn]; decide) rfl ?_
                    refine r_goto (tgt := 166) C dX12_rangesWith_220 (by decide) ?_
                    exact hCs19 (q23.1, w32 (s19.2.1 + 1), q23.2)
                  · intro hJq23
                    refine q_if_eq (tgt := 214) C dX12_rangesWith_180 (by decide) (fun _ => ?_) (fun _ => ?_)
                    · refine r_iconst C dX12_rangesWith_214 (by decide) ?_
                      refine r_less [true, true, true, true, true, true, false, false, true] rfl ?_
                      exact hJq23 (0, s19.2.2)
                    · refine r_aload_n C dX12_rangesWith_183 rfl rfl ?_
                      refine r_iload C dX12_rangesWith_184 rfl ?_
                      refine r_iload C dX12_rangesWith_186 rfl ?_
                      refine q_callVi (av := [zi s1.1, zi s19.2.1]) (rest := []) C (tX12_argOf s1.1 s19.2.1 s19.2.2) lkX12_388 kd_132 rfl rfl rfl (Nat.le_of_ble_eq_true rfl) ⟨by decide, by decide⟩ dX12_rangesWith_188 (fun q20 _ => ?_)
                      refine q_if_lt (tgt := 210) C dX12_rangesWith_191 (by decide) (fun _ => ?_) (fun _ => ?_)
                      · refine r_iconst C dX12_rangesWith_210 (by decide) ?_
                        refine r_goto (tgt := 215) C dX12_rangesWith_211 (by decide) ?_
                        refine r_less [true, true, true, true, true, true, false, false, true] rfl ?_
                        exact hJq23 (1, q20.2)
                      · refine r_aload_n C dX12_rangesWith_194 rfl rfl ?_
                        refine r_getp C clX12 kd_132 (k := 32) (by decide) flX12_181 dX12_rangesWith_195 pt_132_32 ?_
                        refine r_aload_n C dX12_rangesWith_198 rfl rfl ?_
                        refine r_iload C dX12_rangesWith_199 rfl ?_
                        refine r_iload C dX12_rangesWith_201 rfl ?_
                        refine q_callVi (av := [zi s1.1, zi s19.2.1]) (rest := [zr 156]) C (tX12_argOf s1.1 s19.2.1 q20.2) lkX12_388 kd_132 rfl rfl rfl (Nat.le_of_ble_eq_true rfl) ⟨by decide, by decide⟩ dX12_rangesWith_203 (fun q21 _ => ?_)
                        refine r_zaload C dX12_rangesWith_206 (fun v22 _ => ?_)
                        refine q_if_eq (tgt := 214) C dX12_rangesWith_207 (by decide) (fun _ => ?_) (fun _ => ?_)
                        · refine r_iconst C dX12_rangesWith_214 (by decide) ?_
                          refine r_less [true, true, true, true, true, true, false, false, true] rfl ?_
                          exact hJq23 (0, q21.2)
                        · refine r_iconst C dX12_rangesWith_210 (by decide) ?_
                          refine r_goto (tgt := 215) C dX12_rangesWith_211 (by decide) ?_
                          refine r_less [true, true, true, true, true, true, false, false, true] rfl ?_
                          exact hJq23 (1, q21.2)
          · intro hJq18
            refine q_if_gt (tgt := 156) C dX12_rangesWith_135 (by decide) (fun _ => ?_) (fun _ => ?_)
            · refine r_iconst C dX12_rangesWith_156 (by decide) ?_
              refine r_goto (tgt := 161) C dX12_rangesWith_157 (by decide) ?_
              refine r_less [true, true, true, true, true, true, false, false, false] rfl ?_
              exact hJq18 1
            · refine r_aload_n C dX12_rangesWith_138 rfl rfl ?_
              refine r_getp C clX12 kd_132 (k := 10) (by decide) flX12_126 dX12_rangesWith_139 pt_132_10 ?_
              refine r_bipush C dX12_rangesWith_142 (by decide) ?_
              refine r_iconst C dX12_rangesWith_144 (by decide) ?_
              refine r_iload C dX12_rangesWith_145 rfl ?_
              refine r_imul C dX12_rangesWith_147 ?_
              refine r_iadd C dX12_rangesWith_148 ?_
              refine r_iconst C dX12_rangesWith_149 (by decide) ?_
              refine r_iadd C dX12_rangesWith_150 ?_
              refine r_iaload C dX12_rangesWith_151 (fun v17 _ => ?_)
              refine r_iconst C dX12_rangesWith_152 (by decide) ?_
              refine q_icmp_ne (tgt := 160) C dX12_rangesWith_153 (by decide) (fun _ => ?_) (fun _ => ?_)
              · refine r_iconst C dX12_rangesWith_160 (by decide) ?_
                refine r_less [true, true, true, true, true, true, false, false, false] rfl ?_
                exact hJq18 0
              · refine r_iconst C dX12_rangesWith_156 (by decide) ?_
                refine r_goto (tgt := 161) C dX12_rangesWith_157 (by decide) ?_
                refine r_less [true, true, true, true, true, true, false, false, false] rfl ?_
                exact hJq18 1
        · intro hJq15
          refine q_icmp_ne (tgt := 127) C dX12_rangesWith_109 (by decide) (fun _ => ?_) (fun _ => ?_)
          · refine r_iload C dX12_rangesWith_127 rfl ?_
            refine q_callSi (av := [zi q3.1]) (rest := [zi s1.1, zr 155]) C (tX12_makesFlag q3.1 q11) lkX12_269 rfl rfl (Nat.le_of_ble_eq_true rfl) ⟨by decide, by decide⟩ dX12_rangesWith_129 (fun q12 _ => ?_)
            exact hJq15 (q12.1, q12.2)
          · refine r_aload_n C dX12_rangesWith_112 rfl rfl ?_
            refine r_getp C clX12 kd_132 (k := 31) (by decide) flX12_177 dX12_rangesWith_113 pt_132_31 ?_
            refine r_aload_n C dX12_rangesWith_116 rfl rfl ?_
            refine r_iload C dX12_rangesWith_117 rfl ?_
            refine r_iconst C dX12_rangesWith_119 (by decide) ?_
            refine q_callVi (av := [zi s1.1, zi 1]) (rest := [zr 155, zi s1.1, zr 155]) C (tX12_argOf s1.1 1 q11) lkX12_388 kd_132 rfl rfl rfl (Nat.le_of_ble_eq_true rfl) ⟨by decide, by decide⟩ dX12_rangesWith_120 (fun q13 _ => ?_)
            refine r_zaload C dX12_rangesWith_123 (fun v14 _ => ?_)
            refine r_goto (tgt := 132) C dX12_rangesWith_124 (by decide) ?_
            exact hJq15 (v14, q13.2)
      · intro hJq11
        refine q_if_ne (tgt := 83) C dX12_rangesWith_31 (by decide) (fun _ => ?_) (fun _ => ?_)
        · refine r_iload C dX12_rangesWith_83 rfl ?_
          refine r_iconst C dX12_rangesWith_85 (by decide) ?_
          refine q_icmp_ne (tgt := 99) C dX12_rangesWith_86 (by decide) (fun _ => ?_) (fun _ => ?_)
          · exact hJq11 q4.2
          · refine r_aload_n C dX12_rangesWith_89 rfl rfl ?_
            refine r_iload C dX12_rangesWith_90 rfl ?_
            refine r_iload C dX12_rangesWith_92 rfl ?_
            refine r_iload C dX12_rangesWith_94 rfl ?_
            refine q_callVv (av := [zi s1.1, zi q4.1, zi q4.1]) (rest := []) C (tX12_rangeIs s1.1 q4.1 q4.1 q4.2) lkX12_407 kd_132 rfl rfl rfl (Nat.le_of_ble_eq_true rfl) ⟨by decide, by decide⟩ dX12_rangesWith_96 (fun q5 _ => ?_)
            exact hJq11 q5
        · refine r_aload_n C dX12_rangesWith_34 rfl rfl ?_
          refine r_iload C dX12_rangesWith_35 rfl ?_
          refine r_iload C dX12_rangesWith_37 rfl ?_
          refine r_iload_n C dX12_rangesWith_39 rfl rfl ?_
          refine r_join (γ := Int) (pcJ := fun _ => 56) (al' := fun q7 => [some (zr 132), some (zi p1), some (zi p2), some (zi p3), some (zi s1.1), some (zi q3.1), some (zi q4.1), none, none]) (st' := fun q7 => [zi q7, zi s1.1, zr 132]) (M' := fun q7 => q4.2) ?_ ?_
          · intro q7
            refine r_iload C dX12_rangesWith_56 rfl ?_
            refine r_iload_n C dX12_rangesWith_58 rfl rfl ?_
            refine r_join (γ := Int) (pcJ := fun _ => 77) (al' := fun q9 => [some (zr 132), some (zi p1), some (zi p2), some (zi p3), some (zi s1.1), some (zi q3.1), some (zi q4.1), none, none]) (st' := fun q9 => [zi q9, zi q7, zi s1.1, zr 132]) (M' := fun q9 => q4.2) ?_ ?_
            · intro q9
              refine q_callVv (av := [zi s1.1, zi q7, zi q9]) (rest := []) C (tX12_rangeIs s1.1 q7 q9 q4.2) lkX12_407 kd_132 rfl rfl rfl (Nat.le_of_ble_eq_true rfl) ⟨by decide, by decide⟩ dX12_rangesWith_77 (fun q10 _ => ?_)
              refine r_goto (tgt := 99) C dX12_rangesWith_80 (by decide) ?_
              exact hJq11 q10
            · intro hJq9
              refine q_icmp_ne (tgt := 66) C dX12_rangesWith_59 (by decide) (fun _ => ?_) (fun _ => ?_)
              · refine r_aload_n C dX12_rangesWith_66 rfl rfl ?_
                refine r_getp C clX12 kd_132 (k := 25) (by decide) flX12_162 dX12_rangesWith_67 pt_132_25 ?_
                refine r_iconst C dX12_rangesWith_70 (by decide) ?_
                refine r_iload C dX12_rangesWith_71 rfl ?_
                refine r_imul C dX12_rangesWith_73 ?_
                refine r_iconst C dX12_rangesWith_74 (by decide) ?_
                refine r_iadd C dX12_rangesWith_75 ?_
                refine r_iaload C dX12_rangesWith_76 (fun v8 _ => ?_)
                exact hJq9 v8
              · refine r_iload_n C dX12_rangesWith_62 rfl rfl ?_
                refine r_goto (tgt := 77) C dX12_rangesWith_63 (by decide) ?_
                exact hJq9 p3
          · intro hJq7
            refine q_icmp_ne (tgt := 47) C dX12_rangesWith_40 (by decide) (fun _ => ?_) (fun _ => ?_)
            · refine r_aload_n C dX12_rangesWith_47 rfl rfl ?_
              refine r_getp C clX12 kd_132 (k := 25) (by decide) flX12_162 dX12_rangesWith_48 pt_132_25 ?_
              refine r_iconst C dX12_rangesWith_51 (by decide) ?_
              refine r_iload C dX12_rangesWith_52 rfl ?_
              refine r_imul C dX12_rangesWith_54 ?_
              refine r_iaload C dX12_rangesWith_55 (fun v6 _ => ?_)
              exact hJq7 v6
            · refine r_iload_n C dX12_rangesWith_43 rfl rfl ?_
              refine r_goto (tgt := 56) C dX12_rangesWith_44 (by decide) ?_
              exact hJq7 p2
