theorem dX0_init_0 : decode cX0_init 0 = .ok (.aload_n 0, 1) := by decide +kernel
theorem dX0_init_1 : decode cX0_init 1 = .ok (.invokespecial 3, 3) := by decide +kernel
theorem dX0_init_4 : decode cX0_init 4 = .ok (.aload_n 0, 1) := by decide +kernel
theorem dX0_init_5 : decode cX0_init 5 = .ok (.bipush 6, 2) := by decide +kernel
theorem dX0_init_7 : decode cX0_init 7 = .ok (.newarray .int, 2) := by decide +kernel
theorem dX0_init_9 : decode cX0_init 9 = .ok (.putfield 9, 3) := by decide +kernel
theorem dX0_init_12 : decode cX0_init 12 = .ok (.aload_n 0, 1) := by decide +kernel
theorem dX0_init_13 : decode cX0_init 13 = .ok (.bipush 6, 2) := by decide +kernel
theorem dX0_init_15 : decode cX0_init 15 = .ok (.newarray .int, 2) := by decide +kernel
theorem dX0_init_17 : decode cX0_init 17 = .ok (.putfield 15, 3) := by decide +kernel
theorem dX0_init_20 : decode cX0_init 20 = .ok (.aload_n 0, 1) := by decide +kernel
theorem dX0_init_21 : decode cX0_init 21 = .ok (.bipush 24, 2) := by decide +kernel
theorem dX0_init_23 : decode cX0_init 23 = .ok (.newarray .int, 2) := by decide +kernel
theorem dX0_init_25 : decode cX0_init 25 = .ok (.putfield 18, 3) := by decide +kernel
theorem dX0_init_28 : decode cX0_init 28 = .ok (.aload_n 0, 1) := by decide +kernel
theorem dX0_init_29 : decode cX0_init 29 = .ok (.bipush 16, 2) := by decide +kernel
theorem dX0_init_31 : decode cX0_init 31 = .ok (.newarray .int, 2) := by decide +kernel
theorem dX0_init_33 : decode cX0_init 33 = .ok (.putfield 21, 3) := by decide +kernel
theorem dX0_init_36 : decode cX0_init 36 = .ok (.return_, 1) := by decide +kernel
theorem dX0_start_0 : decode cX0_start 0 = .ok (.iconst 0, 1) := by decide +kernel
theorem dX0_start_1 : decode cX0_start 1 = .ok (.istore_n 2, 1) := by decide +kernel
theorem dX0_start_2 : decode cX0_start 2 = .ok (.iload_n 2, 1) := by decide +kernel
theorem dX0_start_3 : decode cX0_start 3 = .ok (.aload_n 1, 1) := by decide +kernel
theorem dX0_start_4 : decode cX0_start 4 = .ok (.getfield 24, 3) := by decide +kernel
theorem dX0_start_7 : decode cX0_start 7 = .ok (.if_icmp .ge 62, 3) := by decide +kernel
theorem dX0_start_10 : decode cX0_start 10 = .ok (.aload_n 0, 1) := by decide +kernel
theorem dX0_start_11 : decode cX0_start 11 = .ok (.getfield 9, 3) := by decide +kernel
theorem dX0_start_14 : decode cX0_start 14 = .ok (.iload_n 2, 1) := by decide +kernel
theorem dX0_start_15 : decode cX0_start 15 = .ok (.aload_n 1, 1) := by decide +kernel
theorem dX0_start_16 : decode cX0_start 16 = .ok (.getfield 30, 3) := by decide +kernel
theorem dX0_start_19 : decode cX0_start 19 = .ok (.iload_n 2, 1) := by decide +kernel
theorem dX0_start_20 : decode cX0_start 20 = .ok (.iaload, 1) := by decide +kernel
theorem dX0_start_21 : decode cX0_start 21 = .ok (.iastore, 1) := by decide +kernel
theorem dX0_start_22 : decode cX0_start 22 = .ok (.aload_n 0, 1) := by decide +kernel
theorem dX0_start_23 : decode cX0_start 23 = .ok (.getfield 15, 3) := by decide +kernel
theorem dX0_start_26 : decode cX0_start 26 = .ok (.iload_n 2, 1) := by decide +kernel
theorem dX0_start_27 : decode cX0_start 27 = .ok (.aload_n 1, 1) := by decide +kernel
theorem dX0_start_28 : decode cX0_start 28 = .ok (.getfield 31, 3) := by decide +kernel
theorem dX0_start_31 : decode cX0_start 31 = .ok (.iload_n 2, 1) := by decide +kernel
theorem dX0_start_32 : decode cX0_start 32 = .ok (.iaload, 1) := by decide +kernel
theorem dX0_start_33 : decode cX0_start 33 = .ok (.iastore, 1) := by decide +kernel
theorem dX0_start_34 : decode cX0_start 34 = .ok (.iconst 0, 1) := by decide +kernel
theorem dX0_start_35 : decode cX0_start 35 = .ok (.istore_n 3, 1) := by decide +kernel
theorem dX0_start_36 : decode cX0_start 36 = .ok (.iload_n 3, 1) := by decide +kernel
theorem dX0_start_37 : decode cX0_start 37 = .ok (.iconst 4, 1) := by decide +kernel
theorem dX0_start_38 : decode cX0_start 38 = .ok (.if_icmp .ge 25, 3) := by decide +kernel
theorem dX0_start_41 : decode cX0_start 41 = .ok (.aload_n 0, 1) := by decide +kernel
theorem dX0_start_42 : decode cX0_start 42 = .ok (.getfield 18, 3) := by decide +kernel
theorem dX0_start_45 : decode cX0_start 45 = .ok (.iconst 4, 1) := by decide +kernel
theorem dX0_start_46 : decode cX0_start 46 = .ok (.iload_n 2, 1) := by decide +kernel
theorem dX0_start_47 : decode cX0_start 47 = .ok (.imul, 1) := by decide +kernel
theorem dX0_start_48 : decode cX0_start 48 = .ok (.iload_n 3, 1) := by decide +kernel
theorem dX0_start_49 : decode cX0_start 49 = .ok (.iadd, 1) := by decide +kernel
theorem dX0_start_50 : decode cX0_start 50 = .ok (.aload_n 1, 1) := by decide +kernel
theorem dX0_start_51 : decode cX0_start 51 = .ok (.getfield 30, 3) := by decide +kernel
theorem dX0_start_54 : decode cX0_start 54 = .ok (.iload_n 2, 1) := by decide +kernel
theorem dX0_start_55 : decode cX0_start 55 = .ok (.iaload, 1) := by decide +kernel
theorem dX0_start_56 : decode cX0_start 56 = .ok (.iastore, 1) := by decide +kernel
theorem dX0_start_57 : decode cX0_start 57 = .ok (.iinc 3 1, 3) := by decide +kernel
theorem dX0_start_60 : decode cX0_start 60 = .ok (.goto (-24), 3) := by decide +kernel
theorem dX0_start_63 : decode cX0_start 63 = .ok (.iinc 2 1, 3) := by decide +kernel
theorem dX0_start_66 : decode cX0_start 66 = .ok (.goto (-64), 3) := by decide +kernel
theorem dX0_start_69 : decode cX0_start 69 = .ok (.return_, 1) := by decide +kernel
theorem dX0_liesWithin_0 : decode cX0_liesWithin 0 = .ok (.iconst 0, 1) := by decide +kernel
theorem dX0_liesWithin_1 : decode cX0_liesWithin 1 = .ok (.istore 4, 2) := by decide +kernel
theorem dX0_liesWithin_3 : decode cX0_liesWithin 3 = .ok (.iload 4, 2) := by decide +kernel
theorem dX0_liesWithin_5 : decode cX0_liesWithin 5 = .ok (.iconst 4, 1) := by decide +kernel
theorem dX0_liesWithin_6 : decode cX0_liesWithin 6 = .ok (.if_icmp .ge 36, 3) := by decide +kernel
theorem dX0_liesWithin_9 : decode cX0_liesWithin 9 = .ok (.aload_n 0, 1) := by decide +kernel
theorem dX0_liesWithin_10 : decode cX0_liesWithin 10 = .ok (.getfield 18, 3) := by decide +kernel
theorem dX0_liesWithin_13 : decode cX0_liesWithin 13 = .ok (.iconst 4, 1) := by decide +kernel
theorem dX0_liesWithin_14 : decode cX0_liesWithin 14 = .ok (.iload_n 1, 1) := by decide +kernel
theorem dX0_liesWithin_15 : decode cX0_liesWithin 15 = .ok (.imul, 1) := by decide +kernel
theorem dX0_liesWithin_16 : decode cX0_liesWithin 16 = .ok (.iload 4, 2) := by decide +kernel
theorem dX0_liesWithin_18 : decode cX0_liesWithin 18 = .ok (.iadd, 1) := by decide +kernel
theorem dX0_liesWithin_19 : decode cX0_liesWithin 19 = .ok (.iaload, 1) := by decide +kernel
theorem dX0_liesWithin_20 : decode cX0_liesWithin 20 = .ok (.istore 5, 2) := by decide +kernel
theorem dX0_liesWithin_22 : decode cX0_liesWithin 22 = .ok (.iload 5, 2) := by decide +kernel
theorem dX0_liesWithin_24 : decode cX0_liesWithin 24 = .ok (.iload_n 2, 1) := by decide +kernel
theorem dX0_liesWithin_25 : decode cX0_liesWithin 25 = .ok (.if_icmp .lt 9, 3) := by decide +kernel
theorem dX0_liesWithin_28 : decode cX0_liesWithin 28 = .ok (.iload 5, 2) := by decide +kernel
theorem dX0_liesWithin_30 : decode cX0_liesWithin 30 = .ok (.iload_n 3, 1) := by decide +kernel
theorem dX0_liesWithin_31 : decode cX0_liesWithin 31 = .ok (.if_icmp .le 5, 3) := by decide +kernel
theorem dX0_liesWithin_34 : decode cX0_liesWithin 34 = .ok (.iconst 0, 1) := by decide +kernel
theorem dX0_liesWithin_35 : decode cX0_liesWithin 35 = .ok (.ireturn, 1) := by decide +kernel
theorem dX0_liesWithin_36 : decode cX0_liesWithin 36 = .ok (.iinc 4 1, 3) := by decide +kernel
theorem dX0_liesWithin_39 : decode cX0_liesWithin 39 = .ok (.goto (-36), 3) := by decide +kernel
theorem dX0_liesWithin_42 : decode cX0_liesWithin 42 = .ok (.iconst 1, 1) := by decide +kernel
theorem dX0_liesWithin_43 : decode cX0_liesWithin 43 = .ok (.ireturn, 1) := by decide +kernel
theorem dX1_init_0 : decode cX1_init 0 = .ok (.aload_n 0, 1) := by decide +kernel
theorem dX1_init_1 : decode cX1_init 1 = .ok (.invokespecial 5, 3) := by decide +kernel
theorem dX1_init_4 : decode cX1_init 4 = .ok (.aload_n 0, 1) := by decide +kernel
theorem dX1_init_5 : decode cX1_init 5 = .ok (.iconst 1, 1) := by decide +kernel
theorem dX1_init_6 : decode cX1_init 6 = .ok (.newarray .int, 2) := by decide +kernel
theorem dX1_init_8 : decode cX1_init 8 = .ok (.putfield 11, 3) := by decide +kernel
theorem dX1_init_11 : decode cX1_init 11 = .ok (.aload_n 0, 1) := by decide +kernel
theorem dX1_init_12 : decode cX1_init 12 = .ok (.bipush 12, 2) := by decide +kernel
theorem dX1_init_14 : decode cX1_init 14 = .ok (.newarray .int, 2) := by decide +kernel
theorem dX1_init_16 : decode cX1_init 16 = .ok (.putfield 17, 3) := by decide +kernel
theorem dX1_init_19 : decode cX1_init 19 = .ok (.aload_n 0, 1) := by decide +kernel
theorem dX1_init_20 : decode cX1_init 20 = .ok (.bipush 12, 2) := by decide +kernel
theorem dX1_init_22 : decode cX1_init 22 = .ok (.newarray .int, 2) := by decide +kernel
theorem dX1_init_24 : decode cX1_init 24 = .ok (.putfield 20, 3) := by decide +kernel
theorem dX1_init_27 : decode cX1_init 27 = .ok (.aload_n 0, 1) := by decide +kernel
theorem dX1_init_28 : decode cX1_init 28 = .ok (.bipush 12, 2) := by decide +kernel
theorem dX1_init_30 : decode cX1_init 30 = .ok (.newarray .int, 2) := by decide +kernel
theorem dX1_init_32 : decode cX1_init 32 = .ok (.putfield 23, 3) := by decide +kernel
theorem dX1_init_35 : decode cX1_init 35 = .ok (.aload_n 0, 1) := by decide +kernel
theorem dX1_init_36 : decode cX1_init 36 = .ok (.aload_n 1, 1) := by decide +kernel
theorem dX1_init_37 : decode cX1_init 37 = .ok (.putfield 26, 3) := by decide +kernel
theorem dX1_init_40 : decode cX1_init 40 = .ok (.aload_n 0, 1) := by decide +kernel
theorem dX1_init_41 : decode cX1_init 41 = .ok (.aload_n 2, 1) := by decide +kernel
theorem dX1_init_42 : decode cX1_init 42 = .ok (.putfield 30, 3) := by decide +kernel
theorem dX1_init_45 : decode cX1_init 45 = .ok (.aload_n 0, 1) := by decide +kernel
theorem dX1_init_46 : decode cX1_init 46 = .ok (.aload_n 3, 1) := by decide +kernel
theorem dX1_init_47 : decode cX1_init 47 = .ok (.putfield 34, 3) := by decide +kernel
theorem dX1_init_50 : decode cX1_init 50 = .ok (.return_, 1) := by decide +kernel
theorem dX1_reckon_0 : decode cX1_reckon 0 = .ok (.aload_n 0, 1) := by decide +kernel
theorem dX1_reckon_1 : decode cX1_reckon 1 = .ok (.invokevirtual 38, 3) := by decide +kernel
theorem dX1_reckon_4 : decode cX1_reckon 4 = .ok (.iconst 1, 1) := by decide +kernel
theorem dX1_reckon_5 : decode cX1_reckon 5 = .ok (.aload_n 0, 1) := by decide +kernel
theorem dX1_reckon_6 : decode cX1_reckon 6 = .ok (.getfield 41, 3) := by decide +kernel
theorem dX1_reckon_9 : decode cX1_reckon 9 = .ok (.ishl, 1) := by decide +kernel
theorem dX1_reckon_10 : decode cX1_reckon 10 = .ok (.iconst 1, 1) := by decide +kernel
theorem dX1_reckon_11 : decode cX1_reckon 11 = .ok (.isub, 1) := by decide +kernel
theorem dX1_reckon_12 : decode cX1_reckon 12 = .ok (.istore_n 1, 1) := by decide +kernel
theorem dX1_reckon_13 : decode cX1_reckon 13 = .ok (.aload_n 0, 1) := by decide +kernel
theorem dX1_reckon_14 : decode cX1_reckon 14 = .ok (.getfield 11, 3) := by decide +kernel
theorem dX1_reckon_17 : decode cX1_reckon 17 = .ok (.arraylength, 1) := by decide +kernel
theorem dX1_reckon_18 : decode cX1_reckon 18 = .ok (.iload_n 1, 1) := by decide +kernel
theorem dX1_reckon_19 : decode cX1_reckon 19 = .ok (.if_icmp .gt 12, 3) := by decide +kernel
theorem dX1_reckon_22 : decode cX1_reckon 22 = .ok (.aload_n 0, 1) := by decide +kernel
theorem dX1_reckon_23 : decode cX1_reckon 23 = .ok (.iload_n 1, 1) := by decide +kernel
theorem dX1_reckon_24 : decode cX1_reckon 24 = .ok (.iconst 1, 1) := by decide +kernel
theorem dX1_reckon_25 : decode cX1_reckon 25 = .ok (.iadd, 1) := by decide +kernel
theorem dX1_reckon_26 : decode cX1_reckon 26 = .ok (.newarray .int, 2) := by decide +kernel
theorem dX1_reckon_28 : decode cX1_reckon 28 = .ok (.putfield 11, 3) := by decide +kernel
theorem dX1_reckon_31 : decode cX1_reckon 31 = .ok (.iconst 0, 1) := by decide +kernel
theorem dX1_reckon_32 : decode cX1_reckon 32 = .ok (.istore_n 2, 1) := by decide +kernel
theorem dX1_reckon_33 : decode cX1_reckon 33 = .ok (.iload_n 2, 1) := by decide +kernel
theorem dX1_reckon_34 : decode cX1_reckon 34 = .ok (.iload_n 1, 1) := by decide +kernel
theorem dX1_reckon_35 : decode cX1_reckon 35 = .ok (.if_icmp .gt 17, 3) := by decide +kernel
theorem dX1_reckon_38 : decode cX1_reckon 38 = .ok (.aload_n 0, 1) := by decide +kernel
theorem dX1_reckon_39 : decode cX1_reckon 39 = .ok (.getfield 11, 3) := by decide +kernel
theorem dX1_reckon_42 : decode cX1_reckon 42 = .ok (.iload_n 2, 1) := by decide +kernel
theorem dX1_reckon_43 : decode cX1_reckon 43 = .ok (.ldc 45, 2) := by decide +kernel
theorem dX1_reckon_45 : decode cX1_reckon 45 = .ok (.iastore, 1) := by decide +kernel
theorem dX1_reckon_46 : decode cX1_reckon 46 = .ok (.iinc 2 1, 3) := by decide +kernel
theorem dX1_reckon_49 : decode cX1_reckon 49 = .ok (.goto (-16), 3) := by decide +kernel
theorem dX1_reckon_52 : decode cX1_reckon 52 = .ok (.aload_n 0, 1) := by decide +kernel
theorem dX1_reckon_53 : decode cX1_reckon 53 = .ok (.getfield 11, 3) := by decide +kernel
theorem dX1_reckon_56 : decode cX1_reckon 56 = .ok (.iconst 0, 1) := by decide +kernel
theorem dX1_reckon_57 : decode cX1_reckon 57 = .ok (.iconst 0, 1) := by decide +kernel
theorem dX1_reckon_58 : decode cX1_reckon 58 = .ok (.iastore, 1) := by decide +kernel
theorem dX1_reckon_59 : decode cX1_reckon 59 = .ok (.iconst 0, 1) := by decide +kernel
theorem dX1_reckon_60 : decode cX1_reckon 60 = .ok (.istore_n 2, 1) := by decide +kernel
theorem dX1_reckon_61 : decode cX1_reckon 61 = .ok (.iload_n 2, 1) := by decide +kernel
theorem dX1_reckon_62 : decode cX1_reckon 62 = .ok (.iload_n 1, 1) := by decide +kernel
theorem dX1_reckon_63 : decode cX1_reckon 63 = .ok (.if_icmp .gt 45, 3) := by decide +kernel
theorem dX1_reckon_66 : decode cX1_reckon 66 = .ok (.aload_n 0, 1) := by decide +kernel
theorem dX1_reckon_67 : decode cX1_reckon 67 = .ok (.getfield 11, 3) := by decide +kernel
theorem dX1_reckon_70 : decode cX1_reckon 70 = .ok (.iload_n 2, 1) := by decide +kernel
theorem dX1_reckon_71 : decode cX1_reckon 71 = .ok (.iaload, 1) := by decide +kernel
theorem dX1_reckon_72 : decode cX1_reckon 72 = .ok (.ldc 45, 2) := by decide +kernel
theorem dX1_reckon_74 : decode cX1_reckon 74 = .ok (.if_icmp .eq 28, 3) := by decide +kernel
theorem dX1_reckon_77 : decode cX1_reckon 77 = .ok (.aload_n 0, 1) := by decide +kernel
theorem dX1_reckon_78 : decode cX1_reckon 78 = .ok (.getfield 11, 3) := by decide +kernel
theorem dX1_reckon_81 : decode cX1_reckon 81 = .ok (.iload_n 2, 1) := by decide +kernel
theorem dX1_reckon_82 : decode cX1_reckon 82 = .ok (.aload_n 0, 1) := by decide +kernel
theorem dX1_reckon_83 : decode cX1_reckon 83 = .ok (.getfield 11, 3) := by decide +kernel
theorem dX1_reckon_86 : decode cX1_reckon 86 = .ok (.iload_n 2, 1) := by decide +kernel
theorem dX1_reckon_87 : decode cX1_reckon 87 = .ok (.iaload, 1) := by decide +kernel
theorem dX1_reckon_88 : decode cX1_reckon 88 = .ok (.aload_n 0, 1) := by decide +kernel
theorem dX1_reckon_89 : decode cX1_reckon 89 = .ok (.iload_n 2, 1) := by decide +kernel
theorem dX1_reckon_90 : decode cX1_reckon 90 = .ok (.invokevirtual 46, 3) := by decide +kernel
theorem dX1_reckon_93 : decode cX1_reckon 93 = .ok (.invokestatic 50, 3) := by decide +kernel
theorem dX1_reckon_96 : decode cX1_reckon 96 = .ok (.iastore, 1) := by decide +kernel
theorem dX1_reckon_97 : decode cX1_reckon 97 = .ok (.aload_n 0, 1) := by decide +kernel
theorem dX1_reckon_98 : decode cX1_reckon 98 = .ok (.iload_n 2, 1) := by decide +kernel
theorem dX1_reckon_99 : decode cX1_reckon 99 = .ok (.invokevirtual 56, 3) := by decide +kernel
theorem dX1_reckon_102 : decode cX1_reckon 102 = .ok (.iinc 2 1, 3) := by decide +kernel
theorem dX1_reckon_105 : decode cX1_reckon 105 = .ok (.goto (-44), 3) := by decide +kernel
theorem dX1_reckon_108 : decode cX1_reckon 108 = .ok (.aload_n 0, 1) := by decide +kernel
theorem dX1_reckon_109 : decode cX1_reckon 109 = .ok (.getfield 11, 3) := by decide +kernel
theorem dX1_reckon_112 : decode cX1_reckon 112 = .ok (.iload_n 1, 1) := by decide +kernel
theorem dX1_reckon_113 : decode cX1_reckon 113 = .ok (.iaload, 1) := by decide +kernel
theorem dX1_reckon_114 : decode cX1_reckon 114 = .ok (.ireturn, 1) := by decide +kernel
theorem dX1_gather_0 : decode cX1_gather 0 = .ok (.aload_n 0, 1) := by decide +kernel
theorem dX1_gather_1 : decode cX1_gather 1 = .ok (.iconst 0, 1) := by decide +kernel
theorem dX1_gather_2 : decode cX1_gather 2 = .ok (.putfield 41, 3) := by decide +kernel
theorem dX1_gather_5 : decode cX1_gather 5 = .ok (.iconst 0, 1) := by decide +kernel
theorem dX1_gather_6 : decode cX1_gather 6 = .ok (.istore_n 1, 1) := by decide +kernel
theorem dX1_gather_7 : decode cX1_gather 7 = .ok (.iload_n 1, 1) := by decide +kernel
theorem dX1_gather_8 : decode cX1_gather 8 = .ok (.aload_n 0, 1) := by decide +kernel
theorem dX1_gather_9 : decode cX1_gather 9 = .ok (.getfield 26, 3) := by decide +kernel
theorem dX1_gather_12 : decode cX1_gather 12 = .ok (.getfield 60, 3) := by decide +kernel
theorem dX1_gather_15 : decode cX1_gather 15 = .ok (.if_icmp .ge 49, 3) := by decide +kernel
theorem dX1_gather_18 : decode cX1_gather 18 = .ok (.aload_n 0, 1) := by decide +kernel
theorem dX1_gather_19 : decode cX1_gather 19 = .ok (.getfield 41, 3) := by decide +kernel
theorem dX1_gather_22 : decode cX1_gather 22 = .ok (.bipush 12, 2) := by decide +kernel
theorem dX1_gather_24 : decode cX1_gather 24 = .ok (.if_icmp .ge 40, 3) := by decide +kernel
theorem dX1_gather_27 : decode cX1_gather 27 = .ok (.aload_n 0, 1) := by decide +kernel
theorem dX1_gather_28 : decode cX1_gather 28 = .ok (.getfield 34, 3) := by decide +kernel
theorem dX1_gather_31 : decode cX1_gather 31 = .ok (.iload_n 1, 1) := by decide +kernel
theorem dX1_gather_32 : decode cX1_gather 32 = .ok (.invokevirtual 65, 3) := by decide +kernel
theorem dX1_gather_35 : decode cX1_gather 35 = .ok (.ifCond .eq 23, 3) := by decide +kernel
theorem dX1_gather_38 : decode cX1_gather 38 = .ok (.aload_n 0, 1) := by decide +kernel
theorem dX1_gather_39 : decode cX1_gather 39 = .ok (.getfield 17, 3) := by decide +kernel
theorem dX1_gather_42 : decode cX1_gather 42 = .ok (.aload_n 0, 1) := by decide +kernel
theorem dX1_gather_43 : decode cX1_gather 43 = .ok (.getfield 41, 3) := by decide +kernel
theorem dX1_gather_46 : decode cX1_gather 46 = .ok (.iload_n 1, 1) := by decide +kernel
theorem dX1_gather_47 : decode cX1_gather 47 = .ok (.iastore, 1) := by decide +kernel
theorem dX1_gather_48 : decode cX1_gather 48 = .ok (.aload_n 0, 1) := by decide +kernel
theorem dX1_gather_49 : decode cX1_gather 49 = .ok (.dup, 1) := by decide +kernel
theorem dX1_gather_50 : decode cX1_gather 50 = .ok (.getfield 41, 3) := by decide +kernel
theorem dX1_gather_53 : decode cX1_gather 53 = .ok (.iconst 1, 1) := by decide +kernel
theorem dX1_gather_54 : decode cX1_gather 54 = .ok (.iadd, 1) := by decide +kernel
theorem dX1_gather_55 : decode cX1_gather 55 = .ok (.putfield 41, 3) := by decide +kernel
theorem dX1_gather_58 : decode cX1_gather 58 = .ok (.iinc 1 1, 3) := by decide +kernel
theorem dX1_gather_61 : decode cX1_gather 61 = .ok (.goto (-54), 3) := by decide +kernel
theorem dX1_gather_64 : decode cX1_gather 64 = .ok (.iconst 0, 1) := by decide +kernel
theorem dX1_gather_65 : decode cX1_gather 65 = .ok (.istore_n 1, 1) := by decide +kernel
theorem dX1_gather_66 : decode cX1_gather 66 = .ok (.iload_n 1, 1) := by decide +kernel
theorem dX1_gather_67 : decode cX1_gather 67 = .ok (.aload_n 0, 1) := by decide +kernel
theorem dX1_gather_68 : decode cX1_gather 68 = .ok (.getfield 41, 3) := by decide +kernel
theorem dX1_gather_71 : decode cX1_gather 71 = .ok (.if_icmp .ge 57, 3) := by decide +kernel
theorem dX1_gather_74 : decode cX1_gather 74 = .ok (.aload_n 0, 1) := by decide +kernel
theorem dX1_gather_75 : decode cX1_gather 75 = .ok (.getfield 20, 3) := by decide +kernel
theorem dX1_gather_78 : decode cX1_gather 78 = .ok (.iload_n 1, 1) := by decide +kernel
theorem dX1_gather_79 : decode cX1_gather 79 = .ok (.aload_n 0, 1) := by decide +kernel
theorem dX1_gather_80 : decode cX1_gather 80 = .ok (.aload_n 0, 1) := by decide +kernel
theorem dX1_gather_81 : decode cX1_gather 81 = .ok (.getfield 34, 3) := by decide +kernel
theorem dX1_gather_84 : decode cX1_gather 84 = .ok (.getfield 71, 3) := by decide +kernel
theorem dX1_gather_87 : decode cX1_gather 87 = .ok (.aload_n 0, 1) := by decide +kernel
theorem dX1_gather_88 : decode cX1_gather 88 = .ok (.getfield 17, 3) := by decide +kernel
theorem dX1_gather_91 : decode cX1_gather 91 = .ok (.iload_n 1, 1) := by decide +kernel
theorem dX1_gather_92 : decode cX1_gather 92 = .ok (.iaload, 1) := by decide +kernel
theorem dX1_gather_93 : decode cX1_gather 93 = .ok (.laload, 1) := by decide +kernel
theorem dX1_gather_94 : decode cX1_gather 94 = .ok (.invokevirtual 75, 3) := by decide +kernel
theorem dX1_gather_97 : decode cX1_gather 97 = .ok (.iastore, 1) := by decide +kernel
theorem dX1_gather_98 : decode cX1_gather 98 = .ok (.aload_n 0, 1) := by decide +kernel
theorem dX1_gather_99 : decode cX1_gather 99 = .ok (.getfield 23, 3) := by decide +kernel
theorem dX1_gather_102 : decode cX1_gather 102 = .ok (.iload_n 1, 1) := by decide +kernel
theorem dX1_gather_103 : decode cX1_gather 103 = .ok (.aload_n 0, 1) := by decide +kernel
theorem dX1_gather_104 : decode cX1_gather 104 = .ok (.aload_n 0, 1) := by decide +kernel
theorem dX1_gather_105 : decode cX1_gather 105 = .ok (.getfield 34, 3) := by decide +kernel
theorem dX1_gather_108 : decode cX1_gather 108 = .ok (.getfield 79, 3) := by decide +kernel
theorem dX1_gather_111 : decode cX1_gather 111 = .ok (.aload_n 0, 1) := by decide +kernel
theorem dX1_gather_112 : decode cX1_gather 112 = .ok (.getfield 17, 3) := by decide +kernel
theorem dX1_gather_115 : decode cX1_gather 115 = .ok (.iload_n 1, 1) := by decide +kernel
theorem dX1_gather_116 : decode cX1_gather 116 = .ok (.iaload, 1) := by decide +kernel
theorem dX1_gather_117 : decode cX1_gather 117 = .ok (.laload, 1) := by decide +kernel
theorem dX1_gather_118 : decode cX1_gather 118 = .ok (.invokevirtual 75, 3) := by decide +kernel
theorem dX1_gather_121 : decode cX1_gather 121 = .ok (.iastore, 1) := by decide +kernel
theorem dX1_gather_122 : decode cX1_gather 122 = .ok (.iinc 1 1, 3) := by decide +kernel
theorem dX1_gather_125 : decode cX1_gather 125 = .ok (.goto (-59), 3) := by decide +kernel
theorem dX1_gather_128 : decode cX1_gather 128 = .ok (.return_, 1) := by decide +kernel
theorem dX1_asSet_0 : decode cX1_asSet 0 = .ok (.iconst 0, 1) := by decide +kernel
theorem dX1_asSet_1 : decode cX1_asSet 1 = .ok (.istore_n 3, 1) := by decide +kernel
theorem dX1_asSet_2 : decode cX1_asSet 2 = .ok (.iconst 0, 1) := by decide +kernel
theorem dX1_asSet_3 : decode cX1_asSet 3 = .ok (.istore 4, 2) := by decide +kernel
theorem dX1_asSet_5 : decode cX1_asSet 5 = .ok (.iload 4, 2) := by decide +kernel
theorem dX1_asSet_7 : decode cX1_asSet 7 = .ok (.aload_n 0, 1) := by decide +kernel
theorem dX1_asSet_8 : decode cX1_asSet 8 = .ok (.getfield 41, 3) := by decide +kernel
theorem dX1_asSet_11 : decode cX1_asSet 11 = .ok (.if_icmp .ge 32, 3) := by decide +kernel
theorem dX1_asSet_14 : decode cX1_asSet 14 = .ok (.lload_n 1, 1) := by decide +kernel
theorem dX1_asSet_15 : decode cX1_asSet 15 = .ok (.aload_n 0, 1) := by decide +kernel
theorem dX1_asSet_16 : decode cX1_asSet 16 = .ok (.getfield 17, 3) := by decide +kernel
theorem dX1_asSet_19 : decode cX1_asSet 19 = .ok (.iload 4, 2) := by decide +kernel
theorem dX1_asSet_21 : decode cX1_asSet 21 = .ok (.iaload, 1) := by decide +kernel
theorem dX1_asSet_22 : decode cX1_asSet 22 = .ok (.lushr, 1) := by decide +kernel
theorem dX1_asSet_23 : decode cX1_asSet 23 = .ok (.lconst 1, 1) := by decide +kernel
theorem dX1_asSet_24 : decode cX1_asSet 24 = .ok (.land, 1) := by decide +kernel
theorem dX1_asSet_25 : decode cX1_asSet 25 = .ok (.lconst 0, 1) := by decide +kernel
theorem dX1_asSet_26 : decode cX1_asSet 26 = .ok (.lcmp, 1) := by decide +kernel
theorem dX1_asSet_27 : decode cX1_asSet 27 = .ok (.ifCond .eq 10, 3) := by decide +kernel
theorem dX1_asSet_30 : decode cX1_asSet 30 = .ok (.iload_n 3, 1) := by decide +kernel
theorem dX1_asSet_31 : decode cX1_asSet 31 = .ok (.iconst 1, 1) := by decide +kernel
theorem dX1_asSet_32 : decode cX1_asSet 32 = .ok (.iload 4, 2) := by decide +kernel
theorem dX1_asSet_34 : decode cX1_asSet 34 = .ok (.ishl, 1) := by decide +kernel
theorem dX1_asSet_35 : decode cX1_asSet 35 = .ok (.ior, 1) := by decide +kernel
theorem dX1_asSet_36 : decode cX1_asSet 36 = .ok (.istore_n 3, 1) := by decide +kernel
theorem dX1_asSet_37 : decode cX1_asSet 37 = .ok (.iinc 4 1, 3) := by decide +kernel
theorem dX1_asSet_40 : decode cX1_asSet 40 = .ok (.goto (-35), 3) := by decide +kernel
theorem dX1_asSet_43 : decode cX1_asSet 43 = .ok (.iload_n 3, 1) := by decide +kernel
theorem dX1_asSet_44 : decode cX1_asSet 44 = .ok (.ireturn, 1) := by decide +kernel
theorem dX1_living_0 : decode cX1_living 0 = .ok (.iconst 0, 1) := by decide +kernel
theorem dX1_living_1 : decode cX1_living 1 = .ok (.istore_n 2, 1) := by decide +kernel
theorem dX1_living_2 : decode cX1_living 2 = .ok (.iconst 0, 1) := by decide +kernel
theorem dX1_living_3 : decode cX1_living 3 = .ok (.istore_n 3, 1) := by decide +kernel
theorem dX1_living_4 : decode cX1_living 4 = .ok (.iload_n 3, 1) := by decide +kernel
theorem dX1_living_5 : decode cX1_living 5 = .ok (.aload_n 0, 1) := by decide +kernel
theorem dX1_living_6 : decode cX1_living 6 = .ok (.getfield 41, 3) := by decide +kernel
theorem dX1_living_9 : decode cX1_living 9 = .ok (.if_icmp .ge 75, 3) := by decide +kernel
theorem dX1_living_12 : decode cX1_living 12 = .ok (.iload_n 1, 1) := by decide +kernel
theorem dX1_living_13 : decode cX1_living 13 = .ok (.iload_n 3, 1) := by decide +kernel
theorem dX1_living_14 : decode cX1_living 14 = .ok (.iushr, 1) := by decide +kernel
theorem dX1_living_15 : decode cX1_living 15 = .ok (.iconst 1, 1) := by decide +kernel
theorem dX1_living_16 : decode cX1_living 16 = .ok (.iand, 1) := by decide +kernel
theorem dX1_living_17 : decode cX1_living 17 = .ok (.ifCond .eq 7, 3) := by decide +kernel
theorem dX1_living_20 : decode cX1_living 20 = .ok (.iconst 1, 1) := by decide +kernel
theorem dX1_living_21 : decode cX1_living 21 = .ok (.goto 4, 3) := by decide +kernel
theorem dX1_living_24 : decode cX1_living 24 = .ok (.iconst 0, 1) := by decide +kernel
theorem dX1_living_25 : decode cX1_living 25 = .ok (.istore 4, 2) := by decide +kernel
theorem dX1_living_27 : decode cX1_living 27 = .ok (.iload 4, 2) := by decide +kernel
theorem dX1_living_29 : decode cX1_living 29 = .ok (.ifCond .eq 49, 3) := by decide +kernel
theorem dX1_living_32 : decode cX1_living 32 = .ok (.aload_n 0, 1) := by decide +kernel
theorem dX1_living_33 : decode cX1_living 33 = .ok (.getfield 34, 3) := by decide +kernel
theorem dX1_living_36 : decode cX1_living 36 = .ok (.aload_n 0, 1) := by decide +kernel
theorem dX1_living_37 : decode cX1_living 37 = .ok (.getfield 17, 3) := by decide +kernel
theorem dX1_living_40 : decode cX1_living 40 = .ok (.iload_n 3, 1) := by decide +kernel
theorem dX1_living_41 : decode cX1_living 41 = .ok (.iaload, 1) := by decide +kernel
theorem dX1_living_42 : decode cX1_living 42 = .ok (.invokevirtual 82, 3) := by decide +kernel
theorem dX1_living_45 : decode cX1_living 45 = .ok (.ifCond .ne 16, 3) := by decide +kernel
theorem dX1_living_48 : decode cX1_living 48 = .ok (.aload_n 0, 1) := by decide +kernel
theorem dX1_living_49 : decode cX1_living 49 = .ok (.getfield 23, 3) := by decide +kernel
theorem dX1_living_52 : decode cX1_living 52 = .ok (.iload_n 3, 1) := by decide +kernel
theorem dX1_living_53 : decode cX1_living 53 = .ok (.iaload, 1) := by decide +kernel
theorem dX1_living_54 : decode cX1_living 54 = .ok (.iload_n 1, 1) := by decide +kernel
theorem dX1_living_55 : decode cX1_living 55 = .ok (.iconst (-1), 1) := by decide +kernel
theorem dX1_living_56 : decode cX1_living 56 = .ok (.ixor, 1) := by decide +kernel
theorem dX1_living_57 : decode cX1_living 57 = .ok (.iand, 1) := by decide +kernel
theorem dX1_living_58 : decode cX1_living 58 = .ok (.ifCond .eq 20, 3) := by decide +kernel
theorem dX1_living_61 : decode cX1_living 61 = .ok (.iload_n 2, 1) := by decide +kernel
theorem dX1_living_62 : decode cX1_living 62 = .ok (.aload_n 0, 1) := by decide +kernel
theorem dX1_living_63 : decode cX1_living 63 = .ok (.getfield 30, 3) := by decide +kernel
theorem dX1_living_66 : decode cX1_living 66 = .ok (.getfield 85, 3) := by decide +kernel
theorem dX1_living_69 : decode cX1_living 69 = .ok (.aload_n 0, 1) := by decide +kernel
theorem dX1_living_70 : decode cX1_living 70 = .ok (.getfield 17, 3) := by decide +kernel
theorem dX1_living_73 : decode cX1_living 73 = .ok (.iload_n 3, 1) := by decide +kernel
theorem dX1_living_74 : decode cX1_living 74 = .ok (.iaload, 1) := by decide +kernel
theorem dX1_living_75 : decode cX1_living 75 = .ok (.iaload, 1) := by decide +kernel
theorem dX1_living_76 : decode cX1_living 76 = .ok (.iadd, 1) := by decide +kernel
theorem dX1_living_77 : decode cX1_living 77 = .ok (.istore_n 2, 1) := by decide +kernel
theorem dX1_living_78 : decode cX1_living 78 = .ok (.iinc 3 1, 3) := by decide +kernel
theorem dX1_living_81 : decode cX1_living 81 = .ok (.goto (-77), 3) := by decide +kernel
theorem dX1_living_84 : decode cX1_living 84 = .ok (.iload_n 2, 1) := by decide +kernel
theorem dX1_living_85 : decode cX1_living 85 = .ok (.ireturn, 1) := by decide +kernel
theorem dX1_goOn_0 : decode cX1_goOn 0 = .ok (.iconst 0, 1) := by decide +kernel
theorem dX1_goOn_1 : decode cX1_goOn 1 = .ok (.istore_n 2, 1) := by decide +kernel
theorem dX1_goOn_2 : decode cX1_goOn 2 = .ok (.iload_n 2, 1) := by decide +kernel
theorem dX1_goOn_3 : decode cX1_goOn 3 = .ok (.aload_n 0, 1) := by decide +kernel
theorem dX1_goOn_4 : decode cX1_goOn 4 = .ok (.getfield 41, 3) := by decide +kernel
theorem dX1_goOn_7 : decode cX1_goOn 7 = .ok (.if_icmp .ge 57, 3) := by decide +kernel
theorem dX1_goOn_10 : decode cX1_goOn 10 = .ok (.iload_n 1, 1) := by decide +kernel
theorem dX1_goOn_11 : decode cX1_goOn 11 = .ok (.iload_n 2, 1) := by decide +kernel
theorem dX1_goOn_12 : decode cX1_goOn 12 = .ok (.iushr, 1) := by decide +kernel
theorem dX1_goOn_13 : decode cX1_goOn 13 = .ok (.iconst 1, 1) := by decide +kernel
theorem dX1_goOn_14 : decode cX1_goOn 14 = .ok (.iand, 1) := by decide +kernel
theorem dX1_goOn_15 : decode cX1_goOn 15 = .ok (.ifCond .ne 43, 3) := by decide +kernel
theorem dX1_goOn_18 : decode cX1_goOn 18 = .ok (.aload_n 0, 1) := by decide +kernel
theorem dX1_goOn_19 : decode cX1_goOn 19 = .ok (.getfield 20, 3) := by decide +kernel
theorem dX1_goOn_22 : decode cX1_goOn 22 = .ok (.iload_n 2, 1) := by decide +kernel
theorem dX1_goOn_23 : decode cX1_goOn 23 = .ok (.iaload, 1) := by decide +kernel
theorem dX1_goOn_24 : decode cX1_goOn 24 = .ok (.iload_n 1, 1) := by decide +kernel
theorem dX1_goOn_25 : decode cX1_goOn 25 = .ok (.iconst (-1), 1) := by decide +kernel
theorem dX1_goOn_26 : decode cX1_goOn 26 = .ok (.ixor, 1) := by decide +kernel
theorem dX1_goOn_27 : decode cX1_goOn 27 = .ok (.iand, 1) := by decide +kernel
theorem dX1_goOn_28 : decode cX1_goOn 28 = .ok (.ifCond .ne 30, 3) := by decide +kernel
theorem dX1_goOn_31 : decode cX1_goOn 31 = .ok (.iload_n 1, 1) := by decide +kernel
theorem dX1_goOn_32 : decode cX1_goOn 32 = .ok (.iconst 1, 1) := by decide +kernel
theorem dX1_goOn_33 : decode cX1_goOn 33 = .ok (.iload_n 2, 1) := by decide +kernel
theorem dX1_goOn_34 : decode cX1_goOn 34 = .ok (.ishl, 1) := by decide +kernel
theorem dX1_goOn_35 : decode cX1_goOn 35 = .ok (.ior, 1) := by decide +kernel
theorem dX1_goOn_36 : decode cX1_goOn 36 = .ok (.istore_n 3, 1) := by decide +kernel
theorem dX1_goOn_37 : decode cX1_goOn 37 = .ok (.aload_n 0, 1) := by decide +kernel
theorem dX1_goOn_38 : decode cX1_goOn 38 = .ok (.getfield 11, 3) := by decide +kernel
theorem dX1_goOn_41 : decode cX1_goOn 41 = .ok (.iload_n 3, 1) := by decide +kernel
theorem dX1_goOn_42 : decode cX1_goOn 42 = .ok (.aload_n 0, 1) := by decide +kernel
theorem dX1_goOn_43 : decode cX1_goOn 43 = .ok (.getfield 11, 3) := by decide +kernel
theorem dX1_goOn_46 : decode cX1_goOn 46 = .ok (.iload_n 3, 1) := by decide +kernel
theorem dX1_goOn_47 : decode cX1_goOn 47 = .ok (.iaload, 1) := by decide +kernel
theorem dX1_goOn_48 : decode cX1_goOn 48 = .ok (.aload_n 0, 1) := by decide +kernel
theorem dX1_goOn_49 : decode cX1_goOn 49 = .ok (.getfield 11, 3) := by decide +kernel
theorem dX1_goOn_52 : decode cX1_goOn 52 = .ok (.iload_n 1, 1) := by decide +kernel
theorem dX1_goOn_53 : decode cX1_goOn 53 = .ok (.iaload, 1) := by decide +kernel
theorem dX1_goOn_54 : decode cX1_goOn 54 = .ok (.invokestatic 90, 3) := by decide +kernel
theorem dX1_goOn_57 : decode cX1_goOn 57 = .ok (.iastore, 1) := by decide +kernel
theorem dX1_goOn_58 : decode cX1_goOn 58 = .ok (.iinc 2 1, 3) := by decide +kernel
theorem dX1_goOn_61 : decode cX1_goOn 61 = .ok (.goto (-59), 3) := by decide +kernel
theorem dX1_goOn_64 : decode cX1_goOn 64 = .ok (.return_, 1) := by decide +kernel
theorem dX2_init_0 : decode cX2_init 0 = .ok (.aload_n 0, 1) := by decide +kernel
theorem dX2_init_1 : decode cX2_init 1 = .ok (.invokespecial 3, 3) := by decide +kernel
theorem dX2_init_4 : decode cX2_init 4 = .ok (.aload_n 0, 1) := by decide +kernel
theorem dX2_init_5 : decode cX2_init 5 = .ok (.bipush 64, 2) := by decide +kernel
theorem dX2_init_7 : decode cX2_init 7 = .ok (.newarray .int, 2) := by decide +kernel
theorem dX2_init_9 : decode cX2_init 9 = .ok (.putfield 9, 3) := by decide +kernel
theorem dX2_init_12 : decode cX2_init 12 = .ok (.aload_n 0, 1) := by decide +kernel
theorem dX2_init_13 : decode cX2_init 13 = .ok (.bipush 64, 2) := by decide +kernel
theorem dX2_init_15 : decode cX2_init 15 = .ok (.newarray .int, 2) := by decide +kernel
theorem dX2_init_17 : decode cX2_init 17 = .ok (.putfield 15, 3) := by decide +kernel
theorem dX2_init_20 : decode cX2_init 20 = .ok (.aload_n 0, 1) := by decide +kernel
theorem dX2_init_21 : decode cX2_init 21 = .ok (.bipush 64, 2) := by decide +kernel
theorem dX2_init_23 : decode cX2_init 23 = .ok (.newarray .int, 2) := by decide +kernel
theorem dX2_init_25 : decode cX2_init 25 = .ok (.putfield 18, 3) := by decide +kernel
theorem dX2_init_28 : decode cX2_init 28 = .ok (.aload_n 0, 1) := by decide +kernel
theorem dX2_init_29 : decode cX2_init 29 = .ok (.aload_n 1, 1) := by decide +kernel
theorem dX2_init_30 : decode cX2_init 30 = .ok (.putfield 21, 3) := by decide +kernel
theorem dX2_init_33 : decode cX2_init 33 = .ok (.return_, 1) := by decide +kernel
theorem dX2_reckon_0 : decode cX2_reckon 0 = .ok (.iconst 0, 1) := by decide +kernel
theorem dX2_reckon_1 : decode cX2_reckon 1 = .ok (.istore_n 3, 1) := by decide +kernel
theorem dX2_reckon_2 : decode cX2_reckon 2 = .ok (.iload_n 3, 1) := by decide +kernel
theorem dX2_reckon_3 : decode cX2_reckon 3 = .ok (.aload_n 0, 1) := by decide +kernel
theorem dX2_reckon_4 : decode cX2_reckon 4 = .ok (.getfield 21, 3) := by decide +kernel
theorem dX2_reckon_7 : decode cX2_reckon 7 = .ok (.getfield 25, 3) := by decide +kernel
theorem dX2_reckon_10 : decode cX2_reckon 10 = .ok (.if_icmp .ge 247, 3) := by decide +kernel
theorem dX2_reckon_13 : decode cX2_reckon 13 = .ok (.aload_n 0, 1) := by decide +kernel
theorem dX2_reckon_14 : decode cX2_reckon 14 = .ok (.getfield 21, 3) := by decide +kernel
theorem dX2_reckon_17 : decode cX2_reckon 17 = .ok (.getfield 31, 3) := by decide +kernel
theorem dX2_reckon_20 : decode cX2_reckon 20 = .ok (.iconst 3, 1) := by decide +kernel
theorem dX2_reckon_21 : decode cX2_reckon 21 = .ok (.iload_n 3, 1) := by decide +kernel
theorem dX2_reckon_22 : decode cX2_reckon 22 = .ok (.imul, 1) := by decide +kernel
theorem dX2_reckon_23 : decode cX2_reckon 23 = .ok (.iaload, 1) := by decide +kernel
theorem dX2_reckon_24 : decode cX2_reckon 24 = .ok (.istore 4, 2) := by decide +kernel
theorem dX2_reckon_26 : decode cX2_reckon 26 = .ok (.aload_n 0, 1) := by decide +kernel
theorem dX2_reckon_27 : decode cX2_reckon 27 = .ok (.getfield 21, 3) := by decide +kernel
theorem dX2_reckon_30 : decode cX2_reckon 30 = .ok (.getfield 31, 3) := by decide +kernel
theorem dX2_reckon_33 : decode cX2_reckon 33 = .ok (.iconst 3, 1) := by decide +kernel
theorem dX2_reckon_34 : decode cX2_reckon 34 = .ok (.iload_n 3, 1) := by decide +kernel
theorem dX2_reckon_35 : decode cX2_reckon 35 = .ok (.imul, 1) := by decide +kernel
theorem dX2_reckon_36 : decode cX2_reckon 36 = .ok (.iconst 1, 1) := by decide +kernel
theorem dX2_reckon_37 : decode cX2_reckon 37 = .ok (.iadd, 1) := by decide +kernel
theorem dX2_reckon_38 : decode cX2_reckon 38 = .ok (.iaload, 1) := by decide +kernel
theorem dX2_reckon_39 : decode cX2_reckon 39 = .ok (.istore 5, 2) := by decide +kernel
theorem dX2_reckon_41 : decode cX2_reckon 41 = .ok (.aload_n 0, 1) := by decide +kernel
theorem dX2_reckon_42 : decode cX2_reckon 42 = .ok (.getfield 21, 3) := by decide +kernel
theorem dX2_reckon_45 : decode cX2_reckon 45 = .ok (.getfield 34, 3) := by decide +kernel
theorem dX2_reckon_48 : decode cX2_reckon 48 = .ok (.iload_n 3, 1) := by decide +kernel
theorem dX2_reckon_49 : decode cX2_reckon 49 = .ok (.iaload, 1) := by decide +kernel
theorem dX2_reckon_50 : decode cX2_reckon 50 = .ok (.tableswitch 161 0 13 #[70, 86, 161, 161, 161, 161, 161, 98, 161, 161, 161, 161, 110, 136], 70) := by decide +kernel
theorem dX2_reckon_120 : decode cX2_reckon 120 = .ok (.aload_n 0, 1) := by decide +kernel
theorem dX2_reckon_121 : decode cX2_reckon 121 = .ok (.iload_n 3, 1) := by decide +kernel
theorem dX2_reckon_122 : decode cX2_reckon 122 = .ok (.aload_n 1, 1) := by decide +kernel
theorem dX2_reckon_123 : decode cX2_reckon 123 = .ok (.iload 4, 2) := by decide +kernel
theorem dX2_reckon_125 : decode cX2_reckon 125 = .ok (.iaload, 1) := by decide +kernel
theorem dX2_reckon_126 : decode cX2_reckon 126 = .ok (.aload_n 2, 1) := by decide +kernel
theorem dX2_reckon_127 : decode cX2_reckon 127 = .ok (.iload 4, 2) := by decide +kernel
theorem dX2_reckon_129 : decode cX2_reckon 129 = .ok (.iaload, 1) := by decide +kernel
theorem dX2_reckon_130 : decode cX2_reckon 130 = .ok (.invokevirtual 37, 3) := by decide +kernel
theorem dX2_reckon_133 : decode cX2_reckon 133 = .ok (.goto 87, 3) := by decide +kernel
theorem dX2_reckon_136 : decode cX2_reckon 136 = .ok (.aload_n 0, 1) := by decide +kernel
theorem dX2_reckon_137 : decode cX2_reckon 137 = .ok (.iload_n 3, 1) := by decide +kernel
theorem dX2_reckon_138 : decode cX2_reckon 138 = .ok (.iload 4, 2) := by decide +kernel
theorem dX2_reckon_140 : decode cX2_reckon 140 = .ok (.iload 4, 2) := by decide +kernel
theorem dX2_reckon_142 : decode cX2_reckon 142 = .ok (.invokevirtual 37, 3) := by decide +kernel
theorem dX2_reckon_145 : decode cX2_reckon 145 = .ok (.goto 75, 3) := by decide +kernel
theorem dX2_reckon_148 : decode cX2_reckon 148 = .ok (.aload_n 0, 1) := by decide +kernel
theorem dX2_reckon_149 : decode cX2_reckon 149 = .ok (.iload_n 3, 1) := by decide +kernel
theorem dX2_reckon_150 : decode cX2_reckon 150 = .ok (.iconst 0, 1) := by decide +kernel
theorem dX2_reckon_151 : decode cX2_reckon 151 = .ok (.sipush 999, 3) := by decide +kernel
theorem dX2_reckon_154 : decode cX2_reckon 154 = .ok (.invokevirtual 37, 3) := by decide +kernel
theorem dX2_reckon_157 : decode cX2_reckon 157 = .ok (.goto 63, 3) := by decide +kernel
theorem dX2_reckon_160 : decode cX2_reckon 160 = .ok (.aload_n 0, 1) := by decide +kernel
theorem dX2_reckon_161 : decode cX2_reckon 161 = .ok (.iload_n 3, 1) := by decide +kernel
theorem dX2_reckon_162 : decode cX2_reckon 162 = .ok (.iconst 1, 1) := by decide +kernel
theorem dX2_reckon_163 : decode cX2_reckon 163 = .ok (.aload_n 0, 1) := by decide +kernel
theorem dX2_reckon_164 : decode cX2_reckon 164 = .ok (.getfield 15, 3) := by decide +kernel
theorem dX2_reckon_167 : decode cX2_reckon 167 = .ok (.iload 4, 2) := by decide +kernel
theorem dX2_reckon_169 : decode cX2_reckon 169 = .ok (.iaload, 1) := by decide +kernel
theorem dX2_reckon_170 : decode cX2_reckon 170 = .ok (.isub, 1) := by decide +kernel
theorem dX2_reckon_171 : decode cX2_reckon 171 = .ok (.iconst 1, 1) := by decide +kernel
theorem dX2_reckon_172 : decode cX2_reckon 172 = .ok (.aload_n 0, 1) := by decide +kernel
theorem dX2_reckon_173 : decode cX2_reckon 173 = .ok (.getfield 9, 3) := by decide +kernel
theorem dX2_reckon_176 : decode cX2_reckon 176 = .ok (.iload 4, 2) := by decide +kernel
theorem dX2_reckon_178 : decode cX2_reckon 178 = .ok (.iaload, 1) := by decide +kernel
theorem dX2_reckon_179 : decode cX2_reckon 179 = .ok (.isub, 1) := by decide +kernel
theorem dX2_reckon_180 : decode cX2_reckon 180 = .ok (.invokevirtual 37, 3) := by decide +kernel
theorem dX2_reckon_183 : decode cX2_reckon 183 = .ok (.goto 37, 3) := by decide +kernel
theorem dX2_reckon_186 : decode cX2_reckon 186 = .ok (.aload_n 0, 1) := by decide +kernel
theorem dX2_reckon_187 : decode cX2_reckon 187 = .ok (.iload_n 3, 1) := by decide +kernel
theorem dX2_reckon_188 : decode cX2_reckon 188 = .ok (.iload 4, 2) := by decide +kernel
theorem dX2_reckon_190 : decode cX2_reckon 190 = .ok (.iload 5, 2) := by decide +kernel
theorem dX2_reckon_192 : decode cX2_reckon 192 = .ok (.aload_n 0, 1) := by decide +kernel
theorem dX2_reckon_193 : decode cX2_reckon 193 = .ok (.getfield 21, 3) := by decide +kernel
theorem dX2_reckon_196 : decode cX2_reckon 196 = .ok (.getfield 31, 3) := by decide +kernel
theorem dX2_reckon_199 : decode cX2_reckon 199 = .ok (.iconst 3, 1) := by decide +kernel
theorem dX2_reckon_200 : decode cX2_reckon 200 = .ok (.iload_n 3, 1) := by decide +kernel
theorem dX2_reckon_201 : decode cX2_reckon 201 = .ok (.imul, 1) := by decide +kernel
theorem dX2_reckon_202 : decode cX2_reckon 202 = .ok (.iconst 2, 1) := by decide +kernel
theorem dX2_reckon_203 : decode cX2_reckon 203 = .ok (.iadd, 1) := by decide +kernel
theorem dX2_reckon_204 : decode cX2_reckon 204 = .ok (.iaload, 1) := by decide +kernel
theorem dX2_reckon_205 : decode cX2_reckon 205 = .ok (.invokevirtual 41, 3) := by decide +kernel
theorem dX2_reckon_208 : decode cX2_reckon 208 = .ok (.goto 12, 3) := by decide +kernel
theorem dX2_reckon_211 : decode cX2_reckon 211 = .ok (.aload_n 0, 1) := by decide +kernel
theorem dX2_reckon_212 : decode cX2_reckon 212 = .ok (.iload_n 3, 1) := by decide +kernel
theorem dX2_reckon_213 : decode cX2_reckon 213 = .ok (.iload 4, 2) := by decide +kernel
theorem dX2_reckon_215 : decode cX2_reckon 215 = .ok (.iload 5, 2) := by decide +kernel
theorem dX2_reckon_217 : decode cX2_reckon 217 = .ok (.invokevirtual 45, 3) := by decide +kernel
theorem dX2_reckon_220 : decode cX2_reckon 220 = .ok (.aload_n 0, 1) := by decide +kernel
theorem dX2_reckon_221 : decode cX2_reckon 221 = .ok (.getfield 18, 3) := by decide +kernel
theorem dX2_reckon_224 : decode cX2_reckon 224 = .ok (.iload_n 3, 1) := by decide +kernel
theorem dX2_reckon_225 : decode cX2_reckon 225 = .ok (.aload_n 0, 1) := by decide +kernel
theorem dX2_reckon_226 : decode cX2_reckon 226 = .ok (.getfield 21, 3) := by decide +kernel
theorem dX2_reckon_229 : decode cX2_reckon 229 = .ok (.getfield 48, 3) := by decide +kernel
theorem dX2_reckon_232 : decode cX2_reckon 232 = .ok (.iload_n 3, 1) := by decide +kernel
theorem dX2_reckon_233 : decode cX2_reckon 233 = .ok (.baload, 1) := by decide +kernel
theorem dX2_reckon_234 : decode cX2_reckon 234 = .ok (.ifCond .ne 11, 3) := by decide +kernel
theorem dX2_reckon_237 : decode cX2_reckon 237 = .ok (.aload_n 0, 1) := by decide +kernel
theorem dX2_reckon_238 : decode cX2_reckon 238 = .ok (.iload_n 3, 1) := by decide +kernel
theorem dX2_reckon_239 : decode cX2_reckon 239 = .ok (.invokevirtual 52, 3) := by decide +kernel
theorem dX2_reckon_242 : decode cX2_reckon 242 = .ok (.ifCond .eq 7, 3) := by decide +kernel
theorem dX2_reckon_245 : decode cX2_reckon 245 = .ok (.iconst 1, 1) := by decide +kernel
theorem dX2_reckon_246 : decode cX2_reckon 246 = .ok (.goto 4, 3) := by decide +kernel
theorem dX2_reckon_249 : decode cX2_reckon 249 = .ok (.iconst 2, 1) := by decide +kernel
theorem dX2_reckon_250 : decode cX2_reckon 250 = .ok (.iastore, 1) := by decide +kernel
theorem dX2_reckon_251 : decode cX2_reckon 251 = .ok (.iinc 3 1, 3) := by decide +kernel
theorem dX2_reckon_254 : decode cX2_reckon 254 = .ok (.goto (-252), 3) := by decide +kernel
theorem dX2_reckon_257 : decode cX2_reckon 257 = .ok (.return_, 1) := by decide +kernel
theorem dX2_put_0 : decode cX2_put 0 = .ok (.aload_n 0, 1) := by decide +kernel
theorem dX2_put_1 : decode cX2_put 1 = .ok (.getfield 9, 3) := by decide +kernel
theorem dX2_put_4 : decode cX2_put 4 = .ok (.iload_n 1, 1) := by decide +kernel
theorem dX2_put_5 : decode cX2_put 5 = .ok (.iload_n 2, 1) := by decide +kernel
theorem dX2_put_6 : decode cX2_put 6 = .ok (.iastore, 1) := by decide +kernel
theorem dX2_put_7 : decode cX2_put 7 = .ok (.aload_n 0, 1) := by decide +kernel
theorem dX2_put_8 : decode cX2_put 8 = .ok (.getfield 15, 3) := by decide +kernel
theorem dX2_put_11 : decode cX2_put 11 = .ok (.iload_n 1, 1) := by decide +kernel
theorem dX2_put_12 : decode cX2_put 12 = .ok (.iload_n 3, 1) := by decide +kernel
theorem dX2_put_13 : decode cX2_put 13 = .ok (.iastore, 1) := by decide +kernel
theorem dX2_put_14 : decode cX2_put 14 = .ok (.return_, 1) := by decide +kernel
theorem dX2_putPick_0 : decode cX2_putPick 0 = .ok (.aload_n 0, 1) := by decide +kernel
theorem dX2_putPick_1 : decode cX2_putPick 1 = .ok (.iload_n 2, 1) := by decide +kernel
theorem dX2_putPick_2 : decode cX2_putPick 2 = .ok (.invokevirtual 56, 3) := by decide +kernel
theorem dX2_putPick_5 : decode cX2_putPick 5 = .ok (.ifCond .eq 43, 3) := by decide +kernel
theorem dX2_putPick_8 : decode cX2_putPick 8 = .ok (.aload_n 0, 1) := by decide +kernel
theorem dX2_putPick_9 : decode cX2_putPick 9 = .ok (.getfield 9, 3) := by decide +kernel
theorem dX2_putPick_12 : decode cX2_putPick 12 = .ok (.iload_n 2, 1) := by decide +kernel
theorem dX2_putPick_13 : decode cX2_putPick 13 = .ok (.iaload, 1) := by decide +kernel
theorem dX2_putPick_14 : decode cX2_putPick 14 = .ok (.iconst 1, 1) := by decide +kernel
theorem dX2_putPick_15 : decode cX2_putPick 15 = .ok (.if_icmp .ne 7, 3) := by decide +kernel
theorem dX2_putPick_18 : decode cX2_putPick 18 = .ok (.iload_n 3, 1) := by decide +kernel
theorem dX2_putPick_19 : decode cX2_putPick 19 = .ok (.goto 5, 3) := by decide +kernel
theorem dX2_putPick_22 : decode cX2_putPick 22 = .ok (.iload 4, 2) := by decide +kernel
theorem dX2_putPick_24 : decode cX2_putPick 24 = .ok (.istore 5, 2) := by decide +kernel
theorem dX2_putPick_26 : decode cX2_putPick 26 = .ok (.aload_n 0, 1) := by decide +kernel
theorem dX2_putPick_27 : decode cX2_putPick 27 = .ok (.iload_n 1, 1) := by decide +kernel
theorem dX2_putPick_28 : decode cX2_putPick 28 = .ok (.aload_n 0, 1) := by decide +kernel
theorem dX2_putPick_29 : decode cX2_putPick 29 = .ok (.getfield 9, 3) := by decide +kernel
theorem dX2_putPick_32 : decode cX2_putPick 32 = .ok (.iload 5, 2) := by decide +kernel
theorem dX2_putPick_34 : decode cX2_putPick 34 = .ok (.iaload, 1) := by decide +kernel
theorem dX2_putPick_35 : decode cX2_putPick 35 = .ok (.aload_n 0, 1) := by decide +kernel
theorem dX2_putPick_36 : decode cX2_putPick 36 = .ok (.getfield 15, 3) := by decide +kernel
theorem dX2_putPick_39 : decode cX2_putPick 39 = .ok (.iload 5, 2) := by decide +kernel
theorem dX2_putPick_41 : decode cX2_putPick 41 = .ok (.iaload, 1) := by decide +kernel
theorem dX2_putPick_42 : decode cX2_putPick 42 = .ok (.invokevirtual 37, 3) := by decide +kernel
theorem dX2_putPick_45 : decode cX2_putPick 45 = .ok (.goto 40, 3) := by decide +kernel
theorem dX2_putPick_48 : decode cX2_putPick 48 = .ok (.aload_n 0, 1) := by decide +kernel
theorem dX2_putPick_49 : decode cX2_putPick 49 = .ok (.iload_n 1, 1) := by decide +kernel
theorem dX2_putPick_50 : decode cX2_putPick 50 = .ok (.aload_n 0, 1) := by decide +kernel
theorem dX2_putPick_51 : decode cX2_putPick 51 = .ok (.getfield 9, 3) := by decide +kernel
theorem dX2_putPick_54 : decode cX2_putPick 54 = .ok (.iload_n 3, 1) := by decide +kernel
theorem dX2_putPick_55 : decode cX2_putPick 55 = .ok (.iaload, 1) := by decide +kernel
theorem dX2_putPick_56 : decode cX2_putPick 56 = .ok (.aload_n 0, 1) := by decide +kernel
theorem dX2_putPick_57 : decode cX2_putPick 57 = .ok (.getfield 9, 3) := by decide +kernel
theorem dX2_putPick_60 : decode cX2_putPick 60 = .ok (.iload 4, 2) := by decide +kernel
theorem dX2_putPick_62 : decode cX2_putPick 62 = .ok (.iaload, 1) := by decide +kernel
theorem dX2_putPick_63 : decode cX2_putPick 63 = .ok (.invokestatic 59, 3) := by decide +kernel
theorem dX2_putPick_66 : decode cX2_putPick 66 = .ok (.aload_n 0, 1) := by decide +kernel
theorem dX2_putPick_67 : decode cX2_putPick 67 = .ok (.getfield 15, 3) := by decide +kernel
theorem dX2_putPick_70 : decode cX2_putPick 70 = .ok (.iload_n 3, 1) := by decide +kernel
theorem dX2_putPick_71 : decode cX2_putPick 71 = .ok (.iaload, 1) := by decide +kernel
theorem dX2_putPick_72 : decode cX2_putPick 72 = .ok (.aload_n 0, 1) := by decide +kernel
theorem dX2_putPick_73 : decode cX2_putPick 73 = .ok (.getfield 15, 3) := by decide +kernel
theorem dX2_putPick_76 : decode cX2_putPick 76 = .ok (.iload 4, 2) := by decide +kernel
theorem dX2_putPick_78 : decode cX2_putPick 78 = .ok (.iaload, 1) := by decide +kernel
theorem dX2_putPick_79 : decode cX2_putPick 79 = .ok (.invokestatic 65, 3) := by decide +kernel
theorem dX2_putPick_82 : decode cX2_putPick 82 = .ok (.invokevirtual 37, 3) := by decide +kernel
theorem dX2_putPick_85 : decode cX2_putPick 85 = .ok (.return_, 1) := by decide +kernel
theorem dX2_putPair_0 : decode cX2_putPair 0 = .ok (.aload_n 0, 1) := by decide +kernel
theorem dX2_putPair_1 : decode cX2_putPair 1 = .ok (.getfield 9, 3) := by decide +kernel
theorem dX2_putPair_4 : decode cX2_putPair 4 = .ok (.iload_n 2, 1) := by decide +kernel
theorem dX2_putPair_5 : decode cX2_putPair 5 = .ok (.iaload, 1) := by decide +kernel
theorem dX2_putPair_6 : decode cX2_putPair 6 = .ok (.istore 4, 2) := by decide +kernel
theorem dX2_putPair_8 : decode cX2_putPair 8 = .ok (.aload_n 0, 1) := by decide +kernel
theorem dX2_putPair_9 : decode cX2_putPair 9 = .ok (.getfield 15, 3) := by decide +kernel
theorem dX2_putPair_12 : decode cX2_putPair 12 = .ok (.iload_n 2, 1) := by decide +kernel
theorem dX2_putPair_13 : decode cX2_putPair 13 = .ok (.iaload, 1) := by decide +kernel
theorem dX2_putPair_14 : decode cX2_putPair 14 = .ok (.istore 5, 2) := by decide +kernel
theorem dX2_putPair_16 : decode cX2_putPair 16 = .ok (.aload_n 0, 1) := by decide +kernel
theorem dX2_putPair_17 : decode cX2_putPair 17 = .ok (.getfield 9, 3) := by decide +kernel
theorem dX2_putPair_20 : decode cX2_putPair 20 = .ok (.iload_n 3, 1) := by decide +kernel
theorem dX2_putPair_21 : decode cX2_putPair 21 = .ok (.iaload, 1) := by decide +kernel
theorem dX2_putPair_22 : decode cX2_putPair 22 = .ok (.istore 6, 2) := by decide +kernel
theorem dX2_putPair_24 : decode cX2_putPair 24 = .ok (.aload_n 0, 1) := by decide +kernel
theorem dX2_putPair_25 : decode cX2_putPair 25 = .ok (.getfield 15, 3) := by decide +kernel
theorem dX2_putPair_28 : decode cX2_putPair 28 = .ok (.iload_n 3, 1) := by decide +kernel
theorem dX2_putPair_29 : decode cX2_putPair 29 = .ok (.iaload, 1) := by decide +kernel
theorem dX2_putPair_30 : decode cX2_putPair 30 = .ok (.istore 7, 2) := by decide +kernel
theorem dX2_putPair_32 : decode cX2_putPair 32 = .ok (.aload_n 0, 1) := by decide +kernel
theorem dX2_putPair_33 : decode cX2_putPair 33 = .ok (.getfield 21, 3) := by decide +kernel
theorem dX2_putPair_36 : decode cX2_putPair 36 = .ok (.getfield 34, 3) := by decide +kernel
theorem dX2_putPair_39 : decode cX2_putPair 39 = .ok (.iload_n 1, 1) := by decide +kernel
theorem dX2_putPair_40 : decode cX2_putPair 40 = .ok (.iaload, 1) := by decide +kernel
theorem dX2_putPair_41 : decode cX2_putPair 41 = .ok (.tableswitch 254 2 11 #[55, 83, 111, 121, 143, 254, 165, 197, 121, 143], 55) := by decide +kernel
theorem dX2_putPair_96 : decode cX2_putPair 96 = .ok (.aload_n 0, 1) := by decide +kernel
theorem dX2_putPair_97 : decode cX2_putPair 97 = .ok (.iload_n 1, 1) := by decide +kernel
theorem dX2_putPair_98 : decode cX2_putPair 98 = .ok (.iload 4, 2) := by decide +kernel
theorem dX2_putPair_100 : decode cX2_putPair 100 = .ok (.i2l, 1) := by decide +kernel
theorem dX2_putPair_101 : decode cX2_putPair 101 = .ok (.iload 6, 2) := by decide +kernel
theorem dX2_putPair_103 : decode cX2_putPair 103 = .ok (.i2l, 1) := by decide +kernel
theorem dX2_putPair_104 : decode cX2_putPair 104 = .ok (.ladd, 1) := by decide +kernel
theorem dX2_putPair_105 : decode cX2_putPair 105 = .ok (.invokestatic 68, 3) := by decide +kernel
theorem dX2_putPair_108 : decode cX2_putPair 108 = .ok (.iload 5, 2) := by decide +kernel
theorem dX2_putPair_110 : decode cX2_putPair 110 = .ok (.i2l, 1) := by decide +kernel
theorem dX2_putPair_111 : decode cX2_putPair 111 = .ok (.iload 7, 2) := by decide +kernel
theorem dX2_putPair_113 : decode cX2_putPair 113 = .ok (.i2l, 1) := by decide +kernel
theorem dX2_putPair_114 : decode cX2_putPair 114 = .ok (.ladd, 1) := by decide +kernel
theorem dX2_putPair_115 : decode cX2_putPair 115 = .ok (.invokestatic 68, 3) := by decide +kernel
theorem dX2_putPair_118 : decode cX2_putPair 118 = .ok (.invokevirtual 37, 3) := by decide +kernel
theorem dX2_putPair_121 : decode cX2_putPair 121 = .ok (.goto 174, 3) := by decide +kernel
theorem dX2_putPair_124 : decode cX2_putPair 124 = .ok (.aload_n 0, 1) := by decide +kernel
theorem dX2_putPair_125 : decode cX2_putPair 125 = .ok (.iload_n 1, 1) := by decide +kernel
theorem dX2_putPair_126 : decode cX2_putPair 126 = .ok (.iload 4, 2) := by decide +kernel
theorem dX2_putPair_128 : decode cX2_putPair 128 = .ok (.i2l, 1) := by decide +kernel
theorem dX2_putPair_129 : decode cX2_putPair 129 = .ok (.iload 7, 2) := by decide +kernel
theorem dX2_putPair_131 : decode cX2_putPair 131 = .ok (.i2l, 1) := by decide +kernel
theorem dX2_putPair_132 : decode cX2_putPair 132 = .ok (.lsub, 1) := by decide +kernel
theorem dX2_putPair_133 : decode cX2_putPair 133 = .ok (.invokestatic 68, 3) := by decide +kernel
theorem dX2_putPair_136 : decode cX2_putPair 136 = .ok (.iload 5, 2) := by decide +kernel
theorem dX2_putPair_138 : decode cX2_putPair 138 = .ok (.i2l, 1) := by decide +kernel
theorem dX2_putPair_139 : decode cX2_putPair 139 = .ok (.iload 6, 2) := by decide +kernel
theorem dX2_putPair_141 : decode cX2_putPair 141 = .ok (.i2l, 1) := by decide +kernel
theorem dX2_putPair_142 : decode cX2_putPair 142 = .ok (.lsub, 1) := by decide +kernel
theorem dX2_putPair_143 : decode cX2_putPair 143 = .ok (.invokestatic 68, 3) := by decide +kernel
theorem dX2_putPair_146 : decode cX2_putPair 146 = .ok (.invokevirtual 37, 3) := by decide +kernel
theorem dX2_putPair_149 : decode cX2_putPair 149 = .ok (.goto 146, 3) := by decide +kernel
theorem dX2_putPair_152 : decode cX2_putPair 152 = .ok (.aload_n 0, 1) := by decide +kernel
theorem dX2_putPair_153 : decode cX2_putPair 153 = .ok (.iload_n 1, 1) := by decide +kernel
theorem dX2_putPair_154 : decode cX2_putPair 154 = .ok (.iload_n 2, 1) := by decide +kernel
theorem dX2_putPair_155 : decode cX2_putPair 155 = .ok (.iload_n 3, 1) := by decide +kernel
theorem dX2_putPair_156 : decode cX2_putPair 156 = .ok (.invokevirtual 72, 3) := by decide +kernel
theorem dX2_putPair_159 : decode cX2_putPair 159 = .ok (.goto 136, 3) := by decide +kernel
theorem dX2_putPair_162 : decode cX2_putPair 162 = .ok (.aload_n 0, 1) := by decide +kernel
theorem dX2_putPair_163 : decode cX2_putPair 163 = .ok (.iload_n 1, 1) := by decide +kernel
theorem dX2_putPair_164 : decode cX2_putPair 164 = .ok (.iload 4, 2) := by decide +kernel
theorem dX2_putPair_166 : decode cX2_putPair 166 = .ok (.iload 6, 2) := by decide +kernel
theorem dX2_putPair_168 : decode cX2_putPair 168 = .ok (.invokestatic 59, 3) := by decide +kernel
theorem dX2_putPair_171 : decode cX2_putPair 171 = .ok (.iload 5, 2) := by decide +kernel
theorem dX2_putPair_173 : decode cX2_putPair 173 = .ok (.iload 7, 2) := by decide +kernel
theorem dX2_putPair_175 : decode cX2_putPair 175 = .ok (.invokestatic 59, 3) := by decide +kernel
theorem dX2_putPair_178 : decode cX2_putPair 178 = .ok (.invokevirtual 37, 3) := by decide +kernel
theorem dX2_putPair_181 : decode cX2_putPair 181 = .ok (.goto 114, 3) := by decide +kernel
theorem dX2_putPair_184 : decode cX2_putPair 184 = .ok (.aload_n 0, 1) := by decide +kernel
theorem dX2_putPair_185 : decode cX2_putPair 185 = .ok (.iload_n 1, 1) := by decide +kernel
theorem dX2_putPair_186 : decode cX2_putPair 186 = .ok (.iload 4, 2) := by decide +kernel
theorem dX2_putPair_188 : decode cX2_putPair 188 = .ok (.iload 6, 2) := by decide +kernel
theorem dX2_putPair_190 : decode cX2_putPair 190 = .ok (.invokestatic 65, 3) := by decide +kernel
theorem dX2_putPair_193 : decode cX2_putPair 193 = .ok (.iload 5, 2) := by decide +kernel
theorem dX2_putPair_195 : decode cX2_putPair 195 = .ok (.iload 7, 2) := by decide +kernel
theorem dX2_putPair_197 : decode cX2_putPair 197 = .ok (.invokestatic 65, 3) := by decide +kernel
theorem dX2_putPair_200 : decode cX2_putPair 200 = .ok (.invokevirtual 37, 3) := by decide +kernel
theorem dX2_putPair_203 : decode cX2_putPair 203 = .ok (.goto 92, 3) := by decide +kernel
theorem dX2_putPair_206 : decode cX2_putPair 206 = .ok (.aload_n 0, 1) := by decide +kernel
theorem dX2_putPair_207 : decode cX2_putPair 207 = .ok (.iload_n 1, 1) := by decide +kernel
theorem dX2_putPair_208 : decode cX2_putPair 208 = .ok (.iload 5, 2) := by decide +kernel
theorem dX2_putPair_210 : decode cX2_putPair 210 = .ok (.iload 6, 2) := by decide +kernel
theorem dX2_putPair_212 : decode cX2_putPair 212 = .ok (.if_icmp .ge 7, 3) := by decide +kernel
theorem dX2_putPair_215 : decode cX2_putPair 215 = .ok (.iconst 1, 1) := by decide +kernel
theorem dX2_putPair_216 : decode cX2_putPair 216 = .ok (.goto 4, 3) := by decide +kernel
theorem dX2_putPair_219 : decode cX2_putPair 219 = .ok (.iconst 0, 1) := by decide +kernel
theorem dX2_putPair_220 : decode cX2_putPair 220 = .ok (.iload 4, 2) := by decide +kernel
theorem dX2_putPair_222 : decode cX2_putPair 222 = .ok (.iload 7, 2) := by decide +kernel
theorem dX2_putPair_224 : decode cX2_putPair 224 = .ok (.if_icmp .lt 7, 3) := by decide +kernel
theorem dX2_putPair_227 : decode cX2_putPair 227 = .ok (.iconst 1, 1) := by decide +kernel
theorem dX2_putPair_228 : decode cX2_putPair 228 = .ok (.goto 4, 3) := by decide +kernel
theorem dX2_putPair_231 : decode cX2_putPair 231 = .ok (.iconst 0, 1) := by decide +kernel
theorem dX2_putPair_232 : decode cX2_putPair 232 = .ok (.invokevirtual 75, 3) := by decide +kernel
theorem dX2_putPair_235 : decode cX2_putPair 235 = .ok (.goto 60, 3) := by decide +kernel
theorem dX2_putPair_238 : decode cX2_putPair 238 = .ok (.iload 4, 2) := by decide +kernel
theorem dX2_putPair_240 : decode cX2_putPair 240 = .ok (.iload 5, 2) := by decide +kernel
theorem dX2_putPair_242 : decode cX2_putPair 242 = .ok (.if_icmp .ne 21, 3) := by decide +kernel
theorem dX2_putPair_245 : decode cX2_putPair 245 = .ok (.iload 6, 2) := by decide +kernel
theorem dX2_putPair_247 : decode cX2_putPair 247 = .ok (.iload 7, 2) := by decide +kernel
theorem dX2_putPair_249 : decode cX2_putPair 249 = .ok (.if_icmp .ne 14, 3) := by decide +kernel
theorem dX2_putPair_252 : decode cX2_putPair 252 = .ok (.iload 4, 2) := by decide +kernel
theorem dX2_putPair_254 : decode cX2_putPair 254 = .ok (.iload 6, 2) := by decide +kernel
theorem dX2_putPair_256 : decode cX2_putPair 256 = .ok (.if_icmp .ne 7, 3) := by decide +kernel
theorem dX2_putPair_259 : decode cX2_putPair 259 = .ok (.iconst 1, 1) := by decide +kernel
theorem dX2_putPair_260 : decode cX2_putPair 260 = .ok (.goto 4, 3) := by decide +kernel
theorem dX2_putPair_263 : decode cX2_putPair 263 = .ok (.iconst 0, 1) := by decide +kernel
theorem dX2_putPair_264 : decode cX2_putPair 264 = .ok (.istore 8, 2) := by decide +kernel
theorem dX2_putPair_266 : decode cX2_putPair 266 = .ok (.aload_n 0, 1) := by decide +kernel
theorem dX2_putPair_267 : decode cX2_putPair 267 = .ok (.iload_n 1, 1) := by decide +kernel
theorem dX2_putPair_268 : decode cX2_putPair 268 = .ok (.iload 8, 2) := by decide +kernel
theorem dX2_putPair_270 : decode cX2_putPair 270 = .ok (.iload 5, 2) := by decide +kernel
theorem dX2_putPair_272 : decode cX2_putPair 272 = .ok (.iload 6, 2) := by decide +kernel
theorem dX2_putPair_274 : decode cX2_putPair 274 = .ok (.if_icmp .lt 10, 3) := by decide +kernel
theorem dX2_putPair_277 : decode cX2_putPair 277 = .ok (.iload 7, 2) := by decide +kernel
theorem dX2_putPair_279 : decode cX2_putPair 279 = .ok (.iload 4, 2) := by decide +kernel
theorem dX2_putPair_281 : decode cX2_putPair 281 = .ok (.if_icmp .ge 7, 3) := by decide +kernel
theorem dX2_putPair_284 : decode cX2_putPair 284 = .ok (.iconst 1, 1) := by decide +kernel
theorem dX2_putPair_285 : decode cX2_putPair 285 = .ok (.goto 4, 3) := by decide +kernel
theorem dX2_putPair_288 : decode cX2_putPair 288 = .ok (.iconst 0, 1) := by decide +kernel
theorem dX2_putPair_289 : decode cX2_putPair 289 = .ok (.invokevirtual 75, 3) := by decide +kernel
theorem dX2_putPair_292 : decode cX2_putPair 292 = .ok (.goto 3, 3) := by decide +kernel
theorem dX2_putPair_295 : decode cX2_putPair 295 = .ok (.return_, 1) := by decide +kernel
theorem dX2_putProduct_0 : decode cX2_putProduct 0 = .ok (.aload_n 0, 1) := by decide +kernel
theorem dX2_putProduct_1 : decode cX2_putProduct 1 = .ok (.getfield 9, 3) := by decide +kernel
theorem dX2_putProduct_4 : decode cX2_putProduct 4 = .ok (.iload_n 2, 1) := by decide +kernel
theorem dX2_putProduct_5 : decode cX2_putProduct 5 = .ok (.iaload, 1) := by decide +kernel
theorem dX2_putProduct_6 : decode cX2_putProduct 6 = .ok (.i2l, 1) := by decide +kernel
theorem dX2_putProduct_7 : decode cX2_putProduct 7 = .ok (.aload_n 0, 1) := by decide +kernel
theorem dX2_putProduct_8 : decode cX2_putProduct 8 = .ok (.getfield 9, 3) := by decide +kernel
theorem dX2_putProduct_11 : decode cX2_putProduct 11 = .ok (.iload_n 3, 1) := by decide +kernel
theorem dX2_putProduct_12 : decode cX2_putProduct 12 = .ok (.iaload, 1) := by decide +kernel
theorem dX2_putProduct_13 : decode cX2_putProduct 13 = .ok (.i2l, 1) := by decide +kernel
theorem dX2_putProduct_14 : decode cX2_putProduct 14 = .ok (.lmul, 1) := by decide +kernel
theorem dX2_putProduct_15 : decode cX2_putProduct 15 = .ok (.invokestatic 68, 3) := by decide +kernel
theorem dX2_putProduct_18 : decode cX2_putProduct 18 = .ok (.istore 4, 2) := by decide +kernel
theorem dX2_putProduct_20 : decode cX2_putProduct 20 = .ok (.aload_n 0, 1) := by decide +kernel
theorem dX2_putProduct_21 : decode cX2_putProduct 21 = .ok (.getfield 9, 3) := by decide +kernel
theorem dX2_putProduct_24 : decode cX2_putProduct 24 = .ok (.iload_n 2, 1) := by decide +kernel
theorem dX2_putProduct_25 : decode cX2_putProduct 25 = .ok (.iaload, 1) := by decide +kernel
theorem dX2_putProduct_26 : decode cX2_putProduct 26 = .ok (.i2l, 1) := by decide +kernel
theorem dX2_putProduct_27 : decode cX2_putProduct 27 = .ok (.aload_n 0, 1) := by decide +kernel
theorem dX2_putProduct_28 : decode cX2_putProduct 28 = .ok (.getfield 15, 3) := by decide +kernel
theorem dX2_putProduct_31 : decode cX2_putProduct 31 = .ok (.iload_n 3, 1) := by decide +kernel
theorem dX2_putProduct_32 : decode cX2_putProduct 32 = .ok (.iaload, 1) := by decide +kernel
theorem dX2_putProduct_33 : decode cX2_putProduct 33 = .ok (.i2l, 1) := by decide +kernel
theorem dX2_putProduct_34 : decode cX2_putProduct 34 = .ok (.lmul, 1) := by decide +kernel
theorem dX2_putProduct_35 : decode cX2_putProduct 35 = .ok (.invokestatic 68, 3) := by decide +kernel
theorem dX2_putProduct_38 : decode cX2_putProduct 38 = .ok (.istore 5, 2) := by decide +kernel
theorem dX2_putProduct_40 : decode cX2_putProduct 40 = .ok (.aload_n 0, 1) := by decide +kernel
theorem dX2_putProduct_41 : decode cX2_putProduct 41 = .ok (.getfield 15, 3) := by decide +kernel
theorem dX2_putProduct_44 : decode cX2_putProduct 44 = .ok (.iload_n 2, 1) := by decide +kernel
theorem dX2_putProduct_45 : decode cX2_putProduct 45 = .ok (.iaload, 1) := by decide +kernel
theorem dX2_putProduct_46 : decode cX2_putProduct 46 = .ok (.i2l, 1) := by decide +kernel
theorem dX2_putProduct_47 : decode cX2_putProduct 47 = .ok (.aload_n 0, 1) := by decide +kernel
theorem dX2_putProduct_48 : decode cX2_putProduct 48 = .ok (.getfield 9, 3) := by decide +kernel
theorem dX2_putProduct_51 : decode cX2_putProduct 51 = .ok (.iload_n 3, 1) := by decide +kernel
theorem dX2_putProduct_52 : decode cX2_putProduct 52 = .ok (.iaload, 1) := by decide +kernel
theorem dX2_putProduct_53 : decode cX2_putProduct 53 = .ok (.i2l, 1) := by decide +kernel
theorem dX2_putProduct_54 : decode cX2_putProduct 54 = .ok (.lmul, 1) := by decide +kernel
theorem dX2_putProduct_55 : decode cX2_putProduct 55 = .ok (.invokestatic 68, 3) := by decide +kernel
theorem dX2_putProduct_58 : decode cX2_putProduct 58 = .ok (.istore 6, 2) := by decide +kernel
theorem dX2_putProduct_60 : decode cX2_putProduct 60 = .ok (.aload_n 0, 1) := by decide +kernel
theorem dX2_putProduct_61 : decode cX2_putProduct 61 = .ok (.getfield 15, 3) := by decide +kernel
theorem dX2_putProduct_64 : decode cX2_putProduct 64 = .ok (.iload_n 2, 1) := by decide +kernel
theorem dX2_putProduct_65 : decode cX2_putProduct 65 = .ok (.iaload, 1) := by decide +kernel
theorem dX2_putProduct_66 : decode cX2_putProduct 66 = .ok (.i2l, 1) := by decide +kernel
theorem dX2_putProduct_67 : decode cX2_putProduct 67 = .ok (.aload_n 0, 1) := by decide +kernel
theorem dX2_putProduct_68 : decode cX2_putProduct 68 = .ok (.getfield 15, 3) := by decide +kernel
theorem dX2_putProduct_71 : decode cX2_putProduct 71 = .ok (.iload_n 3, 1) := by decide +kernel
theorem dX2_putProduct_72 : decode cX2_putProduct 72 = .ok (.iaload, 1) := by decide +kernel
theorem dX2_putProduct_73 : decode cX2_putProduct 73 = .ok (.i2l, 1) := by decide +kernel
theorem dX2_putProduct_74 : decode cX2_putProduct 74 = .ok (.lmul, 1) := by decide +kernel
theorem dX2_putProduct_75 : decode cX2_putProduct 75 = .ok (.invokestatic 68, 3) := by decide +kernel
theorem dX2_putProduct_78 : decode cX2_putProduct 78 = .ok (.istore 7, 2) := by decide +kernel
theorem dX2_putProduct_80 : decode cX2_putProduct 80 = .ok (.iload 4, 2) := by decide +kernel
theorem dX2_putProduct_82 : decode cX2_putProduct 82 = .ok (.iload 5, 2) := by decide +kernel
theorem dX2_putProduct_84 : decode cX2_putProduct 84 = .ok (.invokestatic 59, 3) := by decide +kernel
theorem dX2_putProduct_87 : decode cX2_putProduct 87 = .ok (.iload 6, 2) := by decide +kernel
theorem dX2_putProduct_89 : decode cX2_putProduct 89 = .ok (.iload 7, 2) := by decide +kernel
theorem dX2_putProduct_91 : decode cX2_putProduct 91 = .ok (.invokestatic 59, 3) := by decide +kernel
theorem dX2_putProduct_94 : decode cX2_putProduct 94 = .ok (.invokestatic 59, 3) := by decide +kernel
theorem dX2_putProduct_97 : decode cX2_putProduct 97 = .ok (.istore 8, 2) := by decide +kernel
theorem dX2_putProduct_99 : decode cX2_putProduct 99 = .ok (.aload_n 0, 1) := by decide +kernel
theorem dX2_putProduct_100 : decode cX2_putProduct 100 = .ok (.iload_n 1, 1) := by decide +kernel
theorem dX2_putProduct_101 : decode cX2_putProduct 101 = .ok (.iload 8, 2) := by decide +kernel
theorem dX2_putProduct_103 : decode cX2_putProduct 103 = .ok (.iload 4, 2) := by decide +kernel
theorem dX2_putProduct_105 : decode cX2_putProduct 105 = .ok (.iload 5, 2) := by decide +kernel
theorem dX2_putProduct_107 : decode cX2_putProduct 107 = .ok (.invokestatic 65, 3) := by decide +kernel
theorem dX2_putProduct_110 : decode cX2_putProduct 110 = .ok (.iload 6, 2) := by decide +kernel
theorem dX2_putProduct_112 : decode cX2_putProduct 112 = .ok (.iload 7, 2) := by decide +kernel
theorem dX2_putProduct_114 : decode cX2_putProduct 114 = .ok (.invokestatic 65, 3) := by decide +kernel
theorem dX2_putProduct_117 : decode cX2_putProduct 117 = .ok (.invokestatic 65, 3) := by decide +kernel
theorem dX2_putProduct_120 : decode cX2_putProduct 120 = .ok (.invokevirtual 37, 3) := by decide +kernel
theorem dX2_putProduct_123 : decode cX2_putProduct 123 = .ok (.return_, 1) := by decide +kernel
theorem dX2_putFlag_0 : decode cX2_putFlag 0 = .ok (.aload_n 0, 1) := by decide +kernel
theorem dX2_putFlag_1 : decode cX2_putFlag 1 = .ok (.iload_n 1, 1) := by decide +kernel
theorem dX2_putFlag_2 : decode cX2_putFlag 2 = .ok (.iload_n 2, 1) := by decide +kernel
theorem dX2_putFlag_3 : decode cX2_putFlag 3 = .ok (.ifCond .eq 7, 3) := by decide +kernel
theorem dX2_putFlag_6 : decode cX2_putFlag 6 = .ok (.iconst 1, 1) := by decide +kernel
theorem dX2_putFlag_7 : decode cX2_putFlag 7 = .ok (.goto 4, 3) := by decide +kernel
theorem dX2_putFlag_10 : decode cX2_putFlag 10 = .ok (.iconst 0, 1) := by decide +kernel
theorem dX2_putFlag_11 : decode cX2_putFlag 11 = .ok (.iload_n 3, 1) := by decide +kernel
theorem dX2_putFlag_12 : decode cX2_putFlag 12 = .ok (.ifCond .eq 7, 3) := by decide +kernel
theorem dX2_putFlag_15 : decode cX2_putFlag 15 = .ok (.iconst 0, 1) := by decide +kernel
theorem dX2_putFlag_16 : decode cX2_putFlag 16 = .ok (.goto 4, 3) := by decide +kernel
theorem dX2_putFlag_19 : decode cX2_putFlag 19 = .ok (.iconst 1, 1) := by decide +kernel
theorem dX2_putFlag_20 : decode cX2_putFlag 20 = .ok (.invokevirtual 37, 3) := by decide +kernel
theorem dX2_putFlag_23 : decode cX2_putFlag 23 = .ok (.return_, 1) := by decide +kernel
theorem dX2_isKnown_0 : decode cX2_isKnown 0 = .ok (.aload_n 0, 1) := by decide +kernel
theorem dX2_isKnown_1 : decode cX2_isKnown 1 = .ok (.getfield 9, 3) := by decide +kernel
theorem dX2_isKnown_4 : decode cX2_isKnown 4 = .ok (.iload_n 1, 1) := by decide +kernel
theorem dX2_isKnown_5 : decode cX2_isKnown 5 = .ok (.iaload, 1) := by decide +kernel
theorem dX2_isKnown_6 : decode cX2_isKnown 6 = .ok (.aload_n 0, 1) := by decide +kernel
theorem dX2_isKnown_7 : decode cX2_isKnown 7 = .ok (.getfield 15, 3) := by decide +kernel
theorem dX2_isKnown_10 : decode cX2_isKnown 10 = .ok (.iload_n 1, 1) := by decide +kernel
theorem dX2_isKnown_11 : decode cX2_isKnown 11 = .ok (.iaload, 1) := by decide +kernel
theorem dX2_isKnown_12 : decode cX2_isKnown 12 = .ok (.if_icmp .ne 7, 3) := by decide +kernel
theorem dX2_isKnown_15 : decode cX2_isKnown 15 = .ok (.iconst 1, 1) := by decide +kernel
theorem dX2_isKnown_16 : decode cX2_isKnown 16 = .ok (.goto 4, 3) := by decide +kernel
theorem dX2_isKnown_19 : decode cX2_isKnown 19 = .ok (.iconst 0, 1) := by decide +kernel
theorem dX2_isKnown_20 : decode cX2_isKnown 20 = .ok (.ireturn, 1) := by decide +kernel
theorem dX2_isLow_0 : decode cX2_isLow 0 = .ok (.aload_n 0, 1) := by decide +kernel
theorem dX2_isLow_1 : decode cX2_isLow 1 = .ok (.getfield 21, 3) := by decide +kernel
theorem dX2_isLow_4 : decode cX2_isLow 4 = .ok (.getfield 48, 3) := by decide +kernel
theorem dX2_isLow_7 : decode cX2_isLow 7 = .ok (.iload_n 1, 1) := by decide +kernel
theorem dX2_isLow_8 : decode cX2_isLow 8 = .ok (.baload, 1) := by decide +kernel
theorem dX2_isLow_9 : decode cX2_isLow 9 = .ok (.ifCond .ne 31, 3) := by decide +kernel
theorem dX2_isLow_12 : decode cX2_isLow 12 = .ok (.aload_n 0, 1) := by decide +kernel
theorem dX2_isLow_13 : decode cX2_isLow 13 = .ok (.getfield 9, 3) := by decide +kernel
theorem dX2_isLow_16 : decode cX2_isLow 16 = .ok (.iload_n 1, 1) := by decide +kernel
theorem dX2_isLow_17 : decode cX2_isLow 17 = .ok (.iaload, 1) := by decide +kernel
theorem dX2_isLow_18 : decode cX2_isLow 18 = .ok (.sipush (-512), 3) := by decide +kernel
theorem dX2_isLow_21 : decode cX2_isLow 21 = .ok (.if_icmp .lt 19, 3) := by decide +kernel
theorem dX2_isLow_24 : decode cX2_isLow 24 = .ok (.aload_n 0, 1) := by decide +kernel
theorem dX2_isLow_25 : decode cX2_isLow 25 = .ok (.getfield 15, 3) := by decide +kernel
theorem dX2_isLow_28 : decode cX2_isLow 28 = .ok (.iload_n 1, 1) := by decide +kernel
theorem dX2_isLow_29 : decode cX2_isLow 29 = .ok (.iaload, 1) := by decide +kernel
theorem dX2_isLow_30 : decode cX2_isLow 30 = .ok (.sipush 511, 3) := by decide +kernel
theorem dX2_isLow_33 : decode cX2_isLow 33 = .ok (.if_icmp .gt 7, 3) := by decide +kernel
theorem dX2_isLow_36 : decode cX2_isLow 36 = .ok (.iconst 1, 1) := by decide +kernel
theorem dX2_isLow_37 : decode cX2_isLow 37 = .ok (.goto 4, 3) := by decide +kernel
theorem dX2_isLow_40 : decode cX2_isLow 40 = .ok (.iconst 0, 1) := by decide +kernel
theorem dX2_isLow_41 : decode cX2_isLow 41 = .ok (.ireturn, 1) := by decide +kernel
theorem dX2_countLow_0 : decode cX2_countLow 0 = .ok (.iconst 0, 1) := by decide +kernel
theorem dX2_countLow_1 : decode cX2_countLow 1 = .ok (.istore_n 1, 1) := by decide +kernel
theorem dX2_countLow_2 : decode cX2_countLow 2 = .ok (.iconst 0, 1) := by decide +kernel
theorem dX2_countLow_3 : decode cX2_countLow 3 = .ok (.istore_n 2, 1) := by decide +kernel
theorem dX2_countLow_4 : decode cX2_countLow 4 = .ok (.iload_n 2, 1) := by decide +kernel
theorem dX2_countLow_5 : decode cX2_countLow 5 = .ok (.aload_n 0, 1) := by decide +kernel
theorem dX2_countLow_6 : decode cX2_countLow 6 = .ok (.getfield 21, 3) := by decide +kernel
theorem dX2_countLow_9 : decode cX2_countLow 9 = .ok (.getfield 25, 3) := by decide +kernel
theorem dX2_countLow_12 : decode cX2_countLow 12 = .ok (.if_icmp .ge 25, 3) := by decide +kernel
theorem dX2_countLow_15 : decode cX2_countLow 15 = .ok (.iload_n 1, 1) := by decide +kernel
theorem dX2_countLow_16 : decode cX2_countLow 16 = .ok (.aload_n 0, 1) := by decide +kernel
theorem dX2_countLow_17 : decode cX2_countLow 17 = .ok (.iload_n 2, 1) := by decide +kernel
theorem dX2_countLow_18 : decode cX2_countLow 18 = .ok (.invokevirtual 52, 3) := by decide +kernel
theorem dX2_countLow_21 : decode cX2_countLow 21 = .ok (.ifCond .eq 7, 3) := by decide +kernel
theorem dX2_countLow_24 : decode cX2_countLow 24 = .ok (.iconst 1, 1) := by decide +kernel
theorem dX2_countLow_25 : decode cX2_countLow 25 = .ok (.goto 4, 3) := by decide +kernel
theorem dX2_countLow_28 : decode cX2_countLow 28 = .ok (.iconst 0, 1) := by decide +kernel
theorem dX2_countLow_29 : decode cX2_countLow 29 = .ok (.iadd, 1) := by decide +kernel
theorem dX2_countLow_30 : decode cX2_countLow 30 = .ok (.istore_n 1, 1) := by decide +kernel
theorem dX2_countLow_31 : decode cX2_countLow 31 = .ok (.iinc 2 1, 3) := by decide +kernel
theorem dX2_countLow_34 : decode cX2_countLow 34 = .ok (.goto (-30), 3) := by decide +kernel
theorem dX2_countLow_37 : decode cX2_countLow 37 = .ok (.iload_n 1, 1) := by decide +kernel
theorem dX2_countLow_38 : decode cX2_countLow 38 = .ok (.ireturn, 1) := by decide +kernel
theorem dX2_countKnown_0 : decode cX2_countKnown 0 = .ok (.iconst 0, 1) := by decide +kernel
theorem dX2_countKnown_1 : decode cX2_countKnown 1 = .ok (.istore_n 1, 1) := by decide +kernel
theorem dX2_countKnown_2 : decode cX2_countKnown 2 = .ok (.iconst 0, 1) := by decide +kernel
theorem dX2_countKnown_3 : decode cX2_countKnown 3 = .ok (.istore_n 2, 1) := by decide +kernel
theorem dX2_countKnown_4 : decode cX2_countKnown 4 = .ok (.iload_n 2, 1) := by decide +kernel
theorem dX2_countKnown_5 : decode cX2_countKnown 5 = .ok (.aload_n 0, 1) := by decide +kernel
theorem dX2_countKnown_6 : decode cX2_countKnown 6 = .ok (.getfield 21, 3) := by decide +kernel
theorem dX2_countKnown_9 : decode cX2_countKnown 9 = .ok (.getfield 25, 3) := by decide +kernel
theorem dX2_countKnown_12 : decode cX2_countKnown 12 = .ok (.if_icmp .ge 25, 3) := by decide +kernel
theorem dX2_countKnown_15 : decode cX2_countKnown 15 = .ok (.iload_n 1, 1) := by decide +kernel
theorem dX2_countKnown_16 : decode cX2_countKnown 16 = .ok (.aload_n 0, 1) := by decide +kernel
theorem dX2_countKnown_17 : decode cX2_countKnown 17 = .ok (.iload_n 2, 1) := by decide +kernel
theorem dX2_countKnown_18 : decode cX2_countKnown 18 = .ok (.invokevirtual 56, 3) := by decide +kernel
theorem dX2_countKnown_21 : decode cX2_countKnown 21 = .ok (.ifCond .eq 7, 3) := by decide +kernel
theorem dX2_countKnown_24 : decode cX2_countKnown 24 = .ok (.iconst 1, 1) := by decide +kernel
theorem dX2_countKnown_25 : decode cX2_countKnown 25 = .ok (.goto 4, 3) := by decide +kernel
theorem dX2_countKnown_28 : decode cX2_countKnown 28 = .ok (.iconst 0, 1) := by decide +kernel
theorem dX2_countKnown_29 : decode cX2_countKnown 29 = .ok (.iadd, 1) := by decide +kernel
theorem dX2_countKnown_30 : decode cX2_countKnown 30 = .ok (.istore_n 1, 1) := by decide +kernel
theorem dX2_countKnown_31 : decode cX2_countKnown 31 = .ok (.iinc 2 1, 3) := by decide +kernel
theorem dX2_countKnown_34 : decode cX2_countKnown 34 = .ok (.goto (-30), 3) := by decide +kernel
theorem dX2_countKnown_37 : decode cX2_countKnown 37 = .ok (.iload_n 1, 1) := by decide +kernel
theorem dX2_countKnown_38 : decode cX2_countKnown 38 = .ok (.ireturn, 1) := by decide +kernel
theorem dX3_init_0 : decode cX3_init 0 = .ok (.aload_n 0, 1) := by decide +kernel
theorem dX3_init_1 : decode cX3_init 1 = .ok (.invokespecial 3, 3) := by decide +kernel
theorem dX3_init_4 : decode cX3_init 4 = .ok (.aload_n 0, 1) := by decide +kernel
theorem dX3_init_5 : decode cX3_init 5 = .ok (.sipush 200, 3) := by decide +kernel
theorem dX3_init_8 : decode cX3_init 8 = .ok (.newarray .int, 2) := by decide +kernel
theorem dX3_init_10 : decode cX3_init 10 = .ok (.putfield 9, 3) := by decide +kernel
theorem dX3_init_13 : decode cX3_init 13 = .ok (.aload_n 0, 1) := by decide +kernel
theorem dX3_init_14 : decode cX3_init 14 = .ok (.sipush 200, 3) := by decide +kernel
theorem dX3_init_17 : decode cX3_init 17 = .ok (.newarray .int, 2) := by decide +kernel
theorem dX3_init_19 : decode cX3_init 19 = .ok (.putfield 15, 3) := by decide +kernel
theorem dX3_init_22 : decode cX3_init 22 = .ok (.aload_n 0, 1) := by decide +kernel
theorem dX3_init_23 : decode cX3_init 23 = .ok (.sipush 200, 3) := by decide +kernel
theorem dX3_init_26 : decode cX3_init 26 = .ok (.newarray .int, 2) := by decide +kernel
theorem dX3_init_28 : decode cX3_init 28 = .ok (.putfield 18, 3) := by decide +kernel
theorem dX3_init_31 : decode cX3_init 31 = .ok (.aload_n 0, 1) := by decide +kernel
theorem dX3_init_32 : decode cX3_init 32 = .ok (.sipush 200, 3) := by decide +kernel
theorem dX3_init_35 : decode cX3_init 35 = .ok (.newarray .int, 2) := by decide +kernel
theorem dX3_init_37 : decode cX3_init 37 = .ok (.putfield 21, 3) := by decide +kernel
theorem dX3_init_40 : decode cX3_init 40 = .ok (.aload_n 0, 1) := by decide +kernel
theorem dX3_init_41 : decode cX3_init 41 = .ok (.sipush 200, 3) := by decide +kernel
theorem dX3_init_44 : decode cX3_init 44 = .ok (.newarray .int, 2) := by decide +kernel
theorem dX3_init_46 : decode cX3_init 46 = .ok (.putfield 24, 3) := by decide +kernel
theorem dX3_init_49 : decode cX3_init 49 = .ok (.aload_n 0, 1) := by decide +kernel
theorem dX3_init_50 : decode cX3_init 50 = .ok (.sipush 600, 3) := by decide +kernel
theorem dX3_init_53 : decode cX3_init 53 = .ok (.newarray .int, 2) := by decide +kernel
theorem dX3_init_55 : decode cX3_init 55 = .ok (.putfield 27, 3) := by decide +kernel
theorem dX3_init_58 : decode cX3_init 58 = .ok (.aload_n 0, 1) := by decide +kernel
theorem dX3_init_59 : decode cX3_init 59 = .ok (.sipush 600, 3) := by decide +kernel
theorem dX3_init_62 : decode cX3_init 62 = .ok (.newarray .int, 2) := by decide +kernel
theorem dX3_init_64 : decode cX3_init 64 = .ok (.putfield 30, 3) := by decide +kernel
theorem dX3_init_67 : decode cX3_init 67 = .ok (.aload_n 0, 1) := by decide +kernel
theorem dX3_init_68 : decode cX3_init 68 = .ok (.sipush 200, 3) := by decide +kernel
theorem dX3_init_71 : decode cX3_init 71 = .ok (.newarray .int, 2) := by decide +kernel
theorem dX3_init_73 : decode cX3_init 73 = .ok (.putfield 33, 3) := by decide +kernel
theorem dX3_init_76 : decode cX3_init 76 = .ok (.aload_n 0, 1) := by decide +kernel
theorem dX3_init_77 : decode cX3_init 77 = .ok (.sipush 200, 3) := by decide +kernel
theorem dX3_init_80 : decode cX3_init 80 = .ok (.newarray .int, 2) := by decide +kernel
theorem dX3_init_82 : decode cX3_init 82 = .ok (.putfield 36, 3) := by decide +kernel
theorem dX3_init_85 : decode cX3_init 85 = .ok (.aload_n 0, 1) := by decide +kernel
theorem dX3_init_86 : decode cX3_init 86 = .ok (.bipush 6, 2) := by decide +kernel
theorem dX3_init_88 : decode cX3_init 88 = .ok (.newarray .boolean, 2) := by decide +kernel
theorem dX3_init_90 : decode cX3_init 90 = .ok (.putfield 39, 3) := by decide +kernel
theorem dX3_init_93 : decode cX3_init 93 = .ok (.aload_n 0, 1) := by decide +kernel
theorem dX3_init_94 : decode cX3_init 94 = .ok (.bipush 6, 2) := by decide +kernel
theorem dX3_init_96 : decode cX3_init 96 = .ok (.newarray .int, 2) := by decide +kernel
theorem dX3_init_98 : decode cX3_init 98 = .ok (.putfield 43, 3) := by decide +kernel
theorem dX3_init_101 : decode cX3_init 101 = .ok (.aload_n 0, 1) := by decide +kernel
theorem dX3_init_102 : decode cX3_init 102 = .ok (.bipush 6, 2) := by decide +kernel
theorem dX3_init_104 : decode cX3_init 104 = .ok (.newarray .int, 2) := by decide +kernel
theorem dX3_init_106 : decode cX3_init 106 = .ok (.putfield 46, 3) := by decide +kernel
theorem dX3_init_109 : decode cX3_init 109 = .ok (.aload_n 0, 1) := by decide +kernel
theorem dX3_init_110 : decode cX3_init 110 = .ok (.iconst 4, 1) := by decide +kernel
theorem dX3_init_111 : decode cX3_init 111 = .ok (.putfield 49, 3) := by decide +kernel
theorem dX3_init_114 : decode cX3_init 114 = .ok (.aload_n 0, 1) := by decide +kernel
theorem dX3_init_115 : decode cX3_init 115 = .ok (.bipush 8, 2) := by decide +kernel
theorem dX3_init_117 : decode cX3_init 117 = .ok (.putfield 53, 3) := by decide +kernel
theorem dX3_init_120 : decode cX3_init 120 = .ok (.return_, 1) := by decide +kernel
theorem dX3_clear_0 : decode cX3_clear 0 = .ok (.aload_n 0, 1) := by decide +kernel
theorem dX3_clear_1 : decode cX3_clear 1 = .ok (.iconst 0, 1) := by decide +kernel
theorem dX3_clear_2 : decode cX3_clear 2 = .ok (.putfield 56, 3) := by decide +kernel
theorem dX3_clear_5 : decode cX3_clear 5 = .ok (.aload_n 0, 1) := by decide +kernel
theorem dX3_clear_6 : decode cX3_clear 6 = .ok (.iconst 0, 1) := by decide +kernel
theorem dX3_clear_7 : decode cX3_clear 7 = .ok (.putfield 59, 3) := by decide +kernel
theorem dX3_clear_10 : decode cX3_clear 10 = .ok (.aload_n 0, 1) := by decide +kernel
theorem dX3_clear_11 : decode cX3_clear 11 = .ok (.iconst 4, 1) := by decide +kernel
theorem dX3_clear_12 : decode cX3_clear 12 = .ok (.putfield 49, 3) := by decide +kernel
theorem dX3_clear_15 : decode cX3_clear 15 = .ok (.aload_n 0, 1) := by decide +kernel
theorem dX3_clear_16 : decode cX3_clear 16 = .ok (.bipush 8, 2) := by decide +kernel
theorem dX3_clear_18 : decode cX3_clear 18 = .ok (.putfield 53, 3) := by decide +kernel
theorem dX3_clear_21 : decode cX3_clear 21 = .ok (.aload_n 0, 1) := by decide +kernel
theorem dX3_clear_22 : decode cX3_clear 22 = .ok (.iconst 0, 1) := by decide +kernel
theorem dX3_clear_23 : decode cX3_clear 23 = .ok (.putfield 62, 3) := by decide +kernel
theorem dX3_clear_26 : decode cX3_clear 26 = .ok (.aload_n 0, 1) := by decide +kernel
theorem dX3_clear_27 : decode cX3_clear 27 = .ok (.iconst 0, 1) := by decide +kernel
theorem dX3_clear_28 : decode cX3_clear 28 = .ok (.putfield 65, 3) := by decide +kernel
theorem dX3_clear_31 : decode cX3_clear 31 = .ok (.return_, 1) := by decide +kernel
theorem dX3_open_0 : decode cX3_open 0 = .ok (.aload_n 0, 1) := by decide +kernel
theorem dX3_open_1 : decode cX3_open 1 = .ok (.getfield 56, 3) := by decide +kernel
theorem dX3_open_4 : decode cX3_open 4 = .ok (.istore_n 3, 1) := by decide +kernel
theorem dX3_open_5 : decode cX3_open 5 = .ok (.aload_n 0, 1) := by decide +kernel
theorem dX3_open_6 : decode cX3_open 6 = .ok (.getfield 9, 3) := by decide +kernel
theorem dX3_open_9 : decode cX3_open 9 = .ok (.iload_n 3, 1) := by decide +kernel
theorem dX3_open_10 : decode cX3_open 10 = .ok (.iload_n 1, 1) := by decide +kernel
theorem dX3_open_11 : decode cX3_open 11 = .ok (.iastore, 1) := by decide +kernel
theorem dX3_open_12 : decode cX3_open 12 = .ok (.aload_n 0, 1) := by decide +kernel
theorem dX3_open_13 : decode cX3_open 13 = .ok (.getfield 15, 3) := by decide +kernel
theorem dX3_open_16 : decode cX3_open 16 = .ok (.iload_n 3, 1) := by decide +kernel
theorem dX3_open_17 : decode cX3_open 17 = .ok (.iload_n 2, 1) := by decide +kernel
theorem dX3_open_18 : decode cX3_open 18 = .ok (.iastore, 1) := by decide +kernel
theorem dX3_open_19 : decode cX3_open 19 = .ok (.aload_n 0, 1) := by decide +kernel
theorem dX3_open_20 : decode cX3_open 20 = .ok (.getfield 33, 3) := by decide +kernel
theorem dX3_open_23 : decode cX3_open 23 = .ok (.iload_n 3, 1) := by decide +kernel
theorem dX3_open_24 : decode cX3_open 24 = .ok (.iconst (-1), 1) := by decide +kernel
theorem dX3_open_25 : decode cX3_open 25 = .ok (.iastore, 1) := by decide +kernel
theorem dX3_open_26 : decode cX3_open 26 = .ok (.aload_n 0, 1) := by decide +kernel
theorem dX3_open_27 : decode cX3_open 27 = .ok (.dup, 1) := by decide +kernel
theorem dX3_open_28 : decode cX3_open 28 = .ok (.getfield 56, 3) := by decide +kernel
theorem dX3_open_31 : decode cX3_open 31 = .ok (.iconst 1, 1) := by decide +kernel
theorem dX3_open_32 : decode cX3_open 32 = .ok (.iadd, 1) := by decide +kernel
theorem dX3_open_33 : decode cX3_open 33 = .ok (.putfield 56, 3) := by decide +kernel
theorem dX3_open_36 : decode cX3_open 36 = .ok (.iload_n 3, 1) := by decide +kernel
theorem dX3_open_37 : decode cX3_open 37 = .ok (.ireturn, 1) := by decide +kernel
theorem dX3_endsTimes_0 : decode cX3_endsTimes 0 = .ok (.aload_n 0, 1) := by decide +kernel
theorem dX3_endsTimes_1 : decode cX3_endsTimes 1 = .ok (.getfield 33, 3) := by decide +kernel
theorem dX3_endsTimes_4 : decode cX3_endsTimes 4 = .ok (.iload_n 1, 1) := by decide +kernel
theorem dX3_endsTimes_5 : decode cX3_endsTimes 5 = .ok (.iaload, 1) := by decide +kernel
theorem dX3_endsTimes_6 : decode cX3_endsTimes 6 = .ok (.ifCond .lt 23, 3) := by decide +kernel
theorem dX3_endsTimes_9 : decode cX3_endsTimes 9 = .ok (.aload_n 0, 1) := by decide +kernel
theorem dX3_endsTimes_10 : decode cX3_endsTimes 10 = .ok (.getfield 9, 3) := by decide +kernel
theorem dX3_endsTimes_13 : decode cX3_endsTimes 13 = .ok (.aload_n 0, 1) := by decide +kernel
theorem dX3_endsTimes_14 : decode cX3_endsTimes 14 = .ok (.getfield 33, 3) := by decide +kernel
theorem dX3_endsTimes_17 : decode cX3_endsTimes 17 = .ok (.iload_n 1, 1) := by decide +kernel
theorem dX3_endsTimes_18 : decode cX3_endsTimes 18 = .ok (.iaload, 1) := by decide +kernel
theorem dX3_endsTimes_19 : decode cX3_endsTimes 19 = .ok (.iaload, 1) := by decide +kernel
theorem dX3_endsTimes_20 : decode cX3_endsTimes 20 = .ok (.bipush 7, 2) := by decide +kernel
theorem dX3_endsTimes_22 : decode cX3_endsTimes 22 = .ok (.if_icmp .ne 7, 3) := by decide +kernel
theorem dX3_endsTimes_25 : decode cX3_endsTimes 25 = .ok (.iconst 1, 1) := by decide +kernel
theorem dX3_endsTimes_26 : decode cX3_endsTimes 26 = .ok (.goto 4, 3) := by decide +kernel
theorem dX3_endsTimes_29 : decode cX3_endsTimes 29 = .ok (.iconst 0, 1) := by decide +kernel
theorem dX3_endsTimes_30 : decode cX3_endsTimes 30 = .ok (.ireturn, 1) := by decide +kernel
theorem dX3_hasElse_0 : decode cX3_hasElse 0 = .ok (.aload_n 0, 1) := by decide +kernel
theorem dX3_hasElse_1 : decode cX3_hasElse 1 = .ok (.getfield 33, 3) := by decide +kernel
theorem dX3_hasElse_4 : decode cX3_hasElse 4 = .ok (.iload_n 1, 1) := by decide +kernel
theorem dX3_hasElse_5 : decode cX3_hasElse 5 = .ok (.iaload, 1) := by decide +kernel
theorem dX3_hasElse_6 : decode cX3_hasElse 6 = .ok (.ifCond .lt 23, 3) := by decide +kernel
theorem dX3_hasElse_9 : decode cX3_hasElse 9 = .ok (.aload_n 0, 1) := by decide +kernel
theorem dX3_hasElse_10 : decode cX3_hasElse 10 = .ok (.getfield 9, 3) := by decide +kernel
theorem dX3_hasElse_13 : decode cX3_hasElse 13 = .ok (.aload_n 0, 1) := by decide +kernel
theorem dX3_hasElse_14 : decode cX3_hasElse 14 = .ok (.getfield 33, 3) := by decide +kernel
theorem dX3_hasElse_17 : decode cX3_hasElse 17 = .ok (.iload_n 1, 1) := by decide +kernel
theorem dX3_hasElse_18 : decode cX3_hasElse 18 = .ok (.iaload, 1) := by decide +kernel
theorem dX3_hasElse_19 : decode cX3_hasElse 19 = .ok (.iaload, 1) := by decide +kernel
theorem dX3_hasElse_20 : decode cX3_hasElse 20 = .ok (.bipush 6, 2) := by decide +kernel
theorem dX3_hasElse_22 : decode cX3_hasElse 22 = .ok (.if_icmp .ne 7, 3) := by decide +kernel
theorem dX3_hasElse_25 : decode cX3_hasElse 25 = .ok (.iconst 1, 1) := by decide +kernel
theorem dX3_hasElse_26 : decode cX3_hasElse 26 = .ok (.goto 4, 3) := by decide +kernel
theorem dX3_hasElse_29 : decode cX3_hasElse 29 = .ok (.iconst 0, 1) := by decide +kernel
theorem dX3_hasElse_30 : decode cX3_hasElse 30 = .ok (.ireturn, 1) := by decide +kernel
theorem dX4_init_0 : decode cX4_init 0 = .ok (.aload_n 0, 1) := by decide +kernel
theorem dX4_init_1 : decode cX4_init 1 = .ok (.invokespecial 3, 3) := by decide +kernel
theorem dX4_init_4 : decode cX4_init 4 = .ok (.aload_n 0, 1) := by decide +kernel
theorem dX4_init_5 : decode cX4_init 5 = .ok (.bipush 64, 2) := by decide +kernel
theorem dX4_init_7 : decode cX4_init 7 = .ok (.newarray .int, 2) := by decide +kernel
theorem dX4_init_9 : decode cX4_init 9 = .ok (.putfield 9, 3) := by decide +kernel
theorem dX4_init_12 : decode cX4_init 12 = .ok (.aload_n 0, 1) := by decide +kernel
theorem dX4_init_13 : decode cX4_init 13 = .ok (.bipush 20, 2) := by decide +kernel
theorem dX4_init_15 : decode cX4_init 15 = .ok (.newarray .int, 2) := by decide +kernel
theorem dX4_init_17 : decode cX4_init 17 = .ok (.putfield 15, 3) := by decide +kernel
theorem dX4_init_20 : decode cX4_init 20 = .ok (.aload_n 0, 1) := by decide +kernel
theorem dX4_init_21 : decode cX4_init 21 = .ok (.iconst 4, 1) := by decide +kernel
theorem dX4_init_22 : decode cX4_init 22 = .ok (.newarray .int, 2) := by decide +kernel
theorem dX4_init_24 : decode cX4_init 24 = .ok (.putfield 18, 3) := by decide +kernel
theorem dX4_init_27 : decode cX4_init 27 = .ok (.aload_n 0, 1) := by decide +kernel
theorem dX4_init_28 : decode cX4_init 28 = .ok (.sipush 260, 3) := by decide +kernel
theorem dX4_init_31 : decode cX4_init 31 = .ok (.newarray .int, 2) := by decide +kernel
theorem dX4_init_33 : decode cX4_init 33 = .ok (.putfield 21, 3) := by decide +kernel
theorem dX4_init_36 : decode cX4_init 36 = .ok (.aload_n 0, 1) := by decide +kernel
theorem dX4_init_37 : decode cX4_init 37 = .ok (.iconst 3, 1) := by decide +kernel
theorem dX4_init_38 : decode cX4_init 38 = .ok (.newarray .int, 2) := by decide +kernel
theorem dX4_init_40 : decode cX4_init 40 = .ok (.putfield 24, 3) := by decide +kernel
theorem dX4_init_43 : decode cX4_init 43 = .ok (.aload_n 0, 1) := by decide +kernel
theorem dX4_init_44 : decode cX4_init 44 = .ok (.aload_n 1, 1) := by decide +kernel
theorem dX4_init_45 : decode cX4_init 45 = .ok (.putfield 27, 3) := by decide +kernel
theorem dX4_init_48 : decode cX4_init 48 = .ok (.return_, 1) := by decide +kernel
theorem dX4_reckonLane_0 : decode cX4_reckonLane 0 = .ok (.iconst 0, 1) := by decide +kernel
theorem dX4_reckonLane_1 : decode cX4_reckonLane 1 = .ok (.istore 4, 2) := by decide +kernel
theorem dX4_reckonLane_3 : decode cX4_reckonLane 3 = .ok (.iload 4, 2) := by decide +kernel
theorem dX4_reckonLane_5 : decode cX4_reckonLane 5 = .ok (.iload_n 3, 1) := by decide +kernel
theorem dX4_reckonLane_6 : decode cX4_reckonLane 6 = .ok (.if_icmp .gt 76, 3) := by decide +kernel
theorem dX4_reckonLane_9 : decode cX4_reckonLane 9 = .ok (.aload_n 1, 1) := by decide +kernel
theorem dX4_reckonLane_10 : decode cX4_reckonLane 10 = .ok (.getfield 31, 3) := by decide +kernel
theorem dX4_reckonLane_13 : decode cX4_reckonLane 13 = .ok (.iload 4, 2) := by decide +kernel
theorem dX4_reckonLane_15 : decode cX4_reckonLane 15 = .ok (.iaload, 1) := by decide +kernel
theorem dX4_reckonLane_16 : decode cX4_reckonLane 16 = .ok (.istore 5, 2) := by decide +kernel
theorem dX4_reckonLane_18 : decode cX4_reckonLane 18 = .ok (.iconst 0, 1) := by decide +kernel
theorem dX4_reckonLane_19 : decode cX4_reckonLane 19 = .ok (.istore 6, 2) := by decide +kernel
theorem dX4_reckonLane_21 : decode cX4_reckonLane 21 = .ok (.iload 6, 2) := by decide +kernel
theorem dX4_reckonLane_23 : decode cX4_reckonLane 23 = .ok (.iload 5, 2) := by decide +kernel
theorem dX4_reckonLane_25 : decode cX4_reckonLane 25 = .ok (.invokestatic 36, 3) := by decide +kernel
theorem dX4_reckonLane_28 : decode cX4_reckonLane 28 = .ok (.if_icmp .ge 33, 3) := by decide +kernel
theorem dX4_reckonLane_31 : decode cX4_reckonLane 31 = .ok (.aload_n 0, 1) := by decide +kernel
theorem dX4_reckonLane_32 : decode cX4_reckonLane 32 = .ok (.getfield 24, 3) := by decide +kernel
theorem dX4_reckonLane_35 : decode cX4_reckonLane 35 = .ok (.iload 6, 2) := by decide +kernel
theorem dX4_reckonLane_37 : decode cX4_reckonLane 37 = .ok (.aload_n 0, 1) := by decide +kernel
theorem dX4_reckonLane_38 : decode cX4_reckonLane 38 = .ok (.getfield 9, 3) := by decide +kernel
theorem dX4_reckonLane_41 : decode cX4_reckonLane 41 = .ok (.aload_n 1, 1) := by decide +kernel
theorem dX4_reckonLane_42 : decode cX4_reckonLane 42 = .ok (.getfield 40, 3) := by decide +kernel
theorem dX4_reckonLane_45 : decode cX4_reckonLane 45 = .ok (.iconst 3, 1) := by decide +kernel
theorem dX4_reckonLane_46 : decode cX4_reckonLane 46 = .ok (.iload 4, 2) := by decide +kernel
theorem dX4_reckonLane_48 : decode cX4_reckonLane 48 = .ok (.imul, 1) := by decide +kernel
theorem dX4_reckonLane_49 : decode cX4_reckonLane 49 = .ok (.iload 6, 2) := by decide +kernel
theorem dX4_reckonLane_51 : decode cX4_reckonLane 51 = .ok (.iadd, 1) := by decide +kernel
theorem dX4_reckonLane_52 : decode cX4_reckonLane 52 = .ok (.iaload, 1) := by decide +kernel
theorem dX4_reckonLane_53 : decode cX4_reckonLane 53 = .ok (.iaload, 1) := by decide +kernel
theorem dX4_reckonLane_54 : decode cX4_reckonLane 54 = .ok (.iastore, 1) := by decide +kernel
theorem dX4_reckonLane_55 : decode cX4_reckonLane 55 = .ok (.iinc 6 1, 3) := by decide +kernel
theorem dX4_reckonLane_58 : decode cX4_reckonLane 58 = .ok (.goto (-37), 3) := by decide +kernel
theorem dX4_reckonLane_61 : decode cX4_reckonLane 61 = .ok (.aload_n 0, 1) := by decide +kernel
theorem dX4_reckonLane_62 : decode cX4_reckonLane 62 = .ok (.getfield 9, 3) := by decide +kernel
theorem dX4_reckonLane_65 : decode cX4_reckonLane 65 = .ok (.iload 4, 2) := by decide +kernel
theorem dX4_reckonLane_67 : decode cX4_reckonLane 67 = .ok (.aload_n 0, 1) := by decide +kernel
theorem dX4_reckonLane_68 : decode cX4_reckonLane 68 = .ok (.aload_n 1, 1) := by decide +kernel
theorem dX4_reckonLane_69 : decode cX4_reckonLane 69 = .ok (.iload_n 2, 1) := by decide +kernel
theorem dX4_reckonLane_70 : decode cX4_reckonLane 70 = .ok (.iload 4, 2) := by decide +kernel
theorem dX4_reckonLane_72 : decode cX4_reckonLane 72 = .ok (.invokevirtual 43, 3) := by decide +kernel
theorem dX4_reckonLane_75 : decode cX4_reckonLane 75 = .ok (.iastore, 1) := by decide +kernel
theorem dX4_reckonLane_76 : decode cX4_reckonLane 76 = .ok (.iinc 4 1, 3) := by decide +kernel
theorem dX4_reckonLane_79 : decode cX4_reckonLane 79 = .ok (.goto (-76), 3) := by decide +kernel
theorem dX4_reckonLane_82 : decode cX4_reckonLane 82 = .ok (.aload_n 0, 1) := by decide +kernel
theorem dX4_reckonLane_83 : decode cX4_reckonLane 83 = .ok (.getfield 9, 3) := by decide +kernel
theorem dX4_reckonLane_86 : decode cX4_reckonLane 86 = .ok (.iload_n 3, 1) := by decide +kernel
theorem dX4_reckonLane_87 : decode cX4_reckonLane 87 = .ok (.iaload, 1) := by decide +kernel
theorem dX4_reckonLane_88 : decode cX4_reckonLane 88 = .ok (.ireturn, 1) := by decide +kernel
theorem dX4_reckonOne_0 : decode cX4_reckonOne 0 = .ok (.aload_n 1, 1) := by decide +kernel
theorem dX4_reckonOne_1 : decode cX4_reckonOne 1 = .ok (.getfield 40, 3) := by decide +kernel
theorem dX4_reckonOne_4 : decode cX4_reckonOne 4 = .ok (.iconst 3, 1) := by decide +kernel
theorem dX4_reckonOne_5 : decode cX4_reckonOne 5 = .ok (.iload_n 3, 1) := by decide +kernel
theorem dX4_reckonOne_6 : decode cX4_reckonOne 6 = .ok (.imul, 1) := by decide +kernel
theorem dX4_reckonOne_7 : decode cX4_reckonOne 7 = .ok (.iaload, 1) := by decide +kernel
theorem dX4_reckonOne_8 : decode cX4_reckonOne 8 = .ok (.istore 4, 2) := by decide +kernel
theorem dX4_reckonOne_10 : decode cX4_reckonOne 10 = .ok (.aload_n 1, 1) := by decide +kernel
theorem dX4_reckonOne_11 : decode cX4_reckonOne 11 = .ok (.getfield 31, 3) := by decide +kernel
theorem dX4_reckonOne_14 : decode cX4_reckonOne 14 = .ok (.iload_n 3, 1) := by decide +kernel
theorem dX4_reckonOne_15 : decode cX4_reckonOne 15 = .ok (.iaload, 1) := by decide +kernel
theorem dX4_reckonOne_16 : decode cX4_reckonOne 16 = .ok (.lookupswitch 46 #[(0, 28), (1, 43)], 28) := by decide +kernel
theorem dX4_reckonOne_44 : decode cX4_reckonOne 44 = .ok (.aload_n 0, 1) := by decide +kernel
theorem dX4_reckonOne_45 : decode cX4_reckonOne 45 = .ok (.getfield 27, 3) := by decide +kernel
theorem dX4_reckonOne_48 : decode cX4_reckonOne 48 = .ok (.getfield 47, 3) := by decide +kernel
theorem dX4_reckonOne_51 : decode cX4_reckonOne 51 = .ok (.iconst 4, 1) := by decide +kernel
theorem dX4_reckonOne_52 : decode cX4_reckonOne 52 = .ok (.iload 4, 2) := by decide +kernel
theorem dX4_reckonOne_54 : decode cX4_reckonOne 54 = .ok (.imul, 1) := by decide +kernel
theorem dX4_reckonOne_55 : decode cX4_reckonOne 55 = .ok (.iload_n 2, 1) := by decide +kernel
theorem dX4_reckonOne_56 : decode cX4_reckonOne 56 = .ok (.iadd, 1) := by decide +kernel
theorem dX4_reckonOne_57 : decode cX4_reckonOne 57 = .ok (.iaload, 1) := by decide +kernel
theorem dX4_reckonOne_58 : decode cX4_reckonOne 58 = .ok (.ireturn, 1) := by decide +kernel
theorem dX4_reckonOne_59 : decode cX4_reckonOne 59 = .ok (.iload 4, 2) := by decide +kernel
theorem dX4_reckonOne_61 : decode cX4_reckonOne 61 = .ok (.ireturn, 1) := by decide +kernel
theorem dX4_reckonOne_62 : decode cX4_reckonOne 62 = .ok (.aload_n 1, 1) := by decide +kernel
theorem dX4_reckonOne_63 : decode cX4_reckonOne 63 = .ok (.getfield 31, 3) := by decide +kernel
theorem dX4_reckonOne_66 : decode cX4_reckonOne 66 = .ok (.iload_n 3, 1) := by decide +kernel
theorem dX4_reckonOne_67 : decode cX4_reckonOne 67 = .ok (.iaload, 1) := by decide +kernel
theorem dX4_reckonOne_68 : decode cX4_reckonOne 68 = .ok (.aload_n 0, 1) := by decide +kernel
theorem dX4_reckonOne_69 : decode cX4_reckonOne 69 = .ok (.getfield 24, 3) := by decide +kernel
theorem dX4_reckonOne_72 : decode cX4_reckonOne 72 = .ok (.iconst 0, 1) := by decide +kernel
theorem dX4_reckonOne_73 : decode cX4_reckonOne 73 = .ok (.iaload, 1) := by decide +kernel
theorem dX4_reckonOne_74 : decode cX4_reckonOne 74 = .ok (.aload_n 0, 1) := by decide +kernel
theorem dX4_reckonOne_75 : decode cX4_reckonOne 75 = .ok (.getfield 24, 3) := by decide +kernel
theorem dX4_reckonOne_78 : decode cX4_reckonOne 78 = .ok (.iconst 1, 1) := by decide +kernel
theorem dX4_reckonOne_79 : decode cX4_reckonOne 79 = .ok (.iaload, 1) := by decide +kernel
theorem dX4_reckonOne_80 : decode cX4_reckonOne 80 = .ok (.aload_n 0, 1) := by decide +kernel
theorem dX4_reckonOne_81 : decode cX4_reckonOne 81 = .ok (.getfield 24, 3) := by decide +kernel
theorem dX4_reckonOne_84 : decode cX4_reckonOne 84 = .ok (.iconst 2, 1) := by decide +kernel
theorem dX4_reckonOne_85 : decode cX4_reckonOne 85 = .ok (.iaload, 1) := by decide +kernel
theorem dX4_reckonOne_86 : decode cX4_reckonOne 86 = .ok (.aload_n 0, 1) := by decide +kernel
theorem dX4_reckonOne_87 : decode cX4_reckonOne 87 = .ok (.getfield 27, 3) := by decide +kernel
theorem dX4_reckonOne_90 : decode cX4_reckonOne 90 = .ok (.getfield 52, 3) := by decide +kernel
theorem dX4_reckonOne_93 : decode cX4_reckonOne 93 = .ok (.invokestatic 55, 3) := by decide +kernel
theorem dX4_reckonOne_96 : decode cX4_reckonOne 96 = .ok (.ireturn, 1) := by decide +kernel
theorem dX4_walk_0 : decode cX4_walk 0 = .ok (.iconst 0, 1) := by decide +kernel
theorem dX4_walk_1 : decode cX4_walk 1 = .ok (.istore 4, 2) := by decide +kernel
theorem dX4_walk_3 : decode cX4_walk 3 = .ok (.iconst 0, 1) := by decide +kernel
theorem dX4_walk_4 : decode cX4_walk 4 = .ok (.istore 5, 2) := by decide +kernel
theorem dX4_walk_6 : decode cX4_walk 6 = .ok (.aload_n 0, 1) := by decide +kernel
theorem dX4_walk_7 : decode cX4_walk 7 = .ok (.iconst 0, 1) := by decide +kernel
theorem dX4_walk_8 : decode cX4_walk 8 = .ok (.putfield 58, 3) := by decide +kernel
theorem dX4_walk_11 : decode cX4_walk 11 = .ok (.iconst 0, 1) := by decide +kernel
theorem dX4_walk_12 : decode cX4_walk 12 = .ok (.istore 6, 2) := by decide +kernel
theorem dX4_walk_14 : decode cX4_walk 14 = .ok (.iload 6, 2) := by decide +kernel
theorem dX4_walk_16 : decode cX4_walk 16 = .ok (.sipush 10000, 3) := by decide +kernel
theorem dX4_walk_19 : decode cX4_walk 19 = .ok (.if_icmp .ge 58, 3) := by decide +kernel
theorem dX4_walk_22 : decode cX4_walk 22 = .ok (.iload 5, 2) := by decide +kernel
theorem dX4_walk_24 : decode cX4_walk 24 = .ok (.aload_n 1, 1) := by decide +kernel
theorem dX4_walk_25 : decode cX4_walk 25 = .ok (.getfield 62, 3) := by decide +kernel
theorem dX4_walk_28 : decode cX4_walk 28 = .ok (.if_icmp .ge 49, 3) := by decide +kernel
theorem dX4_walk_31 : decode cX4_walk 31 = .ok (.aload_n 1, 1) := by decide +kernel
theorem dX4_walk_32 : decode cX4_walk 32 = .ok (.getfield 67, 3) := by decide +kernel
theorem dX4_walk_35 : decode cX4_walk 35 = .ok (.iload 5, 2) := by decide +kernel
theorem dX4_walk_37 : decode cX4_walk 37 = .ok (.iaload, 1) := by decide +kernel
theorem dX4_walk_38 : decode cX4_walk 38 = .ok (.bipush 9, 2) := by decide +kernel
theorem dX4_walk_40 : decode cX4_walk 40 = .ok (.if_icmp .ne 21, 3) := by decide +kernel
theorem dX4_walk_43 : decode cX4_walk 43 = .ok (.iload 4, 2) := by decide +kernel
theorem dX4_walk_45 : decode cX4_walk 45 = .ok (.iload_n 3, 1) := by decide +kernel
theorem dX4_walk_46 : decode cX4_walk 46 = .ok (.if_icmp .ne 12, 3) := by decide +kernel
theorem dX4_walk_49 : decode cX4_walk 49 = .ok (.aload_n 0, 1) := by decide +kernel
theorem dX4_walk_50 : decode cX4_walk 50 = .ok (.aload_n 1, 1) := by decide +kernel
theorem dX4_walk_51 : decode cX4_walk 51 = .ok (.iload 5, 2) := by decide +kernel
theorem dX4_walk_53 : decode cX4_walk 53 = .ok (.iconst 0, 1) := by decide +kernel
theorem dX4_walk_54 : decode cX4_walk 54 = .ok (.invokevirtual 70, 3) := by decide +kernel
theorem dX4_walk_57 : decode cX4_walk 57 = .ok (.ireturn, 1) := by decide +kernel
theorem dX4_walk_58 : decode cX4_walk 58 = .ok (.iinc 4 1, 3) := by decide +kernel
theorem dX4_walk_61 : decode cX4_walk 61 = .ok (.aload_n 0, 1) := by decide +kernel
theorem dX4_walk_62 : decode cX4_walk 62 = .ok (.aload_n 1, 1) := by decide +kernel
theorem dX4_walk_63 : decode cX4_walk 63 = .ok (.iload 5, 2) := by decide +kernel
theorem dX4_walk_65 : decode cX4_walk 65 = .ok (.iload_n 2, 1) := by decide +kernel
theorem dX4_walk_66 : decode cX4_walk 66 = .ok (.invokevirtual 74, 3) := by decide +kernel
theorem dX4_walk_69 : decode cX4_walk 69 = .ok (.istore 5, 2) := by decide +kernel
theorem dX4_walk_71 : decode cX4_walk 71 = .ok (.iinc 6 1, 3) := by decide +kernel
theorem dX4_walk_74 : decode cX4_walk 74 = .ok (.goto (-60), 3) := by decide +kernel
theorem dX4_walk_77 : decode cX4_walk 77 = .ok (.iconst (-1), 1) := by decide +kernel
theorem dX4_walk_78 : decode cX4_walk 78 = .ok (.ireturn, 1) := by decide +kernel
theorem dX4_walkLine_0 : decode cX4_walkLine 0 = .ok (.aload_n 1, 1) := by decide +kernel
theorem dX4_walkLine_1 : decode cX4_walkLine 1 = .ok (.getfield 67, 3) := by decide +kernel
theorem dX4_walkLine_4 : decode cX4_walkLine 4 = .ok (.iload_n 2, 1) := by decide +kernel
theorem dX4_walkLine_5 : decode cX4_walkLine 5 = .ok (.iaload, 1) := by decide +kernel
theorem dX4_walkLine_6 : decode cX4_walkLine 6 = .ok (.tableswitch 163 0 8 #[50, 163, 163, 163, 83, 93, 119, 128, 142], 50) := by decide +kernel
theorem dX4_walkLine_56 : decode cX4_walkLine 56 = .ok (.aload_n 0, 1) := by decide +kernel
theorem dX4_walkLine_57 : decode cX4_walkLine 57 = .ok (.getfield 15, 3) := by decide +kernel
theorem dX4_walkLine_60 : decode cX4_walkLine 60 = .ok (.aload_n 1, 1) := by decide +kernel
theorem dX4_walkLine_61 : decode cX4_walkLine 61 = .ok (.getfield 77, 3) := by decide +kernel
theorem dX4_walkLine_64 : decode cX4_walkLine 64 = .ok (.iload_n 2, 1) := by decide +kernel
theorem dX4_walkLine_65 : decode cX4_walkLine 65 = .ok (.iaload, 1) := by decide +kernel
theorem dX4_walkLine_66 : decode cX4_walkLine 66 = .ok (.aload_n 0, 1) := by decide +kernel
theorem dX4_walkLine_67 : decode cX4_walkLine 67 = .ok (.getfield 27, 3) := by decide +kernel
theorem dX4_walkLine_70 : decode cX4_walkLine 70 = .ok (.getfield 47, 3) := by decide +kernel
theorem dX4_walkLine_73 : decode cX4_walkLine 73 = .ok (.iconst 4, 1) := by decide +kernel
theorem dX4_walkLine_74 : decode cX4_walkLine 74 = .ok (.aload_n 1, 1) := by decide +kernel
theorem dX4_walkLine_75 : decode cX4_walkLine 75 = .ok (.getfield 78, 3) := by decide +kernel
theorem dX4_walkLine_78 : decode cX4_walkLine 78 = .ok (.iload_n 2, 1) := by decide +kernel
theorem dX4_walkLine_79 : decode cX4_walkLine 79 = .ok (.iaload, 1) := by decide +kernel
theorem dX4_walkLine_80 : decode cX4_walkLine 80 = .ok (.imul, 1) := by decide +kernel
theorem dX4_walkLine_81 : decode cX4_walkLine 81 = .ok (.iload_n 3, 1) := by decide +kernel
theorem dX4_walkLine_82 : decode cX4_walkLine 82 = .ok (.iadd, 1) := by decide +kernel
theorem dX4_walkLine_83 : decode cX4_walkLine 83 = .ok (.iaload, 1) := by decide +kernel
theorem dX4_walkLine_84 : decode cX4_walkLine 84 = .ok (.iastore, 1) := by decide +kernel
theorem dX4_walkLine_85 : decode cX4_walkLine 85 = .ok (.iload_n 2, 1) := by decide +kernel
theorem dX4_walkLine_86 : decode cX4_walkLine 86 = .ok (.iconst 1, 1) := by decide +kernel
theorem dX4_walkLine_87 : decode cX4_walkLine 87 = .ok (.iadd, 1) := by decide +kernel
theorem dX4_walkLine_88 : decode cX4_walkLine 88 = .ok (.ireturn, 1) := by decide +kernel
theorem dX4_walkLine_89 : decode cX4_walkLine 89 = .ok (.aload_n 0, 1) := by decide +kernel
theorem dX4_walkLine_90 : decode cX4_walkLine 90 = .ok (.aload_n 1, 1) := by decide +kernel
theorem dX4_walkLine_91 : decode cX4_walkLine 91 = .ok (.iload_n 2, 1) := by decide +kernel
theorem dX4_walkLine_92 : decode cX4_walkLine 92 = .ok (.invokevirtual 79, 3) := by decide +kernel
theorem dX4_walkLine_95 : decode cX4_walkLine 95 = .ok (.iload_n 2, 1) := by decide +kernel
theorem dX4_walkLine_96 : decode cX4_walkLine 96 = .ok (.iconst 1, 1) := by decide +kernel
theorem dX4_walkLine_97 : decode cX4_walkLine 97 = .ok (.iadd, 1) := by decide +kernel
theorem dX4_walkLine_98 : decode cX4_walkLine 98 = .ok (.ireturn, 1) := by decide +kernel
theorem dX4_walkLine_99 : decode cX4_walkLine 99 = .ok (.aload_n 0, 1) := by decide +kernel
theorem dX4_walkLine_100 : decode cX4_walkLine 100 = .ok (.aload_n 1, 1) := by decide +kernel
theorem dX4_walkLine_101 : decode cX4_walkLine 101 = .ok (.iload_n 2, 1) := by decide +kernel
theorem dX4_walkLine_102 : decode cX4_walkLine 102 = .ok (.iconst 0, 1) := by decide +kernel
theorem dX4_walkLine_103 : decode cX4_walkLine 103 = .ok (.invokevirtual 70, 3) := by decide +kernel
theorem dX4_walkLine_106 : decode cX4_walkLine 106 = .ok (.iconst 1, 1) := by decide +kernel
theorem dX4_walkLine_107 : decode cX4_walkLine 107 = .ok (.if_icmp .ne 9, 3) := by decide +kernel
theorem dX4_walkLine_110 : decode cX4_walkLine 110 = .ok (.iload_n 2, 1) := by decide +kernel
theorem dX4_walkLine_111 : decode cX4_walkLine 111 = .ok (.iconst 1, 1) := by decide +kernel
theorem dX4_walkLine_112 : decode cX4_walkLine 112 = .ok (.iadd, 1) := by decide +kernel
theorem dX4_walkLine_113 : decode cX4_walkLine 113 = .ok (.goto 11, 3) := by decide +kernel
theorem dX4_walkLine_116 : decode cX4_walkLine 116 = .ok (.aload_n 1, 1) := by decide +kernel
theorem dX4_walkLine_117 : decode cX4_walkLine 117 = .ok (.getfield 83, 3) := by decide +kernel
theorem dX4_walkLine_120 : decode cX4_walkLine 120 = .ok (.iload_n 2, 1) := by decide +kernel
theorem dX4_walkLine_121 : decode cX4_walkLine 121 = .ok (.iaload, 1) := by decide +kernel
theorem dX4_walkLine_122 : decode cX4_walkLine 122 = .ok (.iconst 1, 1) := by decide +kernel
theorem dX4_walkLine_123 : decode cX4_walkLine 123 = .ok (.iadd, 1) := by decide +kernel
theorem dX4_walkLine_124 : decode cX4_walkLine 124 = .ok (.ireturn, 1) := by decide +kernel
theorem dX4_walkLine_125 : decode cX4_walkLine 125 = .ok (.aload_n 1, 1) := by decide +kernel
theorem dX4_walkLine_126 : decode cX4_walkLine 126 = .ok (.getfield 83, 3) := by decide +kernel
theorem dX4_walkLine_129 : decode cX4_walkLine 129 = .ok (.iload_n 2, 1) := by decide +kernel
theorem dX4_walkLine_130 : decode cX4_walkLine 130 = .ok (.iaload, 1) := by decide +kernel
theorem dX4_walkLine_131 : decode cX4_walkLine 131 = .ok (.iconst 1, 1) := by decide +kernel
theorem dX4_walkLine_132 : decode cX4_walkLine 132 = .ok (.iadd, 1) := by decide +kernel
theorem dX4_walkLine_133 : decode cX4_walkLine 133 = .ok (.ireturn, 1) := by decide +kernel
theorem dX4_walkLine_134 : decode cX4_walkLine 134 = .ok (.aload_n 0, 1) := by decide +kernel
theorem dX4_walkLine_135 : decode cX4_walkLine 135 = .ok (.aload_n 1, 1) := by decide +kernel
theorem dX4_walkLine_136 : decode cX4_walkLine 136 = .ok (.getfield 78, 3) := by decide +kernel
theorem dX4_walkLine_139 : decode cX4_walkLine 139 = .ok (.iload_n 2, 1) := by decide +kernel
theorem dX4_walkLine_140 : decode cX4_walkLine 140 = .ok (.iaload, 1) := by decide +kernel
theorem dX4_walkLine_141 : decode cX4_walkLine 141 = .ok (.invokevirtual 86, 3) := by decide +kernel
theorem dX4_walkLine_144 : decode cX4_walkLine 144 = .ok (.iload_n 2, 1) := by decide +kernel
theorem dX4_walkLine_145 : decode cX4_walkLine 145 = .ok (.iconst 1, 1) := by decide +kernel
theorem dX4_walkLine_146 : decode cX4_walkLine 146 = .ok (.iadd, 1) := by decide +kernel
theorem dX4_walkLine_147 : decode cX4_walkLine 147 = .ok (.ireturn, 1) := by decide +kernel
theorem dX4_walkLine_148 : decode cX4_walkLine 148 = .ok (.aload_n 1, 1) := by decide +kernel
theorem dX4_walkLine_149 : decode cX4_walkLine 149 = .ok (.iload_n 2, 1) := by decide +kernel
theorem dX4_walkLine_150 : decode cX4_walkLine 150 = .ok (.invokevirtual 90, 3) := by decide +kernel
theorem dX4_walkLine_153 : decode cX4_walkLine 153 = .ok (.ifCond .eq 12, 3) := by decide +kernel
theorem dX4_walkLine_156 : decode cX4_walkLine 156 = .ok (.aload_n 0, 1) := by decide +kernel
theorem dX4_walkLine_157 : decode cX4_walkLine 157 = .ok (.aload_n 1, 1) := by decide +kernel
theorem dX4_walkLine_158 : decode cX4_walkLine 158 = .ok (.iload_n 2, 1) := by decide +kernel
theorem dX4_walkLine_159 : decode cX4_walkLine 159 = .ok (.invokevirtual 94, 3) := by decide +kernel
theorem dX4_walkLine_162 : decode cX4_walkLine 162 = .ok (.goto 6, 3) := by decide +kernel
theorem dX4_walkLine_165 : decode cX4_walkLine 165 = .ok (.iload_n 2, 1) := by decide +kernel
theorem dX4_walkLine_166 : decode cX4_walkLine 166 = .ok (.iconst 1, 1) := by decide +kernel
theorem dX4_walkLine_167 : decode cX4_walkLine 167 = .ok (.iadd, 1) := by decide +kernel
theorem dX4_walkLine_168 : decode cX4_walkLine 168 = .ok (.ireturn, 1) := by decide +kernel
theorem dX4_walkLine_169 : decode cX4_walkLine 169 = .ok (.iload_n 2, 1) := by decide +kernel
theorem dX4_walkLine_170 : decode cX4_walkLine 170 = .ok (.iconst 1, 1) := by decide +kernel
theorem dX4_walkLine_171 : decode cX4_walkLine 171 = .ok (.iadd, 1) := by decide +kernel
theorem dX4_walkLine_172 : decode cX4_walkLine 172 = .ok (.ireturn, 1) := by decide +kernel
theorem dX4_walkIs_0 : decode cX4_walkIs 0 = .ok (.aload_n 1, 1) := by decide +kernel
theorem dX4_walkIs_1 : decode cX4_walkIs 1 = .ok (.getfield 98, 3) := by decide +kernel
theorem dX4_walkIs_4 : decode cX4_walkIs 4 = .ok (.iload_n 2, 1) := by decide +kernel
theorem dX4_walkIs_5 : decode cX4_walkIs 5 = .ok (.iaload, 1) := by decide +kernel
theorem dX4_walkIs_6 : decode cX4_walkIs 6 = .ok (.istore_n 3, 1) := by decide +kernel
theorem dX4_walkIs_7 : decode cX4_walkIs 7 = .ok (.iconst 0, 1) := by decide +kernel
theorem dX4_walkIs_8 : decode cX4_walkIs 8 = .ok (.istore 4, 2) := by decide +kernel
theorem dX4_walkIs_10 : decode cX4_walkIs 10 = .ok (.iload 4, 2) := by decide +kernel
theorem dX4_walkIs_12 : decode cX4_walkIs 12 = .ok (.iload_n 3, 1) := by decide +kernel
theorem dX4_walkIs_13 : decode cX4_walkIs 13 = .ok (.invokestatic 36, 3) := by decide +kernel
theorem dX4_walkIs_16 : decode cX4_walkIs 16 = .ok (.if_icmp .ge 24, 3) := by decide +kernel
theorem dX4_walkIs_19 : decode cX4_walkIs 19 = .ok (.aload_n 0, 1) := by decide +kernel
theorem dX4_walkIs_20 : decode cX4_walkIs 20 = .ok (.getfield 24, 3) := by decide +kernel
theorem dX4_walkIs_23 : decode cX4_walkIs 23 = .ok (.iload 4, 2) := by decide +kernel
theorem dX4_walkIs_25 : decode cX4_walkIs 25 = .ok (.aload_n 0, 1) := by decide +kernel
theorem dX4_walkIs_26 : decode cX4_walkIs 26 = .ok (.aload_n 1, 1) := by decide +kernel
theorem dX4_walkIs_27 : decode cX4_walkIs 27 = .ok (.iload_n 2, 1) := by decide +kernel
theorem dX4_walkIs_28 : decode cX4_walkIs 28 = .ok (.iload 4, 2) := by decide +kernel
theorem dX4_walkIs_30 : decode cX4_walkIs 30 = .ok (.invokevirtual 70, 3) := by decide +kernel
theorem dX4_walkIs_33 : decode cX4_walkIs 33 = .ok (.iastore, 1) := by decide +kernel
theorem dX4_walkIs_34 : decode cX4_walkIs 34 = .ok (.iinc 4 1, 3) := by decide +kernel
theorem dX4_walkIs_37 : decode cX4_walkIs 37 = .ok (.goto (-27), 3) := by decide +kernel
theorem dX4_walkIs_40 : decode cX4_walkIs 40 = .ok (.aload_n 0, 1) := by decide +kernel
theorem dX4_walkIs_41 : decode cX4_walkIs 41 = .ok (.getfield 15, 3) := by decide +kernel
theorem dX4_walkIs_44 : decode cX4_walkIs 44 = .ok (.aload_n 1, 1) := by decide +kernel
theorem dX4_walkIs_45 : decode cX4_walkIs 45 = .ok (.getfield 77, 3) := by decide +kernel
theorem dX4_walkIs_48 : decode cX4_walkIs 48 = .ok (.iload_n 2, 1) := by decide +kernel
theorem dX4_walkIs_49 : decode cX4_walkIs 49 = .ok (.iaload, 1) := by decide +kernel
theorem dX4_walkIs_50 : decode cX4_walkIs 50 = .ok (.iload_n 3, 1) := by decide +kernel
theorem dX4_walkIs_51 : decode cX4_walkIs 51 = .ok (.aload_n 0, 1) := by decide +kernel
theorem dX4_walkIs_52 : decode cX4_walkIs 52 = .ok (.getfield 24, 3) := by decide +kernel
theorem dX4_walkIs_55 : decode cX4_walkIs 55 = .ok (.iconst 0, 1) := by decide +kernel
theorem dX4_walkIs_56 : decode cX4_walkIs 56 = .ok (.iaload, 1) := by decide +kernel
theorem dX4_walkIs_57 : decode cX4_walkIs 57 = .ok (.aload_n 0, 1) := by decide +kernel
theorem dX4_walkIs_58 : decode cX4_walkIs 58 = .ok (.getfield 24, 3) := by decide +kernel
theorem dX4_walkIs_61 : decode cX4_walkIs 61 = .ok (.iconst 1, 1) := by decide +kernel
theorem dX4_walkIs_62 : decode cX4_walkIs 62 = .ok (.iaload, 1) := by decide +kernel
theorem dX4_walkIs_63 : decode cX4_walkIs 63 = .ok (.aload_n 0, 1) := by decide +kernel
theorem dX4_walkIs_64 : decode cX4_walkIs 64 = .ok (.getfield 24, 3) := by decide +kernel
theorem dX4_walkIs_67 : decode cX4_walkIs 67 = .ok (.iconst 2, 1) := by decide +kernel
theorem dX4_walkIs_68 : decode cX4_walkIs 68 = .ok (.iaload, 1) := by decide +kernel
theorem dX4_walkIs_69 : decode cX4_walkIs 69 = .ok (.aload_n 0, 1) := by decide +kernel
theorem dX4_walkIs_70 : decode cX4_walkIs 70 = .ok (.getfield 27, 3) := by decide +kernel
theorem dX4_walkIs_73 : decode cX4_walkIs 73 = .ok (.getfield 52, 3) := by decide +kernel
theorem dX4_walkIs_76 : decode cX4_walkIs 76 = .ok (.invokestatic 55, 3) := by decide +kernel
theorem dX4_walkIs_79 : decode cX4_walkIs 79 = .ok (.iastore, 1) := by decide +kernel
theorem dX4_walkIs_80 : decode cX4_walkIs 80 = .ok (.return_, 1) := by decide +kernel
theorem dX4_walkTimes_0 : decode cX4_walkTimes 0 = .ok (.aload_n 0, 1) := by decide +kernel
theorem dX4_walkTimes_1 : decode cX4_walkTimes 1 = .ok (.getfield 58, 3) := by decide +kernel
theorem dX4_walkTimes_4 : decode cX4_walkTimes 4 = .ok (.iconst 4, 1) := by decide +kernel
theorem dX4_walkTimes_5 : decode cX4_walkTimes 5 = .ok (.if_icmp .ge 23, 3) := by decide +kernel
theorem dX4_walkTimes_8 : decode cX4_walkTimes 8 = .ok (.aload_n 0, 1) := by decide +kernel
theorem dX4_walkTimes_9 : decode cX4_walkTimes 9 = .ok (.getfield 18, 3) := by decide +kernel
theorem dX4_walkTimes_12 : decode cX4_walkTimes 12 = .ok (.aload_n 0, 1) := by decide +kernel
theorem dX4_walkTimes_13 : decode cX4_walkTimes 13 = .ok (.getfield 58, 3) := by decide +kernel
theorem dX4_walkTimes_16 : decode cX4_walkTimes 16 = .ok (.iload_n 1, 1) := by decide +kernel
theorem dX4_walkTimes_17 : decode cX4_walkTimes 17 = .ok (.iastore, 1) := by decide +kernel
theorem dX4_walkTimes_18 : decode cX4_walkTimes 18 = .ok (.aload_n 0, 1) := by decide +kernel
theorem dX4_walkTimes_19 : decode cX4_walkTimes 19 = .ok (.dup, 1) := by decide +kernel
theorem dX4_walkTimes_20 : decode cX4_walkTimes 20 = .ok (.getfield 58, 3) := by decide +kernel
theorem dX4_walkTimes_23 : decode cX4_walkTimes 23 = .ok (.iconst 1, 1) := by decide +kernel
theorem dX4_walkTimes_24 : decode cX4_walkTimes 24 = .ok (.iadd, 1) := by decide +kernel
theorem dX4_walkTimes_25 : decode cX4_walkTimes 25 = .ok (.putfield 58, 3) := by decide +kernel
theorem dX4_walkTimes_28 : decode cX4_walkTimes 28 = .ok (.return_, 1) := by decide +kernel
theorem dX4_walkTimesEnd_0 : decode cX4_walkTimesEnd 0 = .ok (.aload_n 0, 1) := by decide +kernel
theorem dX4_walkTimesEnd_1 : decode cX4_walkTimesEnd 1 = .ok (.getfield 58, 3) := by decide +kernel
theorem dX4_walkTimesEnd_4 : decode cX4_walkTimesEnd 4 = .ok (.ifCond .ne 7, 3) := by decide +kernel
theorem dX4_walkTimesEnd_7 : decode cX4_walkTimesEnd 7 = .ok (.iload_n 2, 1) := by decide +kernel
theorem dX4_walkTimesEnd_8 : decode cX4_walkTimesEnd 8 = .ok (.iconst 1, 1) := by decide +kernel
theorem dX4_walkTimesEnd_9 : decode cX4_walkTimesEnd 9 = .ok (.iadd, 1) := by decide +kernel
theorem dX4_walkTimesEnd_10 : decode cX4_walkTimesEnd 10 = .ok (.ireturn, 1) := by decide +kernel
theorem dX4_walkTimesEnd_11 : decode cX4_walkTimesEnd 11 = .ok (.aload_n 0, 1) := by decide +kernel
theorem dX4_walkTimesEnd_12 : decode cX4_walkTimesEnd 12 = .ok (.getfield 18, 3) := by decide +kernel
theorem dX4_walkTimesEnd_15 : decode cX4_walkTimesEnd 15 = .ok (.aload_n 0, 1) := by decide +kernel
theorem dX4_walkTimesEnd_16 : decode cX4_walkTimesEnd 16 = .ok (.getfield 58, 3) := by decide +kernel
theorem dX4_walkTimesEnd_19 : decode cX4_walkTimesEnd 19 = .ok (.iconst 1, 1) := by decide +kernel
theorem dX4_walkTimesEnd_20 : decode cX4_walkTimesEnd 20 = .ok (.isub, 1) := by decide +kernel
theorem dX4_walkTimesEnd_21 : decode cX4_walkTimesEnd 21 = .ok (.dup2, 1) := by decide +kernel
theorem dX4_walkTimesEnd_22 : decode cX4_walkTimesEnd 22 = .ok (.iaload, 1) := by decide +kernel
theorem dX4_walkTimesEnd_23 : decode cX4_walkTimesEnd 23 = .ok (.iconst 1, 1) := by decide +kernel
theorem dX4_walkTimesEnd_24 : decode cX4_walkTimesEnd 24 = .ok (.isub, 1) := by decide +kernel
theorem dX4_walkTimesEnd_25 : decode cX4_walkTimesEnd 25 = .ok (.iastore, 1) := by decide +kernel
theorem dX4_walkTimesEnd_26 : decode cX4_walkTimesEnd 26 = .ok (.aload_n 0, 1) := by decide +kernel
theorem dX4_walkTimesEnd_27 : decode cX4_walkTimesEnd 27 = .ok (.getfield 18, 3) := by decide +kernel
theorem dX4_walkTimesEnd_30 : decode cX4_walkTimesEnd 30 = .ok (.aload_n 0, 1) := by decide +kernel
theorem dX4_walkTimesEnd_31 : decode cX4_walkTimesEnd 31 = .ok (.getfield 58, 3) := by decide +kernel
theorem dX4_walkTimesEnd_34 : decode cX4_walkTimesEnd 34 = .ok (.iconst 1, 1) := by decide +kernel
theorem dX4_walkTimesEnd_35 : decode cX4_walkTimesEnd 35 = .ok (.isub, 1) := by decide +kernel
theorem dX4_walkTimesEnd_36 : decode cX4_walkTimesEnd 36 = .ok (.iaload, 1) := by decide +kernel
theorem dX4_walkTimesEnd_37 : decode cX4_walkTimesEnd 37 = .ok (.ifCond .le 12, 3) := by decide +kernel
theorem dX4_walkTimesEnd_40 : decode cX4_walkTimesEnd 40 = .ok (.aload_n 1, 1) := by decide +kernel
theorem dX4_walkTimesEnd_41 : decode cX4_walkTimesEnd 41 = .ok (.getfield 83, 3) := by decide +kernel
theorem dX4_walkTimesEnd_44 : decode cX4_walkTimesEnd 44 = .ok (.iload_n 2, 1) := by decide +kernel
theorem dX4_walkTimesEnd_45 : decode cX4_walkTimesEnd 45 = .ok (.iaload, 1) := by decide +kernel
theorem dX4_walkTimesEnd_46 : decode cX4_walkTimesEnd 46 = .ok (.iconst 1, 1) := by decide +kernel
theorem dX4_walkTimesEnd_47 : decode cX4_walkTimesEnd 47 = .ok (.iadd, 1) := by decide +kernel
theorem dX4_walkTimesEnd_48 : decode cX4_walkTimesEnd 48 = .ok (.ireturn, 1) := by decide +kernel
theorem dX4_walkTimesEnd_49 : decode cX4_walkTimesEnd 49 = .ok (.aload_n 0, 1) := by decide +kernel
theorem dX4_walkTimesEnd_50 : decode cX4_walkTimesEnd 50 = .ok (.dup, 1) := by decide +kernel
theorem dX4_walkTimesEnd_51 : decode cX4_walkTimesEnd 51 = .ok (.getfield 58, 3) := by decide +kernel
theorem dX4_walkTimesEnd_54 : decode cX4_walkTimesEnd 54 = .ok (.iconst 1, 1) := by decide +kernel
theorem dX4_walkTimesEnd_55 : decode cX4_walkTimesEnd 55 = .ok (.isub, 1) := by decide +kernel
theorem dX4_walkTimesEnd_56 : decode cX4_walkTimesEnd 56 = .ok (.putfield 58, 3) := by decide +kernel
theorem dX4_walkTimesEnd_59 : decode cX4_walkTimesEnd 59 = .ok (.iload_n 2, 1) := by decide +kernel
theorem dX4_walkTimesEnd_60 : decode cX4_walkTimesEnd 60 = .ok (.iconst 1, 1) := by decide +kernel
theorem dX4_walkTimesEnd_61 : decode cX4_walkTimesEnd 61 = .ok (.iadd, 1) := by decide +kernel
theorem dX4_walkTimesEnd_62 : decode cX4_walkTimesEnd 62 = .ok (.ireturn, 1) := by decide +kernel
theorem dX4_argNumber_0 : decode cX4_argNumber 0 = .ok (.aload_n 1, 1) := by decide +kernel
theorem dX4_argNumber_1 : decode cX4_argNumber 1 = .ok (.getfield 101, 3) := by decide +kernel
theorem dX4_argNumber_4 : decode cX4_argNumber 4 = .ok (.iconst 3, 1) := by decide +kernel
theorem dX4_argNumber_5 : decode cX4_argNumber 5 = .ok (.iload_n 2, 1) := by decide +kernel
theorem dX4_argNumber_6 : decode cX4_argNumber 6 = .ok (.imul, 1) := by decide +kernel
theorem dX4_argNumber_7 : decode cX4_argNumber 7 = .ok (.iload_n 3, 1) := by decide +kernel
theorem dX4_argNumber_8 : decode cX4_argNumber 8 = .ok (.iadd, 1) := by decide +kernel
theorem dX4_argNumber_9 : decode cX4_argNumber 9 = .ok (.iaload, 1) := by decide +kernel
theorem dX4_argNumber_10 : decode cX4_argNumber 10 = .ok (.istore 4, 2) := by decide +kernel
theorem dX4_argNumber_12 : decode cX4_argNumber 12 = .ok (.iload 4, 2) := by decide +kernel
theorem dX4_argNumber_14 : decode cX4_argNumber 14 = .ok (.ifCond .lt 13, 3) := by decide +kernel
theorem dX4_argNumber_17 : decode cX4_argNumber 17 = .ok (.aload_n 0, 1) := by decide +kernel
theorem dX4_argNumber_18 : decode cX4_argNumber 18 = .ok (.getfield 15, 3) := by decide +kernel
theorem dX4_argNumber_21 : decode cX4_argNumber 21 = .ok (.iload 4, 2) := by decide +kernel
theorem dX4_argNumber_23 : decode cX4_argNumber 23 = .ok (.iaload, 1) := by decide +kernel
theorem dX4_argNumber_24 : decode cX4_argNumber 24 = .ok (.goto 7, 3) := by decide +kernel
theorem dX4_argNumber_27 : decode cX4_argNumber 27 = .ok (.iload 4, 2) := by decide +kernel
theorem dX4_argNumber_29 : decode cX4_argNumber 29 = .ok (.iconst (-1), 1) := by decide +kernel
theorem dX4_argNumber_30 : decode cX4_argNumber 30 = .ok (.ixor, 1) := by decide +kernel
theorem dX4_argNumber_31 : decode cX4_argNumber 31 = .ok (.ireturn, 1) := by decide +kernel
theorem dX4_run_0 : decode cX4_run 0 = .ok (.aload_n 1, 1) := by decide +kernel
theorem dX4_run_1 : decode cX4_run 1 = .ok (.getfield 102, 3) := by decide +kernel
theorem dX4_run_4 : decode cX4_run 4 = .ok (.astore_n 3, 1) := by decide +kernel
theorem dX4_run_5 : decode cX4_run 5 = .ok (.iconst 0, 1) := by decide +kernel
theorem dX4_run_6 : decode cX4_run 6 = .ok (.istore 4, 2) := by decide +kernel
theorem dX4_run_8 : decode cX4_run 8 = .ok (.iload 4, 2) := by decide +kernel
theorem dX4_run_10 : decode cX4_run 10 = .ok (.aload_n 1, 1) := by decide +kernel
theorem dX4_run_11 : decode cX4_run 11 = .ok (.getfield 108, 3) := by decide +kernel
theorem dX4_run_14 : decode cX4_run 14 = .ok (.if_icmp .ge 85, 3) := by decide +kernel
theorem dX4_run_17 : decode cX4_run 17 = .ok (.aload_n 1, 1) := by decide +kernel
theorem dX4_run_18 : decode cX4_run 18 = .ok (.getfield 111, 3) := by decide +kernel
theorem dX4_run_21 : decode cX4_run 21 = .ok (.iload 4, 2) := by decide +kernel
theorem dX4_run_23 : decode cX4_run 23 = .ok (.iaload, 1) := by decide +kernel
theorem dX4_run_24 : decode cX4_run 24 = .ok (.istore 5, 2) := by decide +kernel
theorem dX4_run_26 : decode cX4_run 26 = .ok (.iconst 0, 1) := by decide +kernel
theorem dX4_run_27 : decode cX4_run 27 = .ok (.istore 6, 2) := by decide +kernel
theorem dX4_run_29 : decode cX4_run 29 = .ok (.iload 6, 2) := by decide +kernel
theorem dX4_run_31 : decode cX4_run 31 = .ok (.aload_n 3, 1) := by decide +kernel
theorem dX4_run_32 : decode cX4_run 32 = .ok (.getfield 31, 3) := by decide +kernel
theorem dX4_run_35 : decode cX4_run 35 = .ok (.iload 5, 2) := by decide +kernel
theorem dX4_run_37 : decode cX4_run 37 = .ok (.iaload, 1) := by decide +kernel
theorem dX4_run_38 : decode cX4_run 38 = .ok (.invokestatic 36, 3) := by decide +kernel
theorem dX4_run_41 : decode cX4_run 41 = .ok (.if_icmp .ge 33, 3) := by decide +kernel
theorem dX4_run_44 : decode cX4_run 44 = .ok (.aload_n 0, 1) := by decide +kernel
theorem dX4_run_45 : decode cX4_run 45 = .ok (.getfield 24, 3) := by decide +kernel
theorem dX4_run_48 : decode cX4_run 48 = .ok (.iload 6, 2) := by decide +kernel
theorem dX4_run_50 : decode cX4_run 50 = .ok (.aload_n 0, 1) := by decide +kernel
theorem dX4_run_51 : decode cX4_run 51 = .ok (.aload_n 1, 1) := by decide +kernel
theorem dX4_run_52 : decode cX4_run 52 = .ok (.aload_n 3, 1) := by decide +kernel
theorem dX4_run_53 : decode cX4_run 53 = .ok (.getfield 40, 3) := by decide +kernel
theorem dX4_run_56 : decode cX4_run 56 = .ok (.iconst 3, 1) := by decide +kernel
theorem dX4_run_57 : decode cX4_run 57 = .ok (.iload 5, 2) := by decide +kernel
theorem dX4_run_59 : decode cX4_run 59 = .ok (.imul, 1) := by decide +kernel
theorem dX4_run_60 : decode cX4_run 60 = .ok (.iload 6, 2) := by decide +kernel
theorem dX4_run_62 : decode cX4_run 62 = .ok (.iadd, 1) := by decide +kernel
theorem dX4_run_63 : decode cX4_run 63 = .ok (.iaload, 1) := by decide +kernel
theorem dX4_run_64 : decode cX4_run 64 = .ok (.invokevirtual 114, 3) := by decide +kernel
theorem dX4_run_67 : decode cX4_run 67 = .ok (.iastore, 1) := by decide +kernel
theorem dX4_run_68 : decode cX4_run 68 = .ok (.iinc 6 1, 3) := by decide +kernel
theorem dX4_run_71 : decode cX4_run 71 = .ok (.goto (-42), 3) := by decide +kernel
theorem dX4_run_74 : decode cX4_run 74 = .ok (.aload_n 0, 1) := by decide +kernel
theorem dX4_run_75 : decode cX4_run 75 = .ok (.getfield 21, 3) := by decide +kernel
theorem dX4_run_78 : decode cX4_run 78 = .ok (.aload_n 1, 1) := by decide +kernel
theorem dX4_run_79 : decode cX4_run 79 = .ok (.iload 5, 2) := by decide +kernel
theorem dX4_run_81 : decode cX4_run 81 = .ok (.invokevirtual 118, 3) := by decide +kernel
theorem dX4_run_84 : decode cX4_run 84 = .ok (.aload_n 0, 1) := by decide +kernel
theorem dX4_run_85 : decode cX4_run 85 = .ok (.aload_n 3, 1) := by decide +kernel
theorem dX4_run_86 : decode cX4_run 86 = .ok (.iload_n 2, 1) := by decide +kernel
theorem dX4_run_87 : decode cX4_run 87 = .ok (.iload 5, 2) := by decide +kernel
theorem dX4_run_89 : decode cX4_run 89 = .ok (.invokevirtual 43, 3) := by decide +kernel
theorem dX4_run_92 : decode cX4_run 92 = .ok (.iastore, 1) := by decide +kernel
theorem dX4_run_93 : decode cX4_run 93 = .ok (.iinc 4 1, 3) := by decide +kernel
theorem dX4_run_96 : decode cX4_run 96 = .ok (.goto (-88), 3) := by decide +kernel
theorem dX4_run_99 : decode cX4_run 99 = .ok (.return_, 1) := by decide +kernel
theorem dX4_heldFor_0 : decode cX4_heldFor 0 = .ok (.aload_n 1, 1) := by decide +kernel
theorem dX4_heldFor_1 : decode cX4_heldFor 1 = .ok (.getfield 121, 3) := by decide +kernel
theorem dX4_heldFor_4 : decode cX4_heldFor 4 = .ok (.getfield 125, 3) := by decide +kernel
theorem dX4_heldFor_7 : decode cX4_heldFor 7 = .ok (.iload_n 2, 1) := by decide +kernel
theorem dX4_heldFor_8 : decode cX4_heldFor 8 = .ok (.iaload, 1) := by decide +kernel
theorem dX4_heldFor_9 : decode cX4_heldFor 9 = .ok (.istore_n 3, 1) := by decide +kernel
theorem dX4_heldFor_10 : decode cX4_heldFor 10 = .ok (.aload_n 1, 1) := by decide +kernel
theorem dX4_heldFor_11 : decode cX4_heldFor 11 = .ok (.getfield 130, 3) := by decide +kernel
theorem dX4_heldFor_14 : decode cX4_heldFor 14 = .ok (.iload_n 3, 1) := by decide +kernel
theorem dX4_heldFor_15 : decode cX4_heldFor 15 = .ok (.invokevirtual 134, 3) := by decide +kernel
theorem dX4_heldFor_18 : decode cX4_heldFor 18 = .ok (.ifCond .eq 13, 3) := by decide +kernel
theorem dX4_heldFor_21 : decode cX4_heldFor 21 = .ok (.aload_n 1, 1) := by decide +kernel
theorem dX4_heldFor_22 : decode cX4_heldFor 22 = .ok (.getfield 130, 3) := by decide +kernel
theorem dX4_heldFor_25 : decode cX4_heldFor 25 = .ok (.getfield 139, 3) := by decide +kernel
theorem dX4_heldFor_28 : decode cX4_heldFor 28 = .ok (.iload_n 3, 1) := by decide +kernel
theorem dX4_heldFor_29 : decode cX4_heldFor 29 = .ok (.iaload, 1) := by decide +kernel
theorem dX4_heldFor_30 : decode cX4_heldFor 30 = .ok (.ireturn, 1) := by decide +kernel
theorem dX4_heldFor_31 : decode cX4_heldFor 31 = .ok (.aload_n 0, 1) := by decide +kernel
theorem dX4_heldFor_32 : decode cX4_heldFor 32 = .ok (.getfield 21, 3) := by decide +kernel
theorem dX4_heldFor_35 : decode cX4_heldFor 35 = .ok (.aload_n 1, 1) := by decide +kernel
theorem dX4_heldFor_36 : decode cX4_heldFor 36 = .ok (.iload_n 3, 1) := by decide +kernel
theorem dX4_heldFor_37 : decode cX4_heldFor 37 = .ok (.invokevirtual 118, 3) := by decide +kernel
theorem dX4_heldFor_40 : decode cX4_heldFor 40 = .ok (.iaload, 1) := by decide +kernel
theorem dX4_heldFor_41 : decode cX4_heldFor 41 = .ok (.ireturn, 1) := by decide +kernel
theorem dX5_init_0 : decode cX5_init 0 = .ok (.aload_n 0, 1) := by decide +kernel
theorem dX5_init_1 : decode cX5_init 1 = .ok (.invokespecial 3, 3) := by decide +kernel
theorem dX5_init_4 : decode cX5_init 4 = .ok (.aload_n 0, 1) := by decide +kernel
theorem dX5_init_5 : decode cX5_init 5 = .ok (.bipush 64, 2) := by decide +kernel
theorem dX5_init_7 : decode cX5_init 7 = .ok (.newarray .int, 2) := by decide +kernel
theorem dX5_init_9 : decode cX5_init 9 = .ok (.putfield 9, 3) := by decide +kernel
theorem dX5_init_12 : decode cX5_init 12 = .ok (.aload_n 0, 1) := by decide +kernel
theorem dX5_init_13 : decode cX5_init 13 = .ok (.sipush 192, 3) := by decide +kernel
theorem dX5_init_16 : decode cX5_init 16 = .ok (.newarray .int, 2) := by decide +kernel
theorem dX5_init_18 : decode cX5_init 18 = .ok (.putfield 15, 3) := by decide +kernel
theorem dX5_init_21 : decode cX5_init 21 = .ok (.aload_n 0, 1) := by decide +kernel
theorem dX5_init_22 : decode cX5_init 22 = .ok (.bipush 64, 2) := by decide +kernel
theorem dX5_init_24 : decode cX5_init 24 = .ok (.newarray .int, 2) := by decide +kernel
theorem dX5_init_26 : decode cX5_init 26 = .ok (.putfield 18, 3) := by decide +kernel
theorem dX5_init_29 : decode cX5_init 29 = .ok (.aload_n 0, 1) := by decide +kernel
theorem dX5_init_30 : decode cX5_init 30 = .ok (.bipush 64, 2) := by decide +kernel
theorem dX5_init_32 : decode cX5_init 32 = .ok (.newarray .long, 2) := by decide +kernel
theorem dX5_init_34 : decode cX5_init 34 = .ok (.putfield 21, 3) := by decide +kernel
theorem dX5_init_37 : decode cX5_init 37 = .ok (.aload_n 0, 1) := by decide +kernel
theorem dX5_init_38 : decode cX5_init 38 = .ok (.bipush 64, 2) := by decide +kernel
theorem dX5_init_40 : decode cX5_init 40 = .ok (.newarray .long, 2) := by decide +kernel
theorem dX5_init_42 : decode cX5_init 42 = .ok (.putfield 25, 3) := by decide +kernel
theorem dX5_init_45 : decode cX5_init 45 = .ok (.aload_n 0, 1) := by decide +kernel
theorem dX5_init_46 : decode cX5_init 46 = .ok (.bipush 64, 2) := by decide +kernel
theorem dX5_init_48 : decode cX5_init 48 = .ok (.newarray .long, 2) := by decide +kernel
theorem dX5_init_50 : decode cX5_init 50 = .ok (.putfield 28, 3) := by decide +kernel
theorem dX5_init_53 : decode cX5_init 53 = .ok (.aload_n 0, 1) := by decide +kernel
theorem dX5_init_54 : decode cX5_init 54 = .ok (.bipush 64, 2) := by decide +kernel
theorem dX5_init_56 : decode cX5_init 56 = .ok (.newarray .long, 2) := by decide +kernel
theorem dX5_init_58 : decode cX5_init 58 = .ok (.putfield 31, 3) := by decide +kernel
theorem dX5_init_61 : decode cX5_init 61 = .ok (.aload_n 0, 1) := by decide +kernel
theorem dX5_init_62 : decode cX5_init 62 = .ok (.bipush 64, 2) := by decide +kernel
theorem dX5_init_64 : decode cX5_init 64 = .ok (.newarray .int, 2) := by decide +kernel
theorem dX5_init_66 : decode cX5_init 66 = .ok (.putfield 34, 3) := by decide +kernel
theorem dX5_init_69 : decode cX5_init 69 = .ok (.aload_n 0, 1) := by decide +kernel
theorem dX5_init_70 : decode cX5_init 70 = .ok (.aload_n 1, 1) := by decide +kernel
theorem dX5_init_71 : decode cX5_init 71 = .ok (.putfield 37, 3) := by decide +kernel
theorem dX5_init_74 : decode cX5_init 74 = .ok (.aload_n 0, 1) := by decide +kernel
theorem dX5_init_75 : decode cX5_init 75 = .ok (.aload_n 2, 1) := by decide +kernel
theorem dX5_init_76 : decode cX5_init 76 = .ok (.putfield 41, 3) := by decide +kernel
theorem dX5_init_79 : decode cX5_init 79 = .ok (.return_, 1) := by decide +kernel
theorem dX5_reckon_0 : decode cX5_reckon 0 = .ok (.iconst 0, 1) := by decide +kernel
theorem dX5_reckon_1 : decode cX5_reckon 1 = .ok (.istore_n 2, 1) := by decide +kernel
theorem dX5_reckon_2 : decode cX5_reckon 2 = .ok (.iload_n 2, 1) := by decide +kernel
theorem dX5_reckon_3 : decode cX5_reckon 3 = .ok (.aload_n 0, 1) := by decide +kernel
theorem dX5_reckon_4 : decode cX5_reckon 4 = .ok (.getfield 37, 3) := by decide +kernel
theorem dX5_reckon_7 : decode cX5_reckon 7 = .ok (.getfield 45, 3) := by decide +kernel
theorem dX5_reckon_10 : decode cX5_reckon 10 = .ok (.if_icmp .ge 40, 3) := by decide +kernel
theorem dX5_reckon_13 : decode cX5_reckon 13 = .ok (.aload_n 0, 1) := by decide +kernel
theorem dX5_reckon_14 : decode cX5_reckon 14 = .ok (.iload_n 2, 1) := by decide +kernel
theorem dX5_reckon_15 : decode cX5_reckon 15 = .ok (.invokevirtual 51, 3) := by decide +kernel
theorem dX5_reckon_18 : decode cX5_reckon 18 = .ok (.aload_n 0, 1) := by decide +kernel
theorem dX5_reckon_19 : decode cX5_reckon 19 = .ok (.iload_n 2, 1) := by decide +kernel
theorem dX5_reckon_20 : decode cX5_reckon 20 = .ok (.invokevirtual 55, 3) := by decide +kernel
theorem dX5_reckon_23 : decode cX5_reckon 23 = .ok (.aload_n 0, 1) := by decide +kernel
theorem dX5_reckon_24 : decode cX5_reckon 24 = .ok (.getfield 25, 3) := by decide +kernel
theorem dX5_reckon_27 : decode cX5_reckon 27 = .ok (.iload_n 2, 1) := by decide +kernel
theorem dX5_reckon_28 : decode cX5_reckon 28 = .ok (.lconst 0, 1) := by decide +kernel
theorem dX5_reckon_29 : decode cX5_reckon 29 = .ok (.lastore, 1) := by decide +kernel
theorem dX5_reckon_30 : decode cX5_reckon 30 = .ok (.aload_n 0, 1) := by decide +kernel
theorem dX5_reckon_31 : decode cX5_reckon 31 = .ok (.getfield 31, 3) := by decide +kernel
theorem dX5_reckon_34 : decode cX5_reckon 34 = .ok (.iload_n 2, 1) := by decide +kernel
theorem dX5_reckon_35 : decode cX5_reckon 35 = .ok (.lconst 0, 1) := by decide +kernel
theorem dX5_reckon_36 : decode cX5_reckon 36 = .ok (.lastore, 1) := by decide +kernel
theorem dX5_reckon_37 : decode cX5_reckon 37 = .ok (.aload_n 0, 1) := by decide +kernel
theorem dX5_reckon_38 : decode cX5_reckon 38 = .ok (.getfield 34, 3) := by decide +kernel
theorem dX5_reckon_41 : decode cX5_reckon 41 = .ok (.iload_n 2, 1) := by decide +kernel
theorem dX5_reckon_42 : decode cX5_reckon 42 = .ok (.iconst 0, 1) := by decide +kernel
theorem dX5_reckon_43 : decode cX5_reckon 43 = .ok (.iastore, 1) := by decide +kernel
theorem dX5_reckon_44 : decode cX5_reckon 44 = .ok (.iinc 2 1, 3) := by decide +kernel
theorem dX5_reckon_47 : decode cX5_reckon 47 = .ok (.goto (-45), 3) := by decide +kernel
theorem dX5_reckon_50 : decode cX5_reckon 50 = .ok (.aload_n 0, 1) := by decide +kernel
theorem dX5_reckon_51 : decode cX5_reckon 51 = .ok (.iload_n 1, 1) := by decide +kernel
theorem dX5_reckon_52 : decode cX5_reckon 52 = .ok (.invokevirtual 58, 3) := by decide +kernel
theorem dX5_reckon_55 : decode cX5_reckon 55 = .ok (.aload_n 0, 1) := by decide +kernel
theorem dX5_reckon_56 : decode cX5_reckon 56 = .ok (.invokevirtual 61, 3) := by decide +kernel
theorem dX5_reckon_59 : decode cX5_reckon 59 = .ok (.return_, 1) := by decide +kernel
theorem dX5_isNeeded_0 : decode cX5_isNeeded 0 = .ok (.aload_n 0, 1) := by decide +kernel
theorem dX5_isNeeded_1 : decode cX5_isNeeded 1 = .ok (.getfield 64, 3) := by decide +kernel
theorem dX5_isNeeded_4 : decode cX5_isNeeded 4 = .ok (.iload_n 1, 1) := by decide +kernel
theorem dX5_isNeeded_5 : decode cX5_isNeeded 5 = .ok (.lushr, 1) := by decide +kernel
theorem dX5_isNeeded_6 : decode cX5_isNeeded 6 = .ok (.lconst 1, 1) := by decide +kernel
theorem dX5_isNeeded_7 : decode cX5_isNeeded 7 = .ok (.land, 1) := by decide +kernel
theorem dX5_isNeeded_8 : decode cX5_isNeeded 8 = .ok (.lconst 0, 1) := by decide +kernel
theorem dX5_isNeeded_9 : decode cX5_isNeeded 9 = .ok (.lcmp, 1) := by decide +kernel
theorem dX5_isNeeded_10 : decode cX5_isNeeded 10 = .ok (.ifCond .eq 7, 3) := by decide +kernel
theorem dX5_isNeeded_13 : decode cX5_isNeeded 13 = .ok (.iconst 1, 1) := by decide +kernel
theorem dX5_isNeeded_14 : decode cX5_isNeeded 14 = .ok (.goto 4, 3) := by decide +kernel
theorem dX5_isNeeded_17 : decode cX5_isNeeded 17 = .ok (.iconst 0, 1) := by decide +kernel
theorem dX5_isNeeded_18 : decode cX5_isNeeded 18 = .ok (.ireturn, 1) := by decide +kernel
theorem dX5_isKept_0 : decode cX5_isKept 0 = .ok (.aload_n 0, 1) := by decide +kernel
theorem dX5_isKept_1 : decode cX5_isKept 1 = .ok (.getfield 68, 3) := by decide +kernel
theorem dX5_isKept_4 : decode cX5_isKept 4 = .ok (.iload_n 1, 1) := by decide +kernel
theorem dX5_isKept_5 : decode cX5_isKept 5 = .ok (.lushr, 1) := by decide +kernel
theorem dX5_isKept_6 : decode cX5_isKept 6 = .ok (.lconst 1, 1) := by decide +kernel
theorem dX5_isKept_7 : decode cX5_isKept 7 = .ok (.land, 1) := by decide +kernel
theorem dX5_isKept_8 : decode cX5_isKept 8 = .ok (.lconst 0, 1) := by decide +kernel
theorem dX5_isKept_9 : decode cX5_isKept 9 = .ok (.lcmp, 1) := by decide +kernel
theorem dX5_isKept_10 : decode cX5_isKept 10 = .ok (.ifCond .eq 7, 3) := by decide +kernel
theorem dX5_isKept_13 : decode cX5_isKept 13 = .ok (.iconst 1, 1) := by decide +kernel
theorem dX5_isKept_14 : decode cX5_isKept 14 = .ok (.goto 4, 3) := by decide +kernel
theorem dX5_isKept_17 : decode cX5_isKept 17 = .ok (.iconst 0, 1) := by decide +kernel
theorem dX5_isKept_18 : decode cX5_isKept 18 = .ok (.ireturn, 1) := by decide +kernel
theorem dX5_findStandsFor_0 : decode cX5_findStandsFor 0 = .ok (.aload_n 0, 1) := by decide +kernel
theorem dX5_findStandsFor_1 : decode cX5_findStandsFor 1 = .ok (.getfield 37, 3) := by decide +kernel
theorem dX5_findStandsFor_4 : decode cX5_findStandsFor 4 = .ok (.getfield 71, 3) := by decide +kernel
theorem dX5_findStandsFor_7 : decode cX5_findStandsFor 7 = .ok (.iconst 3, 1) := by decide +kernel
theorem dX5_findStandsFor_8 : decode cX5_findStandsFor 8 = .ok (.iload_n 1, 1) := by decide +kernel
theorem dX5_findStandsFor_9 : decode cX5_findStandsFor 9 = .ok (.imul, 1) := by decide +kernel
theorem dX5_findStandsFor_10 : decode cX5_findStandsFor 10 = .ok (.iaload, 1) := by decide +kernel
theorem dX5_findStandsFor_11 : decode cX5_findStandsFor 11 = .ok (.istore_n 2, 1) := by decide +kernel
theorem dX5_findStandsFor_12 : decode cX5_findStandsFor 12 = .ok (.aload_n 0, 1) := by decide +kernel
theorem dX5_findStandsFor_13 : decode cX5_findStandsFor 13 = .ok (.getfield 9, 3) := by decide +kernel
theorem dX5_findStandsFor_16 : decode cX5_findStandsFor 16 = .ok (.iload_n 1, 1) := by decide +kernel
theorem dX5_findStandsFor_17 : decode cX5_findStandsFor 17 = .ok (.iload_n 1, 1) := by decide +kernel
theorem dX5_findStandsFor_18 : decode cX5_findStandsFor 18 = .ok (.iastore, 1) := by decide +kernel
theorem dX5_findStandsFor_19 : decode cX5_findStandsFor 19 = .ok (.aload_n 0, 1) := by decide +kernel
theorem dX5_findStandsFor_20 : decode cX5_findStandsFor 20 = .ok (.getfield 37, 3) := by decide +kernel
theorem dX5_findStandsFor_23 : decode cX5_findStandsFor 23 = .ok (.getfield 74, 3) := by decide +kernel
theorem dX5_findStandsFor_26 : decode cX5_findStandsFor 26 = .ok (.iload_n 1, 1) := by decide +kernel
theorem dX5_findStandsFor_27 : decode cX5_findStandsFor 27 = .ok (.iaload, 1) := by decide +kernel
theorem dX5_findStandsFor_28 : decode cX5_findStandsFor 28 = .ok (.bipush 13, 2) := by decide +kernel
theorem dX5_findStandsFor_30 : decode cX5_findStandsFor 30 = .ok (.if_icmp .ne 68, 3) := by decide +kernel
theorem dX5_findStandsFor_33 : decode cX5_findStandsFor 33 = .ok (.aload_n 0, 1) := by decide +kernel
theorem dX5_findStandsFor_34 : decode cX5_findStandsFor 34 = .ok (.getfield 41, 3) := by decide +kernel
theorem dX5_findStandsFor_37 : decode cX5_findStandsFor 37 = .ok (.iload_n 1, 1) := by decide +kernel
theorem dX5_findStandsFor_38 : decode cX5_findStandsFor 38 = .ok (.invokevirtual 77, 3) := by decide +kernel
theorem dX5_findStandsFor_41 : decode cX5_findStandsFor 41 = .ok (.ifCond .ne 57, 3) := by decide +kernel
theorem dX5_findStandsFor_44 : decode cX5_findStandsFor 44 = .ok (.aload_n 0, 1) := by decide +kernel
theorem dX5_findStandsFor_45 : decode cX5_findStandsFor 45 = .ok (.getfield 41, 3) := by decide +kernel
theorem dX5_findStandsFor_48 : decode cX5_findStandsFor 48 = .ok (.iload_n 2, 1) := by decide +kernel
theorem dX5_findStandsFor_49 : decode cX5_findStandsFor 49 = .ok (.invokevirtual 77, 3) := by decide +kernel
theorem dX5_findStandsFor_52 : decode cX5_findStandsFor 52 = .ok (.ifCond .eq 46, 3) := by decide +kernel
theorem dX5_findStandsFor_55 : decode cX5_findStandsFor 55 = .ok (.aload_n 0, 1) := by decide +kernel
theorem dX5_findStandsFor_56 : decode cX5_findStandsFor 56 = .ok (.getfield 41, 3) := by decide +kernel
theorem dX5_findStandsFor_59 : decode cX5_findStandsFor 59 = .ok (.getfield 83, 3) := by decide +kernel
theorem dX5_findStandsFor_62 : decode cX5_findStandsFor 62 = .ok (.iload_n 2, 1) := by decide +kernel
theorem dX5_findStandsFor_63 : decode cX5_findStandsFor 63 = .ok (.iaload, 1) := by decide +kernel
theorem dX5_findStandsFor_64 : decode cX5_findStandsFor 64 = .ok (.iconst 1, 1) := by decide +kernel
theorem dX5_findStandsFor_65 : decode cX5_findStandsFor 65 = .ok (.if_icmp .ne 7, 3) := by decide +kernel
theorem dX5_findStandsFor_68 : decode cX5_findStandsFor 68 = .ok (.iconst 1, 1) := by decide +kernel
theorem dX5_findStandsFor_69 : decode cX5_findStandsFor 69 = .ok (.goto 4, 3) := by decide +kernel
theorem dX5_findStandsFor_72 : decode cX5_findStandsFor 72 = .ok (.iconst 2, 1) := by decide +kernel
theorem dX5_findStandsFor_73 : decode cX5_findStandsFor 73 = .ok (.istore_n 3, 1) := by decide +kernel
theorem dX5_findStandsFor_74 : decode cX5_findStandsFor 74 = .ok (.aload_n 0, 1) := by decide +kernel
theorem dX5_findStandsFor_75 : decode cX5_findStandsFor 75 = .ok (.getfield 9, 3) := by decide +kernel
theorem dX5_findStandsFor_78 : decode cX5_findStandsFor 78 = .ok (.iload_n 1, 1) := by decide +kernel
theorem dX5_findStandsFor_79 : decode cX5_findStandsFor 79 = .ok (.aload_n 0, 1) := by decide +kernel
theorem dX5_findStandsFor_80 : decode cX5_findStandsFor 80 = .ok (.getfield 9, 3) := by decide +kernel
theorem dX5_findStandsFor_83 : decode cX5_findStandsFor 83 = .ok (.aload_n 0, 1) := by decide +kernel
theorem dX5_findStandsFor_84 : decode cX5_findStandsFor 84 = .ok (.getfield 37, 3) := by decide +kernel
theorem dX5_findStandsFor_87 : decode cX5_findStandsFor 87 = .ok (.getfield 71, 3) := by decide +kernel
theorem dX5_findStandsFor_90 : decode cX5_findStandsFor 90 = .ok (.iconst 3, 1) := by decide +kernel
theorem dX5_findStandsFor_91 : decode cX5_findStandsFor 91 = .ok (.iload_n 1, 1) := by decide +kernel
theorem dX5_findStandsFor_92 : decode cX5_findStandsFor 92 = .ok (.imul, 1) := by decide +kernel
theorem dX5_findStandsFor_93 : decode cX5_findStandsFor 93 = .ok (.iload_n 3, 1) := by decide +kernel
theorem dX5_findStandsFor_94 : decode cX5_findStandsFor 94 = .ok (.iadd, 1) := by decide +kernel
theorem dX5_findStandsFor_95 : decode cX5_findStandsFor 95 = .ok (.iaload, 1) := by decide +kernel
theorem dX5_findStandsFor_96 : decode cX5_findStandsFor 96 = .ok (.iaload, 1) := by decide +kernel
theorem dX5_findStandsFor_97 : decode cX5_findStandsFor 97 = .ok (.iastore, 1) := by decide +kernel
theorem dX5_findStandsFor_98 : decode cX5_findStandsFor 98 = .ok (.return_, 1) := by decide +kernel
theorem dX5_findSources_0 : decode cX5_findSources 0 = .ok (.aload_n 0, 1) := by decide +kernel
theorem dX5_findSources_1 : decode cX5_findSources 1 = .ok (.getfield 18, 3) := by decide +kernel
theorem dX5_findSources_4 : decode cX5_findSources 4 = .ok (.iload_n 1, 1) := by decide +kernel
theorem dX5_findSources_5 : decode cX5_findSources 5 = .ok (.iconst 0, 1) := by decide +kernel
theorem dX5_findSources_6 : decode cX5_findSources 6 = .ok (.iastore, 1) := by decide +kernel
theorem dX5_findSources_7 : decode cX5_findSources 7 = .ok (.aload_n 0, 1) := by decide +kernel
theorem dX5_findSources_8 : decode cX5_findSources 8 = .ok (.getfield 21, 3) := by decide +kernel
theorem dX5_findSources_11 : decode cX5_findSources 11 = .ok (.iload_n 1, 1) := by decide +kernel
theorem dX5_findSources_12 : decode cX5_findSources 12 = .ok (.lconst 0, 1) := by decide +kernel
theorem dX5_findSources_13 : decode cX5_findSources 13 = .ok (.lastore, 1) := by decide +kernel
theorem dX5_findSources_14 : decode cX5_findSources 14 = .ok (.aload_n 0, 1) := by decide +kernel
theorem dX5_findSources_15 : decode cX5_findSources 15 = .ok (.getfield 28, 3) := by decide +kernel
theorem dX5_findSources_18 : decode cX5_findSources 18 = .ok (.iload_n 1, 1) := by decide +kernel
theorem dX5_findSources_19 : decode cX5_findSources 19 = .ok (.lconst 0, 1) := by decide +kernel
theorem dX5_findSources_20 : decode cX5_findSources 20 = .ok (.lastore, 1) := by decide +kernel
theorem dX5_findSources_21 : decode cX5_findSources 21 = .ok (.iconst 0, 1) := by decide +kernel
theorem dX5_findSources_22 : decode cX5_findSources 22 = .ok (.istore_n 2, 1) := by decide +kernel
theorem dX5_findSources_23 : decode cX5_findSources 23 = .ok (.iload_n 2, 1) := by decide +kernel
theorem dX5_findSources_24 : decode cX5_findSources 24 = .ok (.aload_n 0, 1) := by decide +kernel
theorem dX5_findSources_25 : decode cX5_findSources 25 = .ok (.getfield 37, 3) := by decide +kernel
theorem dX5_findSources_28 : decode cX5_findSources 28 = .ok (.getfield 74, 3) := by decide +kernel
theorem dX5_findSources_31 : decode cX5_findSources 31 = .ok (.iload_n 1, 1) := by decide +kernel
theorem dX5_findSources_32 : decode cX5_findSources 32 = .ok (.iaload, 1) := by decide +kernel
theorem dX5_findSources_33 : decode cX5_findSources 33 = .ok (.invokestatic 86, 3) := by decide +kernel
theorem dX5_findSources_36 : decode cX5_findSources 36 = .ok (.if_icmp .ge 123, 3) := by decide +kernel
theorem dX5_findSources_39 : decode cX5_findSources 39 = .ok (.aload_n 0, 1) := by decide +kernel
theorem dX5_findSources_40 : decode cX5_findSources 40 = .ok (.getfield 9, 3) := by decide +kernel
theorem dX5_findSources_43 : decode cX5_findSources 43 = .ok (.aload_n 0, 1) := by decide +kernel
theorem dX5_findSources_44 : decode cX5_findSources 44 = .ok (.getfield 37, 3) := by decide +kernel
theorem dX5_findSources_47 : decode cX5_findSources 47 = .ok (.getfield 71, 3) := by decide +kernel
theorem dX5_findSources_50 : decode cX5_findSources 50 = .ok (.iconst 3, 1) := by decide +kernel
theorem dX5_findSources_51 : decode cX5_findSources 51 = .ok (.iload_n 1, 1) := by decide +kernel
theorem dX5_findSources_52 : decode cX5_findSources 52 = .ok (.imul, 1) := by decide +kernel
theorem dX5_findSources_53 : decode cX5_findSources 53 = .ok (.iload_n 2, 1) := by decide +kernel
theorem dX5_findSources_54 : decode cX5_findSources 54 = .ok (.iadd, 1) := by decide +kernel
theorem dX5_findSources_55 : decode cX5_findSources 55 = .ok (.iaload, 1) := by decide +kernel
theorem dX5_findSources_56 : decode cX5_findSources 56 = .ok (.iaload, 1) := by decide +kernel
theorem dX5_findSources_57 : decode cX5_findSources 57 = .ok (.istore_n 3, 1) := by decide +kernel
theorem dX5_findSources_58 : decode cX5_findSources 58 = .ok (.aload_n 0, 1) := by decide +kernel
theorem dX5_findSources_59 : decode cX5_findSources 59 = .ok (.getfield 21, 3) := by decide +kernel
theorem dX5_findSources_62 : decode cX5_findSources 62 = .ok (.iload_n 1, 1) := by decide +kernel
theorem dX5_findSources_63 : decode cX5_findSources 63 = .ok (.laload, 1) := by decide +kernel
theorem dX5_findSources_64 : decode cX5_findSources 64 = .ok (.iload_n 3, 1) := by decide +kernel
theorem dX5_findSources_65 : decode cX5_findSources 65 = .ok (.lushr, 1) := by decide +kernel
theorem dX5_findSources_66 : decode cX5_findSources 66 = .ok (.lconst 1, 1) := by decide +kernel
theorem dX5_findSources_67 : decode cX5_findSources 67 = .ok (.land, 1) := by decide +kernel
theorem dX5_findSources_68 : decode cX5_findSources 68 = .ok (.lconst 0, 1) := by decide +kernel
theorem dX5_findSources_69 : decode cX5_findSources 69 = .ok (.lcmp, 1) := by decide +kernel
theorem dX5_findSources_70 : decode cX5_findSources 70 = .ok (.ifCond .eq 7, 3) := by decide +kernel
theorem dX5_findSources_73 : decode cX5_findSources 73 = .ok (.iconst 1, 1) := by decide +kernel
theorem dX5_findSources_74 : decode cX5_findSources 74 = .ok (.goto 4, 3) := by decide +kernel
theorem dX5_findSources_77 : decode cX5_findSources 77 = .ok (.iconst 0, 1) := by decide +kernel
theorem dX5_findSources_78 : decode cX5_findSources 78 = .ok (.istore 4, 2) := by decide +kernel
theorem dX5_findSources_80 : decode cX5_findSources 80 = .ok (.iload 4, 2) := by decide +kernel
theorem dX5_findSources_82 : decode cX5_findSources 82 = .ok (.ifCond .ne 71, 3) := by decide +kernel
theorem dX5_findSources_85 : decode cX5_findSources 85 = .ok (.aload_n 0, 1) := by decide +kernel
theorem dX5_findSources_86 : decode cX5_findSources 86 = .ok (.getfield 41, 3) := by decide +kernel
theorem dX5_findSources_89 : decode cX5_findSources 89 = .ok (.iload_n 3, 1) := by decide +kernel
theorem dX5_findSources_90 : decode cX5_findSources 90 = .ok (.invokevirtual 77, 3) := by decide +kernel
theorem dX5_findSources_93 : decode cX5_findSources 93 = .ok (.ifCond .ne 60, 3) := by decide +kernel
theorem dX5_findSources_96 : decode cX5_findSources 96 = .ok (.aload_n 0, 1) := by decide +kernel
theorem dX5_findSources_97 : decode cX5_findSources 97 = .ok (.getfield 15, 3) := by decide +kernel
theorem dX5_findSources_100 : decode cX5_findSources 100 = .ok (.iconst 3, 1) := by decide +kernel
theorem dX5_findSources_101 : decode cX5_findSources 101 = .ok (.iload_n 1, 1) := by decide +kernel
theorem dX5_findSources_102 : decode cX5_findSources 102 = .ok (.imul, 1) := by decide +kernel
theorem dX5_findSources_103 : decode cX5_findSources 103 = .ok (.aload_n 0, 1) := by decide +kernel
theorem dX5_findSources_104 : decode cX5_findSources 104 = .ok (.getfield 18, 3) := by decide +kernel
theorem dX5_findSources_107 : decode cX5_findSources 107 = .ok (.iload_n 1, 1) := by decide +kernel
theorem dX5_findSources_108 : decode cX5_findSources 108 = .ok (.iaload, 1) := by decide +kernel
theorem dX5_findSources_109 : decode cX5_findSources 109 = .ok (.iadd, 1) := by decide +kernel
theorem dX5_findSources_110 : decode cX5_findSources 110 = .ok (.iload_n 3, 1) := by decide +kernel
theorem dX5_findSources_111 : decode cX5_findSources 111 = .ok (.iastore, 1) := by decide +kernel
theorem dX5_findSources_112 : decode cX5_findSources 112 = .ok (.aload_n 0, 1) := by decide +kernel
theorem dX5_findSources_113 : decode cX5_findSources 113 = .ok (.getfield 18, 3) := by decide +kernel
theorem dX5_findSources_116 : decode cX5_findSources 116 = .ok (.iload_n 1, 1) := by decide +kernel
theorem dX5_findSources_117 : decode cX5_findSources 117 = .ok (.dup2, 1) := by decide +kernel
theorem dX5_findSources_118 : decode cX5_findSources 118 = .ok (.iaload, 1) := by decide +kernel
theorem dX5_findSources_119 : decode cX5_findSources 119 = .ok (.iconst 1, 1) := by decide +kernel
theorem dX5_findSources_120 : decode cX5_findSources 120 = .ok (.iadd, 1) := by decide +kernel
theorem dX5_findSources_121 : decode cX5_findSources 121 = .ok (.iastore, 1) := by decide +kernel
theorem dX5_findSources_122 : decode cX5_findSources 122 = .ok (.aload_n 0, 1) := by decide +kernel
theorem dX5_findSources_123 : decode cX5_findSources 123 = .ok (.getfield 21, 3) := by decide +kernel
theorem dX5_findSources_126 : decode cX5_findSources 126 = .ok (.iload_n 1, 1) := by decide +kernel
theorem dX5_findSources_127 : decode cX5_findSources 127 = .ok (.dup2, 1) := by decide +kernel
theorem dX5_findSources_128 : decode cX5_findSources 128 = .ok (.laload, 1) := by decide +kernel
theorem dX5_findSources_129 : decode cX5_findSources 129 = .ok (.lconst 1, 1) := by decide +kernel
theorem dX5_findSources_130 : decode cX5_findSources 130 = .ok (.iload_n 3, 1) := by decide +kernel
theorem dX5_findSources_131 : decode cX5_findSources 131 = .ok (.lshl, 1) := by decide +kernel
theorem dX5_findSources_132 : decode cX5_findSources 132 = .ok (.lor, 1) := by decide +kernel
theorem dX5_findSources_133 : decode cX5_findSources 133 = .ok (.lastore, 1) := by decide +kernel
theorem dX5_findSources_134 : decode cX5_findSources 134 = .ok (.aload_n 0, 1) := by decide +kernel
theorem dX5_findSources_135 : decode cX5_findSources 135 = .ok (.getfield 28, 3) := by decide +kernel
theorem dX5_findSources_138 : decode cX5_findSources 138 = .ok (.iload_n 1, 1) := by decide +kernel
theorem dX5_findSources_139 : decode cX5_findSources 139 = .ok (.dup2, 1) := by decide +kernel
theorem dX5_findSources_140 : decode cX5_findSources 140 = .ok (.laload, 1) := by decide +kernel
theorem dX5_findSources_141 : decode cX5_findSources 141 = .ok (.lconst 1, 1) := by decide +kernel
theorem dX5_findSources_142 : decode cX5_findSources 142 = .ok (.iload_n 3, 1) := by decide +kernel
theorem dX5_findSources_143 : decode cX5_findSources 143 = .ok (.lshl, 1) := by decide +kernel
theorem dX5_findSources_144 : decode cX5_findSources 144 = .ok (.aload_n 0, 1) := by decide +kernel
theorem dX5_findSources_145 : decode cX5_findSources 145 = .ok (.getfield 28, 3) := by decide +kernel
theorem dX5_findSources_148 : decode cX5_findSources 148 = .ok (.iload_n 3, 1) := by decide +kernel
theorem dX5_findSources_149 : decode cX5_findSources 149 = .ok (.laload, 1) := by decide +kernel
theorem dX5_findSources_150 : decode cX5_findSources 150 = .ok (.lor, 1) := by decide +kernel
theorem dX5_findSources_151 : decode cX5_findSources 151 = .ok (.lor, 1) := by decide +kernel
theorem dX5_findSources_152 : decode cX5_findSources 152 = .ok (.lastore, 1) := by decide +kernel
theorem dX5_findSources_153 : decode cX5_findSources 153 = .ok (.iinc 2 1, 3) := by decide +kernel
theorem dX5_findSources_156 : decode cX5_findSources 156 = .ok (.goto (-133), 3) := by decide +kernel
theorem dX5_findSources_159 : decode cX5_findSources 159 = .ok (.return_, 1) := by decide +kernel
theorem dX5_keepShown_0 : decode cX5_keepShown 0 = .ok (.aload_n 0, 1) := by decide +kernel
theorem dX5_keepShown_1 : decode cX5_keepShown 1 = .ok (.lconst 0, 1) := by decide +kernel
theorem dX5_keepShown_2 : decode cX5_keepShown 2 = .ok (.putfield 68, 3) := by decide +kernel
theorem dX5_keepShown_5 : decode cX5_keepShown 5 = .ok (.iconst 0, 1) := by decide +kernel
theorem dX5_keepShown_6 : decode cX5_keepShown 6 = .ok (.istore_n 2, 1) := by decide +kernel
theorem dX5_keepShown_7 : decode cX5_keepShown 7 = .ok (.iload_n 2, 1) := by decide +kernel
theorem dX5_keepShown_8 : decode cX5_keepShown 8 = .ok (.aload_n 0, 1) := by decide +kernel
theorem dX5_keepShown_9 : decode cX5_keepShown 9 = .ok (.getfield 37, 3) := by decide +kernel
theorem dX5_keepShown_12 : decode cX5_keepShown 12 = .ok (.getfield 90, 3) := by decide +kernel
theorem dX5_keepShown_15 : decode cX5_keepShown 15 = .ok (.if_icmp .ge 57, 3) := by decide +kernel
theorem dX5_keepShown_18 : decode cX5_keepShown 18 = .ok (.aload_n 0, 1) := by decide +kernel
theorem dX5_keepShown_19 : decode cX5_keepShown 19 = .ok (.getfield 9, 3) := by decide +kernel
theorem dX5_keepShown_22 : decode cX5_keepShown 22 = .ok (.aload_n 0, 1) := by decide +kernel
theorem dX5_keepShown_23 : decode cX5_keepShown 23 = .ok (.getfield 37, 3) := by decide +kernel
theorem dX5_keepShown_26 : decode cX5_keepShown 26 = .ok (.getfield 93, 3) := by decide +kernel
theorem dX5_keepShown_29 : decode cX5_keepShown 29 = .ok (.iload_n 2, 1) := by decide +kernel
theorem dX5_keepShown_30 : decode cX5_keepShown 30 = .ok (.iaload, 1) := by decide +kernel
theorem dX5_keepShown_31 : decode cX5_keepShown 31 = .ok (.iaload, 1) := by decide +kernel
theorem dX5_keepShown_32 : decode cX5_keepShown 32 = .ok (.istore_n 3, 1) := by decide +kernel
theorem dX5_keepShown_33 : decode cX5_keepShown 33 = .ok (.iload_n 1, 1) := by decide +kernel
theorem dX5_keepShown_34 : decode cX5_keepShown 34 = .ok (.iconst (-1), 1) := by decide +kernel
theorem dX5_keepShown_35 : decode cX5_keepShown 35 = .ok (.if_icmp .eq 8, 3) := by decide +kernel
theorem dX5_keepShown_38 : decode cX5_keepShown 38 = .ok (.iload_n 1, 1) := by decide +kernel
theorem dX5_keepShown_39 : decode cX5_keepShown 39 = .ok (.iload_n 2, 1) := by decide +kernel
theorem dX5_keepShown_40 : decode cX5_keepShown 40 = .ok (.if_icmp .ne 26, 3) := by decide +kernel
theorem dX5_keepShown_43 : decode cX5_keepShown 43 = .ok (.aload_n 0, 1) := by decide +kernel
theorem dX5_keepShown_44 : decode cX5_keepShown 44 = .ok (.getfield 41, 3) := by decide +kernel
theorem dX5_keepShown_47 : decode cX5_keepShown 47 = .ok (.iload_n 3, 1) := by decide +kernel
theorem dX5_keepShown_48 : decode cX5_keepShown 48 = .ok (.invokevirtual 77, 3) := by decide +kernel
theorem dX5_keepShown_51 : decode cX5_keepShown 51 = .ok (.ifCond .ne 15, 3) := by decide +kernel
theorem dX5_keepShown_54 : decode cX5_keepShown 54 = .ok (.aload_n 0, 1) := by decide +kernel
theorem dX5_keepShown_55 : decode cX5_keepShown 55 = .ok (.dup, 1) := by decide +kernel
theorem dX5_keepShown_56 : decode cX5_keepShown 56 = .ok (.getfield 68, 3) := by decide +kernel
theorem dX5_keepShown_59 : decode cX5_keepShown 59 = .ok (.lconst 1, 1) := by decide +kernel
theorem dX5_keepShown_60 : decode cX5_keepShown 60 = .ok (.iload_n 3, 1) := by decide +kernel
theorem dX5_keepShown_61 : decode cX5_keepShown 61 = .ok (.lshl, 1) := by decide +kernel
theorem dX5_keepShown_62 : decode cX5_keepShown 62 = .ok (.lor, 1) := by decide +kernel
theorem dX5_keepShown_63 : decode cX5_keepShown 63 = .ok (.putfield 68, 3) := by decide +kernel
theorem dX5_keepShown_66 : decode cX5_keepShown 66 = .ok (.iinc 2 1, 3) := by decide +kernel
theorem dX5_keepShown_69 : decode cX5_keepShown 69 = .ok (.goto (-62), 3) := by decide +kernel
theorem dX5_keepShown_72 : decode cX5_keepShown 72 = .ok (.aload_n 0, 1) := by decide +kernel
theorem dX5_keepShown_73 : decode cX5_keepShown 73 = .ok (.aload_n 0, 1) := by decide +kernel
theorem dX5_keepShown_74 : decode cX5_keepShown 74 = .ok (.getfield 68, 3) := by decide +kernel
theorem dX5_keepShown_77 : decode cX5_keepShown 77 = .ok (.putfield 64, 3) := by decide +kernel
theorem dX5_keepShown_80 : decode cX5_keepShown 80 = .ok (.return_, 1) := by decide +kernel
theorem dX5_findUsers_0 : decode cX5_findUsers 0 = .ok (.aload_n 0, 1) := by decide +kernel
theorem dX5_findUsers_1 : decode cX5_findUsers 1 = .ok (.getfield 37, 3) := by decide +kernel
theorem dX5_findUsers_4 : decode cX5_findUsers 4 = .ok (.getfield 45, 3) := by decide +kernel
theorem dX5_findUsers_7 : decode cX5_findUsers 7 = .ok (.iconst 1, 1) := by decide +kernel
theorem dX5_findUsers_8 : decode cX5_findUsers 8 = .ok (.isub, 1) := by decide +kernel
theorem dX5_findUsers_9 : decode cX5_findUsers 9 = .ok (.istore_n 1, 1) := by decide +kernel
theorem dX5_findUsers_10 : decode cX5_findUsers 10 = .ok (.iload_n 1, 1) := by decide +kernel
theorem dX5_findUsers_11 : decode cX5_findUsers 11 = .ok (.ifCond .lt 126, 3) := by decide +kernel
theorem dX5_findUsers_14 : decode cX5_findUsers 14 = .ok (.aload_n 0, 1) := by decide +kernel
theorem dX5_findUsers_15 : decode cX5_findUsers 15 = .ok (.iload_n 1, 1) := by decide +kernel
theorem dX5_findUsers_16 : decode cX5_findUsers 16 = .ok (.invokevirtual 96, 3) := by decide +kernel
theorem dX5_findUsers_19 : decode cX5_findUsers 19 = .ok (.ifCond .ne 6, 3) := by decide +kernel
theorem dX5_findUsers_22 : decode cX5_findUsers 22 = .ok (.goto 109, 3) := by decide +kernel
theorem dX5_findUsers_25 : decode cX5_findUsers 25 = .ok (.aload_n 0, 1) := by decide +kernel
theorem dX5_findUsers_26 : decode cX5_findUsers 26 = .ok (.dup, 1) := by decide +kernel
theorem dX5_findUsers_27 : decode cX5_findUsers 27 = .ok (.getfield 64, 3) := by decide +kernel
theorem dX5_findUsers_30 : decode cX5_findUsers 30 = .ok (.aload_n 0, 1) := by decide +kernel
theorem dX5_findUsers_31 : decode cX5_findUsers 31 = .ok (.getfield 21, 3) := by decide +kernel
theorem dX5_findUsers_34 : decode cX5_findUsers 34 = .ok (.iload_n 1, 1) := by decide +kernel
theorem dX5_findUsers_35 : decode cX5_findUsers 35 = .ok (.laload, 1) := by decide +kernel
theorem dX5_findUsers_36 : decode cX5_findUsers 36 = .ok (.lor, 1) := by decide +kernel
theorem dX5_findUsers_37 : decode cX5_findUsers 37 = .ok (.putfield 64, 3) := by decide +kernel
theorem dX5_findUsers_40 : decode cX5_findUsers 40 = .ok (.aload_n 0, 1) := by decide +kernel
theorem dX5_findUsers_41 : decode cX5_findUsers 41 = .ok (.getfield 34, 3) := by decide +kernel
theorem dX5_findUsers_44 : decode cX5_findUsers 44 = .ok (.iload_n 1, 1) := by decide +kernel
theorem dX5_findUsers_45 : decode cX5_findUsers 45 = .ok (.dup2, 1) := by decide +kernel
theorem dX5_findUsers_46 : decode cX5_findUsers 46 = .ok (.iaload, 1) := by decide +kernel
theorem dX5_findUsers_47 : decode cX5_findUsers 47 = .ok (.iconst 1, 1) := by decide +kernel
theorem dX5_findUsers_48 : decode cX5_findUsers 48 = .ok (.iadd, 1) := by decide +kernel
theorem dX5_findUsers_49 : decode cX5_findUsers 49 = .ok (.iastore, 1) := by decide +kernel
theorem dX5_findUsers_50 : decode cX5_findUsers 50 = .ok (.iconst 0, 1) := by decide +kernel
theorem dX5_findUsers_51 : decode cX5_findUsers 51 = .ok (.istore_n 2, 1) := by decide +kernel
theorem dX5_findUsers_52 : decode cX5_findUsers 52 = .ok (.iload_n 2, 1) := by decide +kernel
theorem dX5_findUsers_53 : decode cX5_findUsers 53 = .ok (.aload_n 0, 1) := by decide +kernel
theorem dX5_findUsers_54 : decode cX5_findUsers 54 = .ok (.getfield 18, 3) := by decide +kernel
theorem dX5_findUsers_57 : decode cX5_findUsers 57 = .ok (.iload_n 1, 1) := by decide +kernel
theorem dX5_findUsers_58 : decode cX5_findUsers 58 = .ok (.iaload, 1) := by decide +kernel
theorem dX5_findUsers_59 : decode cX5_findUsers 59 = .ok (.if_icmp .ge 72, 3) := by decide +kernel
theorem dX5_findUsers_62 : decode cX5_findUsers 62 = .ok (.aload_n 0, 1) := by decide +kernel
theorem dX5_findUsers_63 : decode cX5_findUsers 63 = .ok (.getfield 15, 3) := by decide +kernel
theorem dX5_findUsers_66 : decode cX5_findUsers 66 = .ok (.iconst 3, 1) := by decide +kernel
theorem dX5_findUsers_67 : decode cX5_findUsers 67 = .ok (.iload_n 1, 1) := by decide +kernel
theorem dX5_findUsers_68 : decode cX5_findUsers 68 = .ok (.imul, 1) := by decide +kernel
theorem dX5_findUsers_69 : decode cX5_findUsers 69 = .ok (.iload_n 2, 1) := by decide +kernel
theorem dX5_findUsers_70 : decode cX5_findUsers 70 = .ok (.iadd, 1) := by decide +kernel
theorem dX5_findUsers_71 : decode cX5_findUsers 71 = .ok (.iaload, 1) := by decide +kernel
theorem dX5_findUsers_72 : decode cX5_findUsers 72 = .ok (.istore_n 3, 1) := by decide +kernel
theorem dX5_findUsers_73 : decode cX5_findUsers 73 = .ok (.aload_n 0, 1) := by decide +kernel
theorem dX5_findUsers_74 : decode cX5_findUsers 74 = .ok (.getfield 25, 3) := by decide +kernel
theorem dX5_findUsers_77 : decode cX5_findUsers 77 = .ok (.iload_n 3, 1) := by decide +kernel
theorem dX5_findUsers_78 : decode cX5_findUsers 78 = .ok (.dup2, 1) := by decide +kernel
theorem dX5_findUsers_79 : decode cX5_findUsers 79 = .ok (.laload, 1) := by decide +kernel
theorem dX5_findUsers_80 : decode cX5_findUsers 80 = .ok (.lconst 1, 1) := by decide +kernel
theorem dX5_findUsers_81 : decode cX5_findUsers 81 = .ok (.iload_n 1, 1) := by decide +kernel
theorem dX5_findUsers_82 : decode cX5_findUsers 82 = .ok (.lshl, 1) := by decide +kernel
theorem dX5_findUsers_83 : decode cX5_findUsers 83 = .ok (.lor, 1) := by decide +kernel
theorem dX5_findUsers_84 : decode cX5_findUsers 84 = .ok (.lastore, 1) := by decide +kernel
theorem dX5_findUsers_85 : decode cX5_findUsers 85 = .ok (.aload_n 0, 1) := by decide +kernel
theorem dX5_findUsers_86 : decode cX5_findUsers 86 = .ok (.getfield 31, 3) := by decide +kernel
theorem dX5_findUsers_89 : decode cX5_findUsers 89 = .ok (.iload_n 3, 1) := by decide +kernel
theorem dX5_findUsers_90 : decode cX5_findUsers 90 = .ok (.dup2, 1) := by decide +kernel
theorem dX5_findUsers_91 : decode cX5_findUsers 91 = .ok (.laload, 1) := by decide +kernel
theorem dX5_findUsers_92 : decode cX5_findUsers 92 = .ok (.lconst 1, 1) := by decide +kernel
theorem dX5_findUsers_93 : decode cX5_findUsers 93 = .ok (.iload_n 1, 1) := by decide +kernel
theorem dX5_findUsers_94 : decode cX5_findUsers 94 = .ok (.lshl, 1) := by decide +kernel
theorem dX5_findUsers_95 : decode cX5_findUsers 95 = .ok (.aload_n 0, 1) := by decide +kernel
theorem dX5_findUsers_96 : decode cX5_findUsers 96 = .ok (.getfield 31, 3) := by decide +kernel
theorem dX5_findUsers_99 : decode cX5_findUsers 99 = .ok (.iload_n 1, 1) := by decide +kernel
theorem dX5_findUsers_100 : decode cX5_findUsers 100 = .ok (.laload, 1) := by decide +kernel
theorem dX5_findUsers_101 : decode cX5_findUsers 101 = .ok (.lor, 1) := by decide +kernel
theorem dX5_findUsers_102 : decode cX5_findUsers 102 = .ok (.lor, 1) := by decide +kernel
theorem dX5_findUsers_103 : decode cX5_findUsers 103 = .ok (.lastore, 1) := by decide +kernel
theorem dX5_findUsers_104 : decode cX5_findUsers 104 = .ok (.aload_n 0, 1) := by decide +kernel
theorem dX5_findUsers_105 : decode cX5_findUsers 105 = .ok (.getfield 34, 3) := by decide +kernel
theorem dX5_findUsers_108 : decode cX5_findUsers 108 = .ok (.iload_n 3, 1) := by decide +kernel
theorem dX5_findUsers_109 : decode cX5_findUsers 109 = .ok (.aload_n 0, 1) := by decide +kernel
theorem dX5_findUsers_110 : decode cX5_findUsers 110 = .ok (.getfield 34, 3) := by decide +kernel
theorem dX5_findUsers_113 : decode cX5_findUsers 113 = .ok (.iload_n 3, 1) := by decide +kernel
theorem dX5_findUsers_114 : decode cX5_findUsers 114 = .ok (.iaload, 1) := by decide +kernel
theorem dX5_findUsers_115 : decode cX5_findUsers 115 = .ok (.aload_n 0, 1) := by decide +kernel
theorem dX5_findUsers_116 : decode cX5_findUsers 116 = .ok (.getfield 34, 3) := by decide +kernel
theorem dX5_findUsers_119 : decode cX5_findUsers 119 = .ok (.iload_n 1, 1) := by decide +kernel
theorem dX5_findUsers_120 : decode cX5_findUsers 120 = .ok (.iaload, 1) := by decide +kernel
theorem dX5_findUsers_121 : decode cX5_findUsers 121 = .ok (.invokestatic 99, 3) := by decide +kernel
theorem dX5_findUsers_124 : decode cX5_findUsers 124 = .ok (.iastore, 1) := by decide +kernel
theorem dX5_findUsers_125 : decode cX5_findUsers 125 = .ok (.iinc 2 1, 3) := by decide +kernel
theorem dX5_findUsers_128 : decode cX5_findUsers 128 = .ok (.goto (-76), 3) := by decide +kernel
theorem dX5_findUsers_131 : decode cX5_findUsers 131 = .ok (.iinc 1 (-1), 3) := by decide +kernel
theorem dX5_findUsers_134 : decode cX5_findUsers 134 = .ok (.goto (-124), 3) := by decide +kernel
theorem dX5_findUsers_137 : decode cX5_findUsers 137 = .ok (.return_, 1) := by decide +kernel
theorem dX6_init_0 : decode cX6_init 0 = .ok (.aload_n 0, 1) := by decide +kernel
theorem dX6_init_1 : decode cX6_init 1 = .ok (.invokespecial 3, 3) := by decide +kernel
theorem dX6_init_4 : decode cX6_init 4 = .ok (.aload_n 0, 1) := by decide +kernel
theorem dX6_init_5 : decode cX6_init 5 = .ok (.new 9, 3) := by decide +kernel
theorem dX6_init_8 : decode cX6_init 8 = .ok (.dup, 1) := by decide +kernel
theorem dX6_init_9 : decode cX6_init 9 = .ok (.invokespecial 11, 3) := by decide +kernel
theorem dX6_init_12 : decode cX6_init 12 = .ok (.putfield 12, 3) := by decide +kernel
theorem dX6_init_15 : decode cX6_init 15 = .ok (.aload_n 0, 1) := by decide +kernel
theorem dX6_init_16 : decode cX6_init 16 = .ok (.bipush 20, 2) := by decide +kernel
theorem dX6_init_18 : decode cX6_init 18 = .ok (.newarray .long, 2) := by decide +kernel
theorem dX6_init_20 : decode cX6_init 20 = .ok (.putfield 18, 3) := by decide +kernel
theorem dX6_init_23 : decode cX6_init 23 = .ok (.aload_n 0, 1) := by decide +kernel
theorem dX6_init_24 : decode cX6_init 24 = .ok (.bipush 20, 2) := by decide +kernel
theorem dX6_init_26 : decode cX6_init 26 = .ok (.newarray .int, 2) := by decide +kernel
theorem dX6_init_28 : decode cX6_init 28 = .ok (.putfield 22, 3) := by decide +kernel
theorem dX6_init_31 : decode cX6_init 31 = .ok (.aload_n 0, 1) := by decide +kernel
theorem dX6_init_32 : decode cX6_init 32 = .ok (.bipush 20, 2) := by decide +kernel
theorem dX6_init_34 : decode cX6_init 34 = .ok (.newarray .boolean, 2) := by decide +kernel
theorem dX6_init_36 : decode cX6_init 36 = .ok (.putfield 26, 3) := by decide +kernel
theorem dX6_init_39 : decode cX6_init 39 = .ok (.aload_n 0, 1) := by decide +kernel
theorem dX6_init_40 : decode cX6_init 40 = .ok (.iconst 4, 1) := by decide +kernel
theorem dX6_init_41 : decode cX6_init 41 = .ok (.newarray .int, 2) := by decide +kernel
theorem dX6_init_43 : decode cX6_init 43 = .ok (.putfield 30, 3) := by decide +kernel
theorem dX6_init_46 : decode cX6_init 46 = .ok (.aload_n 0, 1) := by decide +kernel
theorem dX6_init_47 : decode cX6_init 47 = .ok (.aload_n 1, 1) := by decide +kernel
theorem dX6_init_48 : decode cX6_init 48 = .ok (.putfield 33, 3) := by decide +kernel
theorem dX6_init_51 : decode cX6_init 51 = .ok (.return_, 1) := by decide +kernel
theorem dX6_parse_0 : decode cX6_parse 0 = .ok (.aload_n 0, 1) := by decide +kernel
theorem dX6_parse_1 : decode cX6_parse 1 = .ok (.getfield 12, 3) := by decide +kernel
theorem dX6_parse_4 : decode cX6_parse 4 = .ok (.invokevirtual 37, 3) := by decide +kernel
theorem dX6_parse_7 : decode cX6_parse 7 = .ok (.aload_n 0, 1) := by decide +kernel
theorem dX6_parse_8 : decode cX6_parse 8 = .ok (.iconst 0, 1) := by decide +kernel
theorem dX6_parse_9 : decode cX6_parse 9 = .ok (.putfield 40, 3) := by decide +kernel
theorem dX6_parse_12 : decode cX6_parse 12 = .ok (.aload_n 0, 1) := by decide +kernel
theorem dX6_parse_13 : decode cX6_parse 13 = .ok (.iconst 0, 1) := by decide +kernel
theorem dX6_parse_14 : decode cX6_parse 14 = .ok (.putfield 44, 3) := by decide +kernel
theorem dX6_parse_17 : decode cX6_parse 17 = .ok (.aload_n 0, 1) := by decide +kernel
theorem dX6_parse_18 : decode cX6_parse 18 = .ok (.iconst 0, 1) := by decide +kernel
theorem dX6_parse_19 : decode cX6_parse 19 = .ok (.putfield 47, 3) := by decide +kernel
theorem dX6_parse_22 : decode cX6_parse 22 = .ok (.aload_n 0, 1) := by decide +kernel
theorem dX6_parse_23 : decode cX6_parse 23 = .ok (.iconst 0, 1) := by decide +kernel
theorem dX6_parse_24 : decode cX6_parse 24 = .ok (.putfield 50, 3) := by decide +kernel
theorem dX6_parse_27 : decode cX6_parse 27 = .ok (.aload_n 0, 1) := by decide +kernel
theorem dX6_parse_28 : decode cX6_parse 28 = .ok (.iconst 0, 1) := by decide +kernel
theorem dX6_parse_29 : decode cX6_parse 29 = .ok (.putfield 54, 3) := by decide +kernel
theorem dX6_parse_32 : decode cX6_parse 32 = .ok (.aload_n 0, 1) := by decide +kernel
theorem dX6_parse_33 : decode cX6_parse 33 = .ok (.getfield 33, 3) := by decide +kernel
theorem dX6_parse_36 : decode cX6_parse 36 = .ok (.invokevirtual 57, 3) := by decide +kernel
theorem dX6_parse_39 : decode cX6_parse 39 = .ok (.iconst 0, 1) := by decide +kernel
theorem dX6_parse_40 : decode cX6_parse 40 = .ok (.istore_n 1, 1) := by decide +kernel
theorem dX6_parse_41 : decode cX6_parse 41 = .ok (.aload_n 0, 1) := by decide +kernel
theorem dX6_parse_42 : decode cX6_parse 42 = .ok (.getfield 33, 3) := by decide +kernel
theorem dX6_parse_45 : decode cX6_parse 45 = .ok (.invokevirtual 62, 3) := by decide +kernel
theorem dX6_parse_48 : decode cX6_parse 48 = .ok (.iconst 0, 1) := by decide +kernel
theorem dX6_parse_49 : decode cX6_parse 49 = .ok (.istore_n 2, 1) := by decide +kernel
theorem dX6_parse_50 : decode cX6_parse 50 = .ok (.iload_n 2, 1) := by decide +kernel
theorem dX6_parse_51 : decode cX6_parse 51 = .ok (.sipush 1000, 3) := by decide +kernel
theorem dX6_parse_54 : decode cX6_parse 54 = .ok (.if_icmp .ge 39, 3) := by decide +kernel
theorem dX6_parse_57 : decode cX6_parse 57 = .ok (.iload_n 1, 1) := by decide +kernel
theorem dX6_parse_58 : decode cX6_parse 58 = .ok (.ifCond .ne 35, 3) := by decide +kernel
theorem dX6_parse_61 : decode cX6_parse 61 = .ok (.aload_n 0, 1) := by decide +kernel
theorem dX6_parse_62 : decode cX6_parse 62 = .ok (.getfield 33, 3) := by decide +kernel
theorem dX6_parse_65 : decode cX6_parse 65 = .ok (.getfield 65, 3) := by decide +kernel
theorem dX6_parse_68 : decode cX6_parse 68 = .ok (.ifCond .eq 25, 3) := by decide +kernel
theorem dX6_parse_71 : decode cX6_parse 71 = .ok (.aload_n 0, 1) := by decide +kernel
theorem dX6_parse_72 : decode cX6_parse 72 = .ok (.invokevirtual 68, 3) := by decide +kernel
theorem dX6_parse_75 : decode cX6_parse 75 = .ok (.istore_n 1, 1) := by decide +kernel
theorem dX6_parse_76 : decode cX6_parse 76 = .ok (.iload_n 1, 1) := by decide +kernel
theorem dX6_parse_77 : decode cX6_parse 77 = .ok (.ifCond .ne 10, 3) := by decide +kernel
theorem dX6_parse_80 : decode cX6_parse 80 = .ok (.aload_n 0, 1) := by decide +kernel
theorem dX6_parse_81 : decode cX6_parse 81 = .ok (.getfield 33, 3) := by decide +kernel
theorem dX6_parse_84 : decode cX6_parse 84 = .ok (.invokevirtual 62, 3) := by decide +kernel
theorem dX6_parse_87 : decode cX6_parse 87 = .ok (.iinc 2 1, 3) := by decide +kernel
theorem dX6_parse_90 : decode cX6_parse 90 = .ok (.goto (-40), 3) := by decide +kernel
theorem dX6_parse_93 : decode cX6_parse 93 = .ok (.iload_n 1, 1) := by decide +kernel
theorem dX6_parse_94 : decode cX6_parse 94 = .ok (.ifCond .ne 16, 3) := by decide +kernel
theorem dX6_parse_97 : decode cX6_parse 97 = .ok (.aload_n 0, 1) := by decide +kernel
theorem dX6_parse_98 : decode cX6_parse 98 = .ok (.getfield 44, 3) := by decide +kernel
theorem dX6_parse_101 : decode cX6_parse 101 = .ok (.ifCond .le 9, 3) := by decide +kernel
theorem dX6_parse_104 : decode cX6_parse 104 = .ok (.aload_n 0, 1) := by decide +kernel
theorem dX6_parse_105 : decode cX6_parse 105 = .ok (.iconst 1, 1) := by decide +kernel
theorem dX6_parse_106 : decode cX6_parse 106 = .ok (.invokevirtual 72, 3) := by decide +kernel
theorem dX6_parse_109 : decode cX6_parse 109 = .ok (.istore_n 1, 1) := by decide +kernel
theorem dX6_parse_110 : decode cX6_parse 110 = .ok (.aload_n 0, 1) := by decide +kernel
theorem dX6_parse_111 : decode cX6_parse 111 = .ok (.getfield 12, 3) := by decide +kernel
theorem dX6_parse_114 : decode cX6_parse 114 = .ok (.aload_n 0, 1) := by decide +kernel
theorem dX6_parse_115 : decode cX6_parse 115 = .ok (.getfield 40, 3) := by decide +kernel
theorem dX6_parse_118 : decode cX6_parse 118 = .ok (.putfield 76, 3) := by decide +kernel
theorem dX6_parse_121 : decode cX6_parse 121 = .ok (.iload_n 1, 1) := by decide +kernel
theorem dX6_parse_122 : decode cX6_parse 122 = .ok (.ireturn, 1) := by decide +kernel
theorem dX6_faultHere_0 : decode cX6_faultHere 0 = .ok (.iload_n 1, 1) := by decide +kernel
theorem dX6_faultHere_1 : decode cX6_faultHere 1 = .ok (.bipush 16, 2) := by decide +kernel
theorem dX6_faultHere_3 : decode cX6_faultHere 3 = .ok (.aload_n 0, 1) := by decide +kernel
theorem dX6_faultHere_4 : decode cX6_faultHere 4 = .ok (.getfield 33, 3) := by decide +kernel
theorem dX6_faultHere_7 : decode cX6_faultHere 7 = .ok (.getfield 78, 3) := by decide +kernel
theorem dX6_faultHere_10 : decode cX6_faultHere 10 = .ok (.imul, 1) := by decide +kernel
theorem dX6_faultHere_11 : decode cX6_faultHere 11 = .ok (.iadd, 1) := by decide +kernel
theorem dX6_faultHere_12 : decode cX6_faultHere 12 = .ok (.ireturn, 1) := by decide +kernel
theorem dX6_readLine_0 : decode cX6_readLine 0 = .ok (.aload_n 0, 1) := by decide +kernel
theorem dX6_readLine_1 : decode cX6_readLine 1 = .ok (.getfield 12, 3) := by decide +kernel
theorem dX6_readLine_4 : decode cX6_readLine 4 = .ok (.getfield 81, 3) := by decide +kernel
theorem dX6_readLine_7 : decode cX6_readLine 7 = .ok (.sipush 200, 3) := by decide +kernel
theorem dX6_readLine_10 : decode cX6_readLine 10 = .ok (.if_icmp .lt 9, 3) := by decide +kernel
theorem dX6_readLine_13 : decode cX6_readLine 13 = .ok (.aload_n 0, 1) := by decide +kernel
theorem dX6_readLine_14 : decode cX6_readLine 14 = .ok (.iconst 5, 1) := by decide +kernel
theorem dX6_readLine_15 : decode cX6_readLine 15 = .ok (.invokevirtual 72, 3) := by decide +kernel
theorem dX6_readLine_18 : decode cX6_readLine 18 = .ok (.ireturn, 1) := by decide +kernel
theorem dX6_readLine_19 : decode cX6_readLine 19 = .ok (.aload_n 0, 1) := by decide +kernel
theorem dX6_readLine_20 : decode cX6_readLine 20 = .ok (.getfield 33, 3) := by decide +kernel
theorem dX6_readLine_23 : decode cX6_readLine 23 = .ok (.getfield 65, 3) := by decide +kernel
theorem dX6_readLine_26 : decode cX6_readLine 26 = .ok (.iconst 4, 1) := by decide +kernel
theorem dX6_readLine_27 : decode cX6_readLine 27 = .ok (.if_icmp .ne 8, 3) := by decide +kernel
theorem dX6_readLine_30 : decode cX6_readLine 30 = .ok (.aload_n 0, 1) := by decide +kernel
theorem dX6_readLine_31 : decode cX6_readLine 31 = .ok (.invokevirtual 84, 3) := by decide +kernel
theorem dX6_readLine_34 : decode cX6_readLine 34 = .ok (.ireturn, 1) := by decide +kernel
theorem dX6_readLine_35 : decode cX6_readLine 35 = .ok (.aload_n 0, 1) := by decide +kernel
theorem dX6_readLine_36 : decode cX6_readLine 36 = .ok (.getfield 33, 3) := by decide +kernel
theorem dX6_readLine_39 : decode cX6_readLine 39 = .ok (.getfield 65, 3) := by decide +kernel
theorem dX6_readLine_42 : decode cX6_readLine 42 = .ok (.iconst 5, 1) := by decide +kernel
theorem dX6_readLine_43 : decode cX6_readLine 43 = .ok (.if_icmp .eq 9, 3) := by decide +kernel
theorem dX6_readLine_46 : decode cX6_readLine 46 = .ok (.aload_n 0, 1) := by decide +kernel
theorem dX6_readLine_47 : decode cX6_readLine 47 = .ok (.iconst 1, 1) := by decide +kernel
theorem dX6_readLine_48 : decode cX6_readLine 48 = .ok (.invokevirtual 72, 3) := by decide +kernel
theorem dX6_readLine_51 : decode cX6_readLine 51 = .ok (.ireturn, 1) := by decide +kernel
theorem dX6_readLine_52 : decode cX6_readLine 52 = .ok (.aload_n 0, 1) := by decide +kernel
theorem dX6_readLine_53 : decode cX6_readLine 53 = .ok (.getfield 33, 3) := by decide +kernel
theorem dX6_readLine_56 : decode cX6_readLine 56 = .ok (.getfield 87, 3) := by decide +kernel
theorem dX6_readLine_59 : decode cX6_readLine 59 = .ok (.tableswitch 108 0 9 #[53, 53, 73, 78, 108, 83, 88, 93, 98, 103], 53) := by decide +kernel
theorem dX6_readLine_112 : decode cX6_readLine 112 = .ok (.aload_n 0, 1) := by decide +kernel
theorem dX6_readLine_113 : decode cX6_readLine 113 = .ok (.aload_n 0, 1) := by decide +kernel
theorem dX6_readLine_114 : decode cX6_readLine 114 = .ok (.getfield 33, 3) := by decide +kernel
theorem dX6_readLine_117 : decode cX6_readLine 117 = .ok (.getfield 87, 3) := by decide +kernel
theorem dX6_readLine_120 : decode cX6_readLine 120 = .ok (.ifCond .ne 7, 3) := by decide +kernel
theorem dX6_readLine_123 : decode cX6_readLine 123 = .ok (.iconst 1, 1) := by decide +kernel
theorem dX6_readLine_124 : decode cX6_readLine 124 = .ok (.goto 4, 3) := by decide +kernel
theorem dX6_readLine_127 : decode cX6_readLine 127 = .ok (.iconst 0, 1) := by decide +kernel
theorem dX6_readLine_128 : decode cX6_readLine 128 = .ok (.invokevirtual 90, 3) := by decide +kernel
theorem dX6_readLine_131 : decode cX6_readLine 131 = .ok (.ireturn, 1) := by decide +kernel
theorem dX6_readLine_132 : decode cX6_readLine 132 = .ok (.aload_n 0, 1) := by decide +kernel
theorem dX6_readLine_133 : decode cX6_readLine 133 = .ok (.invokevirtual 94, 3) := by decide +kernel
theorem dX6_readLine_136 : decode cX6_readLine 136 = .ok (.ireturn, 1) := by decide +kernel
theorem dX6_readLine_137 : decode cX6_readLine 137 = .ok (.aload_n 0, 1) := by decide +kernel
theorem dX6_readLine_138 : decode cX6_readLine 138 = .ok (.invokevirtual 97, 3) := by decide +kernel
theorem dX6_readLine_141 : decode cX6_readLine 141 = .ok (.ireturn, 1) := by decide +kernel
theorem dX6_readLine_142 : decode cX6_readLine 142 = .ok (.aload_n 0, 1) := by decide +kernel
theorem dX6_readLine_143 : decode cX6_readLine 143 = .ok (.invokevirtual 100, 3) := by decide +kernel
theorem dX6_readLine_146 : decode cX6_readLine 146 = .ok (.ireturn, 1) := by decide +kernel
theorem dX6_readLine_147 : decode cX6_readLine 147 = .ok (.aload_n 0, 1) := by decide +kernel
theorem dX6_readLine_148 : decode cX6_readLine 148 = .ok (.invokevirtual 103, 3) := by decide +kernel
theorem dX6_readLine_151 : decode cX6_readLine 151 = .ok (.ireturn, 1) := by decide +kernel
theorem dX6_readLine_152 : decode cX6_readLine 152 = .ok (.aload_n 0, 1) := by decide +kernel
theorem dX6_readLine_153 : decode cX6_readLine 153 = .ok (.invokevirtual 106, 3) := by decide +kernel
theorem dX6_readLine_156 : decode cX6_readLine 156 = .ok (.ireturn, 1) := by decide +kernel
theorem dX6_readLine_157 : decode cX6_readLine 157 = .ok (.aload_n 0, 1) := by decide +kernel
theorem dX6_readLine_158 : decode cX6_readLine 158 = .ok (.invokevirtual 109, 3) := by decide +kernel
theorem dX6_readLine_161 : decode cX6_readLine 161 = .ok (.ireturn, 1) := by decide +kernel
theorem dX6_readLine_162 : decode cX6_readLine 162 = .ok (.aload_n 0, 1) := by decide +kernel
theorem dX6_readLine_163 : decode cX6_readLine 163 = .ok (.invokevirtual 112, 3) := by decide +kernel
theorem dX6_readLine_166 : decode cX6_readLine 166 = .ok (.ireturn, 1) := by decide +kernel
theorem dX6_readLine_167 : decode cX6_readLine 167 = .ok (.aload_n 0, 1) := by decide +kernel
theorem dX6_readLine_168 : decode cX6_readLine 168 = .ok (.iconst 1, 1) := by decide +kernel
theorem dX6_readLine_169 : decode cX6_readLine 169 = .ok (.invokevirtual 72, 3) := by decide +kernel
theorem dX6_readLine_172 : decode cX6_readLine 172 = .ok (.ireturn, 1) := by decide +kernel
theorem dX6_readInput_0 : decode cX6_readInput 0 = .ok (.aload_n 0, 1) := by decide +kernel
theorem dX6_readInput_1 : decode cX6_readInput 1 = .ok (.getfield 44, 3) := by decide +kernel
theorem dX6_readInput_4 : decode cX6_readInput 4 = .ok (.ifCond .le 9, 3) := by decide +kernel
theorem dX6_readInput_7 : decode cX6_readInput 7 = .ok (.aload_n 0, 1) := by decide +kernel
theorem dX6_readInput_8 : decode cX6_readInput 8 = .ok (.iconst 1, 1) := by decide +kernel
theorem dX6_readInput_9 : decode cX6_readInput 9 = .ok (.invokevirtual 72, 3) := by decide +kernel
theorem dX6_readInput_12 : decode cX6_readInput 12 = .ok (.ireturn, 1) := by decide +kernel
theorem dX6_readInput_13 : decode cX6_readInput 13 = .ok (.aload_n 0, 1) := by decide +kernel
theorem dX6_readInput_14 : decode cX6_readInput 14 = .ok (.getfield 12, 3) := by decide +kernel
theorem dX6_readInput_17 : decode cX6_readInput 17 = .ok (.getfield 115, 3) := by decide +kernel
theorem dX6_readInput_20 : decode cX6_readInput 20 = .ok (.bipush 6, 2) := by decide +kernel
theorem dX6_readInput_22 : decode cX6_readInput 22 = .ok (.if_icmp .lt 9, 3) := by decide +kernel
theorem dX6_readInput_25 : decode cX6_readInput 25 = .ok (.aload_n 0, 1) := by decide +kernel
theorem dX6_readInput_26 : decode cX6_readInput 26 = .ok (.iconst 5, 1) := by decide +kernel
theorem dX6_readInput_27 : decode cX6_readInput 27 = .ok (.invokevirtual 72, 3) := by decide +kernel
theorem dX6_readInput_30 : decode cX6_readInput 30 = .ok (.ireturn, 1) := by decide +kernel
theorem dX6_readInput_31 : decode cX6_readInput 31 = .ok (.aload_n 0, 1) := by decide +kernel
theorem dX6_readInput_32 : decode cX6_readInput 32 = .ok (.getfield 12, 3) := by decide +kernel
theorem dX6_readInput_35 : decode cX6_readInput 35 = .ok (.getfield 115, 3) := by decide +kernel
theorem dX6_readInput_38 : decode cX6_readInput 38 = .ok (.istore_n 2, 1) := by decide +kernel
theorem dX6_readInput_39 : decode cX6_readInput 39 = .ok (.aload_n 0, 1) := by decide +kernel
theorem dX6_readInput_40 : decode cX6_readInput 40 = .ok (.getfield 12, 3) := by decide +kernel
theorem dX6_readInput_43 : decode cX6_readInput 43 = .ok (.dup, 1) := by decide +kernel
theorem dX6_readInput_44 : decode cX6_readInput 44 = .ok (.getfield 115, 3) := by decide +kernel
theorem dX6_readInput_47 : decode cX6_readInput 47 = .ok (.iconst 1, 1) := by decide +kernel
theorem dX6_readInput_48 : decode cX6_readInput 48 = .ok (.iadd, 1) := by decide +kernel
theorem dX6_readInput_49 : decode cX6_readInput 49 = .ok (.putfield 115, 3) := by decide +kernel
theorem dX6_readInput_52 : decode cX6_readInput 52 = .ok (.aload_n 0, 1) := by decide +kernel
theorem dX6_readInput_53 : decode cX6_readInput 53 = .ok (.getfield 12, 3) := by decide +kernel
theorem dX6_readInput_56 : decode cX6_readInput 56 = .ok (.getfield 117, 3) := by decide +kernel
theorem dX6_readInput_59 : decode cX6_readInput 59 = .ok (.iload_n 2, 1) := by decide +kernel
theorem dX6_readInput_60 : decode cX6_readInput 60 = .ok (.iload_n 1, 1) := by decide +kernel
theorem dX6_readInput_61 : decode cX6_readInput 61 = .ok (.bastore, 1) := by decide +kernel
theorem dX6_readInput_62 : decode cX6_readInput 62 = .ok (.aload_n 0, 1) := by decide +kernel
theorem dX6_readInput_63 : decode cX6_readInput 63 = .ok (.iload_n 2, 1) := by decide +kernel
theorem dX6_readInput_64 : decode cX6_readInput 64 = .ok (.invokevirtual 120, 3) := by decide +kernel
theorem dX6_readInput_67 : decode cX6_readInput 67 = .ok (.istore_n 3, 1) := by decide +kernel
theorem dX6_readInput_68 : decode cX6_readInput 68 = .ok (.iload_n 3, 1) := by decide +kernel
theorem dX6_readInput_69 : decode cX6_readInput 69 = .ok (.ifCond .ne 12, 3) := by decide +kernel
theorem dX6_readInput_72 : decode cX6_readInput 72 = .ok (.aload_n 0, 1) := by decide +kernel
theorem dX6_readInput_73 : decode cX6_readInput 73 = .ok (.iconst 0, 1) := by decide +kernel
theorem dX6_readInput_74 : decode cX6_readInput 74 = .ok (.sipush 999, 3) := by decide +kernel
theorem dX6_readInput_77 : decode cX6_readInput 77 = .ok (.invokevirtual 123, 3) := by decide +kernel
theorem dX6_readInput_80 : decode cX6_readInput 80 = .ok (.istore_n 3, 1) := by decide +kernel
theorem dX6_readInput_81 : decode cX6_readInput 81 = .ok (.iload_n 3, 1) := by decide +kernel
theorem dX6_readInput_82 : decode cX6_readInput 82 = .ok (.ifCond .ne 34, 3) := by decide +kernel
theorem dX6_readInput_85 : decode cX6_readInput 85 = .ok (.aload_n 0, 1) := by decide +kernel
theorem dX6_readInput_86 : decode cX6_readInput 86 = .ok (.getfield 12, 3) := by decide +kernel
theorem dX6_readInput_89 : decode cX6_readInput 89 = .ok (.getfield 127, 3) := by decide +kernel
theorem dX6_readInput_92 : decode cX6_readInput 92 = .ok (.iload_n 2, 1) := by decide +kernel
theorem dX6_readInput_93 : decode cX6_readInput 93 = .ok (.aload_n 0, 1) := by decide +kernel
theorem dX6_readInput_94 : decode cX6_readInput 94 = .ok (.getfield 33, 3) := by decide +kernel
theorem dX6_readInput_97 : decode cX6_readInput 97 = .ok (.getfield 87, 3) := by decide +kernel
theorem dX6_readInput_100 : decode cX6_readInput 100 = .ok (.iastore, 1) := by decide +kernel
theorem dX6_readInput_101 : decode cX6_readInput 101 = .ok (.aload_n 0, 1) := by decide +kernel
theorem dX6_readInput_102 : decode cX6_readInput 102 = .ok (.aload_n 0, 1) := by decide +kernel
theorem dX6_readInput_103 : decode cX6_readInput 103 = .ok (.getfield 33, 3) := by decide +kernel
theorem dX6_readInput_106 : decode cX6_readInput 106 = .ok (.getfield 87, 3) := by decide +kernel
theorem dX6_readInput_109 : decode cX6_readInput 109 = .ok (.sipush 999, 3) := by decide +kernel
theorem dX6_readInput_112 : decode cX6_readInput 112 = .ok (.invokevirtual 123, 3) := by decide +kernel
theorem dX6_readInput_115 : decode cX6_readInput 115 = .ok (.istore_n 3, 1) := by decide +kernel
theorem dX6_readInput_116 : decode cX6_readInput 116 = .ok (.iload_n 3, 1) := by decide +kernel
theorem dX6_readInput_117 : decode cX6_readInput 117 = .ok (.ifCond .ne 24, 3) := by decide +kernel
theorem dX6_readInput_120 : decode cX6_readInput 120 = .ok (.aload_n 0, 1) := by decide +kernel
theorem dX6_readInput_121 : decode cX6_readInput 121 = .ok (.getfield 12, 3) := by decide +kernel
theorem dX6_readInput_124 : decode cX6_readInput 124 = .ok (.getfield 130, 3) := by decide +kernel
theorem dX6_readInput_127 : decode cX6_readInput 127 = .ok (.iload_n 2, 1) := by decide +kernel
theorem dX6_readInput_128 : decode cX6_readInput 128 = .ok (.aload_n 0, 1) := by decide +kernel
theorem dX6_readInput_129 : decode cX6_readInput 129 = .ok (.getfield 33, 3) := by decide +kernel
theorem dX6_readInput_132 : decode cX6_readInput 132 = .ok (.getfield 87, 3) := by decide +kernel
theorem dX6_readInput_135 : decode cX6_readInput 135 = .ok (.iastore, 1) := by decide +kernel
theorem dX6_readInput_136 : decode cX6_readInput 136 = .ok (.aload_n 0, 1) := by decide +kernel
theorem dX6_readInput_137 : decode cX6_readInput 137 = .ok (.invokevirtual 133, 3) := by decide +kernel
theorem dX6_readInput_140 : decode cX6_readInput 140 = .ok (.istore_n 3, 1) := by decide +kernel
theorem dX6_readInput_141 : decode cX6_readInput 141 = .ok (.iload_n 3, 1) := by decide +kernel
theorem dX6_readInput_142 : decode cX6_readInput 142 = .ok (.ireturn, 1) := by decide +kernel
theorem dX6_readInputName_0 : decode cX6_readInputName 0 = .ok (.aload_n 0, 1) := by decide +kernel
theorem dX6_readInputName_1 : decode cX6_readInputName 1 = .ok (.getfield 12, 3) := by decide +kernel
theorem dX6_readInputName_4 : decode cX6_readInputName 4 = .ok (.iconst 0, 1) := by decide +kernel
theorem dX6_readInputName_5 : decode cX6_readInputName 5 = .ok (.aload_n 0, 1) := by decide +kernel
theorem dX6_readInputName_6 : decode cX6_readInputName 6 = .ok (.getfield 33, 3) := by decide +kernel
theorem dX6_readInputName_9 : decode cX6_readInputName 9 = .ok (.getfield 78, 3) := by decide +kernel
theorem dX6_readInputName_12 : decode cX6_readInputName 12 = .ok (.invokevirtual 136, 3) := by decide +kernel
theorem dX6_readInputName_15 : decode cX6_readInputName 15 = .ok (.istore_n 2, 1) := by decide +kernel
theorem dX6_readInputName_16 : decode cX6_readInputName 16 = .ok (.aload_n 0, 1) := by decide +kernel
theorem dX6_readInputName_17 : decode cX6_readInputName 17 = .ok (.getfield 33, 3) := by decide +kernel
theorem dX6_readInputName_20 : decode cX6_readInputName 20 = .ok (.invokevirtual 62, 3) := by decide +kernel
theorem dX6_readInputName_23 : decode cX6_readInputName 23 = .ok (.aload_n 0, 1) := by decide +kernel
theorem dX6_readInputName_24 : decode cX6_readInputName 24 = .ok (.getfield 33, 3) := by decide +kernel
theorem dX6_readInputName_27 : decode cX6_readInputName 27 = .ok (.getfield 65, 3) := by decide +kernel
theorem dX6_readInputName_30 : decode cX6_readInputName 30 = .ok (.iconst 4, 1) := by decide +kernel
theorem dX6_readInputName_31 : decode cX6_readInputName 31 = .ok (.if_icmp .eq 9, 3) := by decide +kernel
theorem dX6_readInputName_34 : decode cX6_readInputName 34 = .ok (.aload_n 0, 1) := by decide +kernel
theorem dX6_readInputName_35 : decode cX6_readInputName 35 = .ok (.iconst 1, 1) := by decide +kernel
theorem dX6_readInputName_36 : decode cX6_readInputName 36 = .ok (.invokevirtual 72, 3) := by decide +kernel
theorem dX6_readInputName_39 : decode cX6_readInputName 39 = .ok (.ireturn, 1) := by decide +kernel
theorem dX6_readInputName_40 : decode cX6_readInputName 40 = .ok (.aload_n 0, 1) := by decide +kernel
theorem dX6_readInputName_41 : decode cX6_readInputName 41 = .ok (.aload_n 0, 1) := by decide +kernel
theorem dX6_readInputName_42 : decode cX6_readInputName 42 = .ok (.getfield 33, 3) := by decide +kernel
theorem dX6_readInputName_45 : decode cX6_readInputName 45 = .ok (.getfield 139, 3) := by decide +kernel
theorem dX6_readInputName_48 : decode cX6_readInputName 48 = .ok (.invokevirtual 143, 3) := by decide +kernel
theorem dX6_readInputName_51 : decode cX6_readInputName 51 = .ok (.iconst (-1), 1) := by decide +kernel
theorem dX6_readInputName_52 : decode cX6_readInputName 52 = .ok (.if_icmp .eq 9, 3) := by decide +kernel
theorem dX6_readInputName_55 : decode cX6_readInputName 55 = .ok (.aload_n 0, 1) := by decide +kernel
theorem dX6_readInputName_56 : decode cX6_readInputName 56 = .ok (.iconst 3, 1) := by decide +kernel
theorem dX6_readInputName_57 : decode cX6_readInputName 57 = .ok (.invokevirtual 72, 3) := by decide +kernel
theorem dX6_readInputName_60 : decode cX6_readInputName 60 = .ok (.ireturn, 1) := by decide +kernel
theorem dX6_readInputName_61 : decode cX6_readInputName 61 = .ok (.aload_n 0, 1) := by decide +kernel
theorem dX6_readInputName_62 : decode cX6_readInputName 62 = .ok (.getfield 40, 3) := by decide +kernel
theorem dX6_readInputName_65 : decode cX6_readInputName 65 = .ok (.bipush 20, 2) := by decide +kernel
theorem dX6_readInputName_67 : decode cX6_readInputName 67 = .ok (.if_icmp .lt 9, 3) := by decide +kernel
theorem dX6_readInputName_70 : decode cX6_readInputName 70 = .ok (.aload_n 0, 1) := by decide +kernel
theorem dX6_readInputName_71 : decode cX6_readInputName 71 = .ok (.iconst 5, 1) := by decide +kernel
theorem dX6_readInputName_72 : decode cX6_readInputName 72 = .ok (.invokevirtual 72, 3) := by decide +kernel
theorem dX6_readInputName_75 : decode cX6_readInputName 75 = .ok (.ireturn, 1) := by decide +kernel
theorem dX6_readInputName_76 : decode cX6_readInputName 76 = .ok (.aload_n 0, 1) := by decide +kernel
theorem dX6_readInputName_77 : decode cX6_readInputName 77 = .ok (.getfield 12, 3) := by decide +kernel
theorem dX6_readInputName_80 : decode cX6_readInputName 80 = .ok (.getfield 147, 3) := by decide +kernel
theorem dX6_readInputName_83 : decode cX6_readInputName 83 = .ok (.iload_n 2, 1) := by decide +kernel
theorem dX6_readInputName_84 : decode cX6_readInputName 84 = .ok (.iload_n 1, 1) := by decide +kernel
theorem dX6_readInputName_85 : decode cX6_readInputName 85 = .ok (.iastore, 1) := by decide +kernel
theorem dX6_readInputName_86 : decode cX6_readInputName 86 = .ok (.aload_n 0, 1) := by decide +kernel
theorem dX6_readInputName_87 : decode cX6_readInputName 87 = .ok (.getfield 12, 3) := by decide +kernel
theorem dX6_readInputName_90 : decode cX6_readInputName 90 = .ok (.getfield 150, 3) := by decide +kernel
theorem dX6_readInputName_93 : decode cX6_readInputName 93 = .ok (.iload_n 2, 1) := by decide +kernel
theorem dX6_readInputName_94 : decode cX6_readInputName 94 = .ok (.aload_n 0, 1) := by decide +kernel
theorem dX6_readInputName_95 : decode cX6_readInputName 95 = .ok (.aload_n 0, 1) := by decide +kernel
theorem dX6_readInputName_96 : decode cX6_readInputName 96 = .ok (.getfield 33, 3) := by decide +kernel
theorem dX6_readInputName_99 : decode cX6_readInputName 99 = .ok (.getfield 139, 3) := by decide +kernel
theorem dX6_readInputName_102 : decode cX6_readInputName 102 = .ok (.iconst 0, 1) := by decide +kernel
theorem dX6_readInputName_103 : decode cX6_readInputName 103 = .ok (.iconst 1, 1) := by decide +kernel
theorem dX6_readInputName_104 : decode cX6_readInputName 104 = .ok (.invokevirtual 153, 3) := by decide +kernel
theorem dX6_readInputName_107 : decode cX6_readInputName 107 = .ok (.iastore, 1) := by decide +kernel
theorem dX6_readInputName_108 : decode cX6_readInputName 108 = .ok (.iconst 0, 1) := by decide +kernel
theorem dX6_readInputName_109 : decode cX6_readInputName 109 = .ok (.ireturn, 1) := by decide +kernel
theorem dX6_readFetch_0 : decode cX6_readFetch 0 = .ok (.aload_n 0, 1) := by decide +kernel
theorem dX6_readFetch_1 : decode cX6_readFetch 1 = .ok (.getfield 44, 3) := by decide +kernel
theorem dX6_readFetch_4 : decode cX6_readFetch 4 = .ok (.ifCond .le 9, 3) := by decide +kernel
theorem dX6_readFetch_7 : decode cX6_readFetch 7 = .ok (.aload_n 0, 1) := by decide +kernel
theorem dX6_readFetch_8 : decode cX6_readFetch 8 = .ok (.iconst 1, 1) := by decide +kernel
theorem dX6_readFetch_9 : decode cX6_readFetch 9 = .ok (.invokevirtual 72, 3) := by decide +kernel
theorem dX6_readFetch_12 : decode cX6_readFetch 12 = .ok (.ireturn, 1) := by decide +kernel
theorem dX6_readFetch_13 : decode cX6_readFetch 13 = .ok (.aload_n 0, 1) := by decide +kernel
theorem dX6_readFetch_14 : decode cX6_readFetch 14 = .ok (.getfield 50, 3) := by decide +kernel
theorem dX6_readFetch_17 : decode cX6_readFetch 17 = .ok (.ifCond .eq 9, 3) := by decide +kernel
theorem dX6_readFetch_20 : decode cX6_readFetch 20 = .ok (.aload_n 0, 1) := by decide +kernel
theorem dX6_readFetch_21 : decode cX6_readFetch 21 = .ok (.iconst 3, 1) := by decide +kernel
theorem dX6_readFetch_22 : decode cX6_readFetch 22 = .ok (.invokevirtual 72, 3) := by decide +kernel
theorem dX6_readFetch_25 : decode cX6_readFetch 25 = .ok (.ireturn, 1) := by decide +kernel
theorem dX6_readFetch_26 : decode cX6_readFetch 26 = .ok (.aload_n 0, 1) := by decide +kernel
theorem dX6_readFetch_27 : decode cX6_readFetch 27 = .ok (.iconst 1, 1) := by decide +kernel
theorem dX6_readFetch_28 : decode cX6_readFetch 28 = .ok (.bipush 8, 2) := by decide +kernel
theorem dX6_readFetch_30 : decode cX6_readFetch 30 = .ok (.invokevirtual 123, 3) := by decide +kernel
theorem dX6_readFetch_33 : decode cX6_readFetch 33 = .ok (.istore_n 1, 1) := by decide +kernel
theorem dX6_readFetch_34 : decode cX6_readFetch 34 = .ok (.iload_n 1, 1) := by decide +kernel
theorem dX6_readFetch_35 : decode cX6_readFetch 35 = .ok (.ifCond .ne 27, 3) := by decide +kernel
theorem dX6_readFetch_38 : decode cX6_readFetch 38 = .ok (.aload_n 0, 1) := by decide +kernel
theorem dX6_readFetch_39 : decode cX6_readFetch 39 = .ok (.iconst 1, 1) := by decide +kernel
theorem dX6_readFetch_40 : decode cX6_readFetch 40 = .ok (.putfield 50, 3) := by decide +kernel
theorem dX6_readFetch_43 : decode cX6_readFetch 43 = .ok (.aload_n 0, 1) := by decide +kernel
theorem dX6_readFetch_44 : decode cX6_readFetch 44 = .ok (.getfield 12, 3) := by decide +kernel
theorem dX6_readFetch_47 : decode cX6_readFetch 47 = .ok (.aload_n 0, 1) := by decide +kernel
theorem dX6_readFetch_48 : decode cX6_readFetch 48 = .ok (.getfield 33, 3) := by decide +kernel
theorem dX6_readFetch_51 : decode cX6_readFetch 51 = .ok (.getfield 87, 3) := by decide +kernel
theorem dX6_readFetch_54 : decode cX6_readFetch 54 = .ok (.putfield 157, 3) := by decide +kernel
theorem dX6_readFetch_57 : decode cX6_readFetch 57 = .ok (.aload_n 0, 1) := by decide +kernel
theorem dX6_readFetch_58 : decode cX6_readFetch 58 = .ok (.invokevirtual 133, 3) := by decide +kernel
theorem dX6_readFetch_61 : decode cX6_readFetch 61 = .ok (.istore_n 1, 1) := by decide +kernel
theorem dX6_readFetch_62 : decode cX6_readFetch 62 = .ok (.iload_n 1, 1) := by decide +kernel
theorem dX6_readFetch_63 : decode cX6_readFetch 63 = .ok (.ireturn, 1) := by decide +kernel
theorem dX6_readAlu_0 : decode cX6_readAlu 0 = .ok (.aload_n 0, 1) := by decide +kernel
theorem dX6_readAlu_1 : decode cX6_readAlu 1 = .ok (.getfield 44, 3) := by decide +kernel
theorem dX6_readAlu_4 : decode cX6_readAlu 4 = .ok (.ifCond .le 9, 3) := by decide +kernel
theorem dX6_readAlu_7 : decode cX6_readAlu 7 = .ok (.aload_n 0, 1) := by decide +kernel
theorem dX6_readAlu_8 : decode cX6_readAlu 8 = .ok (.iconst 1, 1) := by decide +kernel
theorem dX6_readAlu_9 : decode cX6_readAlu 9 = .ok (.invokevirtual 72, 3) := by decide +kernel
theorem dX6_readAlu_12 : decode cX6_readAlu 12 = .ok (.ireturn, 1) := by decide +kernel
theorem dX6_readAlu_13 : decode cX6_readAlu 13 = .ok (.aload_n 0, 1) := by decide +kernel
theorem dX6_readAlu_14 : decode cX6_readAlu 14 = .ok (.getfield 54, 3) := by decide +kernel
theorem dX6_readAlu_17 : decode cX6_readAlu 17 = .ok (.ifCond .eq 9, 3) := by decide +kernel
theorem dX6_readAlu_20 : decode cX6_readAlu 20 = .ok (.aload_n 0, 1) := by decide +kernel
theorem dX6_readAlu_21 : decode cX6_readAlu 21 = .ok (.iconst 3, 1) := by decide +kernel
theorem dX6_readAlu_22 : decode cX6_readAlu 22 = .ok (.invokevirtual 72, 3) := by decide +kernel
theorem dX6_readAlu_25 : decode cX6_readAlu 25 = .ok (.ireturn, 1) := by decide +kernel
theorem dX6_readAlu_26 : decode cX6_readAlu 26 = .ok (.aload_n 0, 1) := by decide +kernel
theorem dX6_readAlu_27 : decode cX6_readAlu 27 = .ok (.iconst 1, 1) := by decide +kernel
theorem dX6_readAlu_28 : decode cX6_readAlu 28 = .ok (.bipush 16, 2) := by decide +kernel
theorem dX6_readAlu_30 : decode cX6_readAlu 30 = .ok (.invokevirtual 123, 3) := by decide +kernel
theorem dX6_readAlu_33 : decode cX6_readAlu 33 = .ok (.istore_n 1, 1) := by decide +kernel
theorem dX6_readAlu_34 : decode cX6_readAlu 34 = .ok (.iload_n 1, 1) := by decide +kernel
theorem dX6_readAlu_35 : decode cX6_readAlu 35 = .ok (.ifCond .ne 27, 3) := by decide +kernel
theorem dX6_readAlu_38 : decode cX6_readAlu 38 = .ok (.aload_n 0, 1) := by decide +kernel
theorem dX6_readAlu_39 : decode cX6_readAlu 39 = .ok (.iconst 1, 1) := by decide +kernel
theorem dX6_readAlu_40 : decode cX6_readAlu 40 = .ok (.putfield 54, 3) := by decide +kernel
theorem dX6_readAlu_43 : decode cX6_readAlu 43 = .ok (.aload_n 0, 1) := by decide +kernel
theorem dX6_readAlu_44 : decode cX6_readAlu 44 = .ok (.getfield 12, 3) := by decide +kernel
theorem dX6_readAlu_47 : decode cX6_readAlu 47 = .ok (.aload_n 0, 1) := by decide +kernel
theorem dX6_readAlu_48 : decode cX6_readAlu 48 = .ok (.getfield 33, 3) := by decide +kernel
theorem dX6_readAlu_51 : decode cX6_readAlu 51 = .ok (.getfield 87, 3) := by decide +kernel
theorem dX6_readAlu_54 : decode cX6_readAlu 54 = .ok (.putfield 160, 3) := by decide +kernel
theorem dX6_readAlu_57 : decode cX6_readAlu 57 = .ok (.aload_n 0, 1) := by decide +kernel
theorem dX6_readAlu_58 : decode cX6_readAlu 58 = .ok (.invokevirtual 133, 3) := by decide +kernel
theorem dX6_readAlu_61 : decode cX6_readAlu 61 = .ok (.istore_n 1, 1) := by decide +kernel
theorem dX6_readAlu_62 : decode cX6_readAlu 62 = .ok (.iload_n 1, 1) := by decide +kernel
theorem dX6_readAlu_63 : decode cX6_readAlu 63 = .ok (.ireturn, 1) := by decide +kernel
theorem dX6_readWhen_0 : decode cX6_readWhen 0 = .ok (.aload_n 0, 1) := by decide +kernel
theorem dX6_readWhen_1 : decode cX6_readWhen 1 = .ok (.getfield 44, 3) := by decide +kernel
theorem dX6_readWhen_4 : decode cX6_readWhen 4 = .ok (.iconst 4, 1) := by decide +kernel
theorem dX6_readWhen_5 : decode cX6_readWhen 5 = .ok (.if_icmp .lt 9, 3) := by decide +kernel
theorem dX6_readWhen_8 : decode cX6_readWhen 8 = .ok (.aload_n 0, 1) := by decide +kernel
theorem dX6_readWhen_9 : decode cX6_readWhen 9 = .ok (.iconst 5, 1) := by decide +kernel
theorem dX6_readWhen_10 : decode cX6_readWhen 10 = .ok (.invokevirtual 72, 3) := by decide +kernel
theorem dX6_readWhen_13 : decode cX6_readWhen 13 = .ok (.ireturn, 1) := by decide +kernel
theorem dX6_readWhen_14 : decode cX6_readWhen 14 = .ok (.aload_n 0, 1) := by decide +kernel
theorem dX6_readWhen_15 : decode cX6_readWhen 15 = .ok (.getfield 12, 3) := by decide +kernel
theorem dX6_readWhen_18 : decode cX6_readWhen 18 = .ok (.iconst 5, 1) := by decide +kernel
theorem dX6_readWhen_19 : decode cX6_readWhen 19 = .ok (.aload_n 0, 1) := by decide +kernel
theorem dX6_readWhen_20 : decode cX6_readWhen 20 = .ok (.getfield 33, 3) := by decide +kernel
theorem dX6_readWhen_23 : decode cX6_readWhen 23 = .ok (.getfield 78, 3) := by decide +kernel
theorem dX6_readWhen_26 : decode cX6_readWhen 26 = .ok (.invokevirtual 136, 3) := by decide +kernel
theorem dX6_readWhen_29 : decode cX6_readWhen 29 = .ok (.istore_n 1, 1) := by decide +kernel
theorem dX6_readWhen_30 : decode cX6_readWhen 30 = .ok (.aload_n 0, 1) := by decide +kernel
theorem dX6_readWhen_31 : decode cX6_readWhen 31 = .ok (.getfield 33, 3) := by decide +kernel
theorem dX6_readWhen_34 : decode cX6_readWhen 34 = .ok (.invokevirtual 62, 3) := by decide +kernel
theorem dX6_readWhen_37 : decode cX6_readWhen 37 = .ok (.aload_n 0, 1) := by decide +kernel
theorem dX6_readWhen_38 : decode cX6_readWhen 38 = .ok (.iload_n 1, 1) := by decide +kernel
theorem dX6_readWhen_39 : decode cX6_readWhen 39 = .ok (.iconst 0, 1) := by decide +kernel
theorem dX6_readWhen_40 : decode cX6_readWhen 40 = .ok (.iconst 1, 1) := by decide +kernel
theorem dX6_readWhen_41 : decode cX6_readWhen 41 = .ok (.invokevirtual 163, 3) := by decide +kernel
theorem dX6_readWhen_44 : decode cX6_readWhen 44 = .ok (.istore_n 2, 1) := by decide +kernel
theorem dX6_readWhen_45 : decode cX6_readWhen 45 = .ok (.iload_n 2, 1) := by decide +kernel
theorem dX6_readWhen_46 : decode cX6_readWhen 46 = .ok (.ifCond .ne 80, 3) := by decide +kernel
theorem dX6_readWhen_49 : decode cX6_readWhen 49 = .ok (.aload_n 0, 1) := by decide +kernel
theorem dX6_readWhen_50 : decode cX6_readWhen 50 = .ok (.getfield 12, 3) := by decide +kernel
theorem dX6_readWhen_53 : decode cX6_readWhen 53 = .ok (.getfield 150, 3) := by decide +kernel
theorem dX6_readWhen_56 : decode cX6_readWhen 56 = .ok (.iload_n 1, 1) := by decide +kernel
theorem dX6_readWhen_57 : decode cX6_readWhen 57 = .ok (.aload_n 0, 1) := by decide +kernel
theorem dX6_readWhen_58 : decode cX6_readWhen 58 = .ok (.getfield 40, 3) := by decide +kernel
theorem dX6_readWhen_61 : decode cX6_readWhen 61 = .ok (.iastore, 1) := by decide +kernel
theorem dX6_readWhen_62 : decode cX6_readWhen 62 = .ok (.aload_n 0, 1) := by decide +kernel
theorem dX6_readWhen_63 : decode cX6_readWhen 63 = .ok (.getfield 12, 3) := by decide +kernel
theorem dX6_readWhen_66 : decode cX6_readWhen 66 = .ok (.getfield 147, 3) := by decide +kernel
theorem dX6_readWhen_69 : decode cX6_readWhen 69 = .ok (.iload_n 1, 1) := by decide +kernel
theorem dX6_readWhen_70 : decode cX6_readWhen 70 = .ok (.aload_n 0, 1) := by decide +kernel
theorem dX6_readWhen_71 : decode cX6_readWhen 71 = .ok (.getfield 12, 3) := by decide +kernel
theorem dX6_readWhen_74 : decode cX6_readWhen 74 = .ok (.getfield 167, 3) := by decide +kernel
theorem dX6_readWhen_77 : decode cX6_readWhen 77 = .ok (.iastore, 1) := by decide +kernel
theorem dX6_readWhen_78 : decode cX6_readWhen 78 = .ok (.aload_n 0, 1) := by decide +kernel
theorem dX6_readWhen_79 : decode cX6_readWhen 79 = .ok (.getfield 12, 3) := by decide +kernel
theorem dX6_readWhen_82 : decode cX6_readWhen 82 = .ok (.dup, 1) := by decide +kernel
theorem dX6_readWhen_83 : decode cX6_readWhen 83 = .ok (.getfield 167, 3) := by decide +kernel
theorem dX6_readWhen_86 : decode cX6_readWhen 86 = .ok (.iconst 1, 1) := by decide +kernel
theorem dX6_readWhen_87 : decode cX6_readWhen 87 = .ok (.iadd, 1) := by decide +kernel
theorem dX6_readWhen_88 : decode cX6_readWhen 88 = .ok (.putfield 167, 3) := by decide +kernel
theorem dX6_readWhen_91 : decode cX6_readWhen 91 = .ok (.aload_n 0, 1) := by decide +kernel
theorem dX6_readWhen_92 : decode cX6_readWhen 92 = .ok (.dup, 1) := by decide +kernel
theorem dX6_readWhen_93 : decode cX6_readWhen 93 = .ok (.getfield 47, 3) := by decide +kernel
theorem dX6_readWhen_96 : decode cX6_readWhen 96 = .ok (.iconst 1, 1) := by decide +kernel
theorem dX6_readWhen_97 : decode cX6_readWhen 97 = .ok (.iadd, 1) := by decide +kernel
theorem dX6_readWhen_98 : decode cX6_readWhen 98 = .ok (.putfield 47, 3) := by decide +kernel
theorem dX6_readWhen_101 : decode cX6_readWhen 101 = .ok (.aload_n 0, 1) := by decide +kernel
theorem dX6_readWhen_102 : decode cX6_readWhen 102 = .ok (.getfield 30, 3) := by decide +kernel
theorem dX6_readWhen_105 : decode cX6_readWhen 105 = .ok (.aload_n 0, 1) := by decide +kernel
theorem dX6_readWhen_106 : decode cX6_readWhen 106 = .ok (.getfield 44, 3) := by decide +kernel
theorem dX6_readWhen_109 : decode cX6_readWhen 109 = .ok (.iload_n 1, 1) := by decide +kernel
theorem dX6_readWhen_110 : decode cX6_readWhen 110 = .ok (.iastore, 1) := by decide +kernel
theorem dX6_readWhen_111 : decode cX6_readWhen 111 = .ok (.aload_n 0, 1) := by decide +kernel
theorem dX6_readWhen_112 : decode cX6_readWhen 112 = .ok (.dup, 1) := by decide +kernel
theorem dX6_readWhen_113 : decode cX6_readWhen 113 = .ok (.getfield 44, 3) := by decide +kernel
theorem dX6_readWhen_116 : decode cX6_readWhen 116 = .ok (.iconst 1, 1) := by decide +kernel
theorem dX6_readWhen_117 : decode cX6_readWhen 117 = .ok (.iadd, 1) := by decide +kernel
theorem dX6_readWhen_118 : decode cX6_readWhen 118 = .ok (.putfield 44, 3) := by decide +kernel
theorem dX6_readWhen_121 : decode cX6_readWhen 121 = .ok (.aload_n 0, 1) := by decide +kernel
theorem dX6_readWhen_122 : decode cX6_readWhen 122 = .ok (.invokevirtual 133, 3) := by decide +kernel
theorem dX6_readWhen_125 : decode cX6_readWhen 125 = .ok (.istore_n 2, 1) := by decide +kernel
theorem dX6_readWhen_126 : decode cX6_readWhen 126 = .ok (.iload_n 2, 1) := by decide +kernel
theorem dX6_readWhen_127 : decode cX6_readWhen 127 = .ok (.ireturn, 1) := by decide +kernel
theorem dX6_readElse_0 : decode cX6_readElse 0 = .ok (.aload_n 0, 1) := by decide +kernel
theorem dX6_readElse_1 : decode cX6_readElse 1 = .ok (.getfield 44, 3) := by decide +kernel
theorem dX6_readElse_4 : decode cX6_readElse 4 = .ok (.ifCond .le 17, 3) := by decide +kernel
theorem dX6_readElse_7 : decode cX6_readElse 7 = .ok (.aload_n 0, 1) := by decide +kernel
theorem dX6_readElse_8 : decode cX6_readElse 8 = .ok (.getfield 30, 3) := by decide +kernel
theorem dX6_readElse_11 : decode cX6_readElse 11 = .ok (.aload_n 0, 1) := by decide +kernel
theorem dX6_readElse_12 : decode cX6_readElse 12 = .ok (.getfield 44, 3) := by decide +kernel
theorem dX6_readElse_15 : decode cX6_readElse 15 = .ok (.iconst 1, 1) := by decide +kernel
theorem dX6_readElse_16 : decode cX6_readElse 16 = .ok (.isub, 1) := by decide +kernel
theorem dX6_readElse_17 : decode cX6_readElse 17 = .ok (.iaload, 1) := by decide +kernel
theorem dX6_readElse_18 : decode cX6_readElse 18 = .ok (.goto 4, 3) := by decide +kernel
theorem dX6_readElse_21 : decode cX6_readElse 21 = .ok (.iconst (-1), 1) := by decide +kernel
theorem dX6_readElse_22 : decode cX6_readElse 22 = .ok (.istore_n 1, 1) := by decide +kernel
theorem dX6_readElse_23 : decode cX6_readElse 23 = .ok (.iload_n 1, 1) := by decide +kernel
theorem dX6_readElse_24 : decode cX6_readElse 24 = .ok (.iconst (-1), 1) := by decide +kernel
theorem dX6_readElse_25 : decode cX6_readElse 25 = .ok (.if_icmp .eq 29, 3) := by decide +kernel
theorem dX6_readElse_28 : decode cX6_readElse 28 = .ok (.aload_n 0, 1) := by decide +kernel
theorem dX6_readElse_29 : decode cX6_readElse 29 = .ok (.getfield 12, 3) := by decide +kernel
theorem dX6_readElse_32 : decode cX6_readElse 32 = .ok (.getfield 170, 3) := by decide +kernel
theorem dX6_readElse_35 : decode cX6_readElse 35 = .ok (.iload_n 1, 1) := by decide +kernel
theorem dX6_readElse_36 : decode cX6_readElse 36 = .ok (.iaload, 1) := by decide +kernel
theorem dX6_readElse_37 : decode cX6_readElse 37 = .ok (.iconst 5, 1) := by decide +kernel
theorem dX6_readElse_38 : decode cX6_readElse 38 = .ok (.if_icmp .ne 16, 3) := by decide +kernel
theorem dX6_readElse_41 : decode cX6_readElse 41 = .ok (.aload_n 0, 1) := by decide +kernel
theorem dX6_readElse_42 : decode cX6_readElse 42 = .ok (.getfield 12, 3) := by decide +kernel
theorem dX6_readElse_45 : decode cX6_readElse 45 = .ok (.getfield 173, 3) := by decide +kernel
theorem dX6_readElse_48 : decode cX6_readElse 48 = .ok (.iload_n 1, 1) := by decide +kernel
theorem dX6_readElse_49 : decode cX6_readElse 49 = .ok (.iaload, 1) := by decide +kernel
theorem dX6_readElse_50 : decode cX6_readElse 50 = .ok (.iconst (-1), 1) := by decide +kernel
theorem dX6_readElse_51 : decode cX6_readElse 51 = .ok (.if_icmp .eq 9, 3) := by decide +kernel
theorem dX6_readElse_54 : decode cX6_readElse 54 = .ok (.aload_n 0, 1) := by decide +kernel
theorem dX6_readElse_55 : decode cX6_readElse 55 = .ok (.iconst 1, 1) := by decide +kernel
theorem dX6_readElse_56 : decode cX6_readElse 56 = .ok (.invokevirtual 72, 3) := by decide +kernel
theorem dX6_readElse_59 : decode cX6_readElse 59 = .ok (.ireturn, 1) := by decide +kernel
theorem dX6_readElse_60 : decode cX6_readElse 60 = .ok (.aload_n 0, 1) := by decide +kernel
theorem dX6_readElse_61 : decode cX6_readElse 61 = .ok (.getfield 12, 3) := by decide +kernel
theorem dX6_readElse_64 : decode cX6_readElse 64 = .ok (.getfield 173, 3) := by decide +kernel
theorem dX6_readElse_67 : decode cX6_readElse 67 = .ok (.iload_n 1, 1) := by decide +kernel
theorem dX6_readElse_68 : decode cX6_readElse 68 = .ok (.aload_n 0, 1) := by decide +kernel
theorem dX6_readElse_69 : decode cX6_readElse 69 = .ok (.getfield 12, 3) := by decide +kernel
theorem dX6_readElse_72 : decode cX6_readElse 72 = .ok (.bipush 6, 2) := by decide +kernel
theorem dX6_readElse_74 : decode cX6_readElse 74 = .ok (.aload_n 0, 1) := by decide +kernel
theorem dX6_readElse_75 : decode cX6_readElse 75 = .ok (.getfield 33, 3) := by decide +kernel
theorem dX6_readElse_78 : decode cX6_readElse 78 = .ok (.getfield 78, 3) := by decide +kernel
theorem dX6_readElse_81 : decode cX6_readElse 81 = .ok (.invokevirtual 136, 3) := by decide +kernel
theorem dX6_readElse_84 : decode cX6_readElse 84 = .ok (.iastore, 1) := by decide +kernel
theorem dX6_readElse_85 : decode cX6_readElse 85 = .ok (.aload_n 0, 1) := by decide +kernel
theorem dX6_readElse_86 : decode cX6_readElse 86 = .ok (.aload_n 0, 1) := by decide +kernel
theorem dX6_readElse_87 : decode cX6_readElse 87 = .ok (.getfield 12, 3) := by decide +kernel
theorem dX6_readElse_90 : decode cX6_readElse 90 = .ok (.getfield 150, 3) := by decide +kernel
theorem dX6_readElse_93 : decode cX6_readElse 93 = .ok (.iload_n 1, 1) := by decide +kernel
theorem dX6_readElse_94 : decode cX6_readElse 94 = .ok (.iaload, 1) := by decide +kernel
theorem dX6_readElse_95 : decode cX6_readElse 95 = .ok (.putfield 40, 3) := by decide +kernel
theorem dX6_readElse_98 : decode cX6_readElse 98 = .ok (.aload_n 0, 1) := by decide +kernel
theorem dX6_readElse_99 : decode cX6_readElse 99 = .ok (.invokevirtual 133, 3) := by decide +kernel
theorem dX6_readElse_102 : decode cX6_readElse 102 = .ok (.ireturn, 1) := by decide +kernel
theorem dX6_readTimes_0 : decode cX6_readTimes 0 = .ok (.aload_n 0, 1) := by decide +kernel
theorem dX6_readTimes_1 : decode cX6_readTimes 1 = .ok (.getfield 44, 3) := by decide +kernel
theorem dX6_readTimes_4 : decode cX6_readTimes 4 = .ok (.iconst 4, 1) := by decide +kernel
theorem dX6_readTimes_5 : decode cX6_readTimes 5 = .ok (.if_icmp .lt 9, 3) := by decide +kernel
theorem dX6_readTimes_8 : decode cX6_readTimes 8 = .ok (.aload_n 0, 1) := by decide +kernel
theorem dX6_readTimes_9 : decode cX6_readTimes 9 = .ok (.iconst 5, 1) := by decide +kernel
theorem dX6_readTimes_10 : decode cX6_readTimes 10 = .ok (.invokevirtual 72, 3) := by decide +kernel
theorem dX6_readTimes_13 : decode cX6_readTimes 13 = .ok (.ireturn, 1) := by decide +kernel
theorem dX6_readTimes_14 : decode cX6_readTimes 14 = .ok (.aload_n 0, 1) := by decide +kernel
theorem dX6_readTimes_15 : decode cX6_readTimes 15 = .ok (.getfield 12, 3) := by decide +kernel
theorem dX6_readTimes_18 : decode cX6_readTimes 18 = .ok (.bipush 7, 2) := by decide +kernel
theorem dX6_readTimes_20 : decode cX6_readTimes 20 = .ok (.aload_n 0, 1) := by decide +kernel
theorem dX6_readTimes_21 : decode cX6_readTimes 21 = .ok (.getfield 33, 3) := by decide +kernel
theorem dX6_readTimes_24 : decode cX6_readTimes 24 = .ok (.getfield 78, 3) := by decide +kernel
theorem dX6_readTimes_27 : decode cX6_readTimes 27 = .ok (.invokevirtual 136, 3) := by decide +kernel
theorem dX6_readTimes_30 : decode cX6_readTimes 30 = .ok (.istore_n 1, 1) := by decide +kernel
theorem dX6_readTimes_31 : decode cX6_readTimes 31 = .ok (.aload_n 0, 1) := by decide +kernel
theorem dX6_readTimes_32 : decode cX6_readTimes 32 = .ok (.iconst 2, 1) := by decide +kernel
theorem dX6_readTimes_33 : decode cX6_readTimes 33 = .ok (.bipush 9, 2) := by decide +kernel
theorem dX6_readTimes_35 : decode cX6_readTimes 35 = .ok (.invokevirtual 123, 3) := by decide +kernel
theorem dX6_readTimes_38 : decode cX6_readTimes 38 = .ok (.istore_n 2, 1) := by decide +kernel
theorem dX6_readTimes_39 : decode cX6_readTimes 39 = .ok (.iload_n 2, 1) := by decide +kernel
theorem dX6_readTimes_40 : decode cX6_readTimes 40 = .ok (.ifCond .ne 44, 3) := by decide +kernel
theorem dX6_readTimes_43 : decode cX6_readTimes 43 = .ok (.aload_n 0, 1) := by decide +kernel
theorem dX6_readTimes_44 : decode cX6_readTimes 44 = .ok (.getfield 12, 3) := by decide +kernel
theorem dX6_readTimes_47 : decode cX6_readTimes 47 = .ok (.getfield 147, 3) := by decide +kernel
theorem dX6_readTimes_50 : decode cX6_readTimes 50 = .ok (.iload_n 1, 1) := by decide +kernel
theorem dX6_readTimes_51 : decode cX6_readTimes 51 = .ok (.aload_n 0, 1) := by decide +kernel
theorem dX6_readTimes_52 : decode cX6_readTimes 52 = .ok (.getfield 33, 3) := by decide +kernel
theorem dX6_readTimes_55 : decode cX6_readTimes 55 = .ok (.getfield 87, 3) := by decide +kernel
theorem dX6_readTimes_58 : decode cX6_readTimes 58 = .ok (.iastore, 1) := by decide +kernel
theorem dX6_readTimes_59 : decode cX6_readTimes 59 = .ok (.aload_n 0, 1) := by decide +kernel
theorem dX6_readTimes_60 : decode cX6_readTimes 60 = .ok (.getfield 30, 3) := by decide +kernel
theorem dX6_readTimes_63 : decode cX6_readTimes 63 = .ok (.aload_n 0, 1) := by decide +kernel
theorem dX6_readTimes_64 : decode cX6_readTimes 64 = .ok (.getfield 44, 3) := by decide +kernel
theorem dX6_readTimes_67 : decode cX6_readTimes 67 = .ok (.iload_n 1, 1) := by decide +kernel
theorem dX6_readTimes_68 : decode cX6_readTimes 68 = .ok (.iastore, 1) := by decide +kernel
theorem dX6_readTimes_69 : decode cX6_readTimes 69 = .ok (.aload_n 0, 1) := by decide +kernel
theorem dX6_readTimes_70 : decode cX6_readTimes 70 = .ok (.dup, 1) := by decide +kernel
theorem dX6_readTimes_71 : decode cX6_readTimes 71 = .ok (.getfield 44, 3) := by decide +kernel
theorem dX6_readTimes_74 : decode cX6_readTimes 74 = .ok (.iconst 1, 1) := by decide +kernel
theorem dX6_readTimes_75 : decode cX6_readTimes 75 = .ok (.iadd, 1) := by decide +kernel
theorem dX6_readTimes_76 : decode cX6_readTimes 76 = .ok (.putfield 44, 3) := by decide +kernel
theorem dX6_readTimes_79 : decode cX6_readTimes 79 = .ok (.aload_n 0, 1) := by decide +kernel
theorem dX6_readTimes_80 : decode cX6_readTimes 80 = .ok (.invokevirtual 133, 3) := by decide +kernel
theorem dX6_readTimes_83 : decode cX6_readTimes 83 = .ok (.istore_n 2, 1) := by decide +kernel
theorem dX6_readTimes_84 : decode cX6_readTimes 84 = .ok (.iload_n 2, 1) := by decide +kernel
theorem dX6_readTimes_85 : decode cX6_readTimes 85 = .ok (.ireturn, 1) := by decide +kernel
theorem dX6_readEnd_0 : decode cX6_readEnd 0 = .ok (.aload_n 0, 1) := by decide +kernel
theorem dX6_readEnd_1 : decode cX6_readEnd 1 = .ok (.getfield 44, 3) := by decide +kernel
theorem dX6_readEnd_4 : decode cX6_readEnd 4 = .ok (.ifCond .ne 9, 3) := by decide +kernel
theorem dX6_readEnd_7 : decode cX6_readEnd 7 = .ok (.aload_n 0, 1) := by decide +kernel
theorem dX6_readEnd_8 : decode cX6_readEnd 8 = .ok (.iconst 1, 1) := by decide +kernel
theorem dX6_readEnd_9 : decode cX6_readEnd 9 = .ok (.invokevirtual 72, 3) := by decide +kernel
theorem dX6_readEnd_12 : decode cX6_readEnd 12 = .ok (.ireturn, 1) := by decide +kernel
theorem dX6_readEnd_13 : decode cX6_readEnd 13 = .ok (.aload_n 0, 1) := by decide +kernel
theorem dX6_readEnd_14 : decode cX6_readEnd 14 = .ok (.dup, 1) := by decide +kernel
theorem dX6_readEnd_15 : decode cX6_readEnd 15 = .ok (.getfield 44, 3) := by decide +kernel
theorem dX6_readEnd_18 : decode cX6_readEnd 18 = .ok (.iconst 1, 1) := by decide +kernel
theorem dX6_readEnd_19 : decode cX6_readEnd 19 = .ok (.isub, 1) := by decide +kernel
theorem dX6_readEnd_20 : decode cX6_readEnd 20 = .ok (.putfield 44, 3) := by decide +kernel
theorem dX6_readEnd_23 : decode cX6_readEnd 23 = .ok (.aload_n 0, 1) := by decide +kernel
theorem dX6_readEnd_24 : decode cX6_readEnd 24 = .ok (.getfield 30, 3) := by decide +kernel
theorem dX6_readEnd_27 : decode cX6_readEnd 27 = .ok (.aload_n 0, 1) := by decide +kernel
theorem dX6_readEnd_28 : decode cX6_readEnd 28 = .ok (.getfield 44, 3) := by decide +kernel
theorem dX6_readEnd_31 : decode cX6_readEnd 31 = .ok (.iaload, 1) := by decide +kernel
theorem dX6_readEnd_32 : decode cX6_readEnd 32 = .ok (.istore_n 1, 1) := by decide +kernel
theorem dX6_readEnd_33 : decode cX6_readEnd 33 = .ok (.aload_n 0, 1) := by decide +kernel
theorem dX6_readEnd_34 : decode cX6_readEnd 34 = .ok (.getfield 12, 3) := by decide +kernel
theorem dX6_readEnd_37 : decode cX6_readEnd 37 = .ok (.bipush 8, 2) := by decide +kernel
theorem dX6_readEnd_39 : decode cX6_readEnd 39 = .ok (.aload_n 0, 1) := by decide +kernel
theorem dX6_readEnd_40 : decode cX6_readEnd 40 = .ok (.getfield 33, 3) := by decide +kernel
theorem dX6_readEnd_43 : decode cX6_readEnd 43 = .ok (.getfield 78, 3) := by decide +kernel
theorem dX6_readEnd_46 : decode cX6_readEnd 46 = .ok (.invokevirtual 136, 3) := by decide +kernel
theorem dX6_readEnd_49 : decode cX6_readEnd 49 = .ok (.istore_n 2, 1) := by decide +kernel
theorem dX6_readEnd_50 : decode cX6_readEnd 50 = .ok (.aload_n 0, 1) := by decide +kernel
theorem dX6_readEnd_51 : decode cX6_readEnd 51 = .ok (.getfield 12, 3) := by decide +kernel
theorem dX6_readEnd_54 : decode cX6_readEnd 54 = .ok (.getfield 173, 3) := by decide +kernel
theorem dX6_readEnd_57 : decode cX6_readEnd 57 = .ok (.iload_n 2, 1) := by decide +kernel
theorem dX6_readEnd_58 : decode cX6_readEnd 58 = .ok (.iload_n 1, 1) := by decide +kernel
theorem dX6_readEnd_59 : decode cX6_readEnd 59 = .ok (.iastore, 1) := by decide +kernel
theorem dX6_readEnd_60 : decode cX6_readEnd 60 = .ok (.aload_n 0, 1) := by decide +kernel
theorem dX6_readEnd_61 : decode cX6_readEnd 61 = .ok (.getfield 12, 3) := by decide +kernel
theorem dX6_readEnd_64 : decode cX6_readEnd 64 = .ok (.getfield 170, 3) := by decide +kernel
theorem dX6_readEnd_67 : decode cX6_readEnd 67 = .ok (.iload_n 1, 1) := by decide +kernel
theorem dX6_readEnd_68 : decode cX6_readEnd 68 = .ok (.iaload, 1) := by decide +kernel
theorem dX6_readEnd_69 : decode cX6_readEnd 69 = .ok (.iconst 5, 1) := by decide +kernel
theorem dX6_readEnd_70 : decode cX6_readEnd 70 = .ok (.if_icmp .ne 55, 3) := by decide +kernel
theorem dX6_readEnd_73 : decode cX6_readEnd 73 = .ok (.aload_n 0, 1) := by decide +kernel
theorem dX6_readEnd_74 : decode cX6_readEnd 74 = .ok (.getfield 12, 3) := by decide +kernel
theorem dX6_readEnd_77 : decode cX6_readEnd 77 = .ok (.getfield 173, 3) := by decide +kernel
theorem dX6_readEnd_80 : decode cX6_readEnd 80 = .ok (.iload_n 1, 1) := by decide +kernel
theorem dX6_readEnd_81 : decode cX6_readEnd 81 = .ok (.iaload, 1) := by decide +kernel
theorem dX6_readEnd_82 : decode cX6_readEnd 82 = .ok (.istore_n 3, 1) := by decide +kernel
theorem dX6_readEnd_83 : decode cX6_readEnd 83 = .ok (.aload_n 0, 1) := by decide +kernel
theorem dX6_readEnd_84 : decode cX6_readEnd 84 = .ok (.getfield 12, 3) := by decide +kernel
theorem dX6_readEnd_87 : decode cX6_readEnd 87 = .ok (.getfield 173, 3) := by decide +kernel
theorem dX6_readEnd_90 : decode cX6_readEnd 90 = .ok (.iload_n 3, 1) := by decide +kernel
theorem dX6_readEnd_91 : decode cX6_readEnd 91 = .ok (.iconst (-1), 1) := by decide +kernel
theorem dX6_readEnd_92 : decode cX6_readEnd 92 = .ok (.if_icmp .ne 7, 3) := by decide +kernel
theorem dX6_readEnd_95 : decode cX6_readEnd 95 = .ok (.iload_n 1, 1) := by decide +kernel
theorem dX6_readEnd_96 : decode cX6_readEnd 96 = .ok (.goto 4, 3) := by decide +kernel
theorem dX6_readEnd_99 : decode cX6_readEnd 99 = .ok (.iload_n 3, 1) := by decide +kernel
theorem dX6_readEnd_100 : decode cX6_readEnd 100 = .ok (.iload_n 2, 1) := by decide +kernel
theorem dX6_readEnd_101 : decode cX6_readEnd 101 = .ok (.iastore, 1) := by decide +kernel
theorem dX6_readEnd_102 : decode cX6_readEnd 102 = .ok (.aload_n 0, 1) := by decide +kernel
theorem dX6_readEnd_103 : decode cX6_readEnd 103 = .ok (.aload_n 0, 1) := by decide +kernel
theorem dX6_readEnd_104 : decode cX6_readEnd 104 = .ok (.getfield 12, 3) := by decide +kernel
theorem dX6_readEnd_107 : decode cX6_readEnd 107 = .ok (.getfield 150, 3) := by decide +kernel
theorem dX6_readEnd_110 : decode cX6_readEnd 110 = .ok (.iload_n 1, 1) := by decide +kernel
theorem dX6_readEnd_111 : decode cX6_readEnd 111 = .ok (.iaload, 1) := by decide +kernel
theorem dX6_readEnd_112 : decode cX6_readEnd 112 = .ok (.putfield 40, 3) := by decide +kernel
theorem dX6_readEnd_115 : decode cX6_readEnd 115 = .ok (.aload_n 0, 1) := by decide +kernel
theorem dX6_readEnd_116 : decode cX6_readEnd 116 = .ok (.dup, 1) := by decide +kernel
theorem dX6_readEnd_117 : decode cX6_readEnd 117 = .ok (.getfield 47, 3) := by decide +kernel
theorem dX6_readEnd_120 : decode cX6_readEnd 120 = .ok (.iconst 1, 1) := by decide +kernel
theorem dX6_readEnd_121 : decode cX6_readEnd 121 = .ok (.isub, 1) := by decide +kernel
theorem dX6_readEnd_122 : decode cX6_readEnd 122 = .ok (.putfield 47, 3) := by decide +kernel
theorem dX6_readEnd_125 : decode cX6_readEnd 125 = .ok (.aload_n 0, 1) := by decide +kernel
theorem dX6_readEnd_126 : decode cX6_readEnd 126 = .ok (.invokevirtual 133, 3) := by decide +kernel
theorem dX6_readEnd_129 : decode cX6_readEnd 129 = .ok (.ireturn, 1) := by decide +kernel
theorem dX6_readShow_0 : decode cX6_readShow 0 = .ok (.aload_n 0, 1) := by decide +kernel
theorem dX6_readShow_1 : decode cX6_readShow 1 = .ok (.getfield 47, 3) := by decide +kernel
theorem dX6_readShow_4 : decode cX6_readShow 4 = .ok (.ifCond .le 9, 3) := by decide +kernel
theorem dX6_readShow_7 : decode cX6_readShow 7 = .ok (.aload_n 0, 1) := by decide +kernel
theorem dX6_readShow_8 : decode cX6_readShow 8 = .ok (.iconst 1, 1) := by decide +kernel
theorem dX6_readShow_9 : decode cX6_readShow 9 = .ok (.invokevirtual 72, 3) := by decide +kernel
theorem dX6_readShow_12 : decode cX6_readShow 12 = .ok (.ireturn, 1) := by decide +kernel
theorem dX6_readShow_13 : decode cX6_readShow 13 = .ok (.aload_n 0, 1) := by decide +kernel
theorem dX6_readShow_14 : decode cX6_readShow 14 = .ok (.getfield 12, 3) := by decide +kernel
theorem dX6_readShow_17 : decode cX6_readShow 17 = .ok (.bipush 9, 2) := by decide +kernel
theorem dX6_readShow_19 : decode cX6_readShow 19 = .ok (.aload_n 0, 1) := by decide +kernel
theorem dX6_readShow_20 : decode cX6_readShow 20 = .ok (.getfield 33, 3) := by decide +kernel
theorem dX6_readShow_23 : decode cX6_readShow 23 = .ok (.getfield 78, 3) := by decide +kernel
theorem dX6_readShow_26 : decode cX6_readShow 26 = .ok (.invokevirtual 136, 3) := by decide +kernel
theorem dX6_readShow_29 : decode cX6_readShow 29 = .ok (.istore_n 1, 1) := by decide +kernel
theorem dX6_readShow_30 : decode cX6_readShow 30 = .ok (.aload_n 0, 1) := by decide +kernel
theorem dX6_readShow_31 : decode cX6_readShow 31 = .ok (.getfield 33, 3) := by decide +kernel
theorem dX6_readShow_34 : decode cX6_readShow 34 = .ok (.invokevirtual 62, 3) := by decide +kernel
theorem dX6_readShow_37 : decode cX6_readShow 37 = .ok (.aload_n 0, 1) := by decide +kernel
theorem dX6_readShow_38 : decode cX6_readShow 38 = .ok (.iload_n 1, 1) := by decide +kernel
theorem dX6_readShow_39 : decode cX6_readShow 39 = .ok (.iconst 0, 1) := by decide +kernel
theorem dX6_readShow_40 : decode cX6_readShow 40 = .ok (.iconst 0, 1) := by decide +kernel
theorem dX6_readShow_41 : decode cX6_readShow 41 = .ok (.invokevirtual 163, 3) := by decide +kernel
theorem dX6_readShow_44 : decode cX6_readShow 44 = .ok (.istore_n 2, 1) := by decide +kernel
