theorem dX12_rangesWith_220 : decode cX12_rangesWith 220 = .ok (.goto (-54), 3) := by decide +kernel
theorem dX12_rangesWith_223 : decode cX12_rangesWith 223 = .ok (.aload_n 0, 1) := by decide +kernel
theorem dX12_rangesWith_224 : decode cX12_rangesWith 224 = .ok (.getfield 181, 3) := by decide +kernel
theorem dX12_rangesWith_227 : decode cX12_rangesWith 227 = .ok (.iload 4, 2) := by decide +kernel
theorem dX12_rangesWith_229 : decode cX12_rangesWith 229 = .ok (.iload 7, 2) := by decide +kernel
theorem dX12_rangesWith_231 : decode cX12_rangesWith 231 = .ok (.bastore, 1) := by decide +kernel
theorem dX12_rangesWith_232 : decode cX12_rangesWith 232 = .ok (.iload 5, 2) := by decide +kernel
theorem dX12_rangesWith_234 : decode cX12_rangesWith 234 = .ok (.iconst 2, 1) := by decide +kernel
theorem dX12_rangesWith_235 : decode cX12_rangesWith 235 = .ok (.if_icmp .lt 9, 3) := by decide +kernel
theorem dX12_rangesWith_238 : decode cX12_rangesWith 238 = .ok (.aload_n 0, 1) := by decide +kernel
theorem dX12_rangesWith_239 : decode cX12_rangesWith 239 = .ok (.iload 4, 2) := by decide +kernel
theorem dX12_rangesWith_241 : decode cX12_rangesWith 241 = .ok (.invokevirtual 416, 3) := by decide +kernel
theorem dX12_rangesWith_244 : decode cX12_rangesWith 244 = .ok (.iinc 4 1, 3) := by decide +kernel
theorem dX12_rangesWith_247 : decode cX12_rangesWith 247 = .ok (.goto (-244), 3) := by decide +kernel
theorem dX12_rangesWith_250 : decode cX12_rangesWith 250 = .ok (.return_, 1) := by decide +kernel
theorem dX12_isKnown_0 : decode cX12_isKnown 0 = .ok (.aload_n 0, 1) := by decide +kernel
theorem dX12_isKnown_1 : decode cX12_isKnown 1 = .ok (.getfield 171, 3) := by decide +kernel
theorem dX12_isKnown_4 : decode cX12_isKnown 4 = .ok (.iload_n 1, 1) := by decide +kernel
theorem dX12_isKnown_5 : decode cX12_isKnown 5 = .ok (.iaload, 1) := by decide +kernel
theorem dX12_isKnown_6 : decode cX12_isKnown 6 = .ok (.aload_n 0, 1) := by decide +kernel
theorem dX12_isKnown_7 : decode cX12_isKnown 7 = .ok (.getfield 174, 3) := by decide +kernel
theorem dX12_isKnown_10 : decode cX12_isKnown 10 = .ok (.iload_n 1, 1) := by decide +kernel
theorem dX12_isKnown_11 : decode cX12_isKnown 11 = .ok (.iaload, 1) := by decide +kernel
theorem dX12_isKnown_12 : decode cX12_isKnown 12 = .ok (.if_icmp .ne 7, 3) := by decide +kernel
theorem dX12_isKnown_15 : decode cX12_isKnown 15 = .ok (.iconst 1, 1) := by decide +kernel
theorem dX12_isKnown_16 : decode cX12_isKnown 16 = .ok (.goto 4, 3) := by decide +kernel
theorem dX12_isKnown_19 : decode cX12_isKnown 19 = .ok (.iconst 0, 1) := by decide +kernel
theorem dX12_isKnown_20 : decode cX12_isKnown 20 = .ok (.ireturn, 1) := by decide +kernel
theorem dX12_isLow_0 : decode cX12_isLow 0 = .ok (.aload_n 0, 1) := by decide +kernel
theorem dX12_isLow_1 : decode cX12_isLow 1 = .ok (.getfield 177, 3) := by decide +kernel
theorem dX12_isLow_4 : decode cX12_isLow 4 = .ok (.iload_n 1, 1) := by decide +kernel
theorem dX12_isLow_5 : decode cX12_isLow 5 = .ok (.baload, 1) := by decide +kernel
theorem dX12_isLow_6 : decode cX12_isLow 6 = .ok (.ifCond .ne 31, 3) := by decide +kernel
theorem dX12_isLow_9 : decode cX12_isLow 9 = .ok (.aload_n 0, 1) := by decide +kernel
theorem dX12_isLow_10 : decode cX12_isLow 10 = .ok (.getfield 171, 3) := by decide +kernel
theorem dX12_isLow_13 : decode cX12_isLow 13 = .ok (.iload_n 1, 1) := by decide +kernel
theorem dX12_isLow_14 : decode cX12_isLow 14 = .ok (.iaload, 1) := by decide +kernel
theorem dX12_isLow_15 : decode cX12_isLow 15 = .ok (.sipush (-512), 3) := by decide +kernel
theorem dX12_isLow_18 : decode cX12_isLow 18 = .ok (.if_icmp .lt 19, 3) := by decide +kernel
theorem dX12_isLow_21 : decode cX12_isLow 21 = .ok (.aload_n 0, 1) := by decide +kernel
theorem dX12_isLow_22 : decode cX12_isLow 22 = .ok (.getfield 174, 3) := by decide +kernel
theorem dX12_isLow_25 : decode cX12_isLow 25 = .ok (.iload_n 1, 1) := by decide +kernel
theorem dX12_isLow_26 : decode cX12_isLow 26 = .ok (.iaload, 1) := by decide +kernel
theorem dX12_isLow_27 : decode cX12_isLow 27 = .ok (.sipush 511, 3) := by decide +kernel
theorem dX12_isLow_30 : decode cX12_isLow 30 = .ok (.if_icmp .gt 7, 3) := by decide +kernel
theorem dX12_isLow_33 : decode cX12_isLow 33 = .ok (.iconst 1, 1) := by decide +kernel
theorem dX12_isLow_34 : decode cX12_isLow 34 = .ok (.goto 4, 3) := by decide +kernel
theorem dX12_isLow_37 : decode cX12_isLow 37 = .ok (.iconst 0, 1) := by decide +kernel
theorem dX12_isLow_38 : decode cX12_isLow 38 = .ok (.ireturn, 1) := by decide +kernel
theorem dX12_widthOf_0 : decode cX12_widthOf 0 = .ok (.aload_n 0, 1) := by decide +kernel
theorem dX12_widthOf_1 : decode cX12_widthOf 1 = .ok (.getfield 177, 3) := by decide +kernel
theorem dX12_widthOf_4 : decode cX12_widthOf 4 = .ok (.iload_n 1, 1) := by decide +kernel
theorem dX12_widthOf_5 : decode cX12_widthOf 5 = .ok (.baload, 1) := by decide +kernel
theorem dX12_widthOf_6 : decode cX12_widthOf 6 = .ok (.ifCond .ne 11, 3) := by decide +kernel
theorem dX12_widthOf_9 : decode cX12_widthOf 9 = .ok (.aload_n 0, 1) := by decide +kernel
theorem dX12_widthOf_10 : decode cX12_widthOf 10 = .ok (.iload_n 1, 1) := by decide +kernel
theorem dX12_widthOf_11 : decode cX12_widthOf 11 = .ok (.invokevirtual 419, 3) := by decide +kernel
theorem dX12_widthOf_14 : decode cX12_widthOf 14 = .ok (.ifCond .eq 7, 3) := by decide +kernel
theorem dX12_widthOf_17 : decode cX12_widthOf 17 = .ok (.iconst 1, 1) := by decide +kernel
theorem dX12_widthOf_18 : decode cX12_widthOf 18 = .ok (.goto 4, 3) := by decide +kernel
theorem dX12_widthOf_21 : decode cX12_widthOf 21 = .ok (.iconst 2, 1) := by decide +kernel
theorem dX12_widthOf_22 : decode cX12_widthOf 22 = .ok (.ireturn, 1) := by decide +kernel
theorem dX12_range_0 : decode cX12_range 0 = .ok (.aload_n 0, 1) := by decide +kernel
theorem dX12_range_1 : decode cX12_range 1 = .ok (.iconst 0, 1) := by decide +kernel
theorem dX12_range_2 : decode cX12_range 2 = .ok (.putfield 1, 3) := by decide +kernel
theorem dX12_range_5 : decode cX12_range 5 = .ok (.aload_n 0, 1) := by decide +kernel
theorem dX12_range_6 : decode cX12_range 6 = .ok (.iload_n 1, 1) := by decide +kernel
theorem dX12_range_7 : decode cX12_range 7 = .ok (.invokevirtual 422, 3) := by decide +kernel
theorem dX12_range_10 : decode cX12_range 10 = .ok (.ifCond .eq 12, 3) := by decide +kernel
theorem dX12_range_13 : decode cX12_range 13 = .ok (.iload_n 2, 1) := by decide +kernel
theorem dX12_range_14 : decode cX12_range 14 = .ok (.iconst 0, 1) := by decide +kernel
theorem dX12_range_15 : decode cX12_range 15 = .ok (.iconst 1, 1) := by decide +kernel
theorem dX12_range_16 : decode cX12_range 16 = .ok (.invokestatic 355, 3) := by decide +kernel
theorem dX12_range_19 : decode cX12_range 19 = .ok (.ifCond .ne 7, 3) := by decide +kernel
theorem dX12_range_22 : decode cX12_range 22 = .ok (.ldc_w 427, 3) := by decide +kernel
theorem dX12_range_25 : decode cX12_range 25 = .ok (.ireturn, 1) := by decide +kernel
theorem dX12_range_26 : decode cX12_range 26 = .ok (.aload_n 0, 1) := by decide +kernel
theorem dX12_range_27 : decode cX12_range 27 = .ok (.iconst (-1), 1) := by decide +kernel
theorem dX12_range_28 : decode cX12_range 28 = .ok (.iconst 0, 1) := by decide +kernel
theorem dX12_range_29 : decode cX12_range 29 = .ok (.iconst 0, 1) := by decide +kernel
theorem dX12_range_30 : decode cX12_range 30 = .ok (.invokevirtual 428, 3) := by decide +kernel
theorem dX12_range_33 : decode cX12_range 33 = .ok (.iload_n 2, 1) := by decide +kernel
theorem dX12_range_34 : decode cX12_range 34 = .ok (.ifCond .ne 12, 3) := by decide +kernel
theorem dX12_range_37 : decode cX12_range 37 = .ok (.aload_n 0, 1) := by decide +kernel
theorem dX12_range_38 : decode cX12_range 38 = .ok (.getfield 171, 3) := by decide +kernel
theorem dX12_range_41 : decode cX12_range 41 = .ok (.iload_n 1, 1) := by decide +kernel
theorem dX12_range_42 : decode cX12_range 42 = .ok (.iaload, 1) := by decide +kernel
theorem dX12_range_43 : decode cX12_range 43 = .ok (.goto 9, 3) := by decide +kernel
theorem dX12_range_46 : decode cX12_range 46 = .ok (.aload_n 0, 1) := by decide +kernel
theorem dX12_range_47 : decode cX12_range 47 = .ok (.getfield 174, 3) := by decide +kernel
theorem dX12_range_50 : decode cX12_range 50 = .ok (.iload_n 1, 1) := by decide +kernel
theorem dX12_range_51 : decode cX12_range 51 = .ok (.iaload, 1) := by decide +kernel
theorem dX12_range_52 : decode cX12_range 52 = .ok (.ireturn, 1) := by decide +kernel
theorem dX12_is_0 : decode cX12_is 0 = .ok (.aload_n 0, 1) := by decide +kernel
theorem dX12_is_1 : decode cX12_is 1 = .ok (.iconst 0, 1) := by decide +kernel
theorem dX12_is_2 : decode cX12_is 2 = .ok (.putfield 1, 3) := by decide +kernel
theorem dX12_is_5 : decode cX12_is 5 = .ok (.aload_n 0, 1) := by decide +kernel
theorem dX12_is_6 : decode cX12_is 6 = .ok (.iload_n 1, 1) := by decide +kernel
theorem dX12_is_7 : decode cX12_is 7 = .ok (.invokevirtual 422, 3) := by decide +kernel
theorem dX12_is_10 : decode cX12_is 10 = .ok (.ifCond .eq 10, 3) := by decide +kernel
theorem dX12_is_13 : decode cX12_is 13 = .ok (.iload_n 2, 1) := by decide +kernel
theorem dX12_is_14 : decode cX12_is 14 = .ok (.invokestatic 362, 3) := by decide +kernel
theorem dX12_is_17 : decode cX12_is 17 = .ok (.ifCond .ne 7, 3) := by decide +kernel
theorem dX12_is_20 : decode cX12_is 20 = .ok (.ldc_w 427, 3) := by decide +kernel
theorem dX12_is_23 : decode cX12_is 23 = .ok (.ireturn, 1) := by decide +kernel
theorem dX12_is_24 : decode cX12_is 24 = .ok (.aload_n 0, 1) := by decide +kernel
theorem dX12_is_25 : decode cX12_is 25 = .ok (.iload_n 2, 1) := by decide +kernel
theorem dX12_is_26 : decode cX12_is 26 = .ok (.invokevirtual 431, 3) := by decide +kernel
theorem dX12_is_29 : decode cX12_is 29 = .ok (.aload_n 0, 1) := by decide +kernel
theorem dX12_is_30 : decode cX12_is 30 = .ok (.getfield 184, 3) := by decide +kernel
theorem dX12_is_33 : decode cX12_is 33 = .ok (.iload_n 1, 1) := by decide +kernel
theorem dX12_is_34 : decode cX12_is 34 = .ok (.iaload, 1) := by decide +kernel
theorem dX12_is_35 : decode cX12_is 35 = .ok (.ireturn, 1) := by decide +kernel
theorem dX12_differs_0 : decode cX12_differs 0 = .ok (.aload_n 0, 1) := by decide +kernel
theorem dX12_differs_1 : decode cX12_differs 1 = .ok (.iconst 0, 1) := by decide +kernel
theorem dX12_differs_2 : decode cX12_differs 2 = .ok (.putfield 1, 3) := by decide +kernel
theorem dX12_differs_5 : decode cX12_differs 5 = .ok (.aload_n 0, 1) := by decide +kernel
theorem dX12_differs_6 : decode cX12_differs 6 = .ok (.iload_n 1, 1) := by decide +kernel
theorem dX12_differs_7 : decode cX12_differs 7 = .ok (.invokevirtual 422, 3) := by decide +kernel
theorem dX12_differs_10 : decode cX12_differs 10 = .ok (.ifCond .ne 5, 3) := by decide +kernel
theorem dX12_differs_13 : decode cX12_differs 13 = .ok (.iconst (-1), 1) := by decide +kernel
theorem dX12_differs_14 : decode cX12_differs 14 = .ok (.ireturn, 1) := by decide +kernel
theorem dX12_differs_15 : decode cX12_differs 15 = .ok (.aload_n 0, 1) := by decide +kernel
theorem dX12_differs_16 : decode cX12_differs 16 = .ok (.iconst 0, 1) := by decide +kernel
theorem dX12_differs_17 : decode cX12_differs 17 = .ok (.invokevirtual 431, 3) := by decide +kernel
theorem dX12_differs_20 : decode cX12_differs 20 = .ok (.aload_n 0, 1) := by decide +kernel
theorem dX12_differs_21 : decode cX12_differs 21 = .ok (.getfield 184, 3) := by decide +kernel
theorem dX12_differs_24 : decode cX12_differs 24 = .ok (.iload_n 1, 1) := by decide +kernel
theorem dX12_differs_25 : decode cX12_differs 25 = .ok (.iaload, 1) := by decide +kernel
theorem dX12_differs_26 : decode cX12_differs 26 = .ok (.istore_n 2, 1) := by decide +kernel
theorem dX12_differs_27 : decode cX12_differs 27 = .ok (.iconst 0, 1) := by decide +kernel
theorem dX12_differs_28 : decode cX12_differs 28 = .ok (.istore_n 3, 1) := by decide +kernel
theorem dX12_differs_29 : decode cX12_differs 29 = .ok (.iconst 1, 1) := by decide +kernel
theorem dX12_differs_30 : decode cX12_differs 30 = .ok (.istore 4, 2) := by decide +kernel
theorem dX12_differs_32 : decode cX12_differs 32 = .ok (.iload 4, 2) := by decide +kernel
theorem dX12_differs_34 : decode cX12_differs 34 = .ok (.iconst 4, 1) := by decide +kernel
theorem dX12_differs_35 : decode cX12_differs 35 = .ok (.if_icmp .ge 36, 3) := by decide +kernel
theorem dX12_differs_38 : decode cX12_differs 38 = .ok (.aload_n 0, 1) := by decide +kernel
theorem dX12_differs_39 : decode cX12_differs 39 = .ok (.iload 4, 2) := by decide +kernel
theorem dX12_differs_41 : decode cX12_differs 41 = .ok (.invokevirtual 431, 3) := by decide +kernel
theorem dX12_differs_44 : decode cX12_differs 44 = .ok (.iload_n 3, 1) := by decide +kernel
theorem dX12_differs_45 : decode cX12_differs 45 = .ok (.aload_n 0, 1) := by decide +kernel
theorem dX12_differs_46 : decode cX12_differs 46 = .ok (.getfield 184, 3) := by decide +kernel
theorem dX12_differs_49 : decode cX12_differs 49 = .ok (.iload_n 1, 1) := by decide +kernel
theorem dX12_differs_50 : decode cX12_differs 50 = .ok (.iaload, 1) := by decide +kernel
theorem dX12_differs_51 : decode cX12_differs 51 = .ok (.iload_n 2, 1) := by decide +kernel
theorem dX12_differs_52 : decode cX12_differs 52 = .ok (.if_icmp .eq 10, 3) := by decide +kernel
theorem dX12_differs_55 : decode cX12_differs 55 = .ok (.iconst 1, 1) := by decide +kernel
theorem dX12_differs_56 : decode cX12_differs 56 = .ok (.iload 4, 2) := by decide +kernel
theorem dX12_differs_58 : decode cX12_differs 58 = .ok (.ishl, 1) := by decide +kernel
theorem dX12_differs_59 : decode cX12_differs 59 = .ok (.goto 4, 3) := by decide +kernel
theorem dX12_differs_62 : decode cX12_differs 62 = .ok (.iconst 0, 1) := by decide +kernel
theorem dX12_differs_63 : decode cX12_differs 63 = .ok (.ior, 1) := by decide +kernel
theorem dX12_differs_64 : decode cX12_differs 64 = .ok (.istore_n 3, 1) := by decide +kernel
theorem dX12_differs_65 : decode cX12_differs 65 = .ok (.iinc 4 1, 3) := by decide +kernel
theorem dX12_differs_68 : decode cX12_differs 68 = .ok (.goto (-36), 3) := by decide +kernel
theorem dX12_differs_71 : decode cX12_differs 71 = .ok (.iload_n 3, 1) := by decide +kernel
theorem dX12_differs_72 : decode cX12_differs 72 = .ok (.ireturn, 1) := by decide +kernel
theorem dX12_shown_0 : decode cX12_shown 0 = .ok (.aload_n 0, 1) := by decide +kernel
theorem dX12_shown_1 : decode cX12_shown 1 = .ok (.iconst 0, 1) := by decide +kernel
theorem dX12_shown_2 : decode cX12_shown 2 = .ok (.putfield 1, 3) := by decide +kernel
theorem dX12_shown_5 : decode cX12_shown 5 = .ok (.iload_n 1, 1) := by decide +kernel
theorem dX12_shown_6 : decode cX12_shown 6 = .ok (.ifCond .lt 26, 3) := by decide +kernel
theorem dX12_shown_9 : decode cX12_shown 9 = .ok (.iload_n 1, 1) := by decide +kernel
theorem dX12_shown_10 : decode cX12_shown 10 = .ok (.aload_n 0, 1) := by decide +kernel
theorem dX12_shown_11 : decode cX12_shown 11 = .ok (.getfield 126, 3) := by decide +kernel
theorem dX12_shown_14 : decode cX12_shown 14 = .ok (.bipush 9, 2) := by decide +kernel
theorem dX12_shown_16 : decode cX12_shown 16 = .ok (.iaload, 1) := by decide +kernel
theorem dX12_shown_17 : decode cX12_shown 17 = .ok (.if_icmp .ge 15, 3) := by decide +kernel
theorem dX12_shown_20 : decode cX12_shown 20 = .ok (.aload_n 0, 1) := by decide +kernel
theorem dX12_shown_21 : decode cX12_shown 21 = .ok (.getfield 126, 3) := by decide +kernel
theorem dX12_shown_24 : decode cX12_shown 24 = .ok (.bipush 28, 2) := by decide +kernel
theorem dX12_shown_26 : decode cX12_shown 26 = .ok (.iload_n 1, 1) := by decide +kernel
theorem dX12_shown_27 : decode cX12_shown 27 = .ok (.iadd, 1) := by decide +kernel
theorem dX12_shown_28 : decode cX12_shown 28 = .ok (.iaload, 1) := by decide +kernel
theorem dX12_shown_29 : decode cX12_shown 29 = .ok (.goto 4, 3) := by decide +kernel
theorem dX12_shown_32 : decode cX12_shown 32 = .ok (.iconst (-1), 1) := by decide +kernel
theorem dX12_shown_33 : decode cX12_shown 33 = .ok (.ireturn, 1) := by decide +kernel
theorem dX12_argNumber_0 : decode cX12_argNumber 0 = .ok (.aload_n 0, 1) := by decide +kernel
theorem dX12_argNumber_1 : decode cX12_argNumber 1 = .ok (.getfield 129, 3) := by decide +kernel
theorem dX12_argNumber_4 : decode cX12_argNumber 4 = .ok (.iload_n 1, 1) := by decide +kernel
theorem dX12_argNumber_5 : decode cX12_argNumber 5 = .ok (.iaload, 1) := by decide +kernel
theorem dX12_argNumber_6 : decode cX12_argNumber 6 = .ok (.ifCond .ge 19, 3) := by decide +kernel
theorem dX12_argNumber_9 : decode cX12_argNumber 9 = .ok (.aload_n 0, 1) := by decide +kernel
theorem dX12_argNumber_10 : decode cX12_argNumber 10 = .ok (.getfield 147, 3) := by decide +kernel
theorem dX12_argNumber_13 : decode cX12_argNumber 13 = .ok (.iconst (-1), 1) := by decide +kernel
theorem dX12_argNumber_14 : decode cX12_argNumber 14 = .ok (.aload_n 0, 1) := by decide +kernel
theorem dX12_argNumber_15 : decode cX12_argNumber 15 = .ok (.getfield 129, 3) := by decide +kernel
theorem dX12_argNumber_18 : decode cX12_argNumber 18 = .ok (.iload_n 1, 1) := by decide +kernel
theorem dX12_argNumber_19 : decode cX12_argNumber 19 = .ok (.iaload, 1) := by decide +kernel
theorem dX12_argNumber_20 : decode cX12_argNumber 20 = .ok (.isub, 1) := by decide +kernel
theorem dX12_argNumber_21 : decode cX12_argNumber 21 = .ok (.iaload, 1) := by decide +kernel
theorem dX12_argNumber_22 : decode cX12_argNumber 22 = .ok (.goto 9, 3) := by decide +kernel
theorem dX12_argNumber_25 : decode cX12_argNumber 25 = .ok (.aload_n 0, 1) := by decide +kernel
theorem dX12_argNumber_26 : decode cX12_argNumber 26 = .ok (.getfield 129, 3) := by decide +kernel
theorem dX12_argNumber_29 : decode cX12_argNumber 29 = .ok (.iload_n 1, 1) := by decide +kernel
theorem dX12_argNumber_30 : decode cX12_argNumber 30 = .ok (.iaload, 1) := by decide +kernel
theorem dX12_argNumber_31 : decode cX12_argNumber 31 = .ok (.ireturn, 1) := by decide +kernel
theorem dX12_opNumber_0 : decode cX12_opNumber 0 = .ok (.aload_n 0, 1) := by decide +kernel
theorem dX12_opNumber_1 : decode cX12_opNumber 1 = .ok (.getfield 129, 3) := by decide +kernel
theorem dX12_opNumber_4 : decode cX12_opNumber 4 = .ok (.iload_n 1, 1) := by decide +kernel
theorem dX12_opNumber_5 : decode cX12_opNumber 5 = .ok (.iconst 2, 1) := by decide +kernel
theorem dX12_opNumber_6 : decode cX12_opNumber 6 = .ok (.iadd, 1) := by decide +kernel
theorem dX12_opNumber_7 : decode cX12_opNumber 7 = .ok (.iaload, 1) := by decide +kernel
theorem dX12_opNumber_8 : decode cX12_opNumber 8 = .ok (.istore_n 2, 1) := by decide +kernel
theorem dX12_opNumber_9 : decode cX12_opNumber 9 = .ok (.iload_n 2, 1) := by decide +kernel
theorem dX12_opNumber_10 : decode cX12_opNumber 10 = .ok (.invokestatic 276, 3) := by decide +kernel
theorem dX12_opNumber_13 : decode cX12_opNumber 13 = .ok (.istore_n 3, 1) := by decide +kernel
theorem dX12_opNumber_14 : decode cX12_opNumber 14 = .ok (.aload_n 0, 1) := by decide +kernel
theorem dX12_opNumber_15 : decode cX12_opNumber 15 = .ok (.iload_n 1, 1) := by decide +kernel
theorem dX12_opNumber_16 : decode cX12_opNumber 16 = .ok (.iconst 5, 1) := by decide +kernel
theorem dX12_opNumber_17 : decode cX12_opNumber 17 = .ok (.iadd, 1) := by decide +kernel
theorem dX12_opNumber_18 : decode cX12_opNumber 18 = .ok (.invokevirtual 434, 3) := by decide +kernel
theorem dX12_opNumber_21 : decode cX12_opNumber 21 = .ok (.istore 4, 2) := by decide +kernel
theorem dX12_opNumber_23 : decode cX12_opNumber 23 = .ok (.iload_n 3, 1) := by decide +kernel
theorem dX12_opNumber_24 : decode cX12_opNumber 24 = .ok (.iconst 1, 1) := by decide +kernel
theorem dX12_opNumber_25 : decode cX12_opNumber 25 = .ok (.if_icmp .le 14, 3) := by decide +kernel
theorem dX12_opNumber_28 : decode cX12_opNumber 28 = .ok (.aload_n 0, 1) := by decide +kernel
theorem dX12_opNumber_29 : decode cX12_opNumber 29 = .ok (.iload_n 1, 1) := by decide +kernel
theorem dX12_opNumber_30 : decode cX12_opNumber 30 = .ok (.bipush 7, 2) := by decide +kernel
theorem dX12_opNumber_32 : decode cX12_opNumber 32 = .ok (.iadd, 1) := by decide +kernel
theorem dX12_opNumber_33 : decode cX12_opNumber 33 = .ok (.invokevirtual 434, 3) := by decide +kernel
theorem dX12_opNumber_36 : decode cX12_opNumber 36 = .ok (.goto 4, 3) := by decide +kernel
theorem dX12_opNumber_39 : decode cX12_opNumber 39 = .ok (.iconst 0, 1) := by decide +kernel
theorem dX12_opNumber_40 : decode cX12_opNumber 40 = .ok (.istore 5, 2) := by decide +kernel
theorem dX12_opNumber_42 : decode cX12_opNumber 42 = .ok (.iload_n 3, 1) := by decide +kernel
theorem dX12_opNumber_43 : decode cX12_opNumber 43 = .ok (.iconst 2, 1) := by decide +kernel
theorem dX12_opNumber_44 : decode cX12_opNumber 44 = .ok (.if_icmp .le 14, 3) := by decide +kernel
theorem dX12_opNumber_47 : decode cX12_opNumber 47 = .ok (.aload_n 0, 1) := by decide +kernel
theorem dX12_opNumber_48 : decode cX12_opNumber 48 = .ok (.iload_n 1, 1) := by decide +kernel
theorem dX12_opNumber_49 : decode cX12_opNumber 49 = .ok (.bipush 9, 2) := by decide +kernel
theorem dX12_opNumber_51 : decode cX12_opNumber 51 = .ok (.iadd, 1) := by decide +kernel
theorem dX12_opNumber_52 : decode cX12_opNumber 52 = .ok (.invokevirtual 434, 3) := by decide +kernel
theorem dX12_opNumber_55 : decode cX12_opNumber 55 = .ok (.goto 4, 3) := by decide +kernel
theorem dX12_opNumber_58 : decode cX12_opNumber 58 = .ok (.iconst 0, 1) := by decide +kernel
theorem dX12_opNumber_59 : decode cX12_opNumber 59 = .ok (.istore 6, 2) := by decide +kernel
theorem dX12_opNumber_61 : decode cX12_opNumber 61 = .ok (.iload_n 2, 1) := by decide +kernel
theorem dX12_opNumber_62 : decode cX12_opNumber 62 = .ok (.bipush 14, 2) := by decide +kernel
theorem dX12_opNumber_64 : decode cX12_opNumber 64 = .ok (.if_icmp .ne 8, 3) := by decide +kernel
theorem dX12_opNumber_67 : decode cX12_opNumber 67 = .ok (.iload 4, 2) := by decide +kernel
theorem dX12_opNumber_69 : decode cX12_opNumber 69 = .ok (.goto 14, 3) := by decide +kernel
theorem dX12_opNumber_72 : decode cX12_opNumber 72 = .ok (.aload_n 0, 1) := by decide +kernel
theorem dX12_opNumber_73 : decode cX12_opNumber 73 = .ok (.iload_n 2, 1) := by decide +kernel
theorem dX12_opNumber_74 : decode cX12_opNumber 74 = .ok (.iload 4, 2) := by decide +kernel
theorem dX12_opNumber_76 : decode cX12_opNumber 76 = .ok (.iload 5, 2) := by decide +kernel
theorem dX12_opNumber_78 : decode cX12_opNumber 78 = .ok (.iload 6, 2) := by decide +kernel
theorem dX12_opNumber_80 : decode cX12_opNumber 80 = .ok (.invokevirtual 397, 3) := by decide +kernel
theorem dX12_opNumber_83 : decode cX12_opNumber 83 = .ok (.ireturn, 1) := by decide +kernel
theorem dX12_nextLine_0 : decode cX12_nextLine 0 = .ok (.bipush 12, 2) := by decide +kernel
theorem dX12_nextLine_2 : decode cX12_nextLine 2 = .ok (.iload_n 1, 1) := by decide +kernel
theorem dX12_nextLine_3 : decode cX12_nextLine 3 = .ok (.imul, 1) := by decide +kernel
theorem dX12_nextLine_4 : decode cX12_nextLine 4 = .ok (.istore_n 2, 1) := by decide +kernel
theorem dX12_nextLine_5 : decode cX12_nextLine 5 = .ok (.aload_n 0, 1) := by decide +kernel
theorem dX12_nextLine_6 : decode cX12_nextLine 6 = .ok (.getfield 129, 3) := by decide +kernel
theorem dX12_nextLine_9 : decode cX12_nextLine 9 = .ok (.iload_n 2, 1) := by decide +kernel
theorem dX12_nextLine_10 : decode cX12_nextLine 10 = .ok (.bipush 11, 2) := by decide +kernel
theorem dX12_nextLine_12 : decode cX12_nextLine 12 = .ok (.iadd, 1) := by decide +kernel
theorem dX12_nextLine_13 : decode cX12_nextLine 13 = .ok (.iaload, 1) := by decide +kernel
theorem dX12_nextLine_14 : decode cX12_nextLine 14 = .ok (.istore_n 3, 1) := by decide +kernel
theorem dX12_nextLine_15 : decode cX12_nextLine 15 = .ok (.aload_n 0, 1) := by decide +kernel
theorem dX12_nextLine_16 : decode cX12_nextLine 16 = .ok (.getfield 129, 3) := by decide +kernel
theorem dX12_nextLine_19 : decode cX12_nextLine 19 = .ok (.iload_n 2, 1) := by decide +kernel
theorem dX12_nextLine_20 : decode cX12_nextLine 20 = .ok (.iaload, 1) := by decide +kernel
theorem dX12_nextLine_21 : decode cX12_nextLine 21 = .ok (.iconst 1, 1) := by decide +kernel
theorem dX12_nextLine_22 : decode cX12_nextLine 22 = .ok (.if_icmp .ne 58, 3) := by decide +kernel
theorem dX12_nextLine_25 : decode cX12_nextLine 25 = .ok (.aload_n 0, 1) := by decide +kernel
theorem dX12_nextLine_26 : decode cX12_nextLine 26 = .ok (.iload_n 2, 1) := by decide +kernel
theorem dX12_nextLine_27 : decode cX12_nextLine 27 = .ok (.iconst 5, 1) := by decide +kernel
theorem dX12_nextLine_28 : decode cX12_nextLine 28 = .ok (.iadd, 1) := by decide +kernel
theorem dX12_nextLine_29 : decode cX12_nextLine 29 = .ok (.invokevirtual 434, 3) := by decide +kernel
theorem dX12_nextLine_32 : decode cX12_nextLine 32 = .ok (.iconst 1, 1) := by decide +kernel
theorem dX12_nextLine_33 : decode cX12_nextLine 33 = .ok (.if_icmp .ne 9, 3) := by decide +kernel
theorem dX12_nextLine_36 : decode cX12_nextLine 36 = .ok (.iload_n 1, 1) := by decide +kernel
theorem dX12_nextLine_37 : decode cX12_nextLine 37 = .ok (.iconst 1, 1) := by decide +kernel
theorem dX12_nextLine_38 : decode cX12_nextLine 38 = .ok (.iadd, 1) := by decide +kernel
theorem dX12_nextLine_39 : decode cX12_nextLine 39 = .ok (.goto 40, 3) := by decide +kernel
theorem dX12_nextLine_42 : decode cX12_nextLine 42 = .ok (.aload_n 0, 1) := by decide +kernel
theorem dX12_nextLine_43 : decode cX12_nextLine 43 = .ok (.getfield 129, 3) := by decide +kernel
theorem dX12_nextLine_46 : decode cX12_nextLine 46 = .ok (.iload_n 2, 1) := by decide +kernel
theorem dX12_nextLine_47 : decode cX12_nextLine 47 = .ok (.bipush 7, 2) := by decide +kernel
theorem dX12_nextLine_49 : decode cX12_nextLine 49 = .ok (.iadd, 1) := by decide +kernel
theorem dX12_nextLine_50 : decode cX12_nextLine 50 = .ok (.iaload, 1) := by decide +kernel
theorem dX12_nextLine_51 : decode cX12_nextLine 51 = .ok (.ifCond .le 17, 3) := by decide +kernel
theorem dX12_nextLine_54 : decode cX12_nextLine 54 = .ok (.aload_n 0, 1) := by decide +kernel
theorem dX12_nextLine_55 : decode cX12_nextLine 55 = .ok (.getfield 129, 3) := by decide +kernel
theorem dX12_nextLine_58 : decode cX12_nextLine 58 = .ok (.iload_n 2, 1) := by decide +kernel
theorem dX12_nextLine_59 : decode cX12_nextLine 59 = .ok (.bipush 7, 2) := by decide +kernel
theorem dX12_nextLine_61 : decode cX12_nextLine 61 = .ok (.iadd, 1) := by decide +kernel
theorem dX12_nextLine_62 : decode cX12_nextLine 62 = .ok (.iaload, 1) := by decide +kernel
theorem dX12_nextLine_63 : decode cX12_nextLine 63 = .ok (.iconst 1, 1) := by decide +kernel
theorem dX12_nextLine_64 : decode cX12_nextLine 64 = .ok (.iadd, 1) := by decide +kernel
theorem dX12_nextLine_65 : decode cX12_nextLine 65 = .ok (.goto 14, 3) := by decide +kernel
theorem dX12_nextLine_68 : decode cX12_nextLine 68 = .ok (.aload_n 0, 1) := by decide +kernel
theorem dX12_nextLine_69 : decode cX12_nextLine 69 = .ok (.getfield 129, 3) := by decide +kernel
theorem dX12_nextLine_72 : decode cX12_nextLine 72 = .ok (.iload_n 2, 1) := by decide +kernel
theorem dX12_nextLine_73 : decode cX12_nextLine 73 = .ok (.bipush 9, 2) := by decide +kernel
theorem dX12_nextLine_75 : decode cX12_nextLine 75 = .ok (.iadd, 1) := by decide +kernel
theorem dX12_nextLine_76 : decode cX12_nextLine 76 = .ok (.iaload, 1) := by decide +kernel
theorem dX12_nextLine_77 : decode cX12_nextLine 77 = .ok (.iconst 1, 1) := by decide +kernel
theorem dX12_nextLine_78 : decode cX12_nextLine 78 = .ok (.iadd, 1) := by decide +kernel
theorem dX12_nextLine_79 : decode cX12_nextLine 79 = .ok (.ireturn, 1) := by decide +kernel
theorem dX12_nextLine_80 : decode cX12_nextLine 80 = .ok (.aload_n 0, 1) := by decide +kernel
theorem dX12_nextLine_81 : decode cX12_nextLine 81 = .ok (.getfield 129, 3) := by decide +kernel
theorem dX12_nextLine_84 : decode cX12_nextLine 84 = .ok (.iload_n 2, 1) := by decide +kernel
theorem dX12_nextLine_85 : decode cX12_nextLine 85 = .ok (.iaload, 1) := by decide +kernel
theorem dX12_nextLine_86 : decode cX12_nextLine 86 = .ok (.iconst 2, 1) := by decide +kernel
theorem dX12_nextLine_87 : decode cX12_nextLine 87 = .ok (.if_icmp .ne 26, 3) := by decide +kernel
theorem dX12_nextLine_90 : decode cX12_nextLine 90 = .ok (.aload_n 0, 1) := by decide +kernel
theorem dX12_nextLine_91 : decode cX12_nextLine 91 = .ok (.getfield 129, 3) := by decide +kernel
theorem dX12_nextLine_94 : decode cX12_nextLine 94 = .ok (.bipush 12, 2) := by decide +kernel
theorem dX12_nextLine_96 : decode cX12_nextLine 96 = .ok (.aload_n 0, 1) := by decide +kernel
theorem dX12_nextLine_97 : decode cX12_nextLine 97 = .ok (.getfield 129, 3) := by decide +kernel
theorem dX12_nextLine_100 : decode cX12_nextLine 100 = .ok (.iload_n 2, 1) := by decide +kernel
theorem dX12_nextLine_101 : decode cX12_nextLine 101 = .ok (.bipush 7, 2) := by decide +kernel
theorem dX12_nextLine_103 : decode cX12_nextLine 103 = .ok (.iadd, 1) := by decide +kernel
theorem dX12_nextLine_104 : decode cX12_nextLine 104 = .ok (.iaload, 1) := by decide +kernel
theorem dX12_nextLine_105 : decode cX12_nextLine 105 = .ok (.imul, 1) := by decide +kernel
theorem dX12_nextLine_106 : decode cX12_nextLine 106 = .ok (.bipush 9, 2) := by decide +kernel
theorem dX12_nextLine_108 : decode cX12_nextLine 108 = .ok (.iadd, 1) := by decide +kernel
theorem dX12_nextLine_109 : decode cX12_nextLine 109 = .ok (.iaload, 1) := by decide +kernel
theorem dX12_nextLine_110 : decode cX12_nextLine 110 = .ok (.iconst 1, 1) := by decide +kernel
theorem dX12_nextLine_111 : decode cX12_nextLine 111 = .ok (.iadd, 1) := by decide +kernel
theorem dX12_nextLine_112 : decode cX12_nextLine 112 = .ok (.ireturn, 1) := by decide +kernel
theorem dX12_nextLine_113 : decode cX12_nextLine 113 = .ok (.aload_n 0, 1) := by decide +kernel
theorem dX12_nextLine_114 : decode cX12_nextLine 114 = .ok (.getfield 129, 3) := by decide +kernel
theorem dX12_nextLine_117 : decode cX12_nextLine 117 = .ok (.iload_n 2, 1) := by decide +kernel
theorem dX12_nextLine_118 : decode cX12_nextLine 118 = .ok (.iconst 1, 1) := by decide +kernel
theorem dX12_nextLine_119 : decode cX12_nextLine 119 = .ok (.iadd, 1) := by decide +kernel
theorem dX12_nextLine_120 : decode cX12_nextLine 120 = .ok (.iaload, 1) := by decide +kernel
theorem dX12_nextLine_121 : decode cX12_nextLine 121 = .ok (.iconst 1, 1) := by decide +kernel
theorem dX12_nextLine_122 : decode cX12_nextLine 122 = .ok (.if_icmp .eq 7, 3) := by decide +kernel
theorem dX12_nextLine_125 : decode cX12_nextLine 125 = .ok (.iload_n 1, 1) := by decide +kernel
theorem dX12_nextLine_126 : decode cX12_nextLine 126 = .ok (.iconst 1, 1) := by decide +kernel
theorem dX12_nextLine_127 : decode cX12_nextLine 127 = .ok (.iadd, 1) := by decide +kernel
theorem dX12_nextLine_128 : decode cX12_nextLine 128 = .ok (.ireturn, 1) := by decide +kernel
theorem dX12_nextLine_129 : decode cX12_nextLine 129 = .ok (.aload_n 0, 1) := by decide +kernel
theorem dX12_nextLine_130 : decode cX12_nextLine 130 = .ok (.getfield 159, 3) := by decide +kernel
theorem dX12_nextLine_133 : decode cX12_nextLine 133 = .ok (.iload_n 3, 1) := by decide +kernel
theorem dX12_nextLine_134 : decode cX12_nextLine 134 = .ok (.dup2, 1) := by decide +kernel
theorem dX12_nextLine_135 : decode cX12_nextLine 135 = .ok (.iaload, 1) := by decide +kernel
theorem dX12_nextLine_136 : decode cX12_nextLine 136 = .ok (.iconst 1, 1) := by decide +kernel
theorem dX12_nextLine_137 : decode cX12_nextLine 137 = .ok (.isub, 1) := by decide +kernel
theorem dX12_nextLine_138 : decode cX12_nextLine 138 = .ok (.iastore, 1) := by decide +kernel
theorem dX12_nextLine_139 : decode cX12_nextLine 139 = .ok (.aload_n 0, 1) := by decide +kernel
theorem dX12_nextLine_140 : decode cX12_nextLine 140 = .ok (.getfield 159, 3) := by decide +kernel
theorem dX12_nextLine_143 : decode cX12_nextLine 143 = .ok (.iload_n 3, 1) := by decide +kernel
theorem dX12_nextLine_144 : decode cX12_nextLine 144 = .ok (.iaload, 1) := by decide +kernel
theorem dX12_nextLine_145 : decode cX12_nextLine 145 = .ok (.ifCond .le 17, 3) := by decide +kernel
theorem dX12_nextLine_148 : decode cX12_nextLine 148 = .ok (.aload_n 0, 1) := by decide +kernel
theorem dX12_nextLine_149 : decode cX12_nextLine 149 = .ok (.getfield 129, 3) := by decide +kernel
theorem dX12_nextLine_152 : decode cX12_nextLine 152 = .ok (.iload_n 2, 1) := by decide +kernel
theorem dX12_nextLine_153 : decode cX12_nextLine 153 = .ok (.bipush 7, 2) := by decide +kernel
theorem dX12_nextLine_155 : decode cX12_nextLine 155 = .ok (.iadd, 1) := by decide +kernel
theorem dX12_nextLine_156 : decode cX12_nextLine 156 = .ok (.iaload, 1) := by decide +kernel
theorem dX12_nextLine_157 : decode cX12_nextLine 157 = .ok (.iconst 1, 1) := by decide +kernel
theorem dX12_nextLine_158 : decode cX12_nextLine 158 = .ok (.iadd, 1) := by decide +kernel
theorem dX12_nextLine_159 : decode cX12_nextLine 159 = .ok (.goto 6, 3) := by decide +kernel
theorem dX12_nextLine_162 : decode cX12_nextLine 162 = .ok (.iload_n 1, 1) := by decide +kernel
theorem dX12_nextLine_163 : decode cX12_nextLine 163 = .ok (.iconst 1, 1) := by decide +kernel
theorem dX12_nextLine_164 : decode cX12_nextLine 164 = .ok (.iadd, 1) := by decide +kernel
theorem dX12_nextLine_165 : decode cX12_nextLine 165 = .ok (.ireturn, 1) := by decide +kernel
theorem dX12_walk_0 : decode cX12_walk 0 = .ok (.iconst 0, 1) := by decide +kernel
theorem dX12_walk_1 : decode cX12_walk 1 = .ok (.istore_n 3, 1) := by decide +kernel
theorem dX12_walk_2 : decode cX12_walk 2 = .ok (.iconst 0, 1) := by decide +kernel
theorem dX12_walk_3 : decode cX12_walk 3 = .ok (.istore 4, 2) := by decide +kernel
theorem dX12_walk_5 : decode cX12_walk 5 = .ok (.iload_n 3, 1) := by decide +kernel
theorem dX12_walk_6 : decode cX12_walk 6 = .ok (.aload_n 0, 1) := by decide +kernel
theorem dX12_walk_7 : decode cX12_walk 7 = .ok (.getfield 126, 3) := by decide +kernel
theorem dX12_walk_10 : decode cX12_walk 10 = .ok (.iconst 0, 1) := by decide +kernel
theorem dX12_walk_11 : decode cX12_walk 11 = .ok (.iaload, 1) := by decide +kernel
theorem dX12_walk_12 : decode cX12_walk 12 = .ok (.if_icmp .ge 166, 3) := by decide +kernel
theorem dX12_walk_15 : decode cX12_walk 15 = .ok (.bipush 12, 2) := by decide +kernel
theorem dX12_walk_17 : decode cX12_walk 17 = .ok (.iload_n 3, 1) := by decide +kernel
theorem dX12_walk_18 : decode cX12_walk 18 = .ok (.imul, 1) := by decide +kernel
theorem dX12_walk_19 : decode cX12_walk 19 = .ok (.istore 5, 2) := by decide +kernel
theorem dX12_walk_21 : decode cX12_walk 21 = .ok (.aload_n 0, 1) := by decide +kernel
theorem dX12_walk_22 : decode cX12_walk 22 = .ok (.getfield 129, 3) := by decide +kernel
theorem dX12_walk_25 : decode cX12_walk 25 = .ok (.iload 5, 2) := by decide +kernel
theorem dX12_walk_27 : decode cX12_walk 27 = .ok (.iaload, 1) := by decide +kernel
theorem dX12_walk_28 : decode cX12_walk 28 = .ok (.istore 6, 2) := by decide +kernel
theorem dX12_walk_30 : decode cX12_walk 30 = .ok (.iload_n 3, 1) := by decide +kernel
theorem dX12_walk_31 : decode cX12_walk 31 = .ok (.iconst 1, 1) := by decide +kernel
theorem dX12_walk_32 : decode cX12_walk 32 = .ok (.iadd, 1) := by decide +kernel
theorem dX12_walk_33 : decode cX12_walk 33 = .ok (.istore 7, 2) := by decide +kernel
theorem dX12_walk_35 : decode cX12_walk 35 = .ok (.iload 6, 2) := by decide +kernel
theorem dX12_walk_37 : decode cX12_walk 37 = .ok (.bipush 6, 2) := by decide +kernel
theorem dX12_walk_39 : decode cX12_walk 39 = .ok (.if_icmp .ne 38, 3) := by decide +kernel
theorem dX12_walk_42 : decode cX12_walk 42 = .ok (.aload_n 0, 1) := by decide +kernel
theorem dX12_walk_43 : decode cX12_walk 43 = .ok (.getfield 147, 3) := by decide +kernel
theorem dX12_walk_46 : decode cX12_walk 46 = .ok (.aload_n 0, 1) := by decide +kernel
theorem dX12_walk_47 : decode cX12_walk 47 = .ok (.getfield 129, 3) := by decide +kernel
theorem dX12_walk_50 : decode cX12_walk 50 = .ok (.iload 5, 2) := by decide +kernel
theorem dX12_walk_52 : decode cX12_walk 52 = .ok (.iconst 1, 1) := by decide +kernel
theorem dX12_walk_53 : decode cX12_walk 53 = .ok (.iadd, 1) := by decide +kernel
theorem dX12_walk_54 : decode cX12_walk 54 = .ok (.iaload, 1) := by decide +kernel
theorem dX12_walk_55 : decode cX12_walk 55 = .ok (.aload_n 0, 1) := by decide +kernel
theorem dX12_walk_56 : decode cX12_walk 56 = .ok (.getfield 165, 3) := by decide +kernel
theorem dX12_walk_59 : decode cX12_walk 59 = .ok (.iconst 4, 1) := by decide +kernel
theorem dX12_walk_60 : decode cX12_walk 60 = .ok (.aload_n 0, 1) := by decide +kernel
theorem dX12_walk_61 : decode cX12_walk 61 = .ok (.getfield 129, 3) := by decide +kernel
theorem dX12_walk_64 : decode cX12_walk 64 = .ok (.iload 5, 2) := by decide +kernel
theorem dX12_walk_66 : decode cX12_walk 66 = .ok (.iconst 2, 1) := by decide +kernel
theorem dX12_walk_67 : decode cX12_walk 67 = .ok (.iadd, 1) := by decide +kernel
theorem dX12_walk_68 : decode cX12_walk 68 = .ok (.iaload, 1) := by decide +kernel
theorem dX12_walk_69 : decode cX12_walk 69 = .ok (.imul, 1) := by decide +kernel
theorem dX12_walk_70 : decode cX12_walk 70 = .ok (.iload_n 1, 1) := by decide +kernel
theorem dX12_walk_71 : decode cX12_walk 71 = .ok (.iadd, 1) := by decide +kernel
theorem dX12_walk_72 : decode cX12_walk 72 = .ok (.iaload, 1) := by decide +kernel
theorem dX12_walk_73 : decode cX12_walk 73 = .ok (.iastore, 1) := by decide +kernel
theorem dX12_walk_74 : decode cX12_walk 74 = .ok (.goto 98, 3) := by decide +kernel
theorem dX12_walk_77 : decode cX12_walk 77 = .ok (.iload 6, 2) := by decide +kernel
theorem dX12_walk_79 : decode cX12_walk 79 = .ok (.ifCond .ne 26, 3) := by decide +kernel
theorem dX12_walk_82 : decode cX12_walk 82 = .ok (.aload_n 0, 1) := by decide +kernel
theorem dX12_walk_83 : decode cX12_walk 83 = .ok (.getfield 147, 3) := by decide +kernel
theorem dX12_walk_86 : decode cX12_walk 86 = .ok (.aload_n 0, 1) := by decide +kernel
theorem dX12_walk_87 : decode cX12_walk 87 = .ok (.getfield 129, 3) := by decide +kernel
theorem dX12_walk_90 : decode cX12_walk 90 = .ok (.iload 5, 2) := by decide +kernel
theorem dX12_walk_92 : decode cX12_walk 92 = .ok (.iconst 1, 1) := by decide +kernel
theorem dX12_walk_93 : decode cX12_walk 93 = .ok (.iadd, 1) := by decide +kernel
theorem dX12_walk_94 : decode cX12_walk 94 = .ok (.iaload, 1) := by decide +kernel
theorem dX12_walk_95 : decode cX12_walk 95 = .ok (.aload_n 0, 1) := by decide +kernel
theorem dX12_walk_96 : decode cX12_walk 96 = .ok (.iload 5, 2) := by decide +kernel
theorem dX12_walk_98 : decode cX12_walk 98 = .ok (.invokevirtual 437, 3) := by decide +kernel
theorem dX12_walk_101 : decode cX12_walk 101 = .ok (.iastore, 1) := by decide +kernel
theorem dX12_walk_102 : decode cX12_walk 102 = .ok (.goto 70, 3) := by decide +kernel
theorem dX12_walk_105 : decode cX12_walk 105 = .ok (.iload 6, 2) := by decide +kernel
theorem dX12_walk_107 : decode cX12_walk 107 = .ok (.iconst 3, 1) := by decide +kernel
theorem dX12_walk_108 : decode cX12_walk 108 = .ok (.if_icmp .ne 30, 3) := by decide +kernel
theorem dX12_walk_111 : decode cX12_walk 111 = .ok (.aload_n 0, 1) := by decide +kernel
theorem dX12_walk_112 : decode cX12_walk 112 = .ok (.getfield 159, 3) := by decide +kernel
theorem dX12_walk_115 : decode cX12_walk 115 = .ok (.aload_n 0, 1) := by decide +kernel
theorem dX12_walk_116 : decode cX12_walk 116 = .ok (.getfield 129, 3) := by decide +kernel
theorem dX12_walk_119 : decode cX12_walk 119 = .ok (.iload 5, 2) := by decide +kernel
theorem dX12_walk_121 : decode cX12_walk 121 = .ok (.bipush 11, 2) := by decide +kernel
theorem dX12_walk_123 : decode cX12_walk 123 = .ok (.iadd, 1) := by decide +kernel
theorem dX12_walk_124 : decode cX12_walk 124 = .ok (.iaload, 1) := by decide +kernel
theorem dX12_walk_125 : decode cX12_walk 125 = .ok (.aload_n 0, 1) := by decide +kernel
theorem dX12_walk_126 : decode cX12_walk 126 = .ok (.getfield 129, 3) := by decide +kernel
theorem dX12_walk_129 : decode cX12_walk 129 = .ok (.iload 5, 2) := by decide +kernel
theorem dX12_walk_131 : decode cX12_walk 131 = .ok (.iconst 1, 1) := by decide +kernel
theorem dX12_walk_132 : decode cX12_walk 132 = .ok (.iadd, 1) := by decide +kernel
theorem dX12_walk_133 : decode cX12_walk 133 = .ok (.iaload, 1) := by decide +kernel
theorem dX12_walk_134 : decode cX12_walk 134 = .ok (.iastore, 1) := by decide +kernel
theorem dX12_walk_135 : decode cX12_walk 135 = .ok (.goto 37, 3) := by decide +kernel
theorem dX12_walk_138 : decode cX12_walk 138 = .ok (.iload 6, 2) := by decide +kernel
theorem dX12_walk_140 : decode cX12_walk 140 = .ok (.iconst 5, 1) := by decide +kernel
theorem dX12_walk_141 : decode cX12_walk 141 = .ok (.if_icmp .ne 24, 3) := by decide +kernel
theorem dX12_walk_144 : decode cX12_walk 144 = .ok (.iload 4, 2) := by decide +kernel
theorem dX12_walk_146 : decode cX12_walk 146 = .ok (.iload_n 2, 1) := by decide +kernel
theorem dX12_walk_147 : decode cX12_walk 147 = .ok (.if_icmp .ne 12, 3) := by decide +kernel
theorem dX12_walk_150 : decode cX12_walk 150 = .ok (.aload_n 0, 1) := by decide +kernel
theorem dX12_walk_151 : decode cX12_walk 151 = .ok (.iload 5, 2) := by decide +kernel
theorem dX12_walk_153 : decode cX12_walk 153 = .ok (.iconst 5, 1) := by decide +kernel
theorem dX12_walk_154 : decode cX12_walk 154 = .ok (.iadd, 1) := by decide +kernel
theorem dX12_walk_155 : decode cX12_walk 155 = .ok (.invokevirtual 434, 3) := by decide +kernel
theorem dX12_walk_158 : decode cX12_walk 158 = .ok (.ireturn, 1) := by decide +kernel
theorem dX12_walk_159 : decode cX12_walk 159 = .ok (.iinc 4 1, 3) := by decide +kernel
theorem dX12_walk_162 : decode cX12_walk 162 = .ok (.goto 10, 3) := by decide +kernel
theorem dX12_walk_165 : decode cX12_walk 165 = .ok (.aload_n 0, 1) := by decide +kernel
theorem dX12_walk_166 : decode cX12_walk 166 = .ok (.iload_n 3, 1) := by decide +kernel
theorem dX12_walk_167 : decode cX12_walk 167 = .ok (.invokevirtual 440, 3) := by decide +kernel
theorem dX12_walk_170 : decode cX12_walk 170 = .ok (.istore 7, 2) := by decide +kernel
theorem dX12_walk_172 : decode cX12_walk 172 = .ok (.iload 7, 2) := by decide +kernel
theorem dX12_walk_174 : decode cX12_walk 174 = .ok (.istore_n 3, 1) := by decide +kernel
theorem dX12_walk_175 : decode cX12_walk 175 = .ok (.goto (-170), 3) := by decide +kernel
theorem dX12_walk_178 : decode cX12_walk 178 = .ok (.iconst 0, 1) := by decide +kernel
theorem dX12_walk_179 : decode cX12_walk 179 = .ok (.ireturn, 1) := by decide +kernel
theorem dX12_isShown_0 : decode cX12_isShown 0 = .ok (.iload_n 1, 1) := by decide +kernel
theorem dX12_isShown_1 : decode cX12_isShown 1 = .ok (.invokestatic 362, 3) := by decide +kernel
theorem dX12_isShown_4 : decode cX12_isShown 4 = .ok (.ifCond .eq 22, 3) := by decide +kernel
theorem dX12_isShown_7 : decode cX12_isShown 7 = .ok (.iload_n 2, 1) := by decide +kernel
theorem dX12_isShown_8 : decode cX12_isShown 8 = .ok (.ifCond .lt 18, 3) := by decide +kernel
theorem dX12_isShown_11 : decode cX12_isShown 11 = .ok (.iload_n 2, 1) := by decide +kernel
theorem dX12_isShown_12 : decode cX12_isShown 12 = .ok (.aload_n 0, 1) := by decide +kernel
theorem dX12_isShown_13 : decode cX12_isShown 13 = .ok (.getfield 126, 3) := by decide +kernel
theorem dX12_isShown_16 : decode cX12_isShown 16 = .ok (.bipush 9, 2) := by decide +kernel
theorem dX12_isShown_18 : decode cX12_isShown 18 = .ok (.iaload, 1) := by decide +kernel
theorem dX12_isShown_19 : decode cX12_isShown 19 = .ok (.if_icmp .ge 7, 3) := by decide +kernel
theorem dX12_isShown_22 : decode cX12_isShown 22 = .ok (.iconst 1, 1) := by decide +kernel
theorem dX12_isShown_23 : decode cX12_isShown 23 = .ok (.goto 4, 3) := by decide +kernel
theorem dX12_isShown_26 : decode cX12_isShown 26 = .ok (.iconst 0, 1) := by decide +kernel
theorem dX12_isShown_27 : decode cX12_isShown 27 = .ok (.ireturn, 1) := by decide +kernel
theorem dX12_walked_0 : decode cX12_walked 0 = .ok (.aload_n 0, 1) := by decide +kernel
theorem dX12_walked_1 : decode cX12_walked 1 = .ok (.aload_n 0, 1) := by decide +kernel
theorem dX12_walked_2 : decode cX12_walked 2 = .ok (.iload_n 1, 1) := by decide +kernel
theorem dX12_walked_3 : decode cX12_walked 3 = .ok (.iload_n 2, 1) := by decide +kernel
theorem dX12_walked_4 : decode cX12_walked 4 = .ok (.invokevirtual 443, 3) := by decide +kernel
theorem dX12_walked_7 : decode cX12_walked 7 = .ok (.ifCond .eq 7, 3) := by decide +kernel
theorem dX12_walked_10 : decode cX12_walked 10 = .ok (.iconst 0, 1) := by decide +kernel
theorem dX12_walked_11 : decode cX12_walked 11 = .ok (.goto 4, 3) := by decide +kernel
theorem dX12_walked_14 : decode cX12_walked 14 = .ok (.iconst 1, 1) := by decide +kernel
theorem dX12_walked_15 : decode cX12_walked 15 = .ok (.putfield 1, 3) := by decide +kernel
theorem dX12_walked_18 : decode cX12_walked 18 = .ok (.aload_n 0, 1) := by decide +kernel
theorem dX12_walked_19 : decode cX12_walked 19 = .ok (.getfield 1, 3) := by decide +kernel
theorem dX12_walked_22 : decode cX12_walked 22 = .ok (.ifCond .le 7, 3) := by decide +kernel
theorem dX12_walked_25 : decode cX12_walked 25 = .ok (.iconst 0, 1) := by decide +kernel
theorem dX12_walked_26 : decode cX12_walked 26 = .ok (.goto 9, 3) := by decide +kernel
theorem dX12_walked_29 : decode cX12_walked 29 = .ok (.aload_n 0, 1) := by decide +kernel
theorem dX12_walked_30 : decode cX12_walked 30 = .ok (.iload_n 1, 1) := by decide +kernel
theorem dX12_walked_31 : decode cX12_walked 31 = .ok (.iload_n 2, 1) := by decide +kernel
theorem dX12_walked_32 : decode cX12_walked 32 = .ok (.invokevirtual 446, 3) := by decide +kernel
theorem dX12_walked_35 : decode cX12_walked 35 = .ok (.ireturn, 1) := by decide +kernel
theorem dX12_has_0 : decode cX12_has 0 = .ok (.lload_n 0, 1) := by decide +kernel
theorem dX12_has_1 : decode cX12_has 1 = .ok (.iload_n 2, 1) := by decide +kernel
theorem dX12_has_2 : decode cX12_has 2 = .ok (.lshr, 1) := by decide +kernel
theorem dX12_has_3 : decode cX12_has 3 = .ok (.lconst 1, 1) := by decide +kernel
theorem dX12_has_4 : decode cX12_has 4 = .ok (.land, 1) := by decide +kernel
theorem dX12_has_5 : decode cX12_has 5 = .ok (.lconst 1, 1) := by decide +kernel
theorem dX12_has_6 : decode cX12_has 6 = .ok (.lcmp, 1) := by decide +kernel
theorem dX12_has_7 : decode cX12_has 7 = .ok (.ifCond .ne 7, 3) := by decide +kernel
theorem dX12_has_10 : decode cX12_has 10 = .ok (.iconst 1, 1) := by decide +kernel
theorem dX12_has_11 : decode cX12_has 11 = .ok (.goto 4, 3) := by decide +kernel
theorem dX12_has_14 : decode cX12_has 14 = .ok (.iconst 0, 1) := by decide +kernel
theorem dX12_has_15 : decode cX12_has 15 = .ok (.ireturn, 1) := by decide +kernel
theorem dX12_manyOf_0 : decode cX12_manyOf 0 = .ok (.iconst 0, 1) := by decide +kernel
theorem dX12_manyOf_1 : decode cX12_manyOf 1 = .ok (.istore_n 2, 1) := by decide +kernel
theorem dX12_manyOf_2 : decode cX12_manyOf 2 = .ok (.iconst 0, 1) := by decide +kernel
theorem dX12_manyOf_3 : decode cX12_manyOf 3 = .ok (.istore_n 3, 1) := by decide +kernel
theorem dX12_manyOf_4 : decode cX12_manyOf 4 = .ok (.iload_n 3, 1) := by decide +kernel
theorem dX12_manyOf_5 : decode cX12_manyOf 5 = .ok (.bipush 64, 2) := by decide +kernel
theorem dX12_manyOf_7 : decode cX12_manyOf 7 = .ok (.if_icmp .ge 25, 3) := by decide +kernel
theorem dX12_manyOf_10 : decode cX12_manyOf 10 = .ok (.iload_n 2, 1) := by decide +kernel
theorem dX12_manyOf_11 : decode cX12_manyOf 11 = .ok (.lload_n 0, 1) := by decide +kernel
theorem dX12_manyOf_12 : decode cX12_manyOf 12 = .ok (.iload_n 3, 1) := by decide +kernel
theorem dX12_manyOf_13 : decode cX12_manyOf 13 = .ok (.invokestatic 449, 3) := by decide +kernel
theorem dX12_manyOf_16 : decode cX12_manyOf 16 = .ok (.ifCond .eq 7, 3) := by decide +kernel
theorem dX12_manyOf_19 : decode cX12_manyOf 19 = .ok (.iconst 1, 1) := by decide +kernel
theorem dX12_manyOf_20 : decode cX12_manyOf 20 = .ok (.goto 4, 3) := by decide +kernel
theorem dX12_manyOf_23 : decode cX12_manyOf 23 = .ok (.iconst 0, 1) := by decide +kernel
theorem dX12_manyOf_24 : decode cX12_manyOf 24 = .ok (.iadd, 1) := by decide +kernel
theorem dX12_manyOf_25 : decode cX12_manyOf 25 = .ok (.istore_n 2, 1) := by decide +kernel
theorem dX12_manyOf_26 : decode cX12_manyOf 26 = .ok (.iinc 3 1, 3) := by decide +kernel
theorem dX12_manyOf_29 : decode cX12_manyOf 29 = .ok (.goto (-25), 3) := by decide +kernel
theorem dX12_manyOf_32 : decode cX12_manyOf 32 = .ok (.iload_n 2, 1) := by decide +kernel
theorem dX12_manyOf_33 : decode cX12_manyOf 33 = .ok (.ireturn, 1) := by decide +kernel
theorem dX12_shownSet_0 : decode cX12_shownSet 0 = .ok (.lconst 0, 1) := by decide +kernel
theorem dX12_shownSet_1 : decode cX12_shownSet 1 = .ok (.lstore_n 2, 1) := by decide +kernel
theorem dX12_shownSet_2 : decode cX12_shownSet 2 = .ok (.iconst 0, 1) := by decide +kernel
theorem dX12_shownSet_3 : decode cX12_shownSet 3 = .ok (.istore 4, 2) := by decide +kernel
theorem dX12_shownSet_5 : decode cX12_shownSet 5 = .ok (.iload 4, 2) := by decide +kernel
theorem dX12_shownSet_7 : decode cX12_shownSet 7 = .ok (.aload_n 0, 1) := by decide +kernel
theorem dX12_shownSet_8 : decode cX12_shownSet 8 = .ok (.getfield 126, 3) := by decide +kernel
theorem dX12_shownSet_11 : decode cX12_shownSet 11 = .ok (.bipush 9, 2) := by decide +kernel
theorem dX12_shownSet_13 : decode cX12_shownSet 13 = .ok (.iaload, 1) := by decide +kernel
theorem dX12_shownSet_14 : decode cX12_shownSet 14 = .ok (.if_icmp .ge 38, 3) := by decide +kernel
theorem dX12_shownSet_17 : decode cX12_shownSet 17 = .ok (.lload_n 2, 1) := by decide +kernel
theorem dX12_shownSet_18 : decode cX12_shownSet 18 = .ok (.iload_n 1, 1) := by decide +kernel
theorem dX12_shownSet_19 : decode cX12_shownSet 19 = .ok (.ifCond .lt 9, 3) := by decide +kernel
theorem dX12_shownSet_22 : decode cX12_shownSet 22 = .ok (.iload_n 1, 1) := by decide +kernel
theorem dX12_shownSet_23 : decode cX12_shownSet 23 = .ok (.iload 4, 2) := by decide +kernel
theorem dX12_shownSet_25 : decode cX12_shownSet 25 = .ok (.if_icmp .ne 18, 3) := by decide +kernel
theorem dX12_shownSet_28 : decode cX12_shownSet 28 = .ok (.lconst 1, 1) := by decide +kernel
theorem dX12_shownSet_29 : decode cX12_shownSet 29 = .ok (.aload_n 0, 1) := by decide +kernel
theorem dX12_shownSet_30 : decode cX12_shownSet 30 = .ok (.getfield 126, 3) := by decide +kernel
theorem dX12_shownSet_33 : decode cX12_shownSet 33 = .ok (.bipush 28, 2) := by decide +kernel
theorem dX12_shownSet_35 : decode cX12_shownSet 35 = .ok (.iload 4, 2) := by decide +kernel
theorem dX12_shownSet_37 : decode cX12_shownSet 37 = .ok (.iadd, 1) := by decide +kernel
theorem dX12_shownSet_38 : decode cX12_shownSet 38 = .ok (.iaload, 1) := by decide +kernel
theorem dX12_shownSet_39 : decode cX12_shownSet 39 = .ok (.lshl, 1) := by decide +kernel
theorem dX12_shownSet_40 : decode cX12_shownSet 40 = .ok (.goto 4, 3) := by decide +kernel
theorem dX12_shownSet_43 : decode cX12_shownSet 43 = .ok (.lconst 0, 1) := by decide +kernel
theorem dX12_shownSet_44 : decode cX12_shownSet 44 = .ok (.lor, 1) := by decide +kernel
theorem dX12_shownSet_45 : decode cX12_shownSet 45 = .ok (.lstore_n 2, 1) := by decide +kernel
theorem dX12_shownSet_46 : decode cX12_shownSet 46 = .ok (.iinc 4 1, 3) := by decide +kernel
theorem dX12_shownSet_49 : decode cX12_shownSet 49 = .ok (.goto (-44), 3) := by decide +kernel
theorem dX12_shownSet_52 : decode cX12_shownSet 52 = .ok (.lload_n 2, 1) := by decide +kernel
theorem dX12_shownSet_53 : decode cX12_shownSet 53 = .ok (.lreturn, 1) := by decide +kernel
theorem dX12_needs_0 : decode cX12_needs 0 = .ok (.iconst 0, 1) := by decide +kernel
theorem dX12_needs_1 : decode cX12_needs 1 = .ok (.istore_n 2, 1) := by decide +kernel
theorem dX12_needs_2 : decode cX12_needs 2 = .ok (.iload_n 2, 1) := by decide +kernel
theorem dX12_needs_3 : decode cX12_needs 3 = .ok (.aload_n 0, 1) := by decide +kernel
theorem dX12_needs_4 : decode cX12_needs 4 = .ok (.invokevirtual 352, 3) := by decide +kernel
theorem dX12_needs_7 : decode cX12_needs 7 = .ok (.if_icmp .ge 187, 3) := by decide +kernel
theorem dX12_needs_10 : decode cX12_needs 10 = .ok (.aload_n 0, 1) := by decide +kernel
theorem dX12_needs_11 : decode cX12_needs 11 = .ok (.iload_n 2, 1) := by decide +kernel
theorem dX12_needs_12 : decode cX12_needs 12 = .ok (.invokevirtual 391, 3) := by decide +kernel
theorem dX12_needs_15 : decode cX12_needs 15 = .ok (.bipush 13, 2) := by decide +kernel
theorem dX12_needs_17 : decode cX12_needs 17 = .ok (.if_icmp .ne 28, 3) := by decide +kernel
theorem dX12_needs_20 : decode cX12_needs 20 = .ok (.aload_n 0, 1) := by decide +kernel
theorem dX12_needs_21 : decode cX12_needs 21 = .ok (.iload_n 2, 1) := by decide +kernel
theorem dX12_needs_22 : decode cX12_needs 22 = .ok (.invokevirtual 453, 3) := by decide +kernel
theorem dX12_needs_25 : decode cX12_needs 25 = .ok (.ifCond .ne 20, 3) := by decide +kernel
theorem dX12_needs_28 : decode cX12_needs 28 = .ok (.aload_n 0, 1) := by decide +kernel
theorem dX12_needs_29 : decode cX12_needs 29 = .ok (.aload_n 0, 1) := by decide +kernel
theorem dX12_needs_30 : decode cX12_needs 30 = .ok (.iload_n 2, 1) := by decide +kernel
theorem dX12_needs_31 : decode cX12_needs 31 = .ok (.iconst 0, 1) := by decide +kernel
theorem dX12_needs_32 : decode cX12_needs 32 = .ok (.invokevirtual 388, 3) := by decide +kernel
theorem dX12_needs_35 : decode cX12_needs 35 = .ok (.invokevirtual 453, 3) := by decide +kernel
theorem dX12_needs_38 : decode cX12_needs 38 = .ok (.ifCond .eq 7, 3) := by decide +kernel
theorem dX12_needs_41 : decode cX12_needs 41 = .ok (.iconst 1, 1) := by decide +kernel
theorem dX12_needs_42 : decode cX12_needs 42 = .ok (.goto 4, 3) := by decide +kernel
theorem dX12_needs_45 : decode cX12_needs 45 = .ok (.iconst 0, 1) := by decide +kernel
theorem dX12_needs_46 : decode cX12_needs 46 = .ok (.istore_n 3, 1) := by decide +kernel
theorem dX12_needs_47 : decode cX12_needs 47 = .ok (.aload_n 0, 1) := by decide +kernel
theorem dX12_needs_48 : decode cX12_needs 48 = .ok (.getfield 187, 3) := by decide +kernel
theorem dX12_needs_51 : decode cX12_needs 51 = .ok (.iload_n 2, 1) := by decide +kernel
theorem dX12_needs_52 : decode cX12_needs 52 = .ok (.iload_n 3, 1) := by decide +kernel
theorem dX12_needs_53 : decode cX12_needs 53 = .ok (.ifCond .eq 36, 3) := by decide +kernel
theorem dX12_needs_56 : decode cX12_needs 56 = .ok (.aload_n 0, 1) := by decide +kernel
theorem dX12_needs_57 : decode cX12_needs 57 = .ok (.getfield 187, 3) := by decide +kernel
theorem dX12_needs_60 : decode cX12_needs 60 = .ok (.aload_n 0, 1) := by decide +kernel
theorem dX12_needs_61 : decode cX12_needs 61 = .ok (.iload_n 2, 1) := by decide +kernel
theorem dX12_needs_62 : decode cX12_needs 62 = .ok (.aload_n 0, 1) := by decide +kernel
theorem dX12_needs_63 : decode cX12_needs 63 = .ok (.getfield 171, 3) := by decide +kernel
theorem dX12_needs_66 : decode cX12_needs 66 = .ok (.aload_n 0, 1) := by decide +kernel
theorem dX12_needs_67 : decode cX12_needs 67 = .ok (.iload_n 2, 1) := by decide +kernel
theorem dX12_needs_68 : decode cX12_needs 68 = .ok (.iconst 0, 1) := by decide +kernel
theorem dX12_needs_69 : decode cX12_needs 69 = .ok (.invokevirtual 388, 3) := by decide +kernel
theorem dX12_needs_72 : decode cX12_needs 72 = .ok (.iaload, 1) := by decide +kernel
theorem dX12_needs_73 : decode cX12_needs 73 = .ok (.iconst 1, 1) := by decide +kernel
theorem dX12_needs_74 : decode cX12_needs 74 = .ok (.if_icmp .ne 7, 3) := by decide +kernel
theorem dX12_needs_77 : decode cX12_needs 77 = .ok (.iconst 1, 1) := by decide +kernel
theorem dX12_needs_78 : decode cX12_needs 78 = .ok (.goto 4, 3) := by decide +kernel
theorem dX12_needs_81 : decode cX12_needs 81 = .ok (.iconst 2, 1) := by decide +kernel
theorem dX12_needs_82 : decode cX12_needs 82 = .ok (.invokevirtual 388, 3) := by decide +kernel
theorem dX12_needs_85 : decode cX12_needs 85 = .ok (.iaload, 1) := by decide +kernel
theorem dX12_needs_86 : decode cX12_needs 86 = .ok (.goto 4, 3) := by decide +kernel
theorem dX12_needs_89 : decode cX12_needs 89 = .ok (.iload_n 2, 1) := by decide +kernel
theorem dX12_needs_90 : decode cX12_needs 90 = .ok (.iastore, 1) := by decide +kernel
theorem dX12_needs_91 : decode cX12_needs 91 = .ok (.aload_n 0, 1) := by decide +kernel
theorem dX12_needs_92 : decode cX12_needs 92 = .ok (.getfield 190, 3) := by decide +kernel
theorem dX12_needs_95 : decode cX12_needs 95 = .ok (.iload_n 2, 1) := by decide +kernel
theorem dX12_needs_96 : decode cX12_needs 96 = .ok (.lconst 0, 1) := by decide +kernel
theorem dX12_needs_97 : decode cX12_needs 97 = .ok (.lastore, 1) := by decide +kernel
theorem dX12_needs_98 : decode cX12_needs 98 = .ok (.iconst 0, 1) := by decide +kernel
theorem dX12_needs_99 : decode cX12_needs 99 = .ok (.istore 4, 2) := by decide +kernel
theorem dX12_needs_101 : decode cX12_needs 101 = .ok (.iload 4, 2) := by decide +kernel
theorem dX12_needs_103 : decode cX12_needs 103 = .ok (.iconst 3, 1) := by decide +kernel
theorem dX12_needs_104 : decode cX12_needs 104 = .ok (.if_icmp .ge 77, 3) := by decide +kernel
theorem dX12_needs_107 : decode cX12_needs 107 = .ok (.aload_n 0, 1) := by decide +kernel
theorem dX12_needs_108 : decode cX12_needs 108 = .ok (.iload_n 2, 1) := by decide +kernel
theorem dX12_needs_109 : decode cX12_needs 109 = .ok (.invokevirtual 391, 3) := by decide +kernel
theorem dX12_needs_112 : decode cX12_needs 112 = .ok (.iconst 2, 1) := by decide +kernel
theorem dX12_needs_113 : decode cX12_needs 113 = .ok (.if_icmp .lt 68, 3) := by decide +kernel
theorem dX12_needs_116 : decode cX12_needs 116 = .ok (.aload_n 0, 1) := by decide +kernel
theorem dX12_needs_117 : decode cX12_needs 117 = .ok (.iload_n 2, 1) := by decide +kernel
theorem dX12_needs_118 : decode cX12_needs 118 = .ok (.iload 4, 2) := by decide +kernel
theorem dX12_needs_120 : decode cX12_needs 120 = .ok (.invokevirtual 388, 3) := by decide +kernel
theorem dX12_needs_123 : decode cX12_needs 123 = .ok (.ifCond .ge 7, 3) := by decide +kernel
theorem dX12_needs_126 : decode cX12_needs 126 = .ok (.iconst (-1), 1) := by decide +kernel
theorem dX12_needs_127 : decode cX12_needs 127 = .ok (.goto 15, 3) := by decide +kernel
theorem dX12_needs_130 : decode cX12_needs 130 = .ok (.aload_n 0, 1) := by decide +kernel
theorem dX12_needs_131 : decode cX12_needs 131 = .ok (.getfield 187, 3) := by decide +kernel
theorem dX12_needs_134 : decode cX12_needs 134 = .ok (.aload_n 0, 1) := by decide +kernel
theorem dX12_needs_135 : decode cX12_needs 135 = .ok (.iload_n 2, 1) := by decide +kernel
theorem dX12_needs_136 : decode cX12_needs 136 = .ok (.iload 4, 2) := by decide +kernel
theorem dX12_needs_138 : decode cX12_needs 138 = .ok (.invokevirtual 388, 3) := by decide +kernel
theorem dX12_needs_141 : decode cX12_needs 141 = .ok (.iaload, 1) := by decide +kernel
theorem dX12_needs_142 : decode cX12_needs 142 = .ok (.istore 5, 2) := by decide +kernel
theorem dX12_needs_144 : decode cX12_needs 144 = .ok (.aload_n 0, 1) := by decide +kernel
theorem dX12_needs_145 : decode cX12_needs 145 = .ok (.getfield 190, 3) := by decide +kernel
theorem dX12_needs_148 : decode cX12_needs 148 = .ok (.iload_n 2, 1) := by decide +kernel
theorem dX12_needs_149 : decode cX12_needs 149 = .ok (.dup2, 1) := by decide +kernel
theorem dX12_needs_150 : decode cX12_needs 150 = .ok (.laload, 1) := by decide +kernel
theorem dX12_needs_151 : decode cX12_needs 151 = .ok (.iload 5, 2) := by decide +kernel
theorem dX12_needs_153 : decode cX12_needs 153 = .ok (.ifCond .lt 19, 3) := by decide +kernel
theorem dX12_needs_156 : decode cX12_needs 156 = .ok (.aload_n 0, 1) := by decide +kernel
theorem dX12_needs_157 : decode cX12_needs 157 = .ok (.iload 5, 2) := by decide +kernel
theorem dX12_needs_159 : decode cX12_needs 159 = .ok (.invokevirtual 453, 3) := by decide +kernel
theorem dX12_needs_162 : decode cX12_needs 162 = .ok (.ifCond .ne 10, 3) := by decide +kernel
theorem dX12_needs_165 : decode cX12_needs 165 = .ok (.lconst 1, 1) := by decide +kernel
theorem dX12_needs_166 : decode cX12_needs 166 = .ok (.iload 5, 2) := by decide +kernel
theorem dX12_needs_168 : decode cX12_needs 168 = .ok (.lshl, 1) := by decide +kernel
theorem dX12_needs_169 : decode cX12_needs 169 = .ok (.goto 4, 3) := by decide +kernel
theorem dX12_needs_172 : decode cX12_needs 172 = .ok (.lconst 0, 1) := by decide +kernel
theorem dX12_needs_173 : decode cX12_needs 173 = .ok (.lor, 1) := by decide +kernel
theorem dX12_needs_174 : decode cX12_needs 174 = .ok (.lastore, 1) := by decide +kernel
theorem dX12_needs_175 : decode cX12_needs 175 = .ok (.iinc 4 1, 3) := by decide +kernel
theorem dX12_needs_178 : decode cX12_needs 178 = .ok (.goto (-77), 3) := by decide +kernel
theorem dX12_needs_181 : decode cX12_needs 181 = .ok (.aload_n 0, 1) := by decide +kernel
theorem dX12_needs_182 : decode cX12_needs 182 = .ok (.getfield 193, 3) := by decide +kernel
theorem dX12_needs_185 : decode cX12_needs 185 = .ok (.iload_n 2, 1) := by decide +kernel
theorem dX12_needs_186 : decode cX12_needs 186 = .ok (.lconst 0, 1) := by decide +kernel
theorem dX12_needs_187 : decode cX12_needs 187 = .ok (.lastore, 1) := by decide +kernel
theorem dX12_needs_188 : decode cX12_needs 188 = .ok (.iinc 2 1, 3) := by decide +kernel
theorem dX12_needs_191 : decode cX12_needs 191 = .ok (.goto (-189), 3) := by decide +kernel
theorem dX12_needs_194 : decode cX12_needs 194 = .ok (.aload_n 0, 1) := by decide +kernel
theorem dX12_needs_195 : decode cX12_needs 195 = .ok (.iload_n 1, 1) := by decide +kernel
theorem dX12_needs_196 : decode cX12_needs 196 = .ok (.invokevirtual 456, 3) := by decide +kernel
theorem dX12_needs_199 : decode cX12_needs 199 = .ok (.lstore_n 2, 1) := by decide +kernel
theorem dX12_needs_200 : decode cX12_needs 200 = .ok (.aload_n 0, 1) := by decide +kernel
theorem dX12_needs_201 : decode cX12_needs 201 = .ok (.lconst 0, 1) := by decide +kernel
theorem dX12_needs_202 : decode cX12_needs 202 = .ok (.putfield 460, 3) := by decide +kernel
theorem dX12_needs_205 : decode cX12_needs 205 = .ok (.iconst 0, 1) := by decide +kernel
theorem dX12_needs_206 : decode cX12_needs 206 = .ok (.istore 4, 2) := by decide +kernel
theorem dX12_needs_208 : decode cX12_needs 208 = .ok (.iload 4, 2) := by decide +kernel
theorem dX12_needs_210 : decode cX12_needs 210 = .ok (.aload_n 0, 1) := by decide +kernel
theorem dX12_needs_211 : decode cX12_needs 211 = .ok (.invokevirtual 352, 3) := by decide +kernel
theorem dX12_needs_214 : decode cX12_needs 214 = .ok (.if_icmp .ge 54, 3) := by decide +kernel
theorem dX12_needs_217 : decode cX12_needs 217 = .ok (.aload_n 0, 1) := by decide +kernel
theorem dX12_needs_218 : decode cX12_needs 218 = .ok (.dup, 1) := by decide +kernel
theorem dX12_needs_219 : decode cX12_needs 219 = .ok (.getfield 460, 3) := by decide +kernel
theorem dX12_needs_222 : decode cX12_needs 222 = .ok (.lload_n 2, 1) := by decide +kernel
theorem dX12_needs_223 : decode cX12_needs 223 = .ok (.iload 4, 2) := by decide +kernel
theorem dX12_needs_225 : decode cX12_needs 225 = .ok (.invokestatic 449, 3) := by decide +kernel
theorem dX12_needs_228 : decode cX12_needs 228 = .ok (.ifCond .eq 29, 3) := by decide +kernel
theorem dX12_needs_231 : decode cX12_needs 231 = .ok (.aload_n 0, 1) := by decide +kernel
theorem dX12_needs_232 : decode cX12_needs 232 = .ok (.aload_n 0, 1) := by decide +kernel
theorem dX12_needs_233 : decode cX12_needs 233 = .ok (.getfield 187, 3) := by decide +kernel
theorem dX12_needs_236 : decode cX12_needs 236 = .ok (.iload 4, 2) := by decide +kernel
theorem dX12_needs_238 : decode cX12_needs 238 = .ok (.iaload, 1) := by decide +kernel
theorem dX12_needs_239 : decode cX12_needs 239 = .ok (.invokevirtual 453, 3) := by decide +kernel
theorem dX12_needs_242 : decode cX12_needs 242 = .ok (.ifCond .ne 15, 3) := by decide +kernel
theorem dX12_needs_245 : decode cX12_needs 245 = .ok (.lconst 1, 1) := by decide +kernel
theorem dX12_needs_246 : decode cX12_needs 246 = .ok (.aload_n 0, 1) := by decide +kernel
theorem dX12_needs_247 : decode cX12_needs 247 = .ok (.getfield 187, 3) := by decide +kernel
theorem dX12_needs_250 : decode cX12_needs 250 = .ok (.iload 4, 2) := by decide +kernel
theorem dX12_needs_252 : decode cX12_needs 252 = .ok (.iaload, 1) := by decide +kernel
theorem dX12_needs_253 : decode cX12_needs 253 = .ok (.lshl, 1) := by decide +kernel
theorem dX12_needs_254 : decode cX12_needs 254 = .ok (.goto 4, 3) := by decide +kernel
theorem dX12_needs_257 : decode cX12_needs 257 = .ok (.lconst 0, 1) := by decide +kernel
theorem dX12_needs_258 : decode cX12_needs 258 = .ok (.lor, 1) := by decide +kernel
theorem dX12_needs_259 : decode cX12_needs 259 = .ok (.putfield 460, 3) := by decide +kernel
theorem dX12_needs_262 : decode cX12_needs 262 = .ok (.iinc 4 1, 3) := by decide +kernel
theorem dX12_needs_265 : decode cX12_needs 265 = .ok (.goto (-57), 3) := by decide +kernel
theorem dX12_needs_268 : decode cX12_needs 268 = .ok (.aload_n 0, 1) := by decide +kernel
theorem dX12_needs_269 : decode cX12_needs 269 = .ok (.aload_n 0, 1) := by decide +kernel
theorem dX12_needs_270 : decode cX12_needs 270 = .ok (.getfield 460, 3) := by decide +kernel
theorem dX12_needs_273 : decode cX12_needs 273 = .ok (.putfield 464, 3) := by decide +kernel
theorem dX12_needs_276 : decode cX12_needs 276 = .ok (.aload_n 0, 1) := by decide +kernel
theorem dX12_needs_277 : decode cX12_needs 277 = .ok (.invokevirtual 352, 3) := by decide +kernel
theorem dX12_needs_280 : decode cX12_needs 280 = .ok (.iconst 1, 1) := by decide +kernel
theorem dX12_needs_281 : decode cX12_needs 281 = .ok (.isub, 1) := by decide +kernel
theorem dX12_needs_282 : decode cX12_needs 282 = .ok (.istore 4, 2) := by decide +kernel
theorem dX12_needs_284 : decode cX12_needs 284 = .ok (.iload 4, 2) := by decide +kernel
theorem dX12_needs_286 : decode cX12_needs 286 = .ok (.ifCond .lt 174, 3) := by decide +kernel
theorem dX12_needs_289 : decode cX12_needs 289 = .ok (.aload_n 0, 1) := by decide +kernel
theorem dX12_needs_290 : decode cX12_needs 290 = .ok (.getfield 196, 3) := by decide +kernel
theorem dX12_needs_293 : decode cX12_needs 293 = .ok (.iload 4, 2) := by decide +kernel
theorem dX12_needs_295 : decode cX12_needs 295 = .ok (.iconst 0, 1) := by decide +kernel
theorem dX12_needs_296 : decode cX12_needs 296 = .ok (.iastore, 1) := by decide +kernel
theorem dX12_needs_297 : decode cX12_needs 297 = .ok (.aload_n 0, 1) := by decide +kernel
theorem dX12_needs_298 : decode cX12_needs 298 = .ok (.dup, 1) := by decide +kernel
theorem dX12_needs_299 : decode cX12_needs 299 = .ok (.getfield 464, 3) := by decide +kernel
theorem dX12_needs_302 : decode cX12_needs 302 = .ok (.aload_n 0, 1) := by decide +kernel
theorem dX12_needs_303 : decode cX12_needs 303 = .ok (.getfield 464, 3) := by decide +kernel
theorem dX12_needs_306 : decode cX12_needs 306 = .ok (.iload 4, 2) := by decide +kernel
theorem dX12_needs_308 : decode cX12_needs 308 = .ok (.invokestatic 449, 3) := by decide +kernel
theorem dX12_needs_311 : decode cX12_needs 311 = .ok (.ifCond .eq 13, 3) := by decide +kernel
theorem dX12_needs_314 : decode cX12_needs 314 = .ok (.aload_n 0, 1) := by decide +kernel
theorem dX12_needs_315 : decode cX12_needs 315 = .ok (.getfield 190, 3) := by decide +kernel
theorem dX12_needs_318 : decode cX12_needs 318 = .ok (.iload 4, 2) := by decide +kernel
theorem dX12_needs_320 : decode cX12_needs 320 = .ok (.laload, 1) := by decide +kernel
theorem dX12_needs_321 : decode cX12_needs 321 = .ok (.goto 4, 3) := by decide +kernel
theorem dX12_needs_324 : decode cX12_needs 324 = .ok (.lconst 0, 1) := by decide +kernel
theorem dX12_needs_325 : decode cX12_needs 325 = .ok (.lor, 1) := by decide +kernel
theorem dX12_needs_326 : decode cX12_needs 326 = .ok (.putfield 464, 3) := by decide +kernel
theorem dX12_needs_329 : decode cX12_needs 329 = .ok (.iload 4, 2) := by decide +kernel
theorem dX12_needs_331 : decode cX12_needs 331 = .ok (.iconst 1, 1) := by decide +kernel
theorem dX12_needs_332 : decode cX12_needs 332 = .ok (.iadd, 1) := by decide +kernel
theorem dX12_needs_333 : decode cX12_needs 333 = .ok (.istore 5, 2) := by decide +kernel
theorem dX12_needs_335 : decode cX12_needs 335 = .ok (.iload 5, 2) := by decide +kernel
theorem dX12_needs_337 : decode cX12_needs 337 = .ok (.aload_n 0, 1) := by decide +kernel
theorem dX12_needs_338 : decode cX12_needs 338 = .ok (.invokevirtual 352, 3) := by decide +kernel
theorem dX12_needs_341 : decode cX12_needs 341 = .ok (.if_icmp .ge 86, 3) := by decide +kernel
theorem dX12_needs_344 : decode cX12_needs 344 = .ok (.aload_n 0, 1) := by decide +kernel
theorem dX12_needs_345 : decode cX12_needs 345 = .ok (.getfield 464, 3) := by decide +kernel
theorem dX12_needs_348 : decode cX12_needs 348 = .ok (.iload 4, 2) := by decide +kernel
theorem dX12_needs_350 : decode cX12_needs 350 = .ok (.invokestatic 449, 3) := by decide +kernel
theorem dX12_needs_353 : decode cX12_needs 353 = .ok (.ifCond .eq 74, 3) := by decide +kernel
theorem dX12_needs_356 : decode cX12_needs 356 = .ok (.aload_n 0, 1) := by decide +kernel
theorem dX12_needs_357 : decode cX12_needs 357 = .ok (.getfield 464, 3) := by decide +kernel
theorem dX12_needs_360 : decode cX12_needs 360 = .ok (.iload 5, 2) := by decide +kernel
theorem dX12_needs_362 : decode cX12_needs 362 = .ok (.invokestatic 449, 3) := by decide +kernel
theorem dX12_needs_365 : decode cX12_needs 365 = .ok (.ifCond .eq 56, 3) := by decide +kernel
theorem dX12_needs_368 : decode cX12_needs 368 = .ok (.aload_n 0, 1) := by decide +kernel
theorem dX12_needs_369 : decode cX12_needs 369 = .ok (.getfield 190, 3) := by decide +kernel
theorem dX12_needs_372 : decode cX12_needs 372 = .ok (.iload 5, 2) := by decide +kernel
theorem dX12_needs_374 : decode cX12_needs 374 = .ok (.laload, 1) := by decide +kernel
theorem dX12_needs_375 : decode cX12_needs 375 = .ok (.iload 4, 2) := by decide +kernel
theorem dX12_needs_377 : decode cX12_needs 377 = .ok (.invokestatic 449, 3) := by decide +kernel
theorem dX12_needs_380 : decode cX12_needs 380 = .ok (.ifCond .eq 41, 3) := by decide +kernel
theorem dX12_needs_383 : decode cX12_needs 383 = .ok (.aload_n 0, 1) := by decide +kernel
theorem dX12_needs_384 : decode cX12_needs 384 = .ok (.getfield 193, 3) := by decide +kernel
theorem dX12_needs_387 : decode cX12_needs 387 = .ok (.iload 4, 2) := by decide +kernel
theorem dX12_needs_389 : decode cX12_needs 389 = .ok (.dup2, 1) := by decide +kernel
theorem dX12_needs_390 : decode cX12_needs 390 = .ok (.laload, 1) := by decide +kernel
theorem dX12_needs_391 : decode cX12_needs 391 = .ok (.lconst 1, 1) := by decide +kernel
theorem dX12_needs_392 : decode cX12_needs 392 = .ok (.iload 5, 2) := by decide +kernel
theorem dX12_needs_394 : decode cX12_needs 394 = .ok (.lshl, 1) := by decide +kernel
theorem dX12_needs_395 : decode cX12_needs 395 = .ok (.lor, 1) := by decide +kernel
theorem dX12_needs_396 : decode cX12_needs 396 = .ok (.lastore, 1) := by decide +kernel
theorem dX12_needs_397 : decode cX12_needs 397 = .ok (.aload_n 0, 1) := by decide +kernel
theorem dX12_needs_398 : decode cX12_needs 398 = .ok (.getfield 196, 3) := by decide +kernel
theorem dX12_needs_401 : decode cX12_needs 401 = .ok (.iload 4, 2) := by decide +kernel
theorem dX12_needs_403 : decode cX12_needs 403 = .ok (.aload_n 0, 1) := by decide +kernel
theorem dX12_needs_404 : decode cX12_needs 404 = .ok (.getfield 196, 3) := by decide +kernel
theorem dX12_needs_407 : decode cX12_needs 407 = .ok (.iload 4, 2) := by decide +kernel
theorem dX12_needs_409 : decode cX12_needs 409 = .ok (.iaload, 1) := by decide +kernel
theorem dX12_needs_410 : decode cX12_needs 410 = .ok (.aload_n 0, 1) := by decide +kernel
theorem dX12_needs_411 : decode cX12_needs 411 = .ok (.getfield 196, 3) := by decide +kernel
theorem dX12_needs_414 : decode cX12_needs 414 = .ok (.iload 5, 2) := by decide +kernel
theorem dX12_needs_416 : decode cX12_needs 416 = .ok (.iaload, 1) := by decide +kernel
theorem dX12_needs_417 : decode cX12_needs 417 = .ok (.invokestatic 385, 3) := by decide +kernel
theorem dX12_needs_420 : decode cX12_needs 420 = .ok (.iastore, 1) := by decide +kernel
theorem dX12_needs_421 : decode cX12_needs 421 = .ok (.iinc 5 1, 3) := by decide +kernel
theorem dX12_needs_424 : decode cX12_needs 424 = .ok (.goto (-89), 3) := by decide +kernel
theorem dX12_needs_427 : decode cX12_needs 427 = .ok (.aload_n 0, 1) := by decide +kernel
theorem dX12_needs_428 : decode cX12_needs 428 = .ok (.getfield 196, 3) := by decide +kernel
theorem dX12_needs_431 : decode cX12_needs 431 = .ok (.iload 4, 2) := by decide +kernel
theorem dX12_needs_433 : decode cX12_needs 433 = .ok (.dup2, 1) := by decide +kernel
theorem dX12_needs_434 : decode cX12_needs 434 = .ok (.iaload, 1) := by decide +kernel
theorem dX12_needs_435 : decode cX12_needs 435 = .ok (.aload_n 0, 1) := by decide +kernel
theorem dX12_needs_436 : decode cX12_needs 436 = .ok (.getfield 464, 3) := by decide +kernel
theorem dX12_needs_439 : decode cX12_needs 439 = .ok (.iload 4, 2) := by decide +kernel
theorem dX12_needs_441 : decode cX12_needs 441 = .ok (.invokestatic 449, 3) := by decide +kernel
theorem dX12_needs_444 : decode cX12_needs 444 = .ok (.ifCond .eq 7, 3) := by decide +kernel
theorem dX12_needs_447 : decode cX12_needs 447 = .ok (.iconst 1, 1) := by decide +kernel
theorem dX12_needs_448 : decode cX12_needs 448 = .ok (.goto 4, 3) := by decide +kernel
theorem dX12_needs_451 : decode cX12_needs 451 = .ok (.iconst 0, 1) := by decide +kernel
theorem dX12_needs_452 : decode cX12_needs 452 = .ok (.iadd, 1) := by decide +kernel
theorem dX12_needs_453 : decode cX12_needs 453 = .ok (.iastore, 1) := by decide +kernel
theorem dX12_needs_454 : decode cX12_needs 454 = .ok (.iinc 4 (-1), 3) := by decide +kernel
theorem dX12_needs_457 : decode cX12_needs 457 = .ok (.goto (-173), 3) := by decide +kernel
theorem dX12_needs_460 : decode cX12_needs 460 = .ok (.return_, 1) := by decide +kernel
theorem dX12_all0_0 : decode cX12_all0 0 = .ok (.aload_n 0, 1) := by decide +kernel
theorem dX12_all0_1 : decode cX12_all0 1 = .ok (.iconst (-1), 1) := by decide +kernel
theorem dX12_all0_2 : decode cX12_all0 2 = .ok (.iconst 0, 1) := by decide +kernel
theorem dX12_all0_3 : decode cX12_all0 3 = .ok (.iconst 0, 1) := by decide +kernel
theorem dX12_all0_4 : decode cX12_all0 4 = .ok (.invokevirtual 428, 3) := by decide +kernel
theorem dX12_all0_7 : decode cX12_all0 7 = .ok (.aload_n 0, 1) := by decide +kernel
theorem dX12_all0_8 : decode cX12_all0 8 = .ok (.iconst (-1), 1) := by decide +kernel
theorem dX12_all0_9 : decode cX12_all0 9 = .ok (.invokevirtual 467, 3) := by decide +kernel
theorem dX12_all0_12 : decode cX12_all0 12 = .ok (.return_, 1) := by decide +kernel
theorem dX12_farKin_0 : decode cX12_farKin 0 = .ok (.iload_n 2, 1) := by decide +kernel
theorem dX12_farKin_1 : decode cX12_farKin 1 = .ok (.ifCond .eq 12, 3) := by decide +kernel
theorem dX12_farKin_4 : decode cX12_farKin 4 = .ok (.aload_n 0, 1) := by decide +kernel
theorem dX12_farKin_5 : decode cX12_farKin 5 = .ok (.getfield 193, 3) := by decide +kernel
theorem dX12_farKin_8 : decode cX12_farKin 8 = .ok (.iload_n 1, 1) := by decide +kernel
theorem dX12_farKin_9 : decode cX12_farKin 9 = .ok (.laload, 1) := by decide +kernel
theorem dX12_farKin_10 : decode cX12_farKin 10 = .ok (.goto 9, 3) := by decide +kernel
theorem dX12_farKin_13 : decode cX12_farKin 13 = .ok (.aload_n 0, 1) := by decide +kernel
theorem dX12_farKin_14 : decode cX12_farKin 14 = .ok (.getfield 190, 3) := by decide +kernel
theorem dX12_farKin_17 : decode cX12_farKin 17 = .ok (.iload_n 1, 1) := by decide +kernel
theorem dX12_farKin_18 : decode cX12_farKin 18 = .ok (.laload, 1) := by decide +kernel
theorem dX12_farKin_19 : decode cX12_farKin 19 = .ok (.lstore_n 3, 1) := by decide +kernel
theorem dX12_farKin_20 : decode cX12_farKin 20 = .ok (.iconst 0, 1) := by decide +kernel
theorem dX12_farKin_21 : decode cX12_farKin 21 = .ok (.istore 5, 2) := by decide +kernel
theorem dX12_farKin_23 : decode cX12_farKin 23 = .ok (.iload 5, 2) := by decide +kernel
theorem dX12_farKin_25 : decode cX12_farKin 25 = .ok (.bipush 64, 2) := by decide +kernel
theorem dX12_farKin_27 : decode cX12_farKin 27 = .ok (.if_icmp .ge 62, 3) := by decide +kernel
theorem dX12_farKin_30 : decode cX12_farKin 30 = .ok (.iload_n 2, 1) := by decide +kernel
theorem dX12_farKin_31 : decode cX12_farKin 31 = .ok (.ifCond .eq 8, 3) := by decide +kernel
theorem dX12_farKin_34 : decode cX12_farKin 34 = .ok (.iload 5, 2) := by decide +kernel
theorem dX12_farKin_36 : decode cX12_farKin 36 = .ok (.goto 8, 3) := by decide +kernel
theorem dX12_farKin_39 : decode cX12_farKin 39 = .ok (.bipush 63, 2) := by decide +kernel
theorem dX12_farKin_41 : decode cX12_farKin 41 = .ok (.iload 5, 2) := by decide +kernel
theorem dX12_farKin_43 : decode cX12_farKin 43 = .ok (.isub, 1) := by decide +kernel
theorem dX12_farKin_44 : decode cX12_farKin 44 = .ok (.istore 6, 2) := by decide +kernel
theorem dX12_farKin_46 : decode cX12_farKin 46 = .ok (.lload_n 3, 1) := by decide +kernel
theorem dX12_farKin_47 : decode cX12_farKin 47 = .ok (.lload_n 3, 1) := by decide +kernel
theorem dX12_farKin_48 : decode cX12_farKin 48 = .ok (.iload 6, 2) := by decide +kernel
theorem dX12_farKin_50 : decode cX12_farKin 50 = .ok (.invokestatic 449, 3) := by decide +kernel
theorem dX12_farKin_53 : decode cX12_farKin 53 = .ok (.ifCond .eq 27, 3) := by decide +kernel
theorem dX12_farKin_56 : decode cX12_farKin 56 = .ok (.iload_n 2, 1) := by decide +kernel
theorem dX12_farKin_57 : decode cX12_farKin 57 = .ok (.ifCond .eq 13, 3) := by decide +kernel
theorem dX12_farKin_60 : decode cX12_farKin 60 = .ok (.aload_n 0, 1) := by decide +kernel
theorem dX12_farKin_61 : decode cX12_farKin 61 = .ok (.getfield 193, 3) := by decide +kernel
theorem dX12_farKin_64 : decode cX12_farKin 64 = .ok (.iload 6, 2) := by decide +kernel
theorem dX12_farKin_66 : decode cX12_farKin 66 = .ok (.laload, 1) := by decide +kernel
theorem dX12_farKin_67 : decode cX12_farKin 67 = .ok (.goto 14, 3) := by decide +kernel
theorem dX12_farKin_70 : decode cX12_farKin 70 = .ok (.aload_n 0, 1) := by decide +kernel
theorem dX12_farKin_71 : decode cX12_farKin 71 = .ok (.getfield 190, 3) := by decide +kernel
theorem dX12_farKin_74 : decode cX12_farKin 74 = .ok (.iload 6, 2) := by decide +kernel
theorem dX12_farKin_76 : decode cX12_farKin 76 = .ok (.laload, 1) := by decide +kernel
theorem dX12_farKin_77 : decode cX12_farKin 77 = .ok (.goto 4, 3) := by decide +kernel
theorem dX12_farKin_80 : decode cX12_farKin 80 = .ok (.lconst 0, 1) := by decide +kernel
theorem dX12_farKin_81 : decode cX12_farKin 81 = .ok (.lor, 1) := by decide +kernel
theorem dX12_farKin_82 : decode cX12_farKin 82 = .ok (.lstore_n 3, 1) := by decide +kernel
theorem dX12_farKin_83 : decode cX12_farKin 83 = .ok (.iinc 5 1, 3) := by decide +kernel
theorem dX12_farKin_86 : decode cX12_farKin 86 = .ok (.goto (-63), 3) := by decide +kernel
theorem dX12_farKin_89 : decode cX12_farKin 89 = .ok (.lload_n 3, 1) := by decide +kernel
theorem dX12_farKin_90 : decode cX12_farKin 90 = .ok (.lreturn, 1) := by decide +kernel
theorem dX12_isNeeded_0 : decode cX12_isNeeded 0 = .ok (.aload_n 0, 1) := by decide +kernel
theorem dX12_isNeeded_1 : decode cX12_isNeeded 1 = .ok (.iload_n 1, 1) := by decide +kernel
theorem dX12_isNeeded_2 : decode cX12_isNeeded 2 = .ok (.invokevirtual 422, 3) := by decide +kernel
theorem dX12_isNeeded_5 : decode cX12_isNeeded 5 = .ok (.ifCond .eq 18, 3) := by decide +kernel
theorem dX12_isNeeded_8 : decode cX12_isNeeded 8 = .ok (.aload_n 0, 1) := by decide +kernel
theorem dX12_isNeeded_9 : decode cX12_isNeeded 9 = .ok (.getfield 464, 3) := by decide +kernel
theorem dX12_isNeeded_12 : decode cX12_isNeeded 12 = .ok (.iload_n 1, 1) := by decide +kernel
theorem dX12_isNeeded_13 : decode cX12_isNeeded 13 = .ok (.invokestatic 449, 3) := by decide +kernel
theorem dX12_isNeeded_16 : decode cX12_isNeeded 16 = .ok (.ifCond .eq 7, 3) := by decide +kernel
theorem dX12_isNeeded_19 : decode cX12_isNeeded 19 = .ok (.iconst 1, 1) := by decide +kernel
theorem dX12_isNeeded_20 : decode cX12_isNeeded 20 = .ok (.goto 4, 3) := by decide +kernel
theorem dX12_isNeeded_23 : decode cX12_isNeeded 23 = .ok (.iconst 0, 1) := by decide +kernel
theorem dX12_isNeeded_24 : decode cX12_isNeeded 24 = .ok (.ireturn, 1) := by decide +kernel
theorem dX12_value_0 : decode cX12_value 0 = .ok (.aload_n 0, 1) := by decide +kernel
theorem dX12_value_1 : decode cX12_value 1 = .ok (.iconst 0, 1) := by decide +kernel
theorem dX12_value_2 : decode cX12_value 2 = .ok (.putfield 1, 3) := by decide +kernel
theorem dX12_value_5 : decode cX12_value 5 = .ok (.aload_n 0, 1) := by decide +kernel
theorem dX12_value_6 : decode cX12_value 6 = .ok (.iload_n 1, 1) := by decide +kernel
theorem dX12_value_7 : decode cX12_value 7 = .ok (.invokevirtual 422, 3) := by decide +kernel
theorem dX12_value_10 : decode cX12_value 10 = .ok (.ifCond .ne 6, 3) := by decide +kernel
theorem dX12_value_13 : decode cX12_value 13 = .ok (.bipush (-2), 2) := by decide +kernel
theorem dX12_value_15 : decode cX12_value 15 = .ok (.ireturn, 1) := by decide +kernel
theorem dX12_value_16 : decode cX12_value 16 = .ok (.aload_n 0, 1) := by decide +kernel
theorem dX12_value_17 : decode cX12_value 17 = .ok (.invokevirtual 470, 3) := by decide +kernel
theorem dX12_value_20 : decode cX12_value 20 = .ok (.iload_n 2, 1) := by decide +kernel
theorem dX12_value_21 : decode cX12_value 21 = .ok (.tableswitch 155 0 10 #[59, 65, 65, 65, 74, 89, 104, 118, 135, 142, 149], 59) := by decide +kernel
theorem dX12_value_80 : decode cX12_value 80 = .ok (.aload_n 0, 1) := by decide +kernel
theorem dX12_value_81 : decode cX12_value 81 = .ok (.iload_n 1, 1) := by decide +kernel
theorem dX12_value_82 : decode cX12_value 82 = .ok (.invokevirtual 391, 3) := by decide +kernel
theorem dX12_value_85 : decode cX12_value 85 = .ok (.ireturn, 1) := by decide +kernel
theorem dX12_value_86 : decode cX12_value 86 = .ok (.aload_n 0, 1) := by decide +kernel
theorem dX12_value_87 : decode cX12_value 87 = .ok (.iload_n 1, 1) := by decide +kernel
theorem dX12_value_88 : decode cX12_value 88 = .ok (.iload_n 2, 1) := by decide +kernel
theorem dX12_value_89 : decode cX12_value 89 = .ok (.iconst 1, 1) := by decide +kernel
theorem dX12_value_90 : decode cX12_value 90 = .ok (.isub, 1) := by decide +kernel
theorem dX12_value_91 : decode cX12_value 91 = .ok (.invokevirtual 388, 3) := by decide +kernel
theorem dX12_value_94 : decode cX12_value 94 = .ok (.ireturn, 1) := by decide +kernel
theorem dX12_value_95 : decode cX12_value 95 = .ok (.aload_n 0, 1) := by decide +kernel
theorem dX12_value_96 : decode cX12_value 96 = .ok (.getfield 177, 3) := by decide +kernel
theorem dX12_value_99 : decode cX12_value 99 = .ok (.iload_n 1, 1) := by decide +kernel
theorem dX12_value_100 : decode cX12_value 100 = .ok (.baload, 1) := by decide +kernel
theorem dX12_value_101 : decode cX12_value 101 = .ok (.ifCond .eq 7, 3) := by decide +kernel
theorem dX12_value_104 : decode cX12_value 104 = .ok (.iconst 1, 1) := by decide +kernel
theorem dX12_value_105 : decode cX12_value 105 = .ok (.goto 4, 3) := by decide +kernel
theorem dX12_value_108 : decode cX12_value 108 = .ok (.iconst 0, 1) := by decide +kernel
theorem dX12_value_109 : decode cX12_value 109 = .ok (.ireturn, 1) := by decide +kernel
theorem dX12_value_110 : decode cX12_value 110 = .ok (.aload_n 0, 1) := by decide +kernel
theorem dX12_value_111 : decode cX12_value 111 = .ok (.getfield 181, 3) := by decide +kernel
theorem dX12_value_114 : decode cX12_value 114 = .ok (.iload_n 1, 1) := by decide +kernel
theorem dX12_value_115 : decode cX12_value 115 = .ok (.baload, 1) := by decide +kernel
theorem dX12_value_116 : decode cX12_value 116 = .ok (.ifCond .eq 7, 3) := by decide +kernel
theorem dX12_value_119 : decode cX12_value 119 = .ok (.iconst 1, 1) := by decide +kernel
theorem dX12_value_120 : decode cX12_value 120 = .ok (.goto 4, 3) := by decide +kernel
theorem dX12_value_123 : decode cX12_value 123 = .ok (.iconst 0, 1) := by decide +kernel
theorem dX12_value_124 : decode cX12_value 124 = .ok (.ireturn, 1) := by decide +kernel
theorem dX12_value_125 : decode cX12_value 125 = .ok (.aload_n 0, 1) := by decide +kernel
theorem dX12_value_126 : decode cX12_value 126 = .ok (.iload_n 1, 1) := by decide +kernel
theorem dX12_value_127 : decode cX12_value 127 = .ok (.invokevirtual 453, 3) := by decide +kernel
theorem dX12_value_130 : decode cX12_value 130 = .ok (.ifCond .eq 7, 3) := by decide +kernel
theorem dX12_value_133 : decode cX12_value 133 = .ok (.iconst 1, 1) := by decide +kernel
theorem dX12_value_134 : decode cX12_value 134 = .ok (.goto 4, 3) := by decide +kernel
theorem dX12_value_137 : decode cX12_value 137 = .ok (.iconst 0, 1) := by decide +kernel
theorem dX12_value_138 : decode cX12_value 138 = .ok (.ireturn, 1) := by decide +kernel
theorem dX12_value_139 : decode cX12_value 139 = .ok (.aload_n 0, 1) := by decide +kernel
theorem dX12_value_140 : decode cX12_value 140 = .ok (.getfield 464, 3) := by decide +kernel
theorem dX12_value_143 : decode cX12_value 143 = .ok (.iload_n 1, 1) := by decide +kernel
theorem dX12_value_144 : decode cX12_value 144 = .ok (.invokestatic 449, 3) := by decide +kernel
theorem dX12_value_147 : decode cX12_value 147 = .ok (.ifCond .eq 7, 3) := by decide +kernel
theorem dX12_value_150 : decode cX12_value 150 = .ok (.iconst 1, 1) := by decide +kernel
theorem dX12_value_151 : decode cX12_value 151 = .ok (.goto 4, 3) := by decide +kernel
theorem dX12_value_154 : decode cX12_value 154 = .ok (.iconst 0, 1) := by decide +kernel
theorem dX12_value_155 : decode cX12_value 155 = .ok (.ireturn, 1) := by decide +kernel
theorem dX12_value_156 : decode cX12_value 156 = .ok (.aload_n 0, 1) := by decide +kernel
theorem dX12_value_157 : decode cX12_value 157 = .ok (.getfield 187, 3) := by decide +kernel
theorem dX12_value_160 : decode cX12_value 160 = .ok (.iload_n 1, 1) := by decide +kernel
theorem dX12_value_161 : decode cX12_value 161 = .ok (.iaload, 1) := by decide +kernel
theorem dX12_value_162 : decode cX12_value 162 = .ok (.ireturn, 1) := by decide +kernel
theorem dX12_value_163 : decode cX12_value 163 = .ok (.aload_n 0, 1) := by decide +kernel
theorem dX12_value_164 : decode cX12_value 164 = .ok (.getfield 196, 3) := by decide +kernel
theorem dX12_value_167 : decode cX12_value 167 = .ok (.iload_n 1, 1) := by decide +kernel
theorem dX12_value_168 : decode cX12_value 168 = .ok (.iaload, 1) := by decide +kernel
theorem dX12_value_169 : decode cX12_value 169 = .ok (.ireturn, 1) := by decide +kernel
theorem dX12_value_170 : decode cX12_value 170 = .ok (.aload_n 0, 1) := by decide +kernel
theorem dX12_value_171 : decode cX12_value 171 = .ok (.iload_n 1, 1) := by decide +kernel
theorem dX12_value_172 : decode cX12_value 172 = .ok (.invokevirtual 473, 3) := by decide +kernel
theorem dX12_value_175 : decode cX12_value 175 = .ok (.ireturn, 1) := by decide +kernel
theorem dX12_value_176 : decode cX12_value 176 = .ok (.bipush (-2), 2) := by decide +kernel
theorem dX12_value_178 : decode cX12_value 178 = .ok (.ireturn, 1) := by decide +kernel
theorem dX12_all_0 : decode cX12_all 0 = .ok (.aload_n 0, 1) := by decide +kernel
theorem dX12_all_1 : decode cX12_all 1 = .ok (.iconst 0, 1) := by decide +kernel
theorem dX12_all_2 : decode cX12_all 2 = .ok (.putfield 1, 3) := by decide +kernel
theorem dX12_all_5 : decode cX12_all 5 = .ok (.aload_n 0, 1) := by decide +kernel
theorem dX12_all_6 : decode cX12_all 6 = .ok (.invokevirtual 470, 3) := by decide +kernel
theorem dX12_all_9 : decode cX12_all 9 = .ok (.lconst 0, 1) := by decide +kernel
theorem dX12_all_10 : decode cX12_all 10 = .ok (.lstore_n 2, 1) := by decide +kernel
theorem dX12_all_11 : decode cX12_all 11 = .ok (.iconst 0, 1) := by decide +kernel
theorem dX12_all_12 : decode cX12_all 12 = .ok (.istore 4, 2) := by decide +kernel
theorem dX12_all_14 : decode cX12_all 14 = .ok (.iload 4, 2) := by decide +kernel
theorem dX12_all_16 : decode cX12_all 16 = .ok (.aload_n 0, 1) := by decide +kernel
theorem dX12_all_17 : decode cX12_all 17 = .ok (.invokevirtual 352, 3) := by decide +kernel
theorem dX12_all_20 : decode cX12_all 20 = .ok (.if_icmp .ge 107, 3) := by decide +kernel
theorem dX12_all_23 : decode cX12_all 23 = .ok (.iload_n 1, 1) := by decide +kernel
theorem dX12_all_24 : decode cX12_all 24 = .ok (.iconst 1, 1) := by decide +kernel
theorem dX12_all_25 : decode cX12_all 25 = .ok (.if_icmp .ne 13, 3) := by decide +kernel
theorem dX12_all_28 : decode cX12_all 28 = .ok (.aload_n 0, 1) := by decide +kernel
theorem dX12_all_29 : decode cX12_all 29 = .ok (.getfield 181, 3) := by decide +kernel
theorem dX12_all_32 : decode cX12_all 32 = .ok (.iload 4, 2) := by decide +kernel
theorem dX12_all_34 : decode cX12_all 34 = .ok (.baload, 1) := by decide +kernel
theorem dX12_all_35 : decode cX12_all 35 = .ok (.goto 68, 3) := by decide +kernel
theorem dX12_all_38 : decode cX12_all 38 = .ok (.iload_n 1, 1) := by decide +kernel
theorem dX12_all_39 : decode cX12_all 39 = .ok (.iconst 2, 1) := by decide +kernel
theorem dX12_all_40 : decode cX12_all 40 = .ok (.if_icmp .ne 12, 3) := by decide +kernel
theorem dX12_all_43 : decode cX12_all 43 = .ok (.aload_n 0, 1) := by decide +kernel
theorem dX12_all_44 : decode cX12_all 44 = .ok (.iload 4, 2) := by decide +kernel
theorem dX12_all_46 : decode cX12_all 46 = .ok (.invokevirtual 453, 3) := by decide +kernel
theorem dX12_all_49 : decode cX12_all 49 = .ok (.goto 54, 3) := by decide +kernel
theorem dX12_all_52 : decode cX12_all 52 = .ok (.iload_n 1, 1) := by decide +kernel
theorem dX12_all_53 : decode cX12_all 53 = .ok (.iconst 3, 1) := by decide +kernel
theorem dX12_all_54 : decode cX12_all 54 = .ok (.if_icmp .ne 12, 3) := by decide +kernel
theorem dX12_all_57 : decode cX12_all 57 = .ok (.aload_n 0, 1) := by decide +kernel
theorem dX12_all_58 : decode cX12_all 58 = .ok (.iload 4, 2) := by decide +kernel
theorem dX12_all_60 : decode cX12_all 60 = .ok (.invokevirtual 419, 3) := by decide +kernel
theorem dX12_all_63 : decode cX12_all 63 = .ok (.goto 40, 3) := by decide +kernel
theorem dX12_all_66 : decode cX12_all 66 = .ok (.iload_n 1, 1) := by decide +kernel
theorem dX12_all_67 : decode cX12_all 67 = .ok (.iconst 4, 1) := by decide +kernel
theorem dX12_all_68 : decode cX12_all 68 = .ok (.if_icmp .ne 13, 3) := by decide +kernel
theorem dX12_all_71 : decode cX12_all 71 = .ok (.aload_n 0, 1) := by decide +kernel
theorem dX12_all_72 : decode cX12_all 72 = .ok (.getfield 177, 3) := by decide +kernel
theorem dX12_all_75 : decode cX12_all 75 = .ok (.iload 4, 2) := by decide +kernel
theorem dX12_all_77 : decode cX12_all 77 = .ok (.baload, 1) := by decide +kernel
theorem dX12_all_78 : decode cX12_all 78 = .ok (.goto 25, 3) := by decide +kernel
theorem dX12_all_81 : decode cX12_all 81 = .ok (.iload_n 1, 1) := by decide +kernel
theorem dX12_all_82 : decode cX12_all 82 = .ok (.bipush 6, 2) := by decide +kernel
theorem dX12_all_84 : decode cX12_all 84 = .ok (.if_icmp .ne 18, 3) := by decide +kernel
theorem dX12_all_87 : decode cX12_all 87 = .ok (.aload_n 0, 1) := by decide +kernel
theorem dX12_all_88 : decode cX12_all 88 = .ok (.iload 4, 2) := by decide +kernel
theorem dX12_all_90 : decode cX12_all 90 = .ok (.invokevirtual 391, 3) := by decide +kernel
theorem dX12_all_93 : decode cX12_all 93 = .ok (.bipush 7, 2) := by decide +kernel
theorem dX12_all_95 : decode cX12_all 95 = .ok (.if_icmp .ne 7, 3) := by decide +kernel
theorem dX12_all_98 : decode cX12_all 98 = .ok (.iconst 1, 1) := by decide +kernel
theorem dX12_all_99 : decode cX12_all 99 = .ok (.goto 4, 3) := by decide +kernel
theorem dX12_all_102 : decode cX12_all 102 = .ok (.iconst 0, 1) := by decide +kernel
theorem dX12_all_103 : decode cX12_all 103 = .ok (.istore 5, 2) := by decide +kernel
theorem dX12_all_105 : decode cX12_all 105 = .ok (.lload_n 2, 1) := by decide +kernel
theorem dX12_all_106 : decode cX12_all 106 = .ok (.iload 5, 2) := by decide +kernel
theorem dX12_all_108 : decode cX12_all 108 = .ok (.ifCond .eq 10, 3) := by decide +kernel
theorem dX12_all_111 : decode cX12_all 111 = .ok (.lconst 1, 1) := by decide +kernel
theorem dX12_all_112 : decode cX12_all 112 = .ok (.iload 4, 2) := by decide +kernel
theorem dX12_all_114 : decode cX12_all 114 = .ok (.lshl, 1) := by decide +kernel
theorem dX12_all_115 : decode cX12_all 115 = .ok (.goto 4, 3) := by decide +kernel
theorem dX12_all_118 : decode cX12_all 118 = .ok (.lconst 0, 1) := by decide +kernel
theorem dX12_all_119 : decode cX12_all 119 = .ok (.lor, 1) := by decide +kernel
theorem dX12_all_120 : decode cX12_all 120 = .ok (.lstore_n 2, 1) := by decide +kernel
theorem dX12_all_121 : decode cX12_all 121 = .ok (.iinc 4 1, 3) := by decide +kernel
theorem dX12_all_124 : decode cX12_all 124 = .ok (.goto (-110), 3) := by decide +kernel
theorem dX12_all_127 : decode cX12_all 127 = .ok (.iload_n 1, 1) := by decide +kernel
theorem dX12_all_128 : decode cX12_all 128 = .ok (.ifCond .ne 10, 3) := by decide +kernel
theorem dX12_all_131 : decode cX12_all 131 = .ok (.aload_n 0, 1) := by decide +kernel
theorem dX12_all_132 : decode cX12_all 132 = .ok (.getfield 464, 3) := by decide +kernel
theorem dX12_all_135 : decode cX12_all 135 = .ok (.goto 17, 3) := by decide +kernel
theorem dX12_all_138 : decode cX12_all 138 = .ok (.iload_n 1, 1) := by decide +kernel
theorem dX12_all_139 : decode cX12_all 139 = .ok (.iconst 5, 1) := by decide +kernel
theorem dX12_all_140 : decode cX12_all 140 = .ok (.if_icmp .ne 11, 3) := by decide +kernel
theorem dX12_all_143 : decode cX12_all 143 = .ok (.aload_n 0, 1) := by decide +kernel
theorem dX12_all_144 : decode cX12_all 144 = .ok (.iconst (-1), 1) := by decide +kernel
theorem dX12_all_145 : decode cX12_all 145 = .ok (.invokevirtual 456, 3) := by decide +kernel
theorem dX12_all_148 : decode cX12_all 148 = .ok (.goto 4, 3) := by decide +kernel
theorem dX12_all_151 : decode cX12_all 151 = .ok (.lload_n 2, 1) := by decide +kernel
theorem dX12_all_152 : decode cX12_all 152 = .ok (.lreturn, 1) := by decide +kernel
theorem dX12_kin_0 : decode cX12_kin 0 = .ok (.aload_n 0, 1) := by decide +kernel
theorem dX12_kin_1 : decode cX12_kin 1 = .ok (.iconst 0, 1) := by decide +kernel
theorem dX12_kin_2 : decode cX12_kin 2 = .ok (.putfield 1, 3) := by decide +kernel
theorem dX12_kin_5 : decode cX12_kin 5 = .ok (.aload_n 0, 1) := by decide +kernel
theorem dX12_kin_6 : decode cX12_kin 6 = .ok (.invokevirtual 470, 3) := by decide +kernel
theorem dX12_kin_9 : decode cX12_kin 9 = .ok (.aload_n 0, 1) := by decide +kernel
theorem dX12_kin_10 : decode cX12_kin 10 = .ok (.iload_n 1, 1) := by decide +kernel
theorem dX12_kin_11 : decode cX12_kin 11 = .ok (.invokevirtual 476, 3) := by decide +kernel
theorem dX12_kin_14 : decode cX12_kin 14 = .ok (.ifCond .eq 12, 3) := by decide +kernel
theorem dX12_kin_17 : decode cX12_kin 17 = .ok (.iload_n 2, 1) := by decide +kernel
theorem dX12_kin_18 : decode cX12_kin 18 = .ok (.iconst 0, 1) := by decide +kernel
theorem dX12_kin_19 : decode cX12_kin 19 = .ok (.iconst 3, 1) := by decide +kernel
theorem dX12_kin_20 : decode cX12_kin 20 = .ok (.invokestatic 355, 3) := by decide +kernel
theorem dX12_kin_23 : decode cX12_kin 23 = .ok (.ifCond .ne 5, 3) := by decide +kernel
theorem dX12_kin_26 : decode cX12_kin 26 = .ok (.lconst 0, 1) := by decide +kernel
theorem dX12_kin_27 : decode cX12_kin 27 = .ok (.lreturn, 1) := by decide +kernel
theorem dX12_kin_28 : decode cX12_kin 28 = .ok (.iload_n 2, 1) := by decide +kernel
theorem dX12_kin_29 : decode cX12_kin 29 = .ok (.ifCond .ne 12, 3) := by decide +kernel
theorem dX12_kin_32 : decode cX12_kin 32 = .ok (.aload_n 0, 1) := by decide +kernel
theorem dX12_kin_33 : decode cX12_kin 33 = .ok (.getfield 190, 3) := by decide +kernel
theorem dX12_kin_36 : decode cX12_kin 36 = .ok (.iload_n 1, 1) := by decide +kernel
theorem dX12_kin_37 : decode cX12_kin 37 = .ok (.laload, 1) := by decide +kernel
theorem dX12_kin_38 : decode cX12_kin 38 = .ok (.goto 32, 3) := by decide +kernel
theorem dX12_kin_41 : decode cX12_kin 41 = .ok (.iload_n 2, 1) := by decide +kernel
theorem dX12_kin_42 : decode cX12_kin 42 = .ok (.iconst 1, 1) := by decide +kernel
theorem dX12_kin_43 : decode cX12_kin 43 = .ok (.if_icmp .ne 12, 3) := by decide +kernel
theorem dX12_kin_46 : decode cX12_kin 46 = .ok (.aload_n 0, 1) := by decide +kernel
theorem dX12_kin_47 : decode cX12_kin 47 = .ok (.getfield 193, 3) := by decide +kernel
theorem dX12_kin_50 : decode cX12_kin 50 = .ok (.iload_n 1, 1) := by decide +kernel
theorem dX12_kin_51 : decode cX12_kin 51 = .ok (.laload, 1) := by decide +kernel
theorem dX12_kin_52 : decode cX12_kin 52 = .ok (.goto 18, 3) := by decide +kernel
theorem dX12_kin_55 : decode cX12_kin 55 = .ok (.aload_n 0, 1) := by decide +kernel
theorem dX12_kin_56 : decode cX12_kin 56 = .ok (.iload_n 1, 1) := by decide +kernel
theorem dX12_kin_57 : decode cX12_kin 57 = .ok (.iload_n 2, 1) := by decide +kernel
theorem dX12_kin_58 : decode cX12_kin 58 = .ok (.iconst 3, 1) := by decide +kernel
theorem dX12_kin_59 : decode cX12_kin 59 = .ok (.if_icmp .ne 7, 3) := by decide +kernel
theorem dX12_kin_62 : decode cX12_kin 62 = .ok (.iconst 1, 1) := by decide +kernel
theorem dX12_kin_63 : decode cX12_kin 63 = .ok (.goto 4, 3) := by decide +kernel
theorem dX12_kin_66 : decode cX12_kin 66 = .ok (.iconst 0, 1) := by decide +kernel
theorem dX12_kin_67 : decode cX12_kin 67 = .ok (.invokevirtual 479, 3) := by decide +kernel
theorem dX12_kin_70 : decode cX12_kin 70 = .ok (.lreturn, 1) := by decide +kernel
theorem dX12_growth_0 : decode cX12_growth 0 = .ok (.aload_n 0, 1) := by decide +kernel
theorem dX12_growth_1 : decode cX12_growth 1 = .ok (.iload_n 1, 1) := by decide +kernel
theorem dX12_growth_2 : decode cX12_growth 2 = .ok (.invokevirtual 473, 3) := by decide +kernel
theorem dX12_growth_5 : decode cX12_growth 5 = .ok (.istore 4, 2) := by decide +kernel
theorem dX12_growth_7 : decode cX12_growth 7 = .ok (.iconst 0, 1) := by decide +kernel
theorem dX12_growth_8 : decode cX12_growth 8 = .ok (.istore 5, 2) := by decide +kernel
theorem dX12_growth_10 : decode cX12_growth 10 = .ok (.iload 5, 2) := by decide +kernel
theorem dX12_growth_12 : decode cX12_growth 12 = .ok (.iload_n 1, 1) := by decide +kernel
theorem dX12_growth_13 : decode cX12_growth 13 = .ok (.if_icmp .ge 84, 3) := by decide +kernel
theorem dX12_growth_16 : decode cX12_growth 16 = .ok (.aload_n 0, 1) := by decide +kernel
theorem dX12_growth_17 : decode cX12_growth 17 = .ok (.getfield 190, 3) := by decide +kernel
theorem dX12_growth_20 : decode cX12_growth 20 = .ok (.iload_n 1, 1) := by decide +kernel
theorem dX12_growth_21 : decode cX12_growth 21 = .ok (.laload, 1) := by decide +kernel
theorem dX12_growth_22 : decode cX12_growth 22 = .ok (.iload 5, 2) := by decide +kernel
theorem dX12_growth_24 : decode cX12_growth 24 = .ok (.invokestatic 449, 3) := by decide +kernel
theorem dX12_growth_27 : decode cX12_growth 27 = .ok (.ifCond .eq 41, 3) := by decide +kernel
theorem dX12_growth_30 : decode cX12_growth 30 = .ok (.aload_n 0, 1) := by decide +kernel
theorem dX12_growth_31 : decode cX12_growth 31 = .ok (.getfield 460, 3) := by decide +kernel
theorem dX12_growth_34 : decode cX12_growth 34 = .ok (.iload 5, 2) := by decide +kernel
theorem dX12_growth_36 : decode cX12_growth 36 = .ok (.invokestatic 449, 3) := by decide +kernel
theorem dX12_growth_39 : decode cX12_growth 39 = .ok (.ifCond .ne 29, 3) := by decide +kernel
theorem dX12_growth_42 : decode cX12_growth 42 = .ok (.aload_n 0, 1) := by decide +kernel
theorem dX12_growth_43 : decode cX12_growth 43 = .ok (.getfield 193, 3) := by decide +kernel
theorem dX12_growth_46 : decode cX12_growth 46 = .ok (.iload 5, 2) := by decide +kernel
theorem dX12_growth_48 : decode cX12_growth 48 = .ok (.laload, 1) := by decide +kernel
theorem dX12_growth_49 : decode cX12_growth 49 = .ok (.lload_n 2, 1) := by decide +kernel
theorem dX12_growth_50 : decode cX12_growth 50 = .ok (.lconst 1, 1) := by decide +kernel
theorem dX12_growth_51 : decode cX12_growth 51 = .ok (.iload_n 1, 1) := by decide +kernel
theorem dX12_growth_52 : decode cX12_growth 52 = .ok (.lshl, 1) := by decide +kernel
theorem dX12_growth_53 : decode cX12_growth 53 = .ok (.lor, 1) := by decide +kernel
theorem dX12_growth_54 : decode cX12_growth 54 = .ok (.ldc2_w 483, 3) := by decide +kernel
theorem dX12_growth_57 : decode cX12_growth 57 = .ok (.lxor, 1) := by decide +kernel
theorem dX12_growth_58 : decode cX12_growth 58 = .ok (.land, 1) := by decide +kernel
theorem dX12_growth_59 : decode cX12_growth 59 = .ok (.lconst 0, 1) := by decide +kernel
theorem dX12_growth_60 : decode cX12_growth 60 = .ok (.lcmp, 1) := by decide +kernel
theorem dX12_growth_61 : decode cX12_growth 61 = .ok (.ifCond .ne 7, 3) := by decide +kernel
theorem dX12_growth_64 : decode cX12_growth 64 = .ok (.iconst 1, 1) := by decide +kernel
theorem dX12_growth_65 : decode cX12_growth 65 = .ok (.goto 4, 3) := by decide +kernel
theorem dX12_growth_68 : decode cX12_growth 68 = .ok (.iconst 0, 1) := by decide +kernel
theorem dX12_growth_69 : decode cX12_growth 69 = .ok (.istore 6, 2) := by decide +kernel
theorem dX12_growth_71 : decode cX12_growth 71 = .ok (.iload 4, 2) := by decide +kernel
theorem dX12_growth_73 : decode cX12_growth 73 = .ok (.iload 6, 2) := by decide +kernel
theorem dX12_growth_75 : decode cX12_growth 75 = .ok (.ifCond .eq 12, 3) := by decide +kernel
theorem dX12_growth_78 : decode cX12_growth 78 = .ok (.aload_n 0, 1) := by decide +kernel
theorem dX12_growth_79 : decode cX12_growth 79 = .ok (.iload 5, 2) := by decide +kernel
theorem dX12_growth_81 : decode cX12_growth 81 = .ok (.invokevirtual 473, 3) := by decide +kernel
theorem dX12_growth_84 : decode cX12_growth 84 = .ok (.goto 4, 3) := by decide +kernel
theorem dX12_growth_87 : decode cX12_growth 87 = .ok (.iconst 0, 1) := by decide +kernel
theorem dX12_growth_88 : decode cX12_growth 88 = .ok (.isub, 1) := by decide +kernel
theorem dX12_growth_89 : decode cX12_growth 89 = .ok (.istore 4, 2) := by decide +kernel
theorem dX12_growth_91 : decode cX12_growth 91 = .ok (.iinc 5 1, 3) := by decide +kernel
theorem dX12_growth_94 : decode cX12_growth 94 = .ok (.goto (-84), 3) := by decide +kernel
theorem dX12_growth_97 : decode cX12_growth 97 = .ok (.iload 4, 2) := by decide +kernel
theorem dX12_growth_99 : decode cX12_growth 99 = .ok (.ireturn, 1) := by decide +kernel
theorem dX12_goesAhead_0 : decode cX12_goesAhead 0 = .ok (.iload_n 3, 1) := by decide +kernel
theorem dX12_goesAhead_1 : decode cX12_goesAhead 1 = .ok (.ifCond .ne 43, 3) := by decide +kernel
theorem dX12_goesAhead_4 : decode cX12_goesAhead 4 = .ok (.aload_n 0, 1) := by decide +kernel
theorem dX12_goesAhead_5 : decode cX12_goesAhead 5 = .ok (.iload_n 1, 1) := by decide +kernel
theorem dX12_goesAhead_6 : decode cX12_goesAhead 6 = .ok (.lload 4, 2) := by decide +kernel
theorem dX12_goesAhead_8 : decode cX12_goesAhead 8 = .ok (.invokevirtual 485, 3) := by decide +kernel
theorem dX12_goesAhead_11 : decode cX12_goesAhead 11 = .ok (.aload_n 0, 1) := by decide +kernel
theorem dX12_goesAhead_12 : decode cX12_goesAhead 12 = .ok (.iload_n 2, 1) := by decide +kernel
theorem dX12_goesAhead_13 : decode cX12_goesAhead 13 = .ok (.lload 4, 2) := by decide +kernel
theorem dX12_goesAhead_15 : decode cX12_goesAhead 15 = .ok (.invokevirtual 485, 3) := by decide +kernel
theorem dX12_goesAhead_18 : decode cX12_goesAhead 18 = .ok (.if_icmp .eq 26, 3) := by decide +kernel
theorem dX12_goesAhead_21 : decode cX12_goesAhead 21 = .ok (.aload_n 0, 1) := by decide +kernel
theorem dX12_goesAhead_22 : decode cX12_goesAhead 22 = .ok (.iload_n 1, 1) := by decide +kernel
theorem dX12_goesAhead_23 : decode cX12_goesAhead 23 = .ok (.lload 4, 2) := by decide +kernel
theorem dX12_goesAhead_25 : decode cX12_goesAhead 25 = .ok (.invokevirtual 485, 3) := by decide +kernel
theorem dX12_goesAhead_28 : decode cX12_goesAhead 28 = .ok (.aload_n 0, 1) := by decide +kernel
theorem dX12_goesAhead_29 : decode cX12_goesAhead 29 = .ok (.iload_n 2, 1) := by decide +kernel
theorem dX12_goesAhead_30 : decode cX12_goesAhead 30 = .ok (.lload 4, 2) := by decide +kernel
theorem dX12_goesAhead_32 : decode cX12_goesAhead 32 = .ok (.invokevirtual 485, 3) := by decide +kernel
theorem dX12_goesAhead_35 : decode cX12_goesAhead 35 = .ok (.if_icmp .ge 7, 3) := by decide +kernel
theorem dX12_goesAhead_38 : decode cX12_goesAhead 38 = .ok (.iconst 1, 1) := by decide +kernel
theorem dX12_goesAhead_39 : decode cX12_goesAhead 39 = .ok (.goto 4, 3) := by decide +kernel
theorem dX12_goesAhead_42 : decode cX12_goesAhead 42 = .ok (.iconst 0, 1) := by decide +kernel
theorem dX12_goesAhead_43 : decode cX12_goesAhead 43 = .ok (.ireturn, 1) := by decide +kernel
theorem dX12_goesAhead_44 : decode cX12_goesAhead 44 = .ok (.iload_n 3, 1) := by decide +kernel
theorem dX12_goesAhead_45 : decode cX12_goesAhead 45 = .ok (.ifCond .eq 8, 3) := by decide +kernel
theorem dX12_goesAhead_48 : decode cX12_goesAhead 48 = .ok (.iload_n 3, 1) := by decide +kernel
theorem dX12_goesAhead_49 : decode cX12_goesAhead 49 = .ok (.iconst 2, 1) := by decide +kernel
theorem dX12_goesAhead_50 : decode cX12_goesAhead 50 = .ok (.if_icmp .ne 24, 3) := by decide +kernel
theorem dX12_goesAhead_53 : decode cX12_goesAhead 53 = .ok (.aload_n 0, 1) := by decide +kernel
theorem dX12_goesAhead_54 : decode cX12_goesAhead 54 = .ok (.getfield 196, 3) := by decide +kernel
theorem dX12_goesAhead_57 : decode cX12_goesAhead 57 = .ok (.iload_n 1, 1) := by decide +kernel
theorem dX12_goesAhead_58 : decode cX12_goesAhead 58 = .ok (.iaload, 1) := by decide +kernel
theorem dX12_goesAhead_59 : decode cX12_goesAhead 59 = .ok (.aload_n 0, 1) := by decide +kernel
theorem dX12_goesAhead_60 : decode cX12_goesAhead 60 = .ok (.getfield 196, 3) := by decide +kernel
theorem dX12_goesAhead_63 : decode cX12_goesAhead 63 = .ok (.iload_n 2, 1) := by decide +kernel
theorem dX12_goesAhead_64 : decode cX12_goesAhead 64 = .ok (.iaload, 1) := by decide +kernel
theorem dX12_goesAhead_65 : decode cX12_goesAhead 65 = .ok (.if_icmp .le 7, 3) := by decide +kernel
theorem dX12_goesAhead_68 : decode cX12_goesAhead 68 = .ok (.iconst 1, 1) := by decide +kernel
theorem dX12_goesAhead_69 : decode cX12_goesAhead 69 = .ok (.goto 4, 3) := by decide +kernel
theorem dX12_goesAhead_72 : decode cX12_goesAhead 72 = .ok (.iconst 0, 1) := by decide +kernel
theorem dX12_goesAhead_73 : decode cX12_goesAhead 73 = .ok (.ireturn, 1) := by decide +kernel
theorem dX12_goesAhead_74 : decode cX12_goesAhead 74 = .ok (.iload_n 3, 1) := by decide +kernel
theorem dX12_goesAhead_75 : decode cX12_goesAhead 75 = .ok (.iconst 3, 1) := by decide +kernel
theorem dX12_goesAhead_76 : decode cX12_goesAhead 76 = .ok (.if_icmp .ne 27, 3) := by decide +kernel
theorem dX12_goesAhead_79 : decode cX12_goesAhead 79 = .ok (.aload_n 0, 1) := by decide +kernel
theorem dX12_goesAhead_80 : decode cX12_goesAhead 80 = .ok (.iload_n 1, 1) := by decide +kernel
theorem dX12_goesAhead_81 : decode cX12_goesAhead 81 = .ok (.invokevirtual 391, 3) := by decide +kernel
theorem dX12_goesAhead_84 : decode cX12_goesAhead 84 = .ok (.bipush 7, 2) := by decide +kernel
theorem dX12_goesAhead_86 : decode cX12_goesAhead 86 = .ok (.if_icmp .ne 17, 3) := by decide +kernel
theorem dX12_goesAhead_89 : decode cX12_goesAhead 89 = .ok (.aload_n 0, 1) := by decide +kernel
theorem dX12_goesAhead_90 : decode cX12_goesAhead 90 = .ok (.iload_n 2, 1) := by decide +kernel
theorem dX12_goesAhead_91 : decode cX12_goesAhead 91 = .ok (.invokevirtual 391, 3) := by decide +kernel
theorem dX12_goesAhead_94 : decode cX12_goesAhead 94 = .ok (.bipush 7, 2) := by decide +kernel
theorem dX12_goesAhead_96 : decode cX12_goesAhead 96 = .ok (.if_icmp .eq 7, 3) := by decide +kernel
theorem dX12_goesAhead_99 : decode cX12_goesAhead 99 = .ok (.iconst 1, 1) := by decide +kernel
theorem dX12_goesAhead_100 : decode cX12_goesAhead 100 = .ok (.goto 4, 3) := by decide +kernel
theorem dX12_goesAhead_103 : decode cX12_goesAhead 103 = .ok (.iconst 0, 1) := by decide +kernel
theorem dX12_goesAhead_104 : decode cX12_goesAhead 104 = .ok (.ireturn, 1) := by decide +kernel
theorem dX12_orders_0 : decode cX12_orders 0 = .ok (.aload_n 0, 1) := by decide +kernel
theorem dX12_orders_1 : decode cX12_orders 1 = .ok (.iconst 0, 1) := by decide +kernel
theorem dX12_orders_2 : decode cX12_orders 2 = .ok (.putfield 489, 3) := by decide +kernel
theorem dX12_orders_5 : decode cX12_orders 5 = .ok (.lconst 0, 1) := by decide +kernel
theorem dX12_orders_6 : decode cX12_orders 6 = .ok (.lstore_n 2, 1) := by decide +kernel
theorem dX12_orders_7 : decode cX12_orders 7 = .ok (.lload_n 2, 1) := by decide +kernel
theorem dX12_orders_8 : decode cX12_orders 8 = .ok (.aload_n 0, 1) := by decide +kernel
theorem dX12_orders_9 : decode cX12_orders 9 = .ok (.getfield 464, 3) := by decide +kernel
theorem dX12_orders_12 : decode cX12_orders 12 = .ok (.lcmp, 1) := by decide +kernel
theorem dX12_orders_13 : decode cX12_orders 13 = .ok (.ifCond .eq 133, 3) := by decide +kernel
theorem dX12_orders_16 : decode cX12_orders 16 = .ok (.iconst (-1), 1) := by decide +kernel
theorem dX12_orders_17 : decode cX12_orders 17 = .ok (.istore 4, 2) := by decide +kernel
theorem dX12_orders_19 : decode cX12_orders 19 = .ok (.iconst 0, 1) := by decide +kernel
theorem dX12_orders_20 : decode cX12_orders 20 = .ok (.istore 5, 2) := by decide +kernel
theorem dX12_orders_22 : decode cX12_orders 22 = .ok (.iload 5, 2) := by decide +kernel
theorem dX12_orders_24 : decode cX12_orders 24 = .ok (.aload_n 0, 1) := by decide +kernel
theorem dX12_orders_25 : decode cX12_orders 25 = .ok (.invokevirtual 352, 3) := by decide +kernel
theorem dX12_orders_28 : decode cX12_orders 28 = .ok (.if_icmp .ge 87, 3) := by decide +kernel
theorem dX12_orders_31 : decode cX12_orders 31 = .ok (.aload_n 0, 1) := by decide +kernel
theorem dX12_orders_32 : decode cX12_orders 32 = .ok (.getfield 464, 3) := by decide +kernel
theorem dX12_orders_35 : decode cX12_orders 35 = .ok (.iload 5, 2) := by decide +kernel
theorem dX12_orders_37 : decode cX12_orders 37 = .ok (.invokestatic 449, 3) := by decide +kernel
theorem dX12_orders_40 : decode cX12_orders 40 = .ok (.ifCond .eq 34, 3) := by decide +kernel
theorem dX12_orders_43 : decode cX12_orders 43 = .ok (.lload_n 2, 1) := by decide +kernel
theorem dX12_orders_44 : decode cX12_orders 44 = .ok (.iload 5, 2) := by decide +kernel
theorem dX12_orders_46 : decode cX12_orders 46 = .ok (.invokestatic 449, 3) := by decide +kernel
theorem dX12_orders_49 : decode cX12_orders 49 = .ok (.ifCond .ne 25, 3) := by decide +kernel
theorem dX12_orders_52 : decode cX12_orders 52 = .ok (.aload_n 0, 1) := by decide +kernel
theorem dX12_orders_53 : decode cX12_orders 53 = .ok (.getfield 190, 3) := by decide +kernel
theorem dX12_orders_56 : decode cX12_orders 56 = .ok (.iload 5, 2) := by decide +kernel
theorem dX12_orders_58 : decode cX12_orders 58 = .ok (.laload, 1) := by decide +kernel
theorem dX12_orders_59 : decode cX12_orders 59 = .ok (.lload_n 2, 1) := by decide +kernel
theorem dX12_orders_60 : decode cX12_orders 60 = .ok (.ldc2_w 483, 3) := by decide +kernel
theorem dX12_orders_63 : decode cX12_orders 63 = .ok (.lxor, 1) := by decide +kernel
theorem dX12_orders_64 : decode cX12_orders 64 = .ok (.land, 1) := by decide +kernel
theorem dX12_orders_65 : decode cX12_orders 65 = .ok (.lconst 0, 1) := by decide +kernel
theorem dX12_orders_66 : decode cX12_orders 66 = .ok (.lcmp, 1) := by decide +kernel
theorem dX12_orders_67 : decode cX12_orders 67 = .ok (.ifCond .ne 7, 3) := by decide +kernel
theorem dX12_orders_70 : decode cX12_orders 70 = .ok (.iconst 1, 1) := by decide +kernel
theorem dX12_orders_71 : decode cX12_orders 71 = .ok (.goto 4, 3) := by decide +kernel
theorem dX12_orders_74 : decode cX12_orders 74 = .ok (.iconst 0, 1) := by decide +kernel
theorem dX12_orders_75 : decode cX12_orders 75 = .ok (.istore 6, 2) := by decide +kernel
theorem dX12_orders_77 : decode cX12_orders 77 = .ok (.iload 6, 2) := by decide +kernel
theorem dX12_orders_79 : decode cX12_orders 79 = .ok (.ifCond .eq 26, 3) := by decide +kernel
theorem dX12_orders_82 : decode cX12_orders 82 = .ok (.iload 4, 2) := by decide +kernel
theorem dX12_orders_84 : decode cX12_orders 84 = .ok (.ifCond .lt 16, 3) := by decide +kernel
theorem dX12_orders_87 : decode cX12_orders 87 = .ok (.aload_n 0, 1) := by decide +kernel
theorem dX12_orders_88 : decode cX12_orders 88 = .ok (.iload 5, 2) := by decide +kernel
theorem dX12_orders_90 : decode cX12_orders 90 = .ok (.iload 4, 2) := by decide +kernel
theorem dX12_orders_92 : decode cX12_orders 92 = .ok (.iload_n 1, 1) := by decide +kernel
theorem dX12_orders_93 : decode cX12_orders 93 = .ok (.lload_n 2, 1) := by decide +kernel
theorem dX12_orders_94 : decode cX12_orders 94 = .ok (.invokevirtual 492, 3) := by decide +kernel
theorem dX12_orders_97 : decode cX12_orders 97 = .ok (.ifCond .eq 8, 3) := by decide +kernel
theorem dX12_orders_100 : decode cX12_orders 100 = .ok (.iload 5, 2) := by decide +kernel
theorem dX12_orders_102 : decode cX12_orders 102 = .ok (.goto 5, 3) := by decide +kernel
theorem dX12_orders_105 : decode cX12_orders 105 = .ok (.iload 4, 2) := by decide +kernel
theorem dX12_orders_107 : decode cX12_orders 107 = .ok (.istore 4, 2) := by decide +kernel
theorem dX12_orders_109 : decode cX12_orders 109 = .ok (.iinc 5 1, 3) := by decide +kernel
theorem dX12_orders_112 : decode cX12_orders 112 = .ok (.goto (-90), 3) := by decide +kernel
theorem dX12_orders_115 : decode cX12_orders 115 = .ok (.aload_n 0, 1) := by decide +kernel
theorem dX12_orders_116 : decode cX12_orders 116 = .ok (.getfield 199, 3) := by decide +kernel
theorem dX12_orders_119 : decode cX12_orders 119 = .ok (.aload_n 0, 1) := by decide +kernel
theorem dX12_orders_120 : decode cX12_orders 120 = .ok (.getfield 489, 3) := by decide +kernel
theorem dX12_orders_123 : decode cX12_orders 123 = .ok (.iload 4, 2) := by decide +kernel
theorem dX12_orders_125 : decode cX12_orders 125 = .ok (.iastore, 1) := by decide +kernel
theorem dX12_orders_126 : decode cX12_orders 126 = .ok (.aload_n 0, 1) := by decide +kernel
theorem dX12_orders_127 : decode cX12_orders 127 = .ok (.dup, 1) := by decide +kernel
theorem dX12_orders_128 : decode cX12_orders 128 = .ok (.getfield 489, 3) := by decide +kernel
theorem dX12_orders_131 : decode cX12_orders 131 = .ok (.iconst 1, 1) := by decide +kernel
theorem dX12_orders_132 : decode cX12_orders 132 = .ok (.iadd, 1) := by decide +kernel
theorem dX12_orders_133 : decode cX12_orders 133 = .ok (.putfield 489, 3) := by decide +kernel
theorem dX12_orders_136 : decode cX12_orders 136 = .ok (.lload_n 2, 1) := by decide +kernel
theorem dX12_orders_137 : decode cX12_orders 137 = .ok (.lconst 1, 1) := by decide +kernel
theorem dX12_orders_138 : decode cX12_orders 138 = .ok (.iload 4, 2) := by decide +kernel
theorem dX12_orders_140 : decode cX12_orders 140 = .ok (.lshl, 1) := by decide +kernel
theorem dX12_orders_141 : decode cX12_orders 141 = .ok (.lor, 1) := by decide +kernel
theorem dX12_orders_142 : decode cX12_orders 142 = .ok (.lstore_n 2, 1) := by decide +kernel
theorem dX12_orders_143 : decode cX12_orders 143 = .ok (.goto (-136), 3) := by decide +kernel
theorem dX12_orders_146 : decode cX12_orders 146 = .ok (.aload_n 0, 1) := by decide +kernel
theorem dX12_orders_147 : decode cX12_orders 147 = .ok (.invokevirtual 496, 3) := by decide +kernel
theorem dX12_orders_150 : decode cX12_orders 150 = .ok (.return_, 1) := by decide +kernel
theorem dX12_lives_0 : decode cX12_lives 0 = .ok (.iconst 0, 1) := by decide +kernel
theorem dX12_lives_1 : decode cX12_lives 1 = .ok (.istore_n 1, 1) := by decide +kernel
theorem dX12_lives_2 : decode cX12_lives 2 = .ok (.iload_n 1, 1) := by decide +kernel
theorem dX12_lives_3 : decode cX12_lives 3 = .ok (.aload_n 0, 1) := by decide +kernel
theorem dX12_lives_4 : decode cX12_lives 4 = .ok (.getfield 489, 3) := by decide +kernel
theorem dX12_lives_7 : decode cX12_lives 7 = .ok (.if_icmp .ge 21, 3) := by decide +kernel
theorem dX12_lives_10 : decode cX12_lives 10 = .ok (.aload_n 0, 1) := by decide +kernel
theorem dX12_lives_11 : decode cX12_lives 11 = .ok (.getfield 202, 3) := by decide +kernel
theorem dX12_lives_14 : decode cX12_lives 14 = .ok (.aload_n 0, 1) := by decide +kernel
theorem dX12_lives_15 : decode cX12_lives 15 = .ok (.getfield 199, 3) := by decide +kernel
theorem dX12_lives_18 : decode cX12_lives 18 = .ok (.iload_n 1, 1) := by decide +kernel
theorem dX12_lives_19 : decode cX12_lives 19 = .ok (.iaload, 1) := by decide +kernel
theorem dX12_lives_20 : decode cX12_lives 20 = .ok (.iload_n 1, 1) := by decide +kernel
theorem dX12_lives_21 : decode cX12_lives 21 = .ok (.iastore, 1) := by decide +kernel
theorem dX12_lives_22 : decode cX12_lives 22 = .ok (.iinc 1 1, 3) := by decide +kernel
theorem dX12_lives_25 : decode cX12_lives 25 = .ok (.goto (-23), 3) := by decide +kernel
theorem dX12_lives_28 : decode cX12_lives 28 = .ok (.iconst 0, 1) := by decide +kernel
theorem dX12_lives_29 : decode cX12_lives 29 = .ok (.istore_n 1, 1) := by decide +kernel
theorem dX12_lives_30 : decode cX12_lives 30 = .ok (.iload_n 1, 1) := by decide +kernel
theorem dX12_lives_31 : decode cX12_lives 31 = .ok (.aload_n 0, 1) := by decide +kernel
theorem dX12_lives_32 : decode cX12_lives 32 = .ok (.getfield 489, 3) := by decide +kernel
theorem dX12_lives_35 : decode cX12_lives 35 = .ok (.if_icmp .ge 106, 3) := by decide +kernel
theorem dX12_lives_38 : decode cX12_lives 38 = .ok (.aload_n 0, 1) := by decide +kernel
theorem dX12_lives_39 : decode cX12_lives 39 = .ok (.getfield 199, 3) := by decide +kernel
theorem dX12_lives_42 : decode cX12_lives 42 = .ok (.iload_n 1, 1) := by decide +kernel
theorem dX12_lives_43 : decode cX12_lives 43 = .ok (.iaload, 1) := by decide +kernel
theorem dX12_lives_44 : decode cX12_lives 44 = .ok (.istore_n 2, 1) := by decide +kernel
theorem dX12_lives_45 : decode cX12_lives 45 = .ok (.aload_n 0, 1) := by decide +kernel
theorem dX12_lives_46 : decode cX12_lives 46 = .ok (.getfield 205, 3) := by decide +kernel
theorem dX12_lives_49 : decode cX12_lives 49 = .ok (.iload_n 2, 1) := by decide +kernel
theorem dX12_lives_50 : decode cX12_lives 50 = .ok (.aload_n 0, 1) := by decide +kernel
theorem dX12_lives_51 : decode cX12_lives 51 = .ok (.getfield 460, 3) := by decide +kernel
theorem dX12_lives_54 : decode cX12_lives 54 = .ok (.iload_n 2, 1) := by decide +kernel
theorem dX12_lives_55 : decode cX12_lives 55 = .ok (.invokestatic 449, 3) := by decide +kernel
theorem dX12_lives_58 : decode cX12_lives 58 = .ok (.ifCond .eq 10, 3) := by decide +kernel
theorem dX12_lives_61 : decode cX12_lives 61 = .ok (.aload_n 0, 1) := by decide +kernel
theorem dX12_lives_62 : decode cX12_lives 62 = .ok (.getfield 489, 3) := by decide +kernel
theorem dX12_lives_65 : decode cX12_lives 65 = .ok (.goto 4, 3) := by decide +kernel
theorem dX12_lives_68 : decode cX12_lives 68 = .ok (.iload_n 1, 1) := by decide +kernel
theorem dX12_lives_69 : decode cX12_lives 69 = .ok (.iastore, 1) := by decide +kernel
theorem dX12_lives_70 : decode cX12_lives 70 = .ok (.iconst 0, 1) := by decide +kernel
theorem dX12_lives_71 : decode cX12_lives 71 = .ok (.istore_n 3, 1) := by decide +kernel
theorem dX12_lives_72 : decode cX12_lives 72 = .ok (.iload_n 3, 1) := by decide +kernel
theorem dX12_lives_73 : decode cX12_lives 73 = .ok (.aload_n 0, 1) := by decide +kernel
theorem dX12_lives_74 : decode cX12_lives 74 = .ok (.invokevirtual 352, 3) := by decide +kernel
theorem dX12_lives_77 : decode cX12_lives 77 = .ok (.if_icmp .ge 58, 3) := by decide +kernel
theorem dX12_lives_80 : decode cX12_lives 80 = .ok (.aload_n 0, 1) := by decide +kernel
theorem dX12_lives_81 : decode cX12_lives 81 = .ok (.getfield 205, 3) := by decide +kernel
theorem dX12_lives_84 : decode cX12_lives 84 = .ok (.iload_n 2, 1) := by decide +kernel
theorem dX12_lives_85 : decode cX12_lives 85 = .ok (.aload_n 0, 1) := by decide +kernel
theorem dX12_lives_86 : decode cX12_lives 86 = .ok (.getfield 193, 3) := by decide +kernel
theorem dX12_lives_89 : decode cX12_lives 89 = .ok (.iload_n 2, 1) := by decide +kernel
theorem dX12_lives_90 : decode cX12_lives 90 = .ok (.laload, 1) := by decide +kernel
theorem dX12_lives_91 : decode cX12_lives 91 = .ok (.iload_n 3, 1) := by decide +kernel
theorem dX12_lives_92 : decode cX12_lives 92 = .ok (.invokestatic 449, 3) := by decide +kernel
theorem dX12_lives_95 : decode cX12_lives 95 = .ok (.ifCond .eq 27, 3) := by decide +kernel
theorem dX12_lives_98 : decode cX12_lives 98 = .ok (.aload_n 0, 1) := by decide +kernel
theorem dX12_lives_99 : decode cX12_lives 99 = .ok (.getfield 202, 3) := by decide +kernel
theorem dX12_lives_102 : decode cX12_lives 102 = .ok (.iload_n 3, 1) := by decide +kernel
theorem dX12_lives_103 : decode cX12_lives 103 = .ok (.iaload, 1) := by decide +kernel
theorem dX12_lives_104 : decode cX12_lives 104 = .ok (.aload_n 0, 1) := by decide +kernel
theorem dX12_lives_105 : decode cX12_lives 105 = .ok (.getfield 205, 3) := by decide +kernel
theorem dX12_lives_108 : decode cX12_lives 108 = .ok (.iload_n 2, 1) := by decide +kernel
theorem dX12_lives_109 : decode cX12_lives 109 = .ok (.iaload, 1) := by decide +kernel
theorem dX12_lives_110 : decode cX12_lives 110 = .ok (.if_icmp .le 12, 3) := by decide +kernel
theorem dX12_lives_113 : decode cX12_lives 113 = .ok (.aload_n 0, 1) := by decide +kernel
theorem dX12_lives_114 : decode cX12_lives 114 = .ok (.getfield 202, 3) := by decide +kernel
theorem dX12_lives_117 : decode cX12_lives 117 = .ok (.iload_n 3, 1) := by decide +kernel
theorem dX12_lives_118 : decode cX12_lives 118 = .ok (.iaload, 1) := by decide +kernel
theorem dX12_lives_119 : decode cX12_lives 119 = .ok (.goto 9, 3) := by decide +kernel
theorem dX12_lives_122 : decode cX12_lives 122 = .ok (.aload_n 0, 1) := by decide +kernel
theorem dX12_lives_123 : decode cX12_lives 123 = .ok (.getfield 205, 3) := by decide +kernel
theorem dX12_lives_126 : decode cX12_lives 126 = .ok (.iload_n 2, 1) := by decide +kernel
theorem dX12_lives_127 : decode cX12_lives 127 = .ok (.iaload, 1) := by decide +kernel
theorem dX12_lives_128 : decode cX12_lives 128 = .ok (.iastore, 1) := by decide +kernel
theorem dX12_lives_129 : decode cX12_lives 129 = .ok (.iinc 3 1, 3) := by decide +kernel
theorem dX12_lives_132 : decode cX12_lives 132 = .ok (.goto (-60), 3) := by decide +kernel
theorem dX12_lives_135 : decode cX12_lives 135 = .ok (.iinc 1 1, 3) := by decide +kernel
theorem dX12_lives_138 : decode cX12_lives 138 = .ok (.goto (-108), 3) := by decide +kernel
theorem dX12_lives_141 : decode cX12_lives 141 = .ok (.aload_n 0, 1) := by decide +kernel
theorem dX12_lives_142 : decode cX12_lives 142 = .ok (.invokevirtual 499, 3) := by decide +kernel
theorem dX12_lives_145 : decode cX12_lives 145 = .ok (.return_, 1) := by decide +kernel
theorem dX12_fileOf_0 : decode cX12_fileOf 0 = .ok (.aload_n 0, 1) := by decide +kernel
theorem dX12_fileOf_1 : decode cX12_fileOf 1 = .ok (.getfield 181, 3) := by decide +kernel
theorem dX12_fileOf_4 : decode cX12_fileOf 4 = .ok (.iload_n 1, 1) := by decide +kernel
theorem dX12_fileOf_5 : decode cX12_fileOf 5 = .ok (.baload, 1) := by decide +kernel
theorem dX12_fileOf_6 : decode cX12_fileOf 6 = .ok (.ifCond .eq 7, 3) := by decide +kernel
theorem dX12_fileOf_9 : decode cX12_fileOf 9 = .ok (.iconst 0, 1) := by decide +kernel
theorem dX12_fileOf_10 : decode cX12_fileOf 10 = .ok (.goto 4, 3) := by decide +kernel
theorem dX12_fileOf_13 : decode cX12_fileOf 13 = .ok (.iconst 1, 1) := by decide +kernel
theorem dX12_fileOf_14 : decode cX12_fileOf 14 = .ok (.ireturn, 1) := by decide +kernel
theorem dX12_livesAt_0 : decode cX12_livesAt 0 = .ok (.iconst 0, 1) := by decide +kernel
theorem dX12_livesAt_1 : decode cX12_livesAt 1 = .ok (.istore_n 3, 1) := by decide +kernel
theorem dX12_livesAt_2 : decode cX12_livesAt 2 = .ok (.iconst 0, 1) := by decide +kernel
theorem dX12_livesAt_3 : decode cX12_livesAt 3 = .ok (.istore 4, 2) := by decide +kernel
theorem dX12_livesAt_5 : decode cX12_livesAt 5 = .ok (.iload 4, 2) := by decide +kernel
theorem dX12_livesAt_7 : decode cX12_livesAt 7 = .ok (.iload_n 1, 1) := by decide +kernel
theorem dX12_livesAt_8 : decode cX12_livesAt 8 = .ok (.if_icmp .gt 57, 3) := by decide +kernel
theorem dX12_livesAt_11 : decode cX12_livesAt 11 = .ok (.aload_n 0, 1) := by decide +kernel
theorem dX12_livesAt_12 : decode cX12_livesAt 12 = .ok (.getfield 199, 3) := by decide +kernel
theorem dX12_livesAt_15 : decode cX12_livesAt 15 = .ok (.iload 4, 2) := by decide +kernel
theorem dX12_livesAt_17 : decode cX12_livesAt 17 = .ok (.iaload, 1) := by decide +kernel
theorem dX12_livesAt_18 : decode cX12_livesAt 18 = .ok (.istore 5, 2) := by decide +kernel
theorem dX12_livesAt_20 : decode cX12_livesAt 20 = .ok (.iload_n 3, 1) := by decide +kernel
theorem dX12_livesAt_21 : decode cX12_livesAt 21 = .ok (.aload_n 0, 1) := by decide +kernel
theorem dX12_livesAt_22 : decode cX12_livesAt 22 = .ok (.getfield 205, 3) := by decide +kernel
theorem dX12_livesAt_25 : decode cX12_livesAt 25 = .ok (.iload 5, 2) := by decide +kernel
theorem dX12_livesAt_27 : decode cX12_livesAt 27 = .ok (.iaload, 1) := by decide +kernel
theorem dX12_livesAt_28 : decode cX12_livesAt 28 = .ok (.iload_n 1, 1) := by decide +kernel
theorem dX12_livesAt_29 : decode cX12_livesAt 29 = .ok (.if_icmp .le 27, 3) := by decide +kernel
theorem dX12_livesAt_32 : decode cX12_livesAt 32 = .ok (.iload_n 2, 1) := by decide +kernel
theorem dX12_livesAt_33 : decode cX12_livesAt 33 = .ok (.iconst 2, 1) := by decide +kernel
theorem dX12_livesAt_34 : decode cX12_livesAt 34 = .ok (.if_icmp .eq 13, 3) := by decide +kernel
theorem dX12_livesAt_37 : decode cX12_livesAt 37 = .ok (.aload_n 0, 1) := by decide +kernel
theorem dX12_livesAt_38 : decode cX12_livesAt 38 = .ok (.iload 5, 2) := by decide +kernel
theorem dX12_livesAt_40 : decode cX12_livesAt 40 = .ok (.invokevirtual 502, 3) := by decide +kernel
theorem dX12_livesAt_43 : decode cX12_livesAt 43 = .ok (.iload_n 2, 1) := by decide +kernel
theorem dX12_livesAt_44 : decode cX12_livesAt 44 = .ok (.if_icmp .ne 12, 3) := by decide +kernel
theorem dX12_livesAt_47 : decode cX12_livesAt 47 = .ok (.aload_n 0, 1) := by decide +kernel
theorem dX12_livesAt_48 : decode cX12_livesAt 48 = .ok (.iload 5, 2) := by decide +kernel
theorem dX12_livesAt_50 : decode cX12_livesAt 50 = .ok (.invokevirtual 473, 3) := by decide +kernel
theorem dX12_livesAt_53 : decode cX12_livesAt 53 = .ok (.goto 4, 3) := by decide +kernel
theorem dX12_livesAt_56 : decode cX12_livesAt 56 = .ok (.iconst 0, 1) := by decide +kernel
theorem dX12_livesAt_57 : decode cX12_livesAt 57 = .ok (.iadd, 1) := by decide +kernel
theorem dX12_livesAt_58 : decode cX12_livesAt 58 = .ok (.istore_n 3, 1) := by decide +kernel
theorem dX12_livesAt_59 : decode cX12_livesAt 59 = .ok (.iinc 4 1, 3) := by decide +kernel
theorem dX12_livesAt_62 : decode cX12_livesAt 62 = .ok (.goto (-57), 3) := by decide +kernel
theorem dX12_livesAt_65 : decode cX12_livesAt 65 = .ok (.iload_n 3, 1) := by decide +kernel
theorem dX12_livesAt_66 : decode cX12_livesAt 66 = .ok (.ireturn, 1) := by decide +kernel
theorem dX12_most_0 : decode cX12_most 0 = .ok (.iconst 0, 1) := by decide +kernel
theorem dX12_most_1 : decode cX12_most 1 = .ok (.istore_n 2, 1) := by decide +kernel
theorem dX12_most_2 : decode cX12_most 2 = .ok (.iconst 0, 1) := by decide +kernel
theorem dX12_most_3 : decode cX12_most 3 = .ok (.istore_n 3, 1) := by decide +kernel
theorem dX12_most_4 : decode cX12_most 4 = .ok (.iload_n 3, 1) := by decide +kernel
theorem dX12_most_5 : decode cX12_most 5 = .ok (.aload_n 0, 1) := by decide +kernel
theorem dX12_most_6 : decode cX12_most 6 = .ok (.getfield 489, 3) := by decide +kernel
theorem dX12_most_9 : decode cX12_most 9 = .ok (.if_icmp .ge 20, 3) := by decide +kernel
theorem dX12_most_12 : decode cX12_most 12 = .ok (.iload_n 2, 1) := by decide +kernel
theorem dX12_most_13 : decode cX12_most 13 = .ok (.aload_n 0, 1) := by decide +kernel
theorem dX12_most_14 : decode cX12_most 14 = .ok (.iload_n 3, 1) := by decide +kernel
theorem dX12_most_15 : decode cX12_most 15 = .ok (.iload_n 1, 1) := by decide +kernel
theorem dX12_most_16 : decode cX12_most 16 = .ok (.invokevirtual 505, 3) := by decide +kernel
theorem dX12_most_19 : decode cX12_most 19 = .ok (.invokestatic 385, 3) := by decide +kernel
theorem dX12_most_22 : decode cX12_most 22 = .ok (.istore_n 2, 1) := by decide +kernel
theorem dX12_most_23 : decode cX12_most 23 = .ok (.iinc 3 1, 3) := by decide +kernel
theorem dX12_most_26 : decode cX12_most 26 = .ok (.goto (-22), 3) := by decide +kernel
theorem dX12_most_29 : decode cX12_most 29 = .ok (.iload_n 2, 1) := by decide +kernel
theorem dX12_most_30 : decode cX12_most 30 = .ok (.ireturn, 1) := by decide +kernel
theorem dX12_isFree_0 : decode cX12_isFree 0 = .ok (.aload_n 0, 1) := by decide +kernel
theorem dX12_isFree_1 : decode cX12_isFree 1 = .ok (.getfield 217, 3) := by decide +kernel
theorem dX12_isFree_4 : decode cX12_isFree 4 = .ok (.sipush 128, 3) := by decide +kernel
theorem dX12_isFree_7 : decode cX12_isFree 7 = .ok (.iload_n 1, 1) := by decide +kernel
theorem dX12_isFree_8 : decode cX12_isFree 8 = .ok (.imul, 1) := by decide +kernel
theorem dX12_isFree_9 : decode cX12_isFree 9 = .ok (.iload_n 2, 1) := by decide +kernel
theorem dX12_isFree_10 : decode cX12_isFree 10 = .ok (.iadd, 1) := by decide +kernel
theorem dX12_isFree_11 : decode cX12_isFree 11 = .ok (.iaload, 1) := by decide +kernel
theorem dX12_isFree_12 : decode cX12_isFree 12 = .ok (.iload_n 3, 1) := by decide +kernel
theorem dX12_isFree_13 : decode cX12_isFree 13 = .ok (.if_icmp .gt 7, 3) := by decide +kernel
theorem dX12_isFree_16 : decode cX12_isFree 16 = .ok (.iconst 1, 1) := by decide +kernel
theorem dX12_isFree_17 : decode cX12_isFree 17 = .ok (.goto 4, 3) := by decide +kernel
theorem dX12_isFree_20 : decode cX12_isFree 20 = .ok (.iconst 0, 1) := by decide +kernel
theorem dX12_isFree_21 : decode cX12_isFree 21 = .ok (.ireturn, 1) := by decide +kernel
theorem dX12_registers_0 : decode cX12_registers 0 = .ok (.iconst 0, 1) := by decide +kernel
theorem dX12_registers_1 : decode cX12_registers 1 = .ok (.istore_n 1, 1) := by decide +kernel
theorem dX12_registers_2 : decode cX12_registers 2 = .ok (.iload_n 1, 1) := by decide +kernel
theorem dX12_registers_3 : decode cX12_registers 3 = .ok (.sipush 256, 3) := by decide +kernel
theorem dX12_registers_6 : decode cX12_registers 6 = .ok (.if_icmp .ge 16, 3) := by decide +kernel
theorem dX12_registers_9 : decode cX12_registers 9 = .ok (.aload_n 0, 1) := by decide +kernel
theorem dX12_registers_10 : decode cX12_registers 10 = .ok (.getfield 217, 3) := by decide +kernel
theorem dX12_registers_13 : decode cX12_registers 13 = .ok (.iload_n 1, 1) := by decide +kernel
theorem dX12_registers_14 : decode cX12_registers 14 = .ok (.iconst 0, 1) := by decide +kernel
theorem dX12_registers_15 : decode cX12_registers 15 = .ok (.iastore, 1) := by decide +kernel
theorem dX12_registers_16 : decode cX12_registers 16 = .ok (.iinc 1 1, 3) := by decide +kernel
theorem dX12_registers_19 : decode cX12_registers 19 = .ok (.goto (-17), 3) := by decide +kernel
theorem dX12_registers_22 : decode cX12_registers 22 = .ok (.aload_n 0, 1) := by decide +kernel
theorem dX12_registers_23 : decode cX12_registers 23 = .ok (.getfield 214, 3) := by decide +kernel
theorem dX12_registers_26 : decode cX12_registers 26 = .ok (.iconst 0, 1) := by decide +kernel
theorem dX12_registers_27 : decode cX12_registers 27 = .ok (.iconst 0, 1) := by decide +kernel
theorem dX12_registers_28 : decode cX12_registers 28 = .ok (.iastore, 1) := by decide +kernel
theorem dX12_registers_29 : decode cX12_registers 29 = .ok (.aload_n 0, 1) := by decide +kernel
theorem dX12_registers_30 : decode cX12_registers 30 = .ok (.getfield 214, 3) := by decide +kernel
theorem dX12_registers_33 : decode cX12_registers 33 = .ok (.iconst 1, 1) := by decide +kernel
theorem dX12_registers_34 : decode cX12_registers 34 = .ok (.iconst 0, 1) := by decide +kernel
theorem dX12_registers_35 : decode cX12_registers 35 = .ok (.iastore, 1) := by decide +kernel
theorem dX12_registers_36 : decode cX12_registers 36 = .ok (.iconst 0, 1) := by decide +kernel
theorem dX12_registers_37 : decode cX12_registers 37 = .ok (.istore_n 1, 1) := by decide +kernel
theorem dX12_registers_38 : decode cX12_registers 38 = .ok (.iload_n 1, 1) := by decide +kernel
theorem dX12_registers_39 : decode cX12_registers 39 = .ok (.aload_n 0, 1) := by decide +kernel
theorem dX12_registers_40 : decode cX12_registers 40 = .ok (.getfield 489, 3) := by decide +kernel
theorem dX12_registers_43 : decode cX12_registers 43 = .ok (.if_icmp .ge 138, 3) := by decide +kernel
theorem dX12_registers_46 : decode cX12_registers 46 = .ok (.aload_n 0, 1) := by decide +kernel
theorem dX12_registers_47 : decode cX12_registers 47 = .ok (.getfield 199, 3) := by decide +kernel
theorem dX12_registers_50 : decode cX12_registers 50 = .ok (.iload_n 1, 1) := by decide +kernel
theorem dX12_registers_51 : decode cX12_registers 51 = .ok (.iaload, 1) := by decide +kernel
theorem dX12_registers_52 : decode cX12_registers 52 = .ok (.istore_n 2, 1) := by decide +kernel
theorem dX12_registers_53 : decode cX12_registers 53 = .ok (.aload_n 0, 1) := by decide +kernel
theorem dX12_registers_54 : decode cX12_registers 54 = .ok (.iload_n 2, 1) := by decide +kernel
theorem dX12_registers_55 : decode cX12_registers 55 = .ok (.invokevirtual 502, 3) := by decide +kernel
theorem dX12_registers_58 : decode cX12_registers 58 = .ok (.istore_n 3, 1) := by decide +kernel
theorem dX12_registers_59 : decode cX12_registers 59 = .ok (.aload_n 0, 1) := by decide +kernel
theorem dX12_registers_60 : decode cX12_registers 60 = .ok (.iload_n 2, 1) := by decide +kernel
theorem dX12_registers_61 : decode cX12_registers 61 = .ok (.invokevirtual 473, 3) := by decide +kernel
theorem dX12_registers_64 : decode cX12_registers 64 = .ok (.istore 4, 2) := by decide +kernel
theorem dX12_registers_66 : decode cX12_registers 66 = .ok (.iconst 0, 1) := by decide +kernel
theorem dX12_registers_67 : decode cX12_registers 67 = .ok (.istore 5, 2) := by decide +kernel
theorem dX12_registers_69 : decode cX12_registers 69 = .ok (.aload_n 0, 1) := by decide +kernel
theorem dX12_registers_70 : decode cX12_registers 70 = .ok (.iload_n 3, 1) := by decide +kernel
theorem dX12_registers_71 : decode cX12_registers 71 = .ok (.iload 5, 2) := by decide +kernel
theorem dX12_registers_73 : decode cX12_registers 73 = .ok (.iload_n 1, 1) := by decide +kernel
theorem dX12_registers_74 : decode cX12_registers 74 = .ok (.invokevirtual 508, 3) := by decide +kernel
theorem dX12_registers_77 : decode cX12_registers 77 = .ok (.ifCond .eq 22, 3) := by decide +kernel
theorem dX12_registers_80 : decode cX12_registers 80 = .ok (.iload 4, 2) := by decide +kernel
theorem dX12_registers_82 : decode cX12_registers 82 = .ok (.iconst 2, 1) := by decide +kernel
theorem dX12_registers_83 : decode cX12_registers 83 = .ok (.if_icmp .ne 26, 3) := by decide +kernel
theorem dX12_registers_86 : decode cX12_registers 86 = .ok (.aload_n 0, 1) := by decide +kernel
theorem dX12_registers_87 : decode cX12_registers 87 = .ok (.iload_n 3, 1) := by decide +kernel
theorem dX12_registers_88 : decode cX12_registers 88 = .ok (.iload 5, 2) := by decide +kernel
theorem dX12_registers_90 : decode cX12_registers 90 = .ok (.iconst 1, 1) := by decide +kernel
theorem dX12_registers_91 : decode cX12_registers 91 = .ok (.iadd, 1) := by decide +kernel
theorem dX12_registers_92 : decode cX12_registers 92 = .ok (.iload_n 1, 1) := by decide +kernel
theorem dX12_registers_93 : decode cX12_registers 93 = .ok (.invokevirtual 508, 3) := by decide +kernel
theorem dX12_registers_96 : decode cX12_registers 96 = .ok (.ifCond .ne 13, 3) := by decide +kernel
theorem dX12_registers_99 : decode cX12_registers 99 = .ok (.iload 5, 2) := by decide +kernel
theorem dX12_registers_101 : decode cX12_registers 101 = .ok (.iload 4, 2) := by decide +kernel
theorem dX12_registers_103 : decode cX12_registers 103 = .ok (.iadd, 1) := by decide +kernel
theorem dX12_registers_104 : decode cX12_registers 104 = .ok (.istore 5, 2) := by decide +kernel
theorem dX12_registers_106 : decode cX12_registers 106 = .ok (.goto (-37), 3) := by decide +kernel
theorem dX12_registers_109 : decode cX12_registers 109 = .ok (.aload_n 0, 1) := by decide +kernel
theorem dX12_registers_110 : decode cX12_registers 110 = .ok (.getfield 208, 3) := by decide +kernel
theorem dX12_registers_113 : decode cX12_registers 113 = .ok (.iload_n 2, 1) := by decide +kernel
theorem dX12_registers_114 : decode cX12_registers 114 = .ok (.iload 5, 2) := by decide +kernel
theorem dX12_registers_116 : decode cX12_registers 116 = .ok (.iastore, 1) := by decide +kernel
theorem dX12_registers_117 : decode cX12_registers 117 = .ok (.iconst 0, 1) := by decide +kernel
theorem dX12_registers_118 : decode cX12_registers 118 = .ok (.istore 6, 2) := by decide +kernel
theorem dX12_registers_120 : decode cX12_registers 120 = .ok (.iload 6, 2) := by decide +kernel
theorem dX12_registers_122 : decode cX12_registers 122 = .ok (.iload 4, 2) := by decide +kernel
theorem dX12_registers_124 : decode cX12_registers 124 = .ok (.if_icmp .ge 31, 3) := by decide +kernel
theorem dX12_registers_127 : decode cX12_registers 127 = .ok (.aload_n 0, 1) := by decide +kernel
theorem dX12_registers_128 : decode cX12_registers 128 = .ok (.getfield 217, 3) := by decide +kernel
theorem dX12_registers_131 : decode cX12_registers 131 = .ok (.sipush 128, 3) := by decide +kernel
theorem dX12_registers_134 : decode cX12_registers 134 = .ok (.iload_n 3, 1) := by decide +kernel
theorem dX12_registers_135 : decode cX12_registers 135 = .ok (.imul, 1) := by decide +kernel
theorem dX12_registers_136 : decode cX12_registers 136 = .ok (.iload 5, 2) := by decide +kernel
theorem dX12_registers_138 : decode cX12_registers 138 = .ok (.iadd, 1) := by decide +kernel
theorem dX12_registers_139 : decode cX12_registers 139 = .ok (.iload 6, 2) := by decide +kernel
theorem dX12_registers_141 : decode cX12_registers 141 = .ok (.iadd, 1) := by decide +kernel
theorem dX12_registers_142 : decode cX12_registers 142 = .ok (.aload_n 0, 1) := by decide +kernel
theorem dX12_registers_143 : decode cX12_registers 143 = .ok (.getfield 205, 3) := by decide +kernel
theorem dX12_registers_146 : decode cX12_registers 146 = .ok (.iload_n 2, 1) := by decide +kernel
theorem dX12_registers_147 : decode cX12_registers 147 = .ok (.iaload, 1) := by decide +kernel
theorem dX12_registers_148 : decode cX12_registers 148 = .ok (.iastore, 1) := by decide +kernel
theorem dX12_registers_149 : decode cX12_registers 149 = .ok (.iinc 6 1, 3) := by decide +kernel
theorem dX12_registers_152 : decode cX12_registers 152 = .ok (.goto (-32), 3) := by decide +kernel
theorem dX12_registers_155 : decode cX12_registers 155 = .ok (.aload_n 0, 1) := by decide +kernel
theorem dX12_registers_156 : decode cX12_registers 156 = .ok (.getfield 214, 3) := by decide +kernel
theorem dX12_registers_159 : decode cX12_registers 159 = .ok (.iload_n 3, 1) := by decide +kernel
theorem dX12_registers_160 : decode cX12_registers 160 = .ok (.aload_n 0, 1) := by decide +kernel
theorem dX12_registers_161 : decode cX12_registers 161 = .ok (.getfield 214, 3) := by decide +kernel
theorem dX12_registers_164 : decode cX12_registers 164 = .ok (.iload_n 3, 1) := by decide +kernel
theorem dX12_registers_165 : decode cX12_registers 165 = .ok (.iaload, 1) := by decide +kernel
theorem dX12_registers_166 : decode cX12_registers 166 = .ok (.iload 5, 2) := by decide +kernel
theorem dX12_registers_168 : decode cX12_registers 168 = .ok (.iload 4, 2) := by decide +kernel
theorem dX12_registers_170 : decode cX12_registers 170 = .ok (.iadd, 1) := by decide +kernel
theorem dX12_registers_171 : decode cX12_registers 171 = .ok (.invokestatic 385, 3) := by decide +kernel
theorem dX12_registers_174 : decode cX12_registers 174 = .ok (.iastore, 1) := by decide +kernel
theorem dX12_registers_175 : decode cX12_registers 175 = .ok (.iinc 1 1, 3) := by decide +kernel
theorem dX12_registers_178 : decode cX12_registers 178 = .ok (.goto (-140), 3) := by decide +kernel
theorem dX12_registers_181 : decode cX12_registers 181 = .ok (.return_, 1) := by decide +kernel
theorem dX12_costOf_0 : decode cX12_costOf 0 = .ok (.aload_n 0, 1) := by decide +kernel
theorem dX12_costOf_1 : decode cX12_costOf 1 = .ok (.iload_n 1, 1) := by decide +kernel
theorem dX12_costOf_2 : decode cX12_costOf 2 = .ok (.invokevirtual 473, 3) := by decide +kernel
theorem dX12_costOf_5 : decode cX12_costOf 5 = .ok (.istore_n 2, 1) := by decide +kernel
theorem dX12_costOf_6 : decode cX12_costOf 6 = .ok (.aload_n 0, 1) := by decide +kernel
theorem dX12_costOf_7 : decode cX12_costOf 7 = .ok (.getfield 181, 3) := by decide +kernel
theorem dX12_costOf_10 : decode cX12_costOf 10 = .ok (.iload_n 1, 1) := by decide +kernel
theorem dX12_costOf_11 : decode cX12_costOf 11 = .ok (.baload, 1) := by decide +kernel
theorem dX12_costOf_12 : decode cX12_costOf 12 = .ok (.ifCond .ne 11, 3) := by decide +kernel
theorem dX12_costOf_15 : decode cX12_costOf 15 = .ok (.aload_n 0, 1) := by decide +kernel
theorem dX12_costOf_16 : decode cX12_costOf 16 = .ok (.iload_n 1, 1) := by decide +kernel
theorem dX12_costOf_17 : decode cX12_costOf 17 = .ok (.invokevirtual 391, 3) := by decide +kernel
theorem dX12_costOf_20 : decode cX12_costOf 20 = .ok (.ifCond .ne 7, 3) := by decide +kernel
theorem dX12_costOf_23 : decode cX12_costOf 23 = .ok (.iconst 1, 1) := by decide +kernel
theorem dX12_costOf_24 : decode cX12_costOf 24 = .ok (.goto 19, 3) := by decide +kernel
theorem dX12_costOf_27 : decode cX12_costOf 27 = .ok (.aload_n 0, 1) := by decide +kernel
theorem dX12_costOf_28 : decode cX12_costOf 28 = .ok (.iload_n 1, 1) := by decide +kernel
theorem dX12_costOf_29 : decode cX12_costOf 29 = .ok (.invokevirtual 391, 3) := by decide +kernel
theorem dX12_costOf_32 : decode cX12_costOf 32 = .ok (.iconst 4, 1) := by decide +kernel
theorem dX12_costOf_33 : decode cX12_costOf 33 = .ok (.if_icmp .ne 9, 3) := by decide +kernel
theorem dX12_costOf_36 : decode cX12_costOf 36 = .ok (.iconst 2, 1) := by decide +kernel
theorem dX12_costOf_37 : decode cX12_costOf 37 = .ok (.iload_n 2, 1) := by decide +kernel
theorem dX12_costOf_38 : decode cX12_costOf 38 = .ok (.imul, 1) := by decide +kernel
theorem dX12_costOf_39 : decode cX12_costOf 39 = .ok (.goto 4, 3) := by decide +kernel
theorem dX12_costOf_42 : decode cX12_costOf 42 = .ok (.iload_n 2, 1) := by decide +kernel
theorem dX12_costOf_43 : decode cX12_costOf 43 = .ok (.ireturn, 1) := by decide +kernel
theorem dX12_cuts_0 : decode cX12_cuts 0 = .ok (.aload_n 0, 1) := by decide +kernel
theorem dX12_cuts_1 : decode cX12_cuts 1 = .ok (.iconst 0, 1) := by decide +kernel
theorem dX12_cuts_2 : decode cX12_cuts 2 = .ok (.putfield 511, 3) := by decide +kernel
theorem dX12_cuts_5 : decode cX12_cuts 5 = .ok (.aload_n 0, 1) := by decide +kernel
theorem dX12_cuts_6 : decode cX12_cuts 6 = .ok (.iconst 0, 1) := by decide +kernel
theorem dX12_cuts_7 : decode cX12_cuts 7 = .ok (.putfield 514, 3) := by decide +kernel
theorem dX12_cuts_10 : decode cX12_cuts 10 = .ok (.lconst 0, 1) := by decide +kernel
theorem dX12_cuts_11 : decode cX12_cuts 11 = .ok (.lstore_n 1, 1) := by decide +kernel
theorem dX12_cuts_12 : decode cX12_cuts 12 = .ok (.iconst 0, 1) := by decide +kernel
theorem dX12_cuts_13 : decode cX12_cuts 13 = .ok (.istore_n 3, 1) := by decide +kernel
theorem dX12_cuts_14 : decode cX12_cuts 14 = .ok (.iload_n 3, 1) := by decide +kernel
theorem dX12_cuts_15 : decode cX12_cuts 15 = .ok (.aload_n 0, 1) := by decide +kernel
theorem dX12_cuts_16 : decode cX12_cuts 16 = .ok (.getfield 489, 3) := by decide +kernel
theorem dX12_cuts_19 : decode cX12_cuts 19 = .ok (.if_icmp .ge 287, 3) := by decide +kernel
theorem dX12_cuts_22 : decode cX12_cuts 22 = .ok (.aload_n 0, 1) := by decide +kernel
theorem dX12_cuts_23 : decode cX12_cuts 23 = .ok (.getfield 199, 3) := by decide +kernel
theorem dX12_cuts_26 : decode cX12_cuts 26 = .ok (.iload_n 3, 1) := by decide +kernel
theorem dX12_cuts_27 : decode cX12_cuts 27 = .ok (.iaload, 1) := by decide +kernel
theorem dX12_cuts_28 : decode cX12_cuts 28 = .ok (.istore 4, 2) := by decide +kernel
theorem dX12_cuts_30 : decode cX12_cuts 30 = .ok (.aload_n 0, 1) := by decide +kernel
theorem dX12_cuts_31 : decode cX12_cuts 31 = .ok (.iload 4, 2) := by decide +kernel
theorem dX12_cuts_33 : decode cX12_cuts 33 = .ok (.invokevirtual 391, 3) := by decide +kernel
theorem dX12_cuts_36 : decode cX12_cuts 36 = .ok (.bipush 7, 2) := by decide +kernel
theorem dX12_cuts_38 : decode cX12_cuts 38 = .ok (.if_icmp .ne 7, 3) := by decide +kernel
theorem dX12_cuts_41 : decode cX12_cuts 41 = .ok (.iconst 1, 1) := by decide +kernel
theorem dX12_cuts_42 : decode cX12_cuts 42 = .ok (.goto 4, 3) := by decide +kernel
theorem dX12_cuts_45 : decode cX12_cuts 45 = .ok (.iconst 0, 1) := by decide +kernel
theorem dX12_cuts_46 : decode cX12_cuts 46 = .ok (.istore 5, 2) := by decide +kernel
theorem dX12_cuts_48 : decode cX12_cuts 48 = .ok (.iconst 4, 1) := by decide +kernel
theorem dX12_cuts_49 : decode cX12_cuts 49 = .ok (.aload_n 0, 1) := by decide +kernel
theorem dX12_cuts_50 : decode cX12_cuts 50 = .ok (.getfield 511, 3) := by decide +kernel
theorem dX12_cuts_53 : decode cX12_cuts 53 = .ok (.iconst 1, 1) := by decide +kernel
theorem dX12_cuts_54 : decode cX12_cuts 54 = .ok (.isub, 1) := by decide +kernel
theorem dX12_cuts_55 : decode cX12_cuts 55 = .ok (.imul, 1) := by decide +kernel
theorem dX12_cuts_56 : decode cX12_cuts 56 = .ok (.istore 6, 2) := by decide +kernel
theorem dX12_cuts_58 : decode cX12_cuts 58 = .ok (.aload_n 0, 1) := by decide +kernel
theorem dX12_cuts_59 : decode cX12_cuts 59 = .ok (.getfield 511, 3) := by decide +kernel
theorem dX12_cuts_62 : decode cX12_cuts 62 = .ok (.ifCond .le 66, 3) := by decide +kernel
theorem dX12_cuts_65 : decode cX12_cuts 65 = .ok (.aload_n 0, 1) := by decide +kernel
theorem dX12_cuts_66 : decode cX12_cuts 66 = .ok (.getfield 220, 3) := by decide +kernel
theorem dX12_cuts_69 : decode cX12_cuts 69 = .ok (.iload 6, 2) := by decide +kernel
theorem dX12_cuts_71 : decode cX12_cuts 71 = .ok (.iaload, 1) := by decide +kernel
theorem dX12_cuts_72 : decode cX12_cuts 72 = .ok (.iload 5, 2) := by decide +kernel
theorem dX12_cuts_74 : decode cX12_cuts 74 = .ok (.if_icmp .ne 54, 3) := by decide +kernel
theorem dX12_cuts_77 : decode cX12_cuts 77 = .ok (.aload_n 0, 1) := by decide +kernel
theorem dX12_cuts_78 : decode cX12_cuts 78 = .ok (.getfield 220, 3) := by decide +kernel
theorem dX12_cuts_81 : decode cX12_cuts 81 = .ok (.iload 6, 2) := by decide +kernel
theorem dX12_cuts_83 : decode cX12_cuts 83 = .ok (.iconst 2, 1) := by decide +kernel
theorem dX12_cuts_84 : decode cX12_cuts 84 = .ok (.iadd, 1) := by decide +kernel
theorem dX12_cuts_85 : decode cX12_cuts 85 = .ok (.iaload, 1) := by decide +kernel
theorem dX12_cuts_86 : decode cX12_cuts 86 = .ok (.aload_n 0, 1) := by decide +kernel
theorem dX12_cuts_87 : decode cX12_cuts 87 = .ok (.getfield 126, 3) := by decide +kernel
theorem dX12_cuts_90 : decode cX12_cuts 90 = .ok (.iload 5, 2) := by decide +kernel
theorem dX12_cuts_92 : decode cX12_cuts 92 = .ok (.iconst 1, 1) := by decide +kernel
theorem dX12_cuts_93 : decode cX12_cuts 93 = .ok (.if_icmp .ne 7, 3) := by decide +kernel
theorem dX12_cuts_96 : decode cX12_cuts 96 = .ok (.iconst 3, 1) := by decide +kernel
theorem dX12_cuts_97 : decode cX12_cuts 97 = .ok (.goto 4, 3) := by decide +kernel
theorem dX12_cuts_100 : decode cX12_cuts 100 = .ok (.iconst 4, 1) := by decide +kernel
theorem dX12_cuts_101 : decode cX12_cuts 101 = .ok (.iaload, 1) := by decide +kernel
theorem dX12_cuts_102 : decode cX12_cuts 102 = .ok (.if_icmp .ge 26, 3) := by decide +kernel
theorem dX12_cuts_105 : decode cX12_cuts 105 = .ok (.iload 5, 2) := by decide +kernel
theorem dX12_cuts_107 : decode cX12_cuts 107 = .ok (.ifCond .eq 17, 3) := by decide +kernel
theorem dX12_cuts_110 : decode cX12_cuts 110 = .ok (.aload_n 0, 1) := by decide +kernel
theorem dX12_cuts_111 : decode cX12_cuts 111 = .ok (.getfield 190, 3) := by decide +kernel
theorem dX12_cuts_114 : decode cX12_cuts 114 = .ok (.iload 4, 2) := by decide +kernel
theorem dX12_cuts_116 : decode cX12_cuts 116 = .ok (.laload, 1) := by decide +kernel
theorem dX12_cuts_117 : decode cX12_cuts 117 = .ok (.lload_n 1, 1) := by decide +kernel
theorem dX12_cuts_118 : decode cX12_cuts 118 = .ok (.land, 1) := by decide +kernel
theorem dX12_cuts_119 : decode cX12_cuts 119 = .ok (.lconst 0, 1) := by decide +kernel
theorem dX12_cuts_120 : decode cX12_cuts 120 = .ok (.lcmp, 1) := by decide +kernel
theorem dX12_cuts_121 : decode cX12_cuts 121 = .ok (.ifCond .ne 7, 3) := by decide +kernel
theorem dX12_cuts_124 : decode cX12_cuts 124 = .ok (.iconst 1, 1) := by decide +kernel
theorem dX12_cuts_125 : decode cX12_cuts 125 = .ok (.goto 4, 3) := by decide +kernel
theorem dX12_cuts_128 : decode cX12_cuts 128 = .ok (.iconst 0, 1) := by decide +kernel
theorem dX12_cuts_129 : decode cX12_cuts 129 = .ok (.istore 7, 2) := by decide +kernel
theorem dX12_cuts_131 : decode cX12_cuts 131 = .ok (.iload 7, 2) := by decide +kernel
theorem dX12_cuts_133 : decode cX12_cuts 133 = .ok (.ifCond .ne 91, 3) := by decide +kernel
theorem dX12_cuts_136 : decode cX12_cuts 136 = .ok (.iconst 4, 1) := by decide +kernel
theorem dX12_cuts_137 : decode cX12_cuts 137 = .ok (.aload_n 0, 1) := by decide +kernel
theorem dX12_cuts_138 : decode cX12_cuts 138 = .ok (.getfield 511, 3) := by decide +kernel
theorem dX12_cuts_141 : decode cX12_cuts 141 = .ok (.imul, 1) := by decide +kernel
theorem dX12_cuts_142 : decode cX12_cuts 142 = .ok (.istore 6, 2) := by decide +kernel
theorem dX12_cuts_144 : decode cX12_cuts 144 = .ok (.aload_n 0, 1) := by decide +kernel
theorem dX12_cuts_145 : decode cX12_cuts 145 = .ok (.dup, 1) := by decide +kernel
theorem dX12_cuts_146 : decode cX12_cuts 146 = .ok (.getfield 511, 3) := by decide +kernel
theorem dX12_cuts_149 : decode cX12_cuts 149 = .ok (.iconst 1, 1) := by decide +kernel
theorem dX12_cuts_150 : decode cX12_cuts 150 = .ok (.iadd, 1) := by decide +kernel
theorem dX12_cuts_151 : decode cX12_cuts 151 = .ok (.putfield 511, 3) := by decide +kernel
theorem dX12_cuts_154 : decode cX12_cuts 154 = .ok (.aload_n 0, 1) := by decide +kernel
theorem dX12_cuts_155 : decode cX12_cuts 155 = .ok (.getfield 220, 3) := by decide +kernel
theorem dX12_cuts_158 : decode cX12_cuts 158 = .ok (.iload 6, 2) := by decide +kernel
theorem dX12_cuts_160 : decode cX12_cuts 160 = .ok (.iload 5, 2) := by decide +kernel
theorem dX12_cuts_162 : decode cX12_cuts 162 = .ok (.iastore, 1) := by decide +kernel
theorem dX12_cuts_163 : decode cX12_cuts 163 = .ok (.aload_n 0, 1) := by decide +kernel
theorem dX12_cuts_164 : decode cX12_cuts 164 = .ok (.getfield 220, 3) := by decide +kernel
theorem dX12_cuts_167 : decode cX12_cuts 167 = .ok (.iload 6, 2) := by decide +kernel
theorem dX12_cuts_169 : decode cX12_cuts 169 = .ok (.iconst 1, 1) := by decide +kernel
theorem dX12_cuts_170 : decode cX12_cuts 170 = .ok (.iadd, 1) := by decide +kernel
theorem dX12_cuts_171 : decode cX12_cuts 171 = .ok (.iload_n 3, 1) := by decide +kernel
theorem dX12_cuts_172 : decode cX12_cuts 172 = .ok (.iastore, 1) := by decide +kernel
theorem dX12_cuts_173 : decode cX12_cuts 173 = .ok (.aload_n 0, 1) := by decide +kernel
theorem dX12_cuts_174 : decode cX12_cuts 174 = .ok (.getfield 220, 3) := by decide +kernel
theorem dX12_cuts_177 : decode cX12_cuts 177 = .ok (.iload 6, 2) := by decide +kernel
theorem dX12_cuts_179 : decode cX12_cuts 179 = .ok (.iconst 2, 1) := by decide +kernel
theorem dX12_cuts_180 : decode cX12_cuts 180 = .ok (.iadd, 1) := by decide +kernel
theorem dX12_cuts_181 : decode cX12_cuts 181 = .ok (.iconst 0, 1) := by decide +kernel
theorem dX12_cuts_182 : decode cX12_cuts 182 = .ok (.iastore, 1) := by decide +kernel
theorem dX12_cuts_183 : decode cX12_cuts 183 = .ok (.aload_n 0, 1) := by decide +kernel
theorem dX12_cuts_184 : decode cX12_cuts 184 = .ok (.getfield 220, 3) := by decide +kernel
theorem dX12_cuts_187 : decode cX12_cuts 187 = .ok (.iload 6, 2) := by decide +kernel
theorem dX12_cuts_189 : decode cX12_cuts 189 = .ok (.iconst 3, 1) := by decide +kernel
theorem dX12_cuts_190 : decode cX12_cuts 190 = .ok (.iadd, 1) := by decide +kernel
theorem dX12_cuts_191 : decode cX12_cuts 191 = .ok (.iload 5, 2) := by decide +kernel
theorem dX12_cuts_193 : decode cX12_cuts 193 = .ok (.iconst 1, 1) := by decide +kernel
theorem dX12_cuts_194 : decode cX12_cuts 194 = .ok (.if_icmp .ne 8, 3) := by decide +kernel
theorem dX12_cuts_197 : decode cX12_cuts 197 = .ok (.bipush 12, 2) := by decide +kernel
theorem dX12_cuts_199 : decode cX12_cuts 199 = .ok (.goto 4, 3) := by decide +kernel
theorem dX12_cuts_202 : decode cX12_cuts 202 = .ok (.iconst 2, 1) := by decide +kernel
theorem dX12_cuts_203 : decode cX12_cuts 203 = .ok (.iastore, 1) := by decide +kernel
theorem dX12_cuts_204 : decode cX12_cuts 204 = .ok (.aload_n 0, 1) := by decide +kernel
theorem dX12_cuts_205 : decode cX12_cuts 205 = .ok (.dup, 1) := by decide +kernel
theorem dX12_cuts_206 : decode cX12_cuts 206 = .ok (.getfield 514, 3) := by decide +kernel
theorem dX12_cuts_209 : decode cX12_cuts 209 = .ok (.aload_n 0, 1) := by decide +kernel
theorem dX12_cuts_210 : decode cX12_cuts 210 = .ok (.getfield 220, 3) := by decide +kernel
theorem dX12_cuts_213 : decode cX12_cuts 213 = .ok (.iload 6, 2) := by decide +kernel
theorem dX12_cuts_215 : decode cX12_cuts 215 = .ok (.iconst 3, 1) := by decide +kernel
theorem dX12_cuts_216 : decode cX12_cuts 216 = .ok (.iadd, 1) := by decide +kernel
theorem dX12_cuts_217 : decode cX12_cuts 217 = .ok (.iaload, 1) := by decide +kernel
theorem dX12_cuts_218 : decode cX12_cuts 218 = .ok (.iadd, 1) := by decide +kernel
theorem dX12_cuts_219 : decode cX12_cuts 219 = .ok (.putfield 514, 3) := by decide +kernel
theorem dX12_cuts_222 : decode cX12_cuts 222 = .ok (.lconst 0, 1) := by decide +kernel
theorem dX12_cuts_223 : decode cX12_cuts 223 = .ok (.lstore_n 1, 1) := by decide +kernel
theorem dX12_cuts_224 : decode cX12_cuts 224 = .ok (.iload 5, 2) := by decide +kernel
theorem dX12_cuts_226 : decode cX12_cuts 226 = .ok (.iconst 1, 1) := by decide +kernel
theorem dX12_cuts_227 : decode cX12_cuts 227 = .ok (.if_icmp .ne 7, 3) := by decide +kernel
theorem dX12_cuts_230 : decode cX12_cuts 230 = .ok (.iconst 2, 1) := by decide +kernel
theorem dX12_cuts_231 : decode cX12_cuts 231 = .ok (.goto 9, 3) := by decide +kernel
theorem dX12_cuts_234 : decode cX12_cuts 234 = .ok (.aload_n 0, 1) := by decide +kernel
theorem dX12_cuts_235 : decode cX12_cuts 235 = .ok (.iload 4, 2) := by decide +kernel
theorem dX12_cuts_237 : decode cX12_cuts 237 = .ok (.invokevirtual 517, 3) := by decide +kernel
theorem dX12_cuts_240 : decode cX12_cuts 240 = .ok (.istore 8, 2) := by decide +kernel
theorem dX12_cuts_242 : decode cX12_cuts 242 = .ok (.aload_n 0, 1) := by decide +kernel
theorem dX12_cuts_243 : decode cX12_cuts 243 = .ok (.getfield 220, 3) := by decide +kernel
theorem dX12_cuts_246 : decode cX12_cuts 246 = .ok (.iload 6, 2) := by decide +kernel
theorem dX12_cuts_248 : decode cX12_cuts 248 = .ok (.iconst 2, 1) := by decide +kernel
theorem dX12_cuts_249 : decode cX12_cuts 249 = .ok (.iadd, 1) := by decide +kernel
theorem dX12_cuts_250 : decode cX12_cuts 250 = .ok (.dup2, 1) := by decide +kernel
theorem dX12_cuts_251 : decode cX12_cuts 251 = .ok (.iaload, 1) := by decide +kernel
theorem dX12_cuts_252 : decode cX12_cuts 252 = .ok (.iconst 1, 1) := by decide +kernel
theorem dX12_cuts_253 : decode cX12_cuts 253 = .ok (.iadd, 1) := by decide +kernel
theorem dX12_cuts_254 : decode cX12_cuts 254 = .ok (.iastore, 1) := by decide +kernel
theorem dX12_cuts_255 : decode cX12_cuts 255 = .ok (.aload_n 0, 1) := by decide +kernel
theorem dX12_cuts_256 : decode cX12_cuts 256 = .ok (.getfield 220, 3) := by decide +kernel
theorem dX12_cuts_259 : decode cX12_cuts 259 = .ok (.iload 6, 2) := by decide +kernel
theorem dX12_cuts_261 : decode cX12_cuts 261 = .ok (.iconst 3, 1) := by decide +kernel
theorem dX12_cuts_262 : decode cX12_cuts 262 = .ok (.iadd, 1) := by decide +kernel
theorem dX12_cuts_263 : decode cX12_cuts 263 = .ok (.dup2, 1) := by decide +kernel
theorem dX12_cuts_264 : decode cX12_cuts 264 = .ok (.iaload, 1) := by decide +kernel
theorem dX12_cuts_265 : decode cX12_cuts 265 = .ok (.iload 8, 2) := by decide +kernel
theorem dX12_cuts_267 : decode cX12_cuts 267 = .ok (.iadd, 1) := by decide +kernel
theorem dX12_cuts_268 : decode cX12_cuts 268 = .ok (.iastore, 1) := by decide +kernel
theorem dX12_cuts_269 : decode cX12_cuts 269 = .ok (.aload_n 0, 1) := by decide +kernel
theorem dX12_cuts_270 : decode cX12_cuts 270 = .ok (.dup, 1) := by decide +kernel
theorem dX12_cuts_271 : decode cX12_cuts 271 = .ok (.getfield 514, 3) := by decide +kernel
theorem dX12_cuts_274 : decode cX12_cuts 274 = .ok (.iload 8, 2) := by decide +kernel
theorem dX12_cuts_276 : decode cX12_cuts 276 = .ok (.iadd, 1) := by decide +kernel
theorem dX12_cuts_277 : decode cX12_cuts 277 = .ok (.putfield 514, 3) := by decide +kernel
theorem dX12_cuts_280 : decode cX12_cuts 280 = .ok (.aload_n 0, 1) := by decide +kernel
theorem dX12_cuts_281 : decode cX12_cuts 281 = .ok (.getfield 211, 3) := by decide +kernel
theorem dX12_cuts_284 : decode cX12_cuts 284 = .ok (.iload 4, 2) := by decide +kernel
theorem dX12_cuts_286 : decode cX12_cuts 286 = .ok (.aload_n 0, 1) := by decide +kernel
theorem dX12_cuts_287 : decode cX12_cuts 287 = .ok (.getfield 511, 3) := by decide +kernel
theorem dX12_cuts_290 : decode cX12_cuts 290 = .ok (.iconst 1, 1) := by decide +kernel
theorem dX12_cuts_291 : decode cX12_cuts 291 = .ok (.isub, 1) := by decide +kernel
theorem dX12_cuts_292 : decode cX12_cuts 292 = .ok (.iastore, 1) := by decide +kernel
theorem dX12_cuts_293 : decode cX12_cuts 293 = .ok (.lload_n 1, 1) := by decide +kernel
theorem dX12_cuts_294 : decode cX12_cuts 294 = .ok (.lconst 1, 1) := by decide +kernel
theorem dX12_cuts_295 : decode cX12_cuts 295 = .ok (.iload 4, 2) := by decide +kernel
theorem dX12_cuts_297 : decode cX12_cuts 297 = .ok (.lshl, 1) := by decide +kernel
theorem dX12_cuts_298 : decode cX12_cuts 298 = .ok (.lor, 1) := by decide +kernel
theorem dX12_cuts_299 : decode cX12_cuts 299 = .ok (.lstore_n 1, 1) := by decide +kernel
theorem dX12_cuts_300 : decode cX12_cuts 300 = .ok (.iinc 3 1, 3) := by decide +kernel
theorem dX12_cuts_303 : decode cX12_cuts 303 = .ok (.goto (-289), 3) := by decide +kernel
theorem dX12_cuts_306 : decode cX12_cuts 306 = .ok (.return_, 1) := by decide +kernel
theorem dX12_plans_0 : decode cX12_plans 0 = .ok (.aload_n 0, 1) := by decide +kernel
theorem dX12_plans_1 : decode cX12_plans 1 = .ok (.invokevirtual 470, 3) := by decide +kernel
theorem dX12_plans_4 : decode cX12_plans 4 = .ok (.aload_n 0, 1) := by decide +kernel
theorem dX12_plans_5 : decode cX12_plans 5 = .ok (.aload_n 0, 1) := by decide +kernel
theorem dX12_plans_6 : decode cX12_plans 6 = .ok (.getfield 365, 3) := by decide +kernel
theorem dX12_plans_9 : decode cX12_plans 9 = .ok (.invokevirtual 520, 3) := by decide +kernel
theorem dX12_plans_12 : decode cX12_plans 12 = .ok (.aload_n 0, 1) := by decide +kernel
theorem dX12_plans_13 : decode cX12_plans 13 = .ok (.invokevirtual 523, 3) := by decide +kernel
theorem dX12_plans_16 : decode cX12_plans 16 = .ok (.return_, 1) := by decide +kernel
theorem dX12_order_0 : decode cX12_order 0 = .ok (.aload_n 0, 1) := by decide +kernel
theorem dX12_order_1 : decode cX12_order 1 = .ok (.iconst 0, 1) := by decide +kernel
theorem dX12_order_2 : decode cX12_order 2 = .ok (.putfield 1, 3) := by decide +kernel
theorem dX12_order_5 : decode cX12_order 5 = .ok (.aload_n 0, 1) := by decide +kernel
theorem dX12_order_6 : decode cX12_order 6 = .ok (.invokevirtual 526, 3) := by decide +kernel
theorem dX12_order_9 : decode cX12_order 9 = .ok (.iload_n 1, 1) := by decide +kernel
theorem dX12_order_10 : decode cX12_order 10 = .ok (.iconst 0, 1) := by decide +kernel
theorem dX12_order_11 : decode cX12_order 11 = .ok (.aload_n 0, 1) := by decide +kernel
theorem dX12_order_12 : decode cX12_order 12 = .ok (.getfield 489, 3) := by decide +kernel
theorem dX12_order_15 : decode cX12_order 15 = .ok (.iconst 1, 1) := by decide +kernel
theorem dX12_order_16 : decode cX12_order 16 = .ok (.isub, 1) := by decide +kernel
theorem dX12_order_17 : decode cX12_order 17 = .ok (.invokestatic 355, 3) := by decide +kernel
theorem dX12_order_20 : decode cX12_order 20 = .ok (.ifCond .eq 12, 3) := by decide +kernel
theorem dX12_order_23 : decode cX12_order 23 = .ok (.aload_n 0, 1) := by decide +kernel
theorem dX12_order_24 : decode cX12_order 24 = .ok (.getfield 199, 3) := by decide +kernel
theorem dX12_order_27 : decode cX12_order 27 = .ok (.iload_n 1, 1) := by decide +kernel
theorem dX12_order_28 : decode cX12_order 28 = .ok (.iaload, 1) := by decide +kernel
theorem dX12_order_29 : decode cX12_order 29 = .ok (.goto 4, 3) := by decide +kernel
theorem dX12_order_32 : decode cX12_order 32 = .ok (.iconst (-1), 1) := by decide +kernel
theorem dX12_order_33 : decode cX12_order 33 = .ok (.ireturn, 1) := by decide +kernel
theorem dX12_place_0 : decode cX12_place 0 = .ok (.aload_n 0, 1) := by decide +kernel
theorem dX12_place_1 : decode cX12_place 1 = .ok (.iconst 0, 1) := by decide +kernel
theorem dX12_place_2 : decode cX12_place 2 = .ok (.putfield 1, 3) := by decide +kernel
theorem dX12_place_5 : decode cX12_place 5 = .ok (.aload_n 0, 1) := by decide +kernel
theorem dX12_place_6 : decode cX12_place 6 = .ok (.invokevirtual 526, 3) := by decide +kernel
theorem dX12_place_9 : decode cX12_place 9 = .ok (.aload_n 0, 1) := by decide +kernel
theorem dX12_place_10 : decode cX12_place 10 = .ok (.iload_n 1, 1) := by decide +kernel
theorem dX12_place_11 : decode cX12_place 11 = .ok (.invokevirtual 476, 3) := by decide +kernel
theorem dX12_place_14 : decode cX12_place 14 = .ok (.ifCond .ne 5, 3) := by decide +kernel
theorem dX12_place_17 : decode cX12_place 17 = .ok (.iconst (-1), 1) := by decide +kernel
theorem dX12_place_18 : decode cX12_place 18 = .ok (.ireturn, 1) := by decide +kernel
theorem dX12_place_19 : decode cX12_place 19 = .ok (.iload_n 2, 1) := by decide +kernel
theorem dX12_place_20 : decode cX12_place 20 = .ok (.tableswitch 95 0 5 #[40, 47, 54, 61, 68, 78], 40) := by decide +kernel
theorem dX12_place_60 : decode cX12_place 60 = .ok (.aload_n 0, 1) := by decide +kernel
theorem dX12_place_61 : decode cX12_place 61 = .ok (.getfield 202, 3) := by decide +kernel
theorem dX12_place_64 : decode cX12_place 64 = .ok (.iload_n 1, 1) := by decide +kernel
theorem dX12_place_65 : decode cX12_place 65 = .ok (.iaload, 1) := by decide +kernel
theorem dX12_place_66 : decode cX12_place 66 = .ok (.ireturn, 1) := by decide +kernel
theorem dX12_place_67 : decode cX12_place 67 = .ok (.aload_n 0, 1) := by decide +kernel
theorem dX12_place_68 : decode cX12_place 68 = .ok (.getfield 205, 3) := by decide +kernel
theorem dX12_place_71 : decode cX12_place 71 = .ok (.iload_n 1, 1) := by decide +kernel
theorem dX12_place_72 : decode cX12_place 72 = .ok (.iaload, 1) := by decide +kernel
theorem dX12_place_73 : decode cX12_place 73 = .ok (.ireturn, 1) := by decide +kernel
theorem dX12_place_74 : decode cX12_place 74 = .ok (.aload_n 0, 1) := by decide +kernel
theorem dX12_place_75 : decode cX12_place 75 = .ok (.getfield 208, 3) := by decide +kernel
theorem dX12_place_78 : decode cX12_place 78 = .ok (.iload_n 1, 1) := by decide +kernel
theorem dX12_place_79 : decode cX12_place 79 = .ok (.iaload, 1) := by decide +kernel
theorem dX12_place_80 : decode cX12_place 80 = .ok (.ireturn, 1) := by decide +kernel
theorem dX12_place_81 : decode cX12_place 81 = .ok (.aload_n 0, 1) := by decide +kernel
theorem dX12_place_82 : decode cX12_place 82 = .ok (.getfield 211, 3) := by decide +kernel
theorem dX12_place_85 : decode cX12_place 85 = .ok (.iload_n 1, 1) := by decide +kernel
theorem dX12_place_86 : decode cX12_place 86 = .ok (.iaload, 1) := by decide +kernel
theorem dX12_place_87 : decode cX12_place 87 = .ok (.ireturn, 1) := by decide +kernel
theorem dX12_place_88 : decode cX12_place 88 = .ok (.aload_n 0, 1) := by decide +kernel
theorem dX12_place_89 : decode cX12_place 89 = .ok (.iload_n 1, 1) := by decide +kernel
theorem dX12_place_90 : decode cX12_place 90 = .ok (.iconst 0, 1) := by decide +kernel
theorem dX12_place_91 : decode cX12_place 91 = .ok (.invokevirtual 479, 3) := by decide +kernel
theorem dX12_place_94 : decode cX12_place 94 = .ok (.invokestatic 529, 3) := by decide +kernel
theorem dX12_place_97 : decode cX12_place 97 = .ok (.ireturn, 1) := by decide +kernel
theorem dX12_place_98 : decode cX12_place 98 = .ok (.aload_n 0, 1) := by decide +kernel
theorem dX12_place_99 : decode cX12_place 99 = .ok (.getfield 489, 3) := by decide +kernel
theorem dX12_place_102 : decode cX12_place 102 = .ok (.iconst 1, 1) := by decide +kernel
theorem dX12_place_103 : decode cX12_place 103 = .ok (.isub, 1) := by decide +kernel
theorem dX12_place_104 : decode cX12_place 104 = .ok (.aload_n 0, 1) := by decide +kernel
theorem dX12_place_105 : decode cX12_place 105 = .ok (.iload_n 1, 1) := by decide +kernel
theorem dX12_place_106 : decode cX12_place 106 = .ok (.iconst 1, 1) := by decide +kernel
theorem dX12_place_107 : decode cX12_place 107 = .ok (.invokevirtual 479, 3) := by decide +kernel
theorem dX12_place_110 : decode cX12_place 110 = .ok (.invokestatic 529, 3) := by decide +kernel
theorem dX12_place_113 : decode cX12_place 113 = .ok (.isub, 1) := by decide +kernel
theorem dX12_place_114 : decode cX12_place 114 = .ok (.ireturn, 1) := by decide +kernel
theorem dX12_place_115 : decode cX12_place 115 = .ok (.iconst (-1), 1) := by decide +kernel
theorem dX12_place_116 : decode cX12_place 116 = .ok (.ireturn, 1) := by decide +kernel
theorem dX12_pressure_0 : decode cX12_pressure 0 = .ok (.aload_n 0, 1) := by decide +kernel
theorem dX12_pressure_1 : decode cX12_pressure 1 = .ok (.iconst 0, 1) := by decide +kernel
theorem dX12_pressure_2 : decode cX12_pressure 2 = .ok (.putfield 1, 3) := by decide +kernel
theorem dX12_pressure_5 : decode cX12_pressure 5 = .ok (.aload_n 0, 1) := by decide +kernel
theorem dX12_pressure_6 : decode cX12_pressure 6 = .ok (.invokevirtual 526, 3) := by decide +kernel
theorem dX12_pressure_9 : decode cX12_pressure 9 = .ok (.iload_n 1, 1) := by decide +kernel
theorem dX12_pressure_10 : decode cX12_pressure 10 = .ok (.iconst 0, 1) := by decide +kernel
theorem dX12_pressure_11 : decode cX12_pressure 11 = .ok (.iconst 2, 1) := by decide +kernel
theorem dX12_pressure_12 : decode cX12_pressure 12 = .ok (.invokestatic 355, 3) := by decide +kernel
theorem dX12_pressure_15 : decode cX12_pressure 15 = .ok (.ifCond .eq 11, 3) := by decide +kernel
theorem dX12_pressure_18 : decode cX12_pressure 18 = .ok (.aload_n 0, 1) := by decide +kernel
theorem dX12_pressure_19 : decode cX12_pressure 19 = .ok (.iload_n 1, 1) := by decide +kernel
theorem dX12_pressure_20 : decode cX12_pressure 20 = .ok (.invokevirtual 532, 3) := by decide +kernel
theorem dX12_pressure_23 : decode cX12_pressure 23 = .ok (.goto 4, 3) := by decide +kernel
theorem dX12_pressure_26 : decode cX12_pressure 26 = .ok (.iconst (-1), 1) := by decide +kernel
theorem dX12_pressure_27 : decode cX12_pressure 27 = .ok (.ireturn, 1) := by decide +kernel
theorem dX12_at_0 : decode cX12_at 0 = .ok (.aload_n 0, 1) := by decide +kernel
theorem dX12_at_1 : decode cX12_at 1 = .ok (.iconst 0, 1) := by decide +kernel
theorem dX12_at_2 : decode cX12_at 2 = .ok (.putfield 1, 3) := by decide +kernel
theorem dX12_at_5 : decode cX12_at 5 = .ok (.aload_n 0, 1) := by decide +kernel
theorem dX12_at_6 : decode cX12_at 6 = .ok (.invokevirtual 526, 3) := by decide +kernel
theorem dX12_at_9 : decode cX12_at 9 = .ok (.iload_n 2, 1) := by decide +kernel
theorem dX12_at_10 : decode cX12_at 10 = .ok (.iconst 0, 1) := by decide +kernel
theorem dX12_at_11 : decode cX12_at 11 = .ok (.iconst 2, 1) := by decide +kernel
theorem dX12_at_12 : decode cX12_at 12 = .ok (.invokestatic 355, 3) := by decide +kernel
theorem dX12_at_15 : decode cX12_at 15 = .ok (.ifCond .eq 26, 3) := by decide +kernel
theorem dX12_at_18 : decode cX12_at 18 = .ok (.iload_n 1, 1) := by decide +kernel
theorem dX12_at_19 : decode cX12_at 19 = .ok (.iconst 0, 1) := by decide +kernel
theorem dX12_at_20 : decode cX12_at 20 = .ok (.aload_n 0, 1) := by decide +kernel
theorem dX12_at_21 : decode cX12_at 21 = .ok (.getfield 489, 3) := by decide +kernel
theorem dX12_at_24 : decode cX12_at 24 = .ok (.iconst 1, 1) := by decide +kernel
theorem dX12_at_25 : decode cX12_at 25 = .ok (.isub, 1) := by decide +kernel
theorem dX12_at_26 : decode cX12_at 26 = .ok (.invokestatic 355, 3) := by decide +kernel
theorem dX12_at_29 : decode cX12_at 29 = .ok (.ifCond .eq 12, 3) := by decide +kernel
theorem dX12_at_32 : decode cX12_at 32 = .ok (.aload_n 0, 1) := by decide +kernel
theorem dX12_at_33 : decode cX12_at 33 = .ok (.iload_n 1, 1) := by decide +kernel
theorem dX12_at_34 : decode cX12_at 34 = .ok (.iload_n 2, 1) := by decide +kernel
theorem dX12_at_35 : decode cX12_at 35 = .ok (.invokevirtual 505, 3) := by decide +kernel
theorem dX12_at_38 : decode cX12_at 38 = .ok (.goto 4, 3) := by decide +kernel
theorem dX12_at_41 : decode cX12_at 41 = .ok (.iconst (-1), 1) := by decide +kernel
theorem dX12_at_42 : decode cX12_at 42 = .ok (.ireturn, 1) := by decide +kernel
theorem dX12_used_0 : decode cX12_used 0 = .ok (.aload_n 0, 1) := by decide +kernel
theorem dX12_used_1 : decode cX12_used 1 = .ok (.iconst 0, 1) := by decide +kernel
theorem dX12_used_2 : decode cX12_used 2 = .ok (.putfield 1, 3) := by decide +kernel
theorem dX12_used_5 : decode cX12_used 5 = .ok (.aload_n 0, 1) := by decide +kernel
theorem dX12_used_6 : decode cX12_used 6 = .ok (.invokevirtual 526, 3) := by decide +kernel
theorem dX12_used_9 : decode cX12_used 9 = .ok (.iload_n 1, 1) := by decide +kernel
theorem dX12_used_10 : decode cX12_used 10 = .ok (.iconst 0, 1) := by decide +kernel
theorem dX12_used_11 : decode cX12_used 11 = .ok (.iconst 1, 1) := by decide +kernel
theorem dX12_used_12 : decode cX12_used 12 = .ok (.invokestatic 355, 3) := by decide +kernel
theorem dX12_used_15 : decode cX12_used 15 = .ok (.ifCond .eq 12, 3) := by decide +kernel
theorem dX12_used_18 : decode cX12_used 18 = .ok (.aload_n 0, 1) := by decide +kernel
theorem dX12_used_19 : decode cX12_used 19 = .ok (.getfield 214, 3) := by decide +kernel
theorem dX12_used_22 : decode cX12_used 22 = .ok (.iload_n 1, 1) := by decide +kernel
theorem dX12_used_23 : decode cX12_used 23 = .ok (.iaload, 1) := by decide +kernel
theorem dX12_used_24 : decode cX12_used 24 = .ok (.goto 4, 3) := by decide +kernel
theorem dX12_used_27 : decode cX12_used 27 = .ok (.iconst (-1), 1) := by decide +kernel
theorem dX12_used_28 : decode cX12_used 28 = .ok (.ireturn, 1) := by decide +kernel
theorem dX12_clause_0 : decode cX12_clause 0 = .ok (.aload_n 0, 1) := by decide +kernel
theorem dX12_clause_1 : decode cX12_clause 1 = .ok (.iconst 0, 1) := by decide +kernel
theorem dX12_clause_2 : decode cX12_clause 2 = .ok (.putfield 1, 3) := by decide +kernel
theorem dX12_clause_5 : decode cX12_clause 5 = .ok (.aload_n 0, 1) := by decide +kernel
theorem dX12_clause_6 : decode cX12_clause 6 = .ok (.invokevirtual 526, 3) := by decide +kernel
theorem dX12_clause_9 : decode cX12_clause 9 = .ok (.iload_n 1, 1) := by decide +kernel
theorem dX12_clause_10 : decode cX12_clause 10 = .ok (.iconst 0, 1) := by decide +kernel
theorem dX12_clause_11 : decode cX12_clause 11 = .ok (.aload_n 0, 1) := by decide +kernel
theorem dX12_clause_12 : decode cX12_clause 12 = .ok (.getfield 511, 3) := by decide +kernel
theorem dX12_clause_15 : decode cX12_clause 15 = .ok (.iconst 1, 1) := by decide +kernel
theorem dX12_clause_16 : decode cX12_clause 16 = .ok (.isub, 1) := by decide +kernel
theorem dX12_clause_17 : decode cX12_clause 17 = .ok (.invokestatic 355, 3) := by decide +kernel
theorem dX12_clause_20 : decode cX12_clause 20 = .ok (.ifCond .eq 25, 3) := by decide +kernel
theorem dX12_clause_23 : decode cX12_clause 23 = .ok (.iload_n 2, 1) := by decide +kernel
theorem dX12_clause_24 : decode cX12_clause 24 = .ok (.iconst 0, 1) := by decide +kernel
theorem dX12_clause_25 : decode cX12_clause 25 = .ok (.iconst 3, 1) := by decide +kernel
theorem dX12_clause_26 : decode cX12_clause 26 = .ok (.invokestatic 355, 3) := by decide +kernel
theorem dX12_clause_29 : decode cX12_clause 29 = .ok (.ifCond .eq 16, 3) := by decide +kernel
theorem dX12_clause_32 : decode cX12_clause 32 = .ok (.aload_n 0, 1) := by decide +kernel
theorem dX12_clause_33 : decode cX12_clause 33 = .ok (.getfield 220, 3) := by decide +kernel
theorem dX12_clause_36 : decode cX12_clause 36 = .ok (.iconst 4, 1) := by decide +kernel
theorem dX12_clause_37 : decode cX12_clause 37 = .ok (.iload_n 1, 1) := by decide +kernel
theorem dX12_clause_38 : decode cX12_clause 38 = .ok (.imul, 1) := by decide +kernel
theorem dX12_clause_39 : decode cX12_clause 39 = .ok (.iload_n 2, 1) := by decide +kernel
theorem dX12_clause_40 : decode cX12_clause 40 = .ok (.iadd, 1) := by decide +kernel
theorem dX12_clause_41 : decode cX12_clause 41 = .ok (.iaload, 1) := by decide +kernel
theorem dX12_clause_42 : decode cX12_clause 42 = .ok (.goto 4, 3) := by decide +kernel
theorem dX12_clause_45 : decode cX12_clause 45 = .ok (.iconst (-1), 1) := by decide +kernel
theorem dX12_clause_46 : decode cX12_clause 46 = .ok (.ireturn, 1) := by decide +kernel
theorem dX12_tell_0 : decode cX12_tell 0 = .ok (.iload_n 1, 1) := by decide +kernel
theorem dX12_tell_1 : decode cX12_tell 1 = .ok (.ifCond .ne 11, 3) := by decide +kernel
theorem dX12_tell_4 : decode cX12_tell 4 = .ok (.aload_n 0, 1) := by decide +kernel
theorem dX12_tell_5 : decode cX12_tell 5 = .ok (.iconst 2, 1) := by decide +kernel
theorem dX12_tell_6 : decode cX12_tell 6 = .ok (.invokevirtual 532, 3) := by decide +kernel
theorem dX12_tell_9 : decode cX12_tell 9 = .ok (.goto 35, 3) := by decide +kernel
theorem dX12_tell_12 : decode cX12_tell 12 = .ok (.iload_n 1, 1) := by decide +kernel
theorem dX12_tell_13 : decode cX12_tell 13 = .ok (.iconst 1, 1) := by decide +kernel
theorem dX12_tell_14 : decode cX12_tell 14 = .ok (.if_icmp .ne 10, 3) := by decide +kernel
theorem dX12_tell_17 : decode cX12_tell 17 = .ok (.aload_n 0, 1) := by decide +kernel
theorem dX12_tell_18 : decode cX12_tell 18 = .ok (.getfield 511, 3) := by decide +kernel
theorem dX12_tell_21 : decode cX12_tell 21 = .ok (.goto 23, 3) := by decide +kernel
theorem dX12_tell_24 : decode cX12_tell 24 = .ok (.iload_n 1, 1) := by decide +kernel
theorem dX12_tell_25 : decode cX12_tell 25 = .ok (.iconst 2, 1) := by decide +kernel
theorem dX12_tell_26 : decode cX12_tell 26 = .ok (.if_icmp .ne 10, 3) := by decide +kernel
theorem dX12_tell_29 : decode cX12_tell 29 = .ok (.aload_n 0, 1) := by decide +kernel
theorem dX12_tell_30 : decode cX12_tell 30 = .ok (.getfield 514, 3) := by decide +kernel
theorem dX12_tell_33 : decode cX12_tell 33 = .ok (.goto 11, 3) := by decide +kernel
theorem dX12_tell_36 : decode cX12_tell 36 = .ok (.aload_n 0, 1) := by decide +kernel
theorem dX12_tell_37 : decode cX12_tell 37 = .ok (.getfield 214, 3) := by decide +kernel
theorem dX12_tell_40 : decode cX12_tell 40 = .ok (.iload_n 1, 1) := by decide +kernel
theorem dX12_tell_41 : decode cX12_tell 41 = .ok (.iconst 3, 1) := by decide +kernel
theorem dX12_tell_42 : decode cX12_tell 42 = .ok (.isub, 1) := by decide +kernel
theorem dX12_tell_43 : decode cX12_tell 43 = .ok (.iaload, 1) := by decide +kernel
theorem dX12_tell_44 : decode cX12_tell 44 = .ok (.ireturn, 1) := by decide +kernel
theorem dX12_by_0 : decode cX12_by 0 = .ok (.aload_n 0, 1) := by decide +kernel
theorem dX12_by_1 : decode cX12_by 1 = .ok (.iconst 0, 1) := by decide +kernel
theorem dX12_by_2 : decode cX12_by 2 = .ok (.putfield 1, 3) := by decide +kernel
theorem dX12_by_5 : decode cX12_by 5 = .ok (.iload_n 1, 1) := by decide +kernel
theorem dX12_by_6 : decode cX12_by 6 = .ok (.iconst 0, 1) := by decide +kernel
theorem dX12_by_7 : decode cX12_by 7 = .ok (.iconst 3, 1) := by decide +kernel
theorem dX12_by_8 : decode cX12_by 8 = .ok (.invokestatic 355, 3) := by decide +kernel
theorem dX12_by_11 : decode cX12_by 11 = .ok (.ifCond .eq 12, 3) := by decide +kernel
theorem dX12_by_14 : decode cX12_by 14 = .ok (.iload_n 2, 1) := by decide +kernel
theorem dX12_by_15 : decode cX12_by 15 = .ok (.iconst 0, 1) := by decide +kernel
theorem dX12_by_16 : decode cX12_by 16 = .ok (.iconst 4, 1) := by decide +kernel
theorem dX12_by_17 : decode cX12_by 17 = .ok (.invokestatic 355, 3) := by decide +kernel
theorem dX12_by_20 : decode cX12_by 20 = .ok (.ifCond .ne 5, 3) := by decide +kernel
theorem dX12_by_23 : decode cX12_by 23 = .ok (.iconst (-1), 1) := by decide +kernel
theorem dX12_by_24 : decode cX12_by 24 = .ok (.ireturn, 1) := by decide +kernel
theorem dX12_by_25 : decode cX12_by 25 = .ok (.aload_n 0, 1) := by decide +kernel
theorem dX12_by_26 : decode cX12_by 26 = .ok (.invokevirtual 470, 3) := by decide +kernel
theorem dX12_by_29 : decode cX12_by 29 = .ok (.aload_n 0, 1) := by decide +kernel
theorem dX12_by_30 : decode cX12_by 30 = .ok (.iload_n 1, 1) := by decide +kernel
theorem dX12_by_31 : decode cX12_by 31 = .ok (.invokevirtual 520, 3) := by decide +kernel
theorem dX12_by_34 : decode cX12_by 34 = .ok (.aload_n 0, 1) := by decide +kernel
theorem dX12_by_35 : decode cX12_by 35 = .ok (.invokevirtual 523, 3) := by decide +kernel
theorem dX12_by_38 : decode cX12_by 38 = .ok (.aload_n 0, 1) := by decide +kernel
theorem dX12_by_39 : decode cX12_by 39 = .ok (.iload_n 2, 1) := by decide +kernel
theorem dX12_by_40 : decode cX12_by 40 = .ok (.invokevirtual 535, 3) := by decide +kernel
theorem dX12_by_43 : decode cX12_by 43 = .ok (.ireturn, 1) := by decide +kernel
theorem dX12_alone_0 : decode cX12_alone 0 = .ok (.aload_n 0, 1) := by decide +kernel
theorem dX12_alone_1 : decode cX12_alone 1 = .ok (.iconst 0, 1) := by decide +kernel
theorem dX12_alone_2 : decode cX12_alone 2 = .ok (.putfield 1, 3) := by decide +kernel
theorem dX12_alone_5 : decode cX12_alone 5 = .ok (.iload_n 1, 1) := by decide +kernel
theorem dX12_alone_6 : decode cX12_alone 6 = .ok (.ifCond .lt 23, 3) := by decide +kernel
theorem dX12_alone_9 : decode cX12_alone 9 = .ok (.iload_n 1, 1) := by decide +kernel
theorem dX12_alone_10 : decode cX12_alone 10 = .ok (.aload_n 0, 1) := by decide +kernel
theorem dX12_alone_11 : decode cX12_alone 11 = .ok (.getfield 126, 3) := by decide +kernel
theorem dX12_alone_14 : decode cX12_alone 14 = .ok (.bipush 9, 2) := by decide +kernel
theorem dX12_alone_16 : decode cX12_alone 16 = .ok (.iaload, 1) := by decide +kernel
theorem dX12_alone_17 : decode cX12_alone 17 = .ok (.if_icmp .ge 12, 3) := by decide +kernel
theorem dX12_alone_20 : decode cX12_alone 20 = .ok (.iload_n 2, 1) := by decide +kernel
theorem dX12_alone_21 : decode cX12_alone 21 = .ok (.iconst 0, 1) := by decide +kernel
theorem dX12_alone_22 : decode cX12_alone 22 = .ok (.iconst 5, 1) := by decide +kernel
theorem dX12_alone_23 : decode cX12_alone 23 = .ok (.invokestatic 355, 3) := by decide +kernel
theorem dX12_alone_26 : decode cX12_alone 26 = .ok (.ifCond .ne 5, 3) := by decide +kernel
theorem dX12_alone_29 : decode cX12_alone 29 = .ok (.iconst (-1), 1) := by decide +kernel
theorem dX12_alone_30 : decode cX12_alone 30 = .ok (.ireturn, 1) := by decide +kernel
theorem dX12_alone_31 : decode cX12_alone 31 = .ok (.aload_n 0, 1) := by decide +kernel
theorem dX12_alone_32 : decode cX12_alone 32 = .ok (.iconst (-1), 1) := by decide +kernel
theorem dX12_alone_33 : decode cX12_alone 33 = .ok (.iconst 0, 1) := by decide +kernel
theorem dX12_alone_34 : decode cX12_alone 34 = .ok (.iconst 0, 1) := by decide +kernel
theorem dX12_alone_35 : decode cX12_alone 35 = .ok (.invokevirtual 428, 3) := by decide +kernel
theorem dX12_alone_38 : decode cX12_alone 38 = .ok (.aload_n 0, 1) := by decide +kernel
theorem dX12_alone_39 : decode cX12_alone 39 = .ok (.iload_n 1, 1) := by decide +kernel
theorem dX12_alone_40 : decode cX12_alone 40 = .ok (.invokevirtual 467, 3) := by decide +kernel
theorem dX12_alone_43 : decode cX12_alone 43 = .ok (.aload_n 0, 1) := by decide +kernel
theorem dX12_alone_44 : decode cX12_alone 44 = .ok (.aload_n 0, 1) := by decide +kernel
theorem dX12_alone_45 : decode cX12_alone 45 = .ok (.getfield 365, 3) := by decide +kernel
theorem dX12_alone_48 : decode cX12_alone 48 = .ok (.invokevirtual 520, 3) := by decide +kernel
theorem dX12_alone_51 : decode cX12_alone 51 = .ok (.aload_n 0, 1) := by decide +kernel
theorem dX12_alone_52 : decode cX12_alone 52 = .ok (.invokevirtual 523, 3) := by decide +kernel
theorem dX12_alone_55 : decode cX12_alone 55 = .ok (.iload_n 2, 1) := by decide +kernel
theorem dX12_alone_56 : decode cX12_alone 56 = .ok (.iconst 5, 1) := by decide +kernel
theorem dX12_alone_57 : decode cX12_alone 57 = .ok (.if_icmp .ne 13, 3) := by decide +kernel
theorem dX12_alone_60 : decode cX12_alone 60 = .ok (.aload_n 0, 1) := by decide +kernel
theorem dX12_alone_61 : decode cX12_alone 61 = .ok (.getfield 464, 3) := by decide +kernel
theorem dX12_alone_64 : decode cX12_alone 64 = .ok (.invokestatic 529, 3) := by decide +kernel
theorem dX12_alone_67 : decode cX12_alone 67 = .ok (.goto 8, 3) := by decide +kernel
theorem dX12_alone_70 : decode cX12_alone 70 = .ok (.aload_n 0, 1) := by decide +kernel
theorem dX12_alone_71 : decode cX12_alone 71 = .ok (.iload_n 2, 1) := by decide +kernel
theorem dX12_alone_72 : decode cX12_alone 72 = .ok (.invokevirtual 535, 3) := by decide +kernel
theorem dX12_alone_75 : decode cX12_alone 75 = .ok (.ireturn, 1) := by decide +kernel
theorem dX12_howMany_0 : decode cX12_howMany 0 = .ok (.iconst 0, 1) := by decide +kernel
theorem dX12_howMany_1 : decode cX12_howMany 1 = .ok (.istore_n 2, 1) := by decide +kernel
theorem dX12_howMany_2 : decode cX12_howMany 2 = .ok (.iconst 0, 1) := by decide +kernel
theorem dX12_howMany_3 : decode cX12_howMany 3 = .ok (.istore_n 3, 1) := by decide +kernel
theorem dX12_howMany_4 : decode cX12_howMany 4 = .ok (.iload_n 3, 1) := by decide +kernel
theorem dX12_howMany_5 : decode cX12_howMany 5 = .ok (.aload_n 0, 1) := by decide +kernel
theorem dX12_howMany_6 : decode cX12_howMany 6 = .ok (.invokevirtual 352, 3) := by decide +kernel
theorem dX12_howMany_9 : decode cX12_howMany 9 = .ok (.if_icmp .ge 40, 3) := by decide +kernel
theorem dX12_howMany_12 : decode cX12_howMany 12 = .ok (.iload_n 2, 1) := by decide +kernel
theorem dX12_howMany_13 : decode cX12_howMany 13 = .ok (.iload_n 1, 1) := by decide +kernel
theorem dX12_howMany_14 : decode cX12_howMany 14 = .ok (.ifCond .eq 14, 3) := by decide +kernel
theorem dX12_howMany_17 : decode cX12_howMany 17 = .ok (.aload_n 0, 1) := by decide +kernel
theorem dX12_howMany_18 : decode cX12_howMany 18 = .ok (.iload_n 3, 1) := by decide +kernel
theorem dX12_howMany_19 : decode cX12_howMany 19 = .ok (.invokevirtual 419, 3) := by decide +kernel
theorem dX12_howMany_22 : decode cX12_howMany 22 = .ok (.ifCond .eq 18, 3) := by decide +kernel
theorem dX12_howMany_25 : decode cX12_howMany 25 = .ok (.goto 11, 3) := by decide +kernel
theorem dX12_howMany_28 : decode cX12_howMany 28 = .ok (.aload_n 0, 1) := by decide +kernel
theorem dX12_howMany_29 : decode cX12_howMany 29 = .ok (.iload_n 3, 1) := by decide +kernel
theorem dX12_howMany_30 : decode cX12_howMany 30 = .ok (.invokevirtual 453, 3) := by decide +kernel
theorem dX12_howMany_33 : decode cX12_howMany 33 = .ok (.ifCond .eq 7, 3) := by decide +kernel
theorem dX12_howMany_36 : decode cX12_howMany 36 = .ok (.iconst 1, 1) := by decide +kernel
theorem dX12_howMany_37 : decode cX12_howMany 37 = .ok (.goto 4, 3) := by decide +kernel
theorem dX12_howMany_40 : decode cX12_howMany 40 = .ok (.iconst 0, 1) := by decide +kernel
theorem dX12_howMany_41 : decode cX12_howMany 41 = .ok (.iadd, 1) := by decide +kernel
theorem dX12_howMany_42 : decode cX12_howMany 42 = .ok (.istore_n 2, 1) := by decide +kernel
theorem dX12_howMany_43 : decode cX12_howMany 43 = .ok (.iinc 3 1, 3) := by decide +kernel
theorem dX12_howMany_46 : decode cX12_howMany 46 = .ok (.goto (-42), 3) := by decide +kernel
theorem dX12_howMany_49 : decode cX12_howMany 49 = .ok (.iload_n 2, 1) := by decide +kernel
theorem dX12_howMany_50 : decode cX12_howMany 50 = .ok (.ireturn, 1) := by decide +kernel
theorem dX12_narrowed_0 : decode cX12_narrowed 0 = .ok (.aload_n 0, 1) := by decide +kernel
theorem dX12_narrowed_1 : decode cX12_narrowed 1 = .ok (.iconst 0, 1) := by decide +kernel
theorem dX12_narrowed_2 : decode cX12_narrowed 2 = .ok (.putfield 1, 3) := by decide +kernel
theorem dX12_narrowed_5 : decode cX12_narrowed 5 = .ok (.aload_n 0, 1) := by decide +kernel
theorem dX12_narrowed_6 : decode cX12_narrowed 6 = .ok (.iload_n 1, 1) := by decide +kernel
theorem dX12_narrowed_7 : decode cX12_narrowed 7 = .ok (.invokevirtual 359, 3) := by decide +kernel
theorem dX12_narrowed_10 : decode cX12_narrowed 10 = .ok (.ifCond .eq 22, 3) := by decide +kernel
theorem dX12_narrowed_13 : decode cX12_narrowed 13 = .ok (.iload_n 2, 1) := by decide +kernel
theorem dX12_narrowed_14 : decode cX12_narrowed 14 = .ok (.iload_n 3, 1) := by decide +kernel
theorem dX12_narrowed_15 : decode cX12_narrowed 15 = .ok (.invokestatic 368, 3) := by decide +kernel
theorem dX12_narrowed_18 : decode cX12_narrowed 18 = .ok (.ifCond .eq 14, 3) := by decide +kernel
theorem dX12_narrowed_21 : decode cX12_narrowed 21 = .ok (.iload 4, 2) := by decide +kernel
theorem dX12_narrowed_23 : decode cX12_narrowed 23 = .ok (.iconst 0, 1) := by decide +kernel
theorem dX12_narrowed_24 : decode cX12_narrowed 24 = .ok (.bipush 7, 2) := by decide +kernel
theorem dX12_narrowed_26 : decode cX12_narrowed 26 = .ok (.invokestatic 355, 3) := by decide +kernel
theorem dX12_narrowed_29 : decode cX12_narrowed 29 = .ok (.ifCond .ne 5, 3) := by decide +kernel
theorem dX12_narrowed_32 : decode cX12_narrowed 32 = .ok (.iconst (-1), 1) := by decide +kernel
theorem dX12_narrowed_33 : decode cX12_narrowed 33 = .ok (.ireturn, 1) := by decide +kernel
theorem dX12_narrowed_34 : decode cX12_narrowed 34 = .ok (.aload_n 0, 1) := by decide +kernel
theorem dX12_narrowed_35 : decode cX12_narrowed 35 = .ok (.iload_n 1, 1) := by decide +kernel
theorem dX12_narrowed_36 : decode cX12_narrowed 36 = .ok (.iload_n 2, 1) := by decide +kernel
theorem dX12_narrowed_37 : decode cX12_narrowed 37 = .ok (.iload_n 3, 1) := by decide +kernel
theorem dX12_narrowed_38 : decode cX12_narrowed 38 = .ok (.invokevirtual 428, 3) := by decide +kernel
theorem dX12_narrowed_41 : decode cX12_narrowed 41 = .ok (.aload_n 0, 1) := by decide +kernel
theorem dX12_narrowed_42 : decode cX12_narrowed 42 = .ok (.iconst (-1), 1) := by decide +kernel
theorem dX12_narrowed_43 : decode cX12_narrowed 43 = .ok (.invokevirtual 467, 3) := by decide +kernel
theorem dX12_narrowed_46 : decode cX12_narrowed 46 = .ok (.aload_n 0, 1) := by decide +kernel
theorem dX12_narrowed_47 : decode cX12_narrowed 47 = .ok (.aload_n 0, 1) := by decide +kernel
theorem dX12_narrowed_48 : decode cX12_narrowed 48 = .ok (.getfield 365, 3) := by decide +kernel
theorem dX12_narrowed_51 : decode cX12_narrowed 51 = .ok (.invokevirtual 520, 3) := by decide +kernel
theorem dX12_narrowed_54 : decode cX12_narrowed 54 = .ok (.aload_n 0, 1) := by decide +kernel
theorem dX12_narrowed_55 : decode cX12_narrowed 55 = .ok (.invokevirtual 523, 3) := by decide +kernel
theorem dX12_narrowed_58 : decode cX12_narrowed 58 = .ok (.iload 4, 2) := by decide +kernel
theorem dX12_narrowed_60 : decode cX12_narrowed 60 = .ok (.iconst 5, 1) := by decide +kernel
theorem dX12_narrowed_61 : decode cX12_narrowed 61 = .ok (.if_icmp .ge 12, 3) := by decide +kernel
theorem dX12_narrowed_64 : decode cX12_narrowed 64 = .ok (.aload_n 0, 1) := by decide +kernel
theorem dX12_narrowed_65 : decode cX12_narrowed 65 = .ok (.iload 4, 2) := by decide +kernel
theorem dX12_narrowed_67 : decode cX12_narrowed 67 = .ok (.invokevirtual 535, 3) := by decide +kernel
theorem dX12_narrowed_70 : decode cX12_narrowed 70 = .ok (.goto 35, 3) := by decide +kernel
theorem dX12_narrowed_73 : decode cX12_narrowed 73 = .ok (.iload 4, 2) := by decide +kernel
theorem dX12_narrowed_75 : decode cX12_narrowed 75 = .ok (.iconst 5, 1) := by decide +kernel
theorem dX12_narrowed_76 : decode cX12_narrowed 76 = .ok (.if_icmp .ne 13, 3) := by decide +kernel
theorem dX12_narrowed_79 : decode cX12_narrowed 79 = .ok (.aload_n 0, 1) := by decide +kernel
theorem dX12_narrowed_80 : decode cX12_narrowed 80 = .ok (.getfield 464, 3) := by decide +kernel
theorem dX12_narrowed_83 : decode cX12_narrowed 83 = .ok (.invokestatic 529, 3) := by decide +kernel
theorem dX12_narrowed_86 : decode cX12_narrowed 86 = .ok (.goto 19, 3) := by decide +kernel
theorem dX12_narrowed_89 : decode cX12_narrowed 89 = .ok (.aload_n 0, 1) := by decide +kernel
theorem dX12_narrowed_90 : decode cX12_narrowed 90 = .ok (.iload 4, 2) := by decide +kernel
theorem dX12_narrowed_92 : decode cX12_narrowed 92 = .ok (.bipush 6, 2) := by decide +kernel
theorem dX12_narrowed_94 : decode cX12_narrowed 94 = .ok (.if_icmp .ne 7, 3) := by decide +kernel
theorem dX12_narrowed_97 : decode cX12_narrowed 97 = .ok (.iconst 1, 1) := by decide +kernel
theorem dX12_narrowed_98 : decode cX12_narrowed 98 = .ok (.goto 4, 3) := by decide +kernel
theorem dX12_narrowed_101 : decode cX12_narrowed 101 = .ok (.iconst 0, 1) := by decide +kernel
theorem dX12_narrowed_102 : decode cX12_narrowed 102 = .ok (.invokevirtual 538, 3) := by decide +kernel
theorem dX12_narrowed_105 : decode cX12_narrowed 105 = .ok (.ireturn, 1) := by decide +kernel
theorem dX12_swapped_0 : decode cX12_swapped 0 = .ok (.aload_n 0, 1) := by decide +kernel
theorem dX12_swapped_1 : decode cX12_swapped 1 = .ok (.iconst 0, 1) := by decide +kernel
theorem dX12_swapped_2 : decode cX12_swapped 2 = .ok (.putfield 1, 3) := by decide +kernel
theorem dX12_swapped_5 : decode cX12_swapped 5 = .ok (.aload_n 0, 1) := by decide +kernel
theorem dX12_swapped_6 : decode cX12_swapped 6 = .ok (.invokevirtual 526, 3) := by decide +kernel
theorem dX12_swapped_9 : decode cX12_swapped 9 = .ok (.iload_n 2, 1) := by decide +kernel
theorem dX12_swapped_10 : decode cX12_swapped 10 = .ok (.iconst 0, 1) := by decide +kernel
theorem dX12_swapped_11 : decode cX12_swapped 11 = .ok (.iconst 2, 1) := by decide +kernel
theorem dX12_swapped_12 : decode cX12_swapped 12 = .ok (.invokestatic 355, 3) := by decide +kernel
theorem dX12_swapped_15 : decode cX12_swapped 15 = .ok (.ifCond .eq 42, 3) := by decide +kernel
theorem dX12_swapped_18 : decode cX12_swapped 18 = .ok (.iload_n 1, 1) := by decide +kernel
theorem dX12_swapped_19 : decode cX12_swapped 19 = .ok (.iconst 0, 1) := by decide +kernel
theorem dX12_swapped_20 : decode cX12_swapped 20 = .ok (.aload_n 0, 1) := by decide +kernel
theorem dX12_swapped_21 : decode cX12_swapped 21 = .ok (.getfield 489, 3) := by decide +kernel
theorem dX12_swapped_24 : decode cX12_swapped 24 = .ok (.iconst 2, 1) := by decide +kernel
theorem dX12_swapped_25 : decode cX12_swapped 25 = .ok (.isub, 1) := by decide +kernel
theorem dX12_swapped_26 : decode cX12_swapped 26 = .ok (.invokestatic 355, 3) := by decide +kernel
theorem dX12_swapped_29 : decode cX12_swapped 29 = .ok (.ifCond .eq 28, 3) := by decide +kernel
theorem dX12_swapped_32 : decode cX12_swapped 32 = .ok (.aload_n 0, 1) := by decide +kernel
theorem dX12_swapped_33 : decode cX12_swapped 33 = .ok (.getfield 190, 3) := by decide +kernel
theorem dX12_swapped_36 : decode cX12_swapped 36 = .ok (.aload_n 0, 1) := by decide +kernel
theorem dX12_swapped_37 : decode cX12_swapped 37 = .ok (.getfield 199, 3) := by decide +kernel
theorem dX12_swapped_40 : decode cX12_swapped 40 = .ok (.iload_n 1, 1) := by decide +kernel
theorem dX12_swapped_41 : decode cX12_swapped 41 = .ok (.iconst 1, 1) := by decide +kernel
theorem dX12_swapped_42 : decode cX12_swapped 42 = .ok (.iadd, 1) := by decide +kernel
theorem dX12_swapped_43 : decode cX12_swapped 43 = .ok (.iaload, 1) := by decide +kernel
theorem dX12_swapped_44 : decode cX12_swapped 44 = .ok (.laload, 1) := by decide +kernel
theorem dX12_swapped_45 : decode cX12_swapped 45 = .ok (.aload_n 0, 1) := by decide +kernel
theorem dX12_swapped_46 : decode cX12_swapped 46 = .ok (.getfield 199, 3) := by decide +kernel
theorem dX12_swapped_49 : decode cX12_swapped 49 = .ok (.iload_n 1, 1) := by decide +kernel
theorem dX12_swapped_50 : decode cX12_swapped 50 = .ok (.iaload, 1) := by decide +kernel
theorem dX12_swapped_51 : decode cX12_swapped 51 = .ok (.invokestatic 449, 3) := by decide +kernel
theorem dX12_swapped_54 : decode cX12_swapped 54 = .ok (.ifCond .eq 5, 3) := by decide +kernel
theorem dX12_swapped_57 : decode cX12_swapped 57 = .ok (.iconst (-1), 1) := by decide +kernel
theorem dX12_swapped_58 : decode cX12_swapped 58 = .ok (.ireturn, 1) := by decide +kernel
theorem dX12_swapped_59 : decode cX12_swapped 59 = .ok (.aload_n 0, 1) := by decide +kernel
theorem dX12_swapped_60 : decode cX12_swapped 60 = .ok (.getfield 199, 3) := by decide +kernel
theorem dX12_swapped_63 : decode cX12_swapped 63 = .ok (.iload_n 1, 1) := by decide +kernel
theorem dX12_swapped_64 : decode cX12_swapped 64 = .ok (.iaload, 1) := by decide +kernel
theorem dX12_swapped_65 : decode cX12_swapped 65 = .ok (.istore_n 3, 1) := by decide +kernel
theorem dX12_swapped_66 : decode cX12_swapped 66 = .ok (.aload_n 0, 1) := by decide +kernel
theorem dX12_swapped_67 : decode cX12_swapped 67 = .ok (.getfield 199, 3) := by decide +kernel
theorem dX12_swapped_70 : decode cX12_swapped 70 = .ok (.iload_n 1, 1) := by decide +kernel
theorem dX12_swapped_71 : decode cX12_swapped 71 = .ok (.aload_n 0, 1) := by decide +kernel
theorem dX12_swapped_72 : decode cX12_swapped 72 = .ok (.getfield 199, 3) := by decide +kernel
theorem dX12_swapped_75 : decode cX12_swapped 75 = .ok (.iload_n 1, 1) := by decide +kernel
theorem dX12_swapped_76 : decode cX12_swapped 76 = .ok (.iconst 1, 1) := by decide +kernel
theorem dX12_swapped_77 : decode cX12_swapped 77 = .ok (.iadd, 1) := by decide +kernel
theorem dX12_swapped_78 : decode cX12_swapped 78 = .ok (.iaload, 1) := by decide +kernel
theorem dX12_swapped_79 : decode cX12_swapped 79 = .ok (.iastore, 1) := by decide +kernel
theorem dX12_swapped_80 : decode cX12_swapped 80 = .ok (.aload_n 0, 1) := by decide +kernel
theorem dX12_swapped_81 : decode cX12_swapped 81 = .ok (.getfield 199, 3) := by decide +kernel
theorem dX12_swapped_84 : decode cX12_swapped 84 = .ok (.iload_n 1, 1) := by decide +kernel
theorem dX12_swapped_85 : decode cX12_swapped 85 = .ok (.iconst 1, 1) := by decide +kernel
theorem dX12_swapped_86 : decode cX12_swapped 86 = .ok (.iadd, 1) := by decide +kernel
theorem dX12_swapped_87 : decode cX12_swapped 87 = .ok (.iload_n 3, 1) := by decide +kernel
theorem dX12_swapped_88 : decode cX12_swapped 88 = .ok (.iastore, 1) := by decide +kernel
theorem dX12_swapped_89 : decode cX12_swapped 89 = .ok (.aload_n 0, 1) := by decide +kernel
theorem dX12_swapped_90 : decode cX12_swapped 90 = .ok (.invokevirtual 496, 3) := by decide +kernel
theorem dX12_swapped_93 : decode cX12_swapped 93 = .ok (.aload_n 0, 1) := by decide +kernel
theorem dX12_swapped_94 : decode cX12_swapped 94 = .ok (.iload_n 2, 1) := by decide +kernel
theorem dX12_swapped_95 : decode cX12_swapped 95 = .ok (.invokevirtual 535, 3) := by decide +kernel
theorem dX12_swapped_98 : decode cX12_swapped 98 = .ok (.ireturn, 1) := by decide +kernel
theorem dX12_argRun_0 : decode cX12_argRun 0 = .ok (.aload_n 0, 1) := by decide +kernel
theorem dX12_argRun_1 : decode cX12_argRun 1 = .ok (.iload_n 1, 1) := by decide +kernel
theorem dX12_argRun_2 : decode cX12_argRun 2 = .ok (.iload_n 2, 1) := by decide +kernel
theorem dX12_argRun_3 : decode cX12_argRun 3 = .ok (.invokevirtual 388, 3) := by decide +kernel
theorem dX12_argRun_6 : decode cX12_argRun 6 = .ok (.ifCond .ge 7, 3) := by decide +kernel
theorem dX12_argRun_9 : decode cX12_argRun 9 = .ok (.iconst (-1), 1) := by decide +kernel
theorem dX12_argRun_10 : decode cX12_argRun 10 = .ok (.goto 14, 3) := by decide +kernel
theorem dX12_argRun_13 : decode cX12_argRun 13 = .ok (.aload_n 0, 1) := by decide +kernel
theorem dX12_argRun_14 : decode cX12_argRun 14 = .ok (.getfield 187, 3) := by decide +kernel
theorem dX12_argRun_17 : decode cX12_argRun 17 = .ok (.aload_n 0, 1) := by decide +kernel
theorem dX12_argRun_18 : decode cX12_argRun 18 = .ok (.iload_n 1, 1) := by decide +kernel
theorem dX12_argRun_19 : decode cX12_argRun 19 = .ok (.iload_n 2, 1) := by decide +kernel
theorem dX12_argRun_20 : decode cX12_argRun 20 = .ok (.invokevirtual 388, 3) := by decide +kernel
theorem dX12_argRun_23 : decode cX12_argRun 23 = .ok (.iaload, 1) := by decide +kernel
theorem dX12_argRun_24 : decode cX12_argRun 24 = .ok (.istore_n 3, 1) := by decide +kernel
theorem dX12_argRun_25 : decode cX12_argRun 25 = .ok (.iload_n 3, 1) := by decide +kernel
theorem dX12_argRun_26 : decode cX12_argRun 26 = .ok (.ifCond .ge 7, 3) := by decide +kernel
theorem dX12_argRun_29 : decode cX12_argRun 29 = .ok (.iconst 0, 1) := by decide +kernel
theorem dX12_argRun_30 : decode cX12_argRun 30 = .ok (.goto 41, 3) := by decide +kernel
theorem dX12_argRun_33 : decode cX12_argRun 33 = .ok (.aload_n 0, 1) := by decide +kernel
theorem dX12_argRun_34 : decode cX12_argRun 34 = .ok (.iload_n 3, 1) := by decide +kernel
theorem dX12_argRun_35 : decode cX12_argRun 35 = .ok (.invokevirtual 453, 3) := by decide +kernel
theorem dX12_argRun_38 : decode cX12_argRun 38 = .ok (.ifCond .eq 12, 3) := by decide +kernel
theorem dX12_argRun_41 : decode cX12_argRun 41 = .ok (.aload_n 0, 1) := by decide +kernel
theorem dX12_argRun_42 : decode cX12_argRun 42 = .ok (.getfield 171, 3) := by decide +kernel
theorem dX12_argRun_45 : decode cX12_argRun 45 = .ok (.iload_n 3, 1) := by decide +kernel
theorem dX12_argRun_46 : decode cX12_argRun 46 = .ok (.iaload, 1) := by decide +kernel
theorem dX12_argRun_47 : decode cX12_argRun 47 = .ok (.goto 24, 3) := by decide +kernel
theorem dX12_argRun_50 : decode cX12_argRun 50 = .ok (.aload_n 0, 1) := by decide +kernel
theorem dX12_argRun_51 : decode cX12_argRun 51 = .ok (.getfield 223, 3) := by decide +kernel
theorem dX12_argRun_54 : decode cX12_argRun 54 = .ok (.sipush 128, 3) := by decide +kernel
theorem dX12_argRun_57 : decode cX12_argRun 57 = .ok (.aload_n 0, 1) := by decide +kernel
theorem dX12_argRun_58 : decode cX12_argRun 58 = .ok (.iload_n 3, 1) := by decide +kernel
theorem dX12_argRun_59 : decode cX12_argRun 59 = .ok (.invokevirtual 502, 3) := by decide +kernel
theorem dX12_argRun_62 : decode cX12_argRun 62 = .ok (.imul, 1) := by decide +kernel
theorem dX12_argRun_63 : decode cX12_argRun 63 = .ok (.aload_n 0, 1) := by decide +kernel
theorem dX12_argRun_64 : decode cX12_argRun 64 = .ok (.getfield 208, 3) := by decide +kernel
theorem dX12_argRun_67 : decode cX12_argRun 67 = .ok (.iload_n 3, 1) := by decide +kernel
theorem dX12_argRun_68 : decode cX12_argRun 68 = .ok (.iaload, 1) := by decide +kernel
theorem dX12_argRun_69 : decode cX12_argRun 69 = .ok (.iadd, 1) := by decide +kernel
theorem dX12_argRun_70 : decode cX12_argRun 70 = .ok (.iaload, 1) := by decide +kernel
theorem dX12_argRun_71 : decode cX12_argRun 71 = .ok (.ireturn, 1) := by decide +kernel
theorem dX12_ran_0 : decode cX12_ran 0 = .ok (.aload_n 0, 1) := by decide +kernel
theorem dX12_ran_1 : decode cX12_ran 1 = .ok (.aload_n 0, 1) := by decide +kernel
theorem dX12_ran_2 : decode cX12_ran 2 = .ok (.iload_n 1, 1) := by decide +kernel
theorem dX12_ran_3 : decode cX12_ran 3 = .ok (.iload_n 2, 1) := by decide +kernel
theorem dX12_ran_4 : decode cX12_ran 4 = .ok (.invokevirtual 443, 3) := by decide +kernel
theorem dX12_ran_7 : decode cX12_ran 7 = .ok (.ifCond .eq 7, 3) := by decide +kernel
theorem dX12_ran_10 : decode cX12_ran 10 = .ok (.iconst 0, 1) := by decide +kernel
theorem dX12_ran_11 : decode cX12_ran 11 = .ok (.goto 4, 3) := by decide +kernel
theorem dX12_ran_14 : decode cX12_ran 14 = .ok (.iconst 1, 1) := by decide +kernel
theorem dX12_ran_15 : decode cX12_ran 15 = .ok (.putfield 1, 3) := by decide +kernel
theorem dX12_ran_18 : decode cX12_ran 18 = .ok (.aload_n 0, 1) := by decide +kernel
theorem dX12_ran_19 : decode cX12_ran 19 = .ok (.getfield 1, 3) := by decide +kernel
theorem dX12_ran_22 : decode cX12_ran 22 = .ok (.ifCond .le 5, 3) := by decide +kernel
theorem dX12_ran_25 : decode cX12_ran 25 = .ok (.iconst 0, 1) := by decide +kernel
theorem dX12_ran_26 : decode cX12_ran 26 = .ok (.ireturn, 1) := by decide +kernel
theorem dX12_ran_27 : decode cX12_ran 27 = .ok (.aload_n 0, 1) := by decide +kernel
theorem dX12_ran_28 : decode cX12_ran 28 = .ok (.invokevirtual 526, 3) := by decide +kernel
theorem dX12_ran_31 : decode cX12_ran 31 = .ok (.iconst 0, 1) := by decide +kernel
theorem dX12_ran_32 : decode cX12_ran 32 = .ok (.istore_n 3, 1) := by decide +kernel
theorem dX12_ran_33 : decode cX12_ran 33 = .ok (.iload_n 3, 1) := by decide +kernel
theorem dX12_ran_34 : decode cX12_ran 34 = .ok (.aload_n 0, 1) := by decide +kernel
theorem dX12_ran_35 : decode cX12_ran 35 = .ok (.getfield 489, 3) := by decide +kernel
theorem dX12_ran_38 : decode cX12_ran 38 = .ok (.if_icmp .ge 126, 3) := by decide +kernel
theorem dX12_ran_41 : decode cX12_ran 41 = .ok (.aload_n 0, 1) := by decide +kernel
theorem dX12_ran_42 : decode cX12_ran 42 = .ok (.getfield 199, 3) := by decide +kernel
theorem dX12_ran_45 : decode cX12_ran 45 = .ok (.iload_n 3, 1) := by decide +kernel
theorem dX12_ran_46 : decode cX12_ran 46 = .ok (.iaload, 1) := by decide +kernel
theorem dX12_ran_47 : decode cX12_ran 47 = .ok (.istore 4, 2) := by decide +kernel
theorem dX12_ran_49 : decode cX12_ran 49 = .ok (.aload_n 0, 1) := by decide +kernel
theorem dX12_ran_50 : decode cX12_ran 50 = .ok (.iload 4, 2) := by decide +kernel
theorem dX12_ran_52 : decode cX12_ran 52 = .ok (.invokevirtual 391, 3) := by decide +kernel
theorem dX12_ran_55 : decode cX12_ran 55 = .ok (.ifCond .ne 22, 3) := by decide +kernel
theorem dX12_ran_58 : decode cX12_ran 58 = .ok (.aload_n 0, 1) := by decide +kernel
theorem dX12_ran_59 : decode cX12_ran 59 = .ok (.getfield 165, 3) := by decide +kernel
theorem dX12_ran_62 : decode cX12_ran 62 = .ok (.iconst 4, 1) := by decide +kernel
theorem dX12_ran_63 : decode cX12_ran 63 = .ok (.aload_n 0, 1) := by decide +kernel
theorem dX12_ran_64 : decode cX12_ran 64 = .ok (.iload 4, 2) := by decide +kernel
theorem dX12_ran_66 : decode cX12_ran 66 = .ok (.iconst 0, 1) := by decide +kernel
theorem dX12_ran_67 : decode cX12_ran 67 = .ok (.invokevirtual 388, 3) := by decide +kernel
theorem dX12_ran_70 : decode cX12_ran 70 = .ok (.imul, 1) := by decide +kernel
theorem dX12_ran_71 : decode cX12_ran 71 = .ok (.iload_n 1, 1) := by decide +kernel
theorem dX12_ran_72 : decode cX12_ran 72 = .ok (.iadd, 1) := by decide +kernel
theorem dX12_ran_73 : decode cX12_ran 73 = .ok (.iaload, 1) := by decide +kernel
theorem dX12_ran_74 : decode cX12_ran 74 = .ok (.goto 34, 3) := by decide +kernel
theorem dX12_ran_77 : decode cX12_ran 77 = .ok (.aload_n 0, 1) := by decide +kernel
theorem dX12_ran_78 : decode cX12_ran 78 = .ok (.aload_n 0, 1) := by decide +kernel
theorem dX12_ran_79 : decode cX12_ran 79 = .ok (.iload 4, 2) := by decide +kernel
theorem dX12_ran_81 : decode cX12_ran 81 = .ok (.invokevirtual 391, 3) := by decide +kernel
theorem dX12_ran_84 : decode cX12_ran 84 = .ok (.aload_n 0, 1) := by decide +kernel
theorem dX12_ran_85 : decode cX12_ran 85 = .ok (.iload 4, 2) := by decide +kernel
theorem dX12_ran_87 : decode cX12_ran 87 = .ok (.iconst 0, 1) := by decide +kernel
theorem dX12_ran_88 : decode cX12_ran 88 = .ok (.invokevirtual 542, 3) := by decide +kernel
theorem dX12_ran_91 : decode cX12_ran 91 = .ok (.aload_n 0, 1) := by decide +kernel
theorem dX12_ran_92 : decode cX12_ran 92 = .ok (.iload 4, 2) := by decide +kernel
theorem dX12_ran_94 : decode cX12_ran 94 = .ok (.iconst 1, 1) := by decide +kernel
theorem dX12_ran_95 : decode cX12_ran 95 = .ok (.invokevirtual 542, 3) := by decide +kernel
theorem dX12_ran_98 : decode cX12_ran 98 = .ok (.aload_n 0, 1) := by decide +kernel
theorem dX12_ran_99 : decode cX12_ran 99 = .ok (.iload 4, 2) := by decide +kernel
theorem dX12_ran_101 : decode cX12_ran 101 = .ok (.iconst 2, 1) := by decide +kernel
theorem dX12_ran_102 : decode cX12_ran 102 = .ok (.invokevirtual 542, 3) := by decide +kernel
theorem dX12_ran_105 : decode cX12_ran 105 = .ok (.invokevirtual 397, 3) := by decide +kernel
theorem dX12_ran_108 : decode cX12_ran 108 = .ok (.istore 5, 2) := by decide +kernel
theorem dX12_ran_110 : decode cX12_ran 110 = .ok (.iconst 0, 1) := by decide +kernel
theorem dX12_ran_111 : decode cX12_ran 111 = .ok (.istore 6, 2) := by decide +kernel
theorem dX12_ran_113 : decode cX12_ran 113 = .ok (.iload 6, 2) := by decide +kernel
theorem dX12_ran_115 : decode cX12_ran 115 = .ok (.aload_n 0, 1) := by decide +kernel
theorem dX12_ran_116 : decode cX12_ran 116 = .ok (.iload 4, 2) := by decide +kernel
theorem dX12_ran_118 : decode cX12_ran 118 = .ok (.invokevirtual 473, 3) := by decide +kernel
theorem dX12_ran_121 : decode cX12_ran 121 = .ok (.if_icmp .ge 37, 3) := by decide +kernel
theorem dX12_ran_124 : decode cX12_ran 124 = .ok (.aload_n 0, 1) := by decide +kernel
theorem dX12_ran_125 : decode cX12_ran 125 = .ok (.getfield 223, 3) := by decide +kernel
theorem dX12_ran_128 : decode cX12_ran 128 = .ok (.sipush 128, 3) := by decide +kernel
theorem dX12_ran_131 : decode cX12_ran 131 = .ok (.aload_n 0, 1) := by decide +kernel
theorem dX12_ran_132 : decode cX12_ran 132 = .ok (.iload 4, 2) := by decide +kernel
theorem dX12_ran_134 : decode cX12_ran 134 = .ok (.invokevirtual 502, 3) := by decide +kernel
theorem dX12_ran_137 : decode cX12_ran 137 = .ok (.imul, 1) := by decide +kernel
theorem dX12_ran_138 : decode cX12_ran 138 = .ok (.aload_n 0, 1) := by decide +kernel
theorem dX12_ran_139 : decode cX12_ran 139 = .ok (.getfield 208, 3) := by decide +kernel
theorem dX12_ran_142 : decode cX12_ran 142 = .ok (.iload 4, 2) := by decide +kernel
theorem dX12_ran_144 : decode cX12_ran 144 = .ok (.iaload, 1) := by decide +kernel
theorem dX12_ran_145 : decode cX12_ran 145 = .ok (.iadd, 1) := by decide +kernel
theorem dX12_ran_146 : decode cX12_ran 146 = .ok (.iload 6, 2) := by decide +kernel
theorem dX12_ran_148 : decode cX12_ran 148 = .ok (.iadd, 1) := by decide +kernel
theorem dX12_ran_149 : decode cX12_ran 149 = .ok (.iload 5, 2) := by decide +kernel
theorem dX12_ran_151 : decode cX12_ran 151 = .ok (.iastore, 1) := by decide +kernel
theorem dX12_ran_152 : decode cX12_ran 152 = .ok (.iinc 6 1, 3) := by decide +kernel
theorem dX12_ran_155 : decode cX12_ran 155 = .ok (.goto (-42), 3) := by decide +kernel
theorem dX12_ran_158 : decode cX12_ran 158 = .ok (.iinc 3 1, 3) := by decide +kernel
theorem dX12_ran_161 : decode cX12_ran 161 = .ok (.goto (-128), 3) := by decide +kernel
theorem dX12_ran_164 : decode cX12_ran 164 = .ok (.aload_n 0, 1) := by decide +kernel
theorem dX12_ran_165 : decode cX12_ran 165 = .ok (.getfield 187, 3) := by decide +kernel
theorem dX12_ran_168 : decode cX12_ran 168 = .ok (.aload_n 0, 1) := by decide +kernel
theorem dX12_ran_169 : decode cX12_ran 169 = .ok (.getfield 126, 3) := by decide +kernel
theorem dX12_ran_172 : decode cX12_ran 172 = .ok (.bipush 28, 2) := by decide +kernel
theorem dX12_ran_174 : decode cX12_ran 174 = .ok (.iload_n 2, 1) := by decide +kernel
theorem dX12_ran_175 : decode cX12_ran 175 = .ok (.iadd, 1) := by decide +kernel
theorem dX12_ran_176 : decode cX12_ran 176 = .ok (.iaload, 1) := by decide +kernel
theorem dX12_ran_177 : decode cX12_ran 177 = .ok (.iaload, 1) := by decide +kernel
theorem dX12_ran_178 : decode cX12_ran 178 = .ok (.istore_n 3, 1) := by decide +kernel
theorem dX12_ran_179 : decode cX12_ran 179 = .ok (.aload_n 0, 1) := by decide +kernel
theorem dX12_ran_180 : decode cX12_ran 180 = .ok (.iload_n 3, 1) := by decide +kernel
theorem dX12_ran_181 : decode cX12_ran 181 = .ok (.invokevirtual 453, 3) := by decide +kernel
theorem dX12_ran_184 : decode cX12_ran 184 = .ok (.ifCond .eq 12, 3) := by decide +kernel
theorem dX12_ran_187 : decode cX12_ran 187 = .ok (.aload_n 0, 1) := by decide +kernel
theorem dX12_ran_188 : decode cX12_ran 188 = .ok (.getfield 171, 3) := by decide +kernel
theorem dX12_ran_191 : decode cX12_ran 191 = .ok (.iload_n 3, 1) := by decide +kernel
theorem dX12_ran_192 : decode cX12_ran 192 = .ok (.iaload, 1) := by decide +kernel
theorem dX12_ran_193 : decode cX12_ran 193 = .ok (.goto 24, 3) := by decide +kernel
theorem dX12_ran_196 : decode cX12_ran 196 = .ok (.aload_n 0, 1) := by decide +kernel
theorem dX12_ran_197 : decode cX12_ran 197 = .ok (.getfield 223, 3) := by decide +kernel
theorem dX12_ran_200 : decode cX12_ran 200 = .ok (.sipush 128, 3) := by decide +kernel
theorem dX12_ran_203 : decode cX12_ran 203 = .ok (.aload_n 0, 1) := by decide +kernel
theorem dX12_ran_204 : decode cX12_ran 204 = .ok (.iload_n 3, 1) := by decide +kernel
theorem dX12_ran_205 : decode cX12_ran 205 = .ok (.invokevirtual 502, 3) := by decide +kernel
theorem dX12_ran_208 : decode cX12_ran 208 = .ok (.imul, 1) := by decide +kernel
theorem dX12_ran_209 : decode cX12_ran 209 = .ok (.aload_n 0, 1) := by decide +kernel
theorem dX12_ran_210 : decode cX12_ran 210 = .ok (.getfield 208, 3) := by decide +kernel
theorem dX12_ran_213 : decode cX12_ran 213 = .ok (.iload_n 3, 1) := by decide +kernel
theorem dX12_ran_214 : decode cX12_ran 214 = .ok (.iaload, 1) := by decide +kernel
theorem dX12_ran_215 : decode cX12_ran 215 = .ok (.iadd, 1) := by decide +kernel
theorem dX12_ran_216 : decode cX12_ran 216 = .ok (.iaload, 1) := by decide +kernel
theorem dX12_ran_217 : decode cX12_ran 217 = .ok (.ireturn, 1) := by decide +kernel
theorem dX12_livesIn_0 : decode cX12_livesIn 0 = .ok (.lconst 0, 1) := by decide +kernel
theorem dX12_livesIn_1 : decode cX12_livesIn 1 = .ok (.lstore_n 3, 1) := by decide +kernel
theorem dX12_livesIn_2 : decode cX12_livesIn 2 = .ok (.iconst 0, 1) := by decide +kernel
theorem dX12_livesIn_3 : decode cX12_livesIn 3 = .ok (.istore 5, 2) := by decide +kernel
theorem dX12_livesIn_5 : decode cX12_livesIn 5 = .ok (.iload 5, 2) := by decide +kernel
theorem dX12_livesIn_7 : decode cX12_livesIn 7 = .ok (.iload_n 2, 1) := by decide +kernel
theorem dX12_livesIn_8 : decode cX12_livesIn 8 = .ok (.if_icmp .ge 35, 3) := by decide +kernel
theorem dX12_livesIn_11 : decode cX12_livesIn 11 = .ok (.lload_n 3, 1) := by decide +kernel
theorem dX12_livesIn_12 : decode cX12_livesIn 12 = .ok (.iload_n 1, 1) := by decide +kernel
theorem dX12_livesIn_13 : decode cX12_livesIn 13 = .ok (.iload 5, 2) := by decide +kernel
theorem dX12_livesIn_15 : decode cX12_livesIn 15 = .ok (.ishr, 1) := by decide +kernel
theorem dX12_livesIn_16 : decode cX12_livesIn 16 = .ok (.iconst 1, 1) := by decide +kernel
theorem dX12_livesIn_17 : decode cX12_livesIn 17 = .ok (.iand, 1) := by decide +kernel
theorem dX12_livesIn_18 : decode cX12_livesIn 18 = .ok (.iconst 1, 1) := by decide +kernel
theorem dX12_livesIn_19 : decode cX12_livesIn 19 = .ok (.if_icmp .ne 15, 3) := by decide +kernel
theorem dX12_livesIn_22 : decode cX12_livesIn 22 = .ok (.lconst 1, 1) := by decide +kernel
theorem dX12_livesIn_23 : decode cX12_livesIn 23 = .ok (.aload_n 0, 1) := by decide +kernel
theorem dX12_livesIn_24 : decode cX12_livesIn 24 = .ok (.getfield 226, 3) := by decide +kernel
theorem dX12_livesIn_27 : decode cX12_livesIn 27 = .ok (.iload 5, 2) := by decide +kernel
theorem dX12_livesIn_29 : decode cX12_livesIn 29 = .ok (.iaload, 1) := by decide +kernel
theorem dX12_livesIn_30 : decode cX12_livesIn 30 = .ok (.lshl, 1) := by decide +kernel
theorem dX12_livesIn_31 : decode cX12_livesIn 31 = .ok (.goto 4, 3) := by decide +kernel
theorem dX12_livesIn_34 : decode cX12_livesIn 34 = .ok (.lconst 0, 1) := by decide +kernel
theorem dX12_livesIn_35 : decode cX12_livesIn 35 = .ok (.lor, 1) := by decide +kernel
theorem dX12_livesIn_36 : decode cX12_livesIn 36 = .ok (.lstore_n 3, 1) := by decide +kernel
theorem dX12_livesIn_37 : decode cX12_livesIn 37 = .ok (.iinc 5 1, 3) := by decide +kernel
theorem dX12_livesIn_40 : decode cX12_livesIn 40 = .ok (.goto (-35), 3) := by decide +kernel
theorem dX12_livesIn_43 : decode cX12_livesIn 43 = .ok (.iconst 0, 1) := by decide +kernel
theorem dX12_livesIn_44 : decode cX12_livesIn 44 = .ok (.istore 5, 2) := by decide +kernel
theorem dX12_livesIn_46 : decode cX12_livesIn 46 = .ok (.iconst 0, 1) := by decide +kernel
theorem dX12_livesIn_47 : decode cX12_livesIn 47 = .ok (.istore 6, 2) := by decide +kernel
theorem dX12_livesIn_49 : decode cX12_livesIn 49 = .ok (.iload 6, 2) := by decide +kernel
theorem dX12_livesIn_51 : decode cX12_livesIn 51 = .ok (.iload_n 2, 1) := by decide +kernel
theorem dX12_livesIn_52 : decode cX12_livesIn 52 = .ok (.if_icmp .ge 72, 3) := by decide +kernel
theorem dX12_livesIn_55 : decode cX12_livesIn 55 = .ok (.aload_n 0, 1) := by decide +kernel
theorem dX12_livesIn_56 : decode cX12_livesIn 56 = .ok (.getfield 226, 3) := by decide +kernel
theorem dX12_livesIn_59 : decode cX12_livesIn 59 = .ok (.iload 6, 2) := by decide +kernel
theorem dX12_livesIn_61 : decode cX12_livesIn 61 = .ok (.iaload, 1) := by decide +kernel
theorem dX12_livesIn_62 : decode cX12_livesIn 62 = .ok (.istore 7, 2) := by decide +kernel
theorem dX12_livesIn_64 : decode cX12_livesIn 64 = .ok (.iload 5, 2) := by decide +kernel
theorem dX12_livesIn_66 : decode cX12_livesIn 66 = .ok (.lload_n 3, 1) := by decide +kernel
theorem dX12_livesIn_67 : decode cX12_livesIn 67 = .ok (.iload 7, 2) := by decide +kernel
theorem dX12_livesIn_69 : decode cX12_livesIn 69 = .ok (.invokestatic 449, 3) := by decide +kernel
theorem dX12_livesIn_72 : decode cX12_livesIn 72 = .ok (.ifCond .eq 42, 3) := by decide +kernel
theorem dX12_livesIn_75 : decode cX12_livesIn 75 = .ok (.aload_n 0, 1) := by decide +kernel
theorem dX12_livesIn_76 : decode cX12_livesIn 76 = .ok (.getfield 460, 3) := by decide +kernel
theorem dX12_livesIn_79 : decode cX12_livesIn 79 = .ok (.iload 7, 2) := by decide +kernel
theorem dX12_livesIn_81 : decode cX12_livesIn 81 = .ok (.invokestatic 449, 3) := by decide +kernel
theorem dX12_livesIn_84 : decode cX12_livesIn 84 = .ok (.ifCond .ne 21, 3) := by decide +kernel
theorem dX12_livesIn_87 : decode cX12_livesIn 87 = .ok (.aload_n 0, 1) := by decide +kernel
theorem dX12_livesIn_88 : decode cX12_livesIn 88 = .ok (.getfield 193, 3) := by decide +kernel
theorem dX12_livesIn_91 : decode cX12_livesIn 91 = .ok (.iload 7, 2) := by decide +kernel
theorem dX12_livesIn_93 : decode cX12_livesIn 93 = .ok (.laload, 1) := by decide +kernel
theorem dX12_livesIn_94 : decode cX12_livesIn 94 = .ok (.lload_n 3, 1) := by decide +kernel
theorem dX12_livesIn_95 : decode cX12_livesIn 95 = .ok (.ldc2_w 483, 3) := by decide +kernel
theorem dX12_livesIn_98 : decode cX12_livesIn 98 = .ok (.lxor, 1) := by decide +kernel
theorem dX12_livesIn_99 : decode cX12_livesIn 99 = .ok (.land, 1) := by decide +kernel
theorem dX12_livesIn_100 : decode cX12_livesIn 100 = .ok (.lconst 0, 1) := by decide +kernel
theorem dX12_livesIn_101 : decode cX12_livesIn 101 = .ok (.lcmp, 1) := by decide +kernel
theorem dX12_livesIn_102 : decode cX12_livesIn 102 = .ok (.ifCond .eq 12, 3) := by decide +kernel
theorem dX12_livesIn_105 : decode cX12_livesIn 105 = .ok (.aload_n 0, 1) := by decide +kernel
theorem dX12_livesIn_106 : decode cX12_livesIn 106 = .ok (.iload 7, 2) := by decide +kernel
theorem dX12_livesIn_108 : decode cX12_livesIn 108 = .ok (.invokevirtual 473, 3) := by decide +kernel
theorem dX12_livesIn_111 : decode cX12_livesIn 111 = .ok (.goto 4, 3) := by decide +kernel
theorem dX12_livesIn_114 : decode cX12_livesIn 114 = .ok (.iconst 0, 1) := by decide +kernel
theorem dX12_livesIn_115 : decode cX12_livesIn 115 = .ok (.iadd, 1) := by decide +kernel
theorem dX12_livesIn_116 : decode cX12_livesIn 116 = .ok (.istore 5, 2) := by decide +kernel
theorem dX12_livesIn_118 : decode cX12_livesIn 118 = .ok (.iinc 6 1, 3) := by decide +kernel
theorem dX12_livesIn_121 : decode cX12_livesIn 121 = .ok (.goto (-72), 3) := by decide +kernel
theorem dX12_livesIn_124 : decode cX12_livesIn 124 = .ok (.iload 5, 2) := by decide +kernel
theorem dX12_livesIn_126 : decode cX12_livesIn 126 = .ok (.ireturn, 1) := by decide +kernel
theorem dX12_comesBehind_0 : decode cX12_comesBehind 0 = .ok (.lconst 0, 1) := by decide +kernel
theorem dX12_comesBehind_1 : decode cX12_comesBehind 1 = .ok (.lstore 4, 2) := by decide +kernel
theorem dX12_comesBehind_3 : decode cX12_comesBehind 3 = .ok (.iconst 0, 1) := by decide +kernel
theorem dX12_comesBehind_4 : decode cX12_comesBehind 4 = .ok (.istore 6, 2) := by decide +kernel
theorem dX12_comesBehind_6 : decode cX12_comesBehind 6 = .ok (.iload 6, 2) := by decide +kernel
theorem dX12_comesBehind_8 : decode cX12_comesBehind 8 = .ok (.iload_n 3, 1) := by decide +kernel
theorem dX12_comesBehind_9 : decode cX12_comesBehind 9 = .ok (.if_icmp .ge 37, 3) := by decide +kernel
theorem dX12_comesBehind_12 : decode cX12_comesBehind 12 = .ok (.lload 4, 2) := by decide +kernel
theorem dX12_comesBehind_14 : decode cX12_comesBehind 14 = .ok (.iload_n 1, 1) := by decide +kernel
theorem dX12_comesBehind_15 : decode cX12_comesBehind 15 = .ok (.iload 6, 2) := by decide +kernel
theorem dX12_comesBehind_17 : decode cX12_comesBehind 17 = .ok (.ishr, 1) := by decide +kernel
theorem dX12_comesBehind_18 : decode cX12_comesBehind 18 = .ok (.iconst 1, 1) := by decide +kernel
theorem dX12_comesBehind_19 : decode cX12_comesBehind 19 = .ok (.iand, 1) := by decide +kernel
theorem dX12_comesBehind_20 : decode cX12_comesBehind 20 = .ok (.iconst 1, 1) := by decide +kernel
theorem dX12_comesBehind_21 : decode cX12_comesBehind 21 = .ok (.if_icmp .ne 15, 3) := by decide +kernel
theorem dX12_comesBehind_24 : decode cX12_comesBehind 24 = .ok (.lconst 1, 1) := by decide +kernel
theorem dX12_comesBehind_25 : decode cX12_comesBehind 25 = .ok (.aload_n 0, 1) := by decide +kernel
theorem dX12_comesBehind_26 : decode cX12_comesBehind 26 = .ok (.getfield 226, 3) := by decide +kernel
theorem dX12_comesBehind_29 : decode cX12_comesBehind 29 = .ok (.iload 6, 2) := by decide +kernel
theorem dX12_comesBehind_31 : decode cX12_comesBehind 31 = .ok (.iaload, 1) := by decide +kernel
theorem dX12_comesBehind_32 : decode cX12_comesBehind 32 = .ok (.lshl, 1) := by decide +kernel
theorem dX12_comesBehind_33 : decode cX12_comesBehind 33 = .ok (.goto 4, 3) := by decide +kernel
theorem dX12_comesBehind_36 : decode cX12_comesBehind 36 = .ok (.lconst 0, 1) := by decide +kernel
theorem dX12_comesBehind_37 : decode cX12_comesBehind 37 = .ok (.lor, 1) := by decide +kernel
theorem dX12_comesBehind_38 : decode cX12_comesBehind 38 = .ok (.lstore 4, 2) := by decide +kernel
theorem dX12_comesBehind_40 : decode cX12_comesBehind 40 = .ok (.iinc 6 1, 3) := by decide +kernel
theorem dX12_comesBehind_43 : decode cX12_comesBehind 43 = .ok (.goto (-37), 3) := by decide +kernel
theorem dX12_comesBehind_46 : decode cX12_comesBehind 46 = .ok (.aload_n 0, 1) := by decide +kernel
theorem dX12_comesBehind_47 : decode cX12_comesBehind 47 = .ok (.getfield 190, 3) := by decide +kernel
theorem dX12_comesBehind_50 : decode cX12_comesBehind 50 = .ok (.aload_n 0, 1) := by decide +kernel
theorem dX12_comesBehind_51 : decode cX12_comesBehind 51 = .ok (.getfield 226, 3) := by decide +kernel
theorem dX12_comesBehind_54 : decode cX12_comesBehind 54 = .ok (.iload_n 2, 1) := by decide +kernel
theorem dX12_comesBehind_55 : decode cX12_comesBehind 55 = .ok (.iaload, 1) := by decide +kernel
theorem dX12_comesBehind_56 : decode cX12_comesBehind 56 = .ok (.laload, 1) := by decide +kernel
theorem dX12_comesBehind_57 : decode cX12_comesBehind 57 = .ok (.lload 4, 2) := by decide +kernel
theorem dX12_comesBehind_59 : decode cX12_comesBehind 59 = .ok (.ldc2_w 483, 3) := by decide +kernel
theorem dX12_comesBehind_62 : decode cX12_comesBehind 62 = .ok (.lxor, 1) := by decide +kernel
theorem dX12_comesBehind_63 : decode cX12_comesBehind 63 = .ok (.land, 1) := by decide +kernel
theorem dX12_comesBehind_64 : decode cX12_comesBehind 64 = .ok (.lconst 0, 1) := by decide +kernel
theorem dX12_comesBehind_65 : decode cX12_comesBehind 65 = .ok (.lcmp, 1) := by decide +kernel
theorem dX12_comesBehind_66 : decode cX12_comesBehind 66 = .ok (.ifCond .ne 7, 3) := by decide +kernel
theorem dX12_comesBehind_69 : decode cX12_comesBehind 69 = .ok (.iconst 1, 1) := by decide +kernel
theorem dX12_comesBehind_70 : decode cX12_comesBehind 70 = .ok (.goto 4, 3) := by decide +kernel
theorem dX12_comesBehind_73 : decode cX12_comesBehind 73 = .ok (.iconst 0, 1) := by decide +kernel
theorem dX12_comesBehind_74 : decode cX12_comesBehind 74 = .ok (.ireturn, 1) := by decide +kernel
theorem dX12_canBe_0 : decode cX12_canBe 0 = .ok (.aload_n 0, 1) := by decide +kernel
theorem dX12_canBe_1 : decode cX12_canBe 1 = .ok (.getfield 229, 3) := by decide +kernel
theorem dX12_canBe_4 : decode cX12_canBe 4 = .ok (.iconst 0, 1) := by decide +kernel
theorem dX12_canBe_5 : decode cX12_canBe 5 = .ok (.iconst 1, 1) := by decide +kernel
theorem dX12_canBe_6 : decode cX12_canBe 6 = .ok (.bastore, 1) := by decide +kernel
theorem dX12_canBe_7 : decode cX12_canBe 7 = .ok (.iconst 1, 1) := by decide +kernel
theorem dX12_canBe_8 : decode cX12_canBe 8 = .ok (.istore_n 3, 1) := by decide +kernel
theorem dX12_canBe_9 : decode cX12_canBe 9 = .ok (.iload_n 3, 1) := by decide +kernel
theorem dX12_canBe_10 : decode cX12_canBe 10 = .ok (.iconst 1, 1) := by decide +kernel
theorem dX12_canBe_11 : decode cX12_canBe 11 = .ok (.iload_n 2, 1) := by decide +kernel
theorem dX12_canBe_12 : decode cX12_canBe 12 = .ok (.ishl, 1) := by decide +kernel
theorem dX12_canBe_13 : decode cX12_canBe 13 = .ok (.if_icmp .ge 113, 3) := by decide +kernel
theorem dX12_canBe_16 : decode cX12_canBe 16 = .ok (.aload_n 0, 1) := by decide +kernel
theorem dX12_canBe_17 : decode cX12_canBe 17 = .ok (.getfield 229, 3) := by decide +kernel
theorem dX12_canBe_20 : decode cX12_canBe 20 = .ok (.iload_n 3, 1) := by decide +kernel
theorem dX12_canBe_21 : decode cX12_canBe 21 = .ok (.iconst 0, 1) := by decide +kernel
theorem dX12_canBe_22 : decode cX12_canBe 22 = .ok (.bastore, 1) := by decide +kernel
theorem dX12_canBe_23 : decode cX12_canBe 23 = .ok (.iconst 0, 1) := by decide +kernel
theorem dX12_canBe_24 : decode cX12_canBe 24 = .ok (.istore 4, 2) := by decide +kernel
theorem dX12_canBe_26 : decode cX12_canBe 26 = .ok (.iload 4, 2) := by decide +kernel
theorem dX12_canBe_28 : decode cX12_canBe 28 = .ok (.iload_n 2, 1) := by decide +kernel
theorem dX12_canBe_29 : decode cX12_canBe 29 = .ok (.if_icmp .ge 91, 3) := by decide +kernel
theorem dX12_canBe_32 : decode cX12_canBe 32 = .ok (.aload_n 0, 1) := by decide +kernel
theorem dX12_canBe_33 : decode cX12_canBe 33 = .ok (.getfield 229, 3) := by decide +kernel
theorem dX12_canBe_36 : decode cX12_canBe 36 = .ok (.iload_n 3, 1) := by decide +kernel
theorem dX12_canBe_37 : decode cX12_canBe 37 = .ok (.baload, 1) := by decide +kernel
theorem dX12_canBe_38 : decode cX12_canBe 38 = .ok (.ifCond .ne 82, 3) := by decide +kernel
theorem dX12_canBe_41 : decode cX12_canBe 41 = .ok (.iload_n 3, 1) := by decide +kernel
theorem dX12_canBe_42 : decode cX12_canBe 42 = .ok (.iload 4, 2) := by decide +kernel
theorem dX12_canBe_44 : decode cX12_canBe 44 = .ok (.ishr, 1) := by decide +kernel
theorem dX12_canBe_45 : decode cX12_canBe 45 = .ok (.iconst 1, 1) := by decide +kernel
theorem dX12_canBe_46 : decode cX12_canBe 46 = .ok (.iand, 1) := by decide +kernel
theorem dX12_canBe_47 : decode cX12_canBe 47 = .ok (.iconst 1, 1) := by decide +kernel
theorem dX12_canBe_48 : decode cX12_canBe 48 = .ok (.if_icmp .ne 21, 3) := by decide +kernel
theorem dX12_canBe_51 : decode cX12_canBe 51 = .ok (.aload_n 0, 1) := by decide +kernel
theorem dX12_canBe_52 : decode cX12_canBe 52 = .ok (.getfield 229, 3) := by decide +kernel
theorem dX12_canBe_55 : decode cX12_canBe 55 = .ok (.iload_n 3, 1) := by decide +kernel
theorem dX12_canBe_56 : decode cX12_canBe 56 = .ok (.iconst 1, 1) := by decide +kernel
theorem dX12_canBe_57 : decode cX12_canBe 57 = .ok (.iload 4, 2) := by decide +kernel
theorem dX12_canBe_59 : decode cX12_canBe 59 = .ok (.ishl, 1) := by decide +kernel
theorem dX12_canBe_60 : decode cX12_canBe 60 = .ok (.isub, 1) := by decide +kernel
theorem dX12_canBe_61 : decode cX12_canBe 61 = .ok (.baload, 1) := by decide +kernel
theorem dX12_canBe_62 : decode cX12_canBe 62 = .ok (.ifCond .eq 7, 3) := by decide +kernel
theorem dX12_canBe_65 : decode cX12_canBe 65 = .ok (.iconst 1, 1) := by decide +kernel
theorem dX12_canBe_66 : decode cX12_canBe 66 = .ok (.goto 4, 3) := by decide +kernel
theorem dX12_canBe_69 : decode cX12_canBe 69 = .ok (.iconst 0, 1) := by decide +kernel
theorem dX12_canBe_70 : decode cX12_canBe 70 = .ok (.istore 5, 2) := by decide +kernel
theorem dX12_canBe_72 : decode cX12_canBe 72 = .ok (.aload_n 0, 1) := by decide +kernel
theorem dX12_canBe_73 : decode cX12_canBe 73 = .ok (.getfield 229, 3) := by decide +kernel
theorem dX12_canBe_76 : decode cX12_canBe 76 = .ok (.iload_n 3, 1) := by decide +kernel
theorem dX12_canBe_77 : decode cX12_canBe 77 = .ok (.iload 5, 2) := by decide +kernel
theorem dX12_canBe_79 : decode cX12_canBe 79 = .ok (.ifCond .eq 33, 3) := by decide +kernel
theorem dX12_canBe_82 : decode cX12_canBe 82 = .ok (.aload_n 0, 1) := by decide +kernel
theorem dX12_canBe_83 : decode cX12_canBe 83 = .ok (.iload_n 3, 1) := by decide +kernel
theorem dX12_canBe_84 : decode cX12_canBe 84 = .ok (.iconst 1, 1) := by decide +kernel
theorem dX12_canBe_85 : decode cX12_canBe 85 = .ok (.iload 4, 2) := by decide +kernel
