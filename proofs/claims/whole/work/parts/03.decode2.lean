theorem dX6_readShow_45 : decode cX6_readShow 45 = .ok (.iload_n 2, 1) := by decide +kernel
theorem dX6_readShow_46 : decode cX6_readShow 46 = .ok (.ifCond .ne 10, 3) := by decide +kernel
theorem dX6_readShow_49 : decode cX6_readShow 49 = .ok (.aload_n 0, 1) := by decide +kernel
theorem dX6_readShow_50 : decode cX6_readShow 50 = .ok (.invokevirtual 133, 3) := by decide +kernel
theorem dX6_readShow_53 : decode cX6_readShow 53 = .ok (.goto 4, 3) := by decide +kernel
theorem dX6_readShow_56 : decode cX6_readShow 56 = .ok (.iload_n 2, 1) := by decide +kernel
theorem dX6_readShow_57 : decode cX6_readShow 57 = .ok (.ireturn, 1) := by decide +kernel
theorem dX6_readIs_0 : decode cX6_readIs 0 = .ok (.aload_n 0, 1) := by decide +kernel
theorem dX6_readIs_1 : decode cX6_readIs 1 = .ok (.aload_n 0, 1) := by decide +kernel
theorem dX6_readIs_2 : decode cX6_readIs 2 = .ok (.getfield 33, 3) := by decide +kernel
theorem dX6_readIs_5 : decode cX6_readIs 5 = .ok (.getfield 139, 3) := by decide +kernel
theorem dX6_readIs_8 : decode cX6_readIs 8 = .ok (.invokevirtual 143, 3) := by decide +kernel
theorem dX6_readIs_11 : decode cX6_readIs 11 = .ok (.istore_n 1, 1) := by decide +kernel
theorem dX6_readIs_12 : decode cX6_readIs 12 = .ok (.iload_n 1, 1) := by decide +kernel
theorem dX6_readIs_13 : decode cX6_readIs 13 = .ok (.iconst (-1), 1) := by decide +kernel
theorem dX6_readIs_14 : decode cX6_readIs 14 = .ok (.if_icmp .eq 18, 3) := by decide +kernel
theorem dX6_readIs_17 : decode cX6_readIs 17 = .ok (.aload_n 0, 1) := by decide +kernel
theorem dX6_readIs_18 : decode cX6_readIs 18 = .ok (.getfield 26, 3) := by decide +kernel
theorem dX6_readIs_21 : decode cX6_readIs 21 = .ok (.iload_n 1, 1) := by decide +kernel
theorem dX6_readIs_22 : decode cX6_readIs 22 = .ok (.baload, 1) := by decide +kernel
theorem dX6_readIs_23 : decode cX6_readIs 23 = .ok (.ifCond .eq 9, 3) := by decide +kernel
theorem dX6_readIs_26 : decode cX6_readIs 26 = .ok (.aload_n 0, 1) := by decide +kernel
theorem dX6_readIs_27 : decode cX6_readIs 27 = .ok (.iconst 3, 1) := by decide +kernel
theorem dX6_readIs_28 : decode cX6_readIs 28 = .ok (.invokevirtual 72, 3) := by decide +kernel
theorem dX6_readIs_31 : decode cX6_readIs 31 = .ok (.ireturn, 1) := by decide +kernel
theorem dX6_readIs_32 : decode cX6_readIs 32 = .ok (.iload_n 1, 1) := by decide +kernel
theorem dX6_readIs_33 : decode cX6_readIs 33 = .ok (.iconst (-1), 1) := by decide +kernel
theorem dX6_readIs_34 : decode cX6_readIs 34 = .ok (.if_icmp .ne 18, 3) := by decide +kernel
theorem dX6_readIs_37 : decode cX6_readIs 37 = .ok (.aload_n 0, 1) := by decide +kernel
theorem dX6_readIs_38 : decode cX6_readIs 38 = .ok (.getfield 40, 3) := by decide +kernel
theorem dX6_readIs_41 : decode cX6_readIs 41 = .ok (.bipush 20, 2) := by decide +kernel
theorem dX6_readIs_43 : decode cX6_readIs 43 = .ok (.if_icmp .lt 9, 3) := by decide +kernel
theorem dX6_readIs_46 : decode cX6_readIs 46 = .ok (.aload_n 0, 1) := by decide +kernel
theorem dX6_readIs_47 : decode cX6_readIs 47 = .ok (.iconst 5, 1) := by decide +kernel
theorem dX6_readIs_48 : decode cX6_readIs 48 = .ok (.invokevirtual 72, 3) := by decide +kernel
theorem dX6_readIs_51 : decode cX6_readIs 51 = .ok (.ireturn, 1) := by decide +kernel
theorem dX6_readIs_52 : decode cX6_readIs 52 = .ok (.aload_n 0, 1) := by decide +kernel
theorem dX6_readIs_53 : decode cX6_readIs 53 = .ok (.getfield 33, 3) := by decide +kernel
theorem dX6_readIs_56 : decode cX6_readIs 56 = .ok (.getfield 139, 3) := by decide +kernel
theorem dX6_readIs_59 : decode cX6_readIs 59 = .ok (.lstore_n 2, 1) := by decide +kernel
theorem dX6_readIs_60 : decode cX6_readIs 60 = .ok (.aload_n 0, 1) := by decide +kernel
theorem dX6_readIs_61 : decode cX6_readIs 61 = .ok (.getfield 12, 3) := by decide +kernel
theorem dX6_readIs_64 : decode cX6_readIs 64 = .ok (.iconst 4, 1) := by decide +kernel
theorem dX6_readIs_65 : decode cX6_readIs 65 = .ok (.aload_n 0, 1) := by decide +kernel
theorem dX6_readIs_66 : decode cX6_readIs 66 = .ok (.getfield 33, 3) := by decide +kernel
theorem dX6_readIs_69 : decode cX6_readIs 69 = .ok (.getfield 78, 3) := by decide +kernel
theorem dX6_readIs_72 : decode cX6_readIs 72 = .ok (.invokevirtual 136, 3) := by decide +kernel
theorem dX6_readIs_75 : decode cX6_readIs 75 = .ok (.istore 4, 2) := by decide +kernel
theorem dX6_readIs_77 : decode cX6_readIs 77 = .ok (.aload_n 0, 1) := by decide +kernel
theorem dX6_readIs_78 : decode cX6_readIs 78 = .ok (.getfield 33, 3) := by decide +kernel
theorem dX6_readIs_81 : decode cX6_readIs 81 = .ok (.invokevirtual 62, 3) := by decide +kernel
theorem dX6_readIs_84 : decode cX6_readIs 84 = .ok (.aload_n 0, 1) := by decide +kernel
theorem dX6_readIs_85 : decode cX6_readIs 85 = .ok (.getfield 33, 3) := by decide +kernel
theorem dX6_readIs_88 : decode cX6_readIs 88 = .ok (.iconst 4, 1) := by decide +kernel
theorem dX6_readIs_89 : decode cX6_readIs 89 = .ok (.invokevirtual 176, 3) := by decide +kernel
theorem dX6_readIs_92 : decode cX6_readIs 92 = .ok (.ifCond .ne 9, 3) := by decide +kernel
theorem dX6_readIs_95 : decode cX6_readIs 95 = .ok (.aload_n 0, 1) := by decide +kernel
theorem dX6_readIs_96 : decode cX6_readIs 96 = .ok (.iconst 1, 1) := by decide +kernel
theorem dX6_readIs_97 : decode cX6_readIs 97 = .ok (.invokevirtual 72, 3) := by decide +kernel
theorem dX6_readIs_100 : decode cX6_readIs 100 = .ok (.ireturn, 1) := by decide +kernel
theorem dX6_readIs_101 : decode cX6_readIs 101 = .ok (.aload_n 0, 1) := by decide +kernel
theorem dX6_readIs_102 : decode cX6_readIs 102 = .ok (.iload 4, 2) := by decide +kernel
theorem dX6_readIs_104 : decode cX6_readIs 104 = .ok (.iload_n 1, 1) := by decide +kernel
theorem dX6_readIs_105 : decode cX6_readIs 105 = .ok (.iconst (-1), 1) := by decide +kernel
theorem dX6_readIs_106 : decode cX6_readIs 106 = .ok (.if_icmp .ne 7, 3) := by decide +kernel
theorem dX6_readIs_109 : decode cX6_readIs 109 = .ok (.iconst 2, 1) := by decide +kernel
theorem dX6_readIs_110 : decode cX6_readIs 110 = .ok (.goto 9, 3) := by decide +kernel
theorem dX6_readIs_113 : decode cX6_readIs 113 = .ok (.aload_n 0, 1) := by decide +kernel
theorem dX6_readIs_114 : decode cX6_readIs 114 = .ok (.getfield 22, 3) := by decide +kernel
theorem dX6_readIs_117 : decode cX6_readIs 117 = .ok (.iload_n 1, 1) := by decide +kernel
theorem dX6_readIs_118 : decode cX6_readIs 118 = .ok (.iaload, 1) := by decide +kernel
theorem dX6_readIs_119 : decode cX6_readIs 119 = .ok (.invokevirtual 180, 3) := by decide +kernel
theorem dX6_readIs_122 : decode cX6_readIs 122 = .ok (.istore 5, 2) := by decide +kernel
theorem dX6_readIs_124 : decode cX6_readIs 124 = .ok (.iload 5, 2) := by decide +kernel
theorem dX6_readIs_126 : decode cX6_readIs 126 = .ok (.ifCond .ne 9, 3) := by decide +kernel
theorem dX6_readIs_129 : decode cX6_readIs 129 = .ok (.aload_n 0, 1) := by decide +kernel
theorem dX6_readIs_130 : decode cX6_readIs 130 = .ok (.invokevirtual 133, 3) := by decide +kernel
theorem dX6_readIs_133 : decode cX6_readIs 133 = .ok (.istore 5, 2) := by decide +kernel
theorem dX6_readIs_135 : decode cX6_readIs 135 = .ok (.iload 5, 2) := by decide +kernel
theorem dX6_readIs_137 : decode cX6_readIs 137 = .ok (.ifCond .ne 32, 3) := by decide +kernel
theorem dX6_readIs_140 : decode cX6_readIs 140 = .ok (.aload_n 0, 1) := by decide +kernel
theorem dX6_readIs_141 : decode cX6_readIs 141 = .ok (.getfield 12, 3) := by decide +kernel
theorem dX6_readIs_144 : decode cX6_readIs 144 = .ok (.getfield 150, 3) := by decide +kernel
theorem dX6_readIs_147 : decode cX6_readIs 147 = .ok (.iload 4, 2) := by decide +kernel
theorem dX6_readIs_149 : decode cX6_readIs 149 = .ok (.iload_n 1, 1) := by decide +kernel
theorem dX6_readIs_150 : decode cX6_readIs 150 = .ok (.iconst (-1), 1) := by decide +kernel
theorem dX6_readIs_151 : decode cX6_readIs 151 = .ok (.if_icmp .ne 16, 3) := by decide +kernel
theorem dX6_readIs_154 : decode cX6_readIs 154 = .ok (.aload_n 0, 1) := by decide +kernel
theorem dX6_readIs_155 : decode cX6_readIs 155 = .ok (.lload_n 2, 1) := by decide +kernel
theorem dX6_readIs_156 : decode cX6_readIs 156 = .ok (.aload_n 0, 1) := by decide +kernel
theorem dX6_readIs_157 : decode cX6_readIs 157 = .ok (.getfield 183, 3) := by decide +kernel
theorem dX6_readIs_160 : decode cX6_readIs 160 = .ok (.iconst 0, 1) := by decide +kernel
theorem dX6_readIs_161 : decode cX6_readIs 161 = .ok (.invokevirtual 153, 3) := by decide +kernel
theorem dX6_readIs_164 : decode cX6_readIs 164 = .ok (.goto 4, 3) := by decide +kernel
theorem dX6_readIs_167 : decode cX6_readIs 167 = .ok (.iload_n 1, 1) := by decide +kernel
theorem dX6_readIs_168 : decode cX6_readIs 168 = .ok (.iastore, 1) := by decide +kernel
theorem dX6_readIs_169 : decode cX6_readIs 169 = .ok (.iload 5, 2) := by decide +kernel
theorem dX6_readIs_171 : decode cX6_readIs 171 = .ok (.ireturn, 1) := by decide +kernel
theorem dX6_readOp_0 : decode cX6_readOp 0 = .ok (.aload_n 0, 1) := by decide +kernel
theorem dX6_readOp_1 : decode cX6_readOp 1 = .ok (.getfield 33, 3) := by decide +kernel
theorem dX6_readOp_4 : decode cX6_readOp 4 = .ok (.invokevirtual 62, 3) := by decide +kernel
theorem dX6_readOp_7 : decode cX6_readOp 7 = .ok (.aload_n 0, 1) := by decide +kernel
theorem dX6_readOp_8 : decode cX6_readOp 8 = .ok (.getfield 33, 3) := by decide +kernel
theorem dX6_readOp_11 : decode cX6_readOp 11 = .ok (.getfield 65, 3) := by decide +kernel
theorem dX6_readOp_14 : decode cX6_readOp 14 = .ok (.iconst 5, 1) := by decide +kernel
theorem dX6_readOp_15 : decode cX6_readOp 15 = .ok (.if_icmp .ne 15, 3) := by decide +kernel
theorem dX6_readOp_18 : decode cX6_readOp 18 = .ok (.aload_n 0, 1) := by decide +kernel
theorem dX6_readOp_19 : decode cX6_readOp 19 = .ok (.getfield 33, 3) := by decide +kernel
theorem dX6_readOp_22 : decode cX6_readOp 22 = .ok (.getfield 87, 3) := by decide +kernel
theorem dX6_readOp_25 : decode cX6_readOp 25 = .ok (.bipush 10, 2) := by decide +kernel
theorem dX6_readOp_27 : decode cX6_readOp 27 = .ok (.if_icmp .ge 9, 3) := by decide +kernel
theorem dX6_readOp_30 : decode cX6_readOp 30 = .ok (.aload_n 0, 1) := by decide +kernel
theorem dX6_readOp_31 : decode cX6_readOp 31 = .ok (.iconst 1, 1) := by decide +kernel
theorem dX6_readOp_32 : decode cX6_readOp 32 = .ok (.invokevirtual 72, 3) := by decide +kernel
theorem dX6_readOp_35 : decode cX6_readOp 35 = .ok (.ireturn, 1) := by decide +kernel
theorem dX6_readOp_36 : decode cX6_readOp 36 = .ok (.aload_n 0, 1) := by decide +kernel
theorem dX6_readOp_37 : decode cX6_readOp 37 = .ok (.getfield 33, 3) := by decide +kernel
theorem dX6_readOp_40 : decode cX6_readOp 40 = .ok (.getfield 87, 3) := by decide +kernel
theorem dX6_readOp_43 : decode cX6_readOp 43 = .ok (.bipush 10, 2) := by decide +kernel
theorem dX6_readOp_45 : decode cX6_readOp 45 = .ok (.isub, 1) := by decide +kernel
theorem dX6_readOp_46 : decode cX6_readOp 46 = .ok (.iconst 2, 1) := by decide +kernel
theorem dX6_readOp_47 : decode cX6_readOp 47 = .ok (.iadd, 1) := by decide +kernel
theorem dX6_readOp_48 : decode cX6_readOp 48 = .ok (.istore_n 3, 1) := by decide +kernel
theorem dX6_readOp_49 : decode cX6_readOp 49 = .ok (.iload_n 3, 1) := by decide +kernel
theorem dX6_readOp_50 : decode cX6_readOp 50 = .ok (.bipush 13, 2) := by decide +kernel
theorem dX6_readOp_52 : decode cX6_readOp 52 = .ok (.if_icmp .eq 9, 3) := by decide +kernel
theorem dX6_readOp_55 : decode cX6_readOp 55 = .ok (.iload_n 3, 1) := by decide +kernel
theorem dX6_readOp_56 : decode cX6_readOp 56 = .ok (.bipush 14, 2) := by decide +kernel
theorem dX6_readOp_58 : decode cX6_readOp 58 = .ok (.if_icmp .ne 7, 3) := by decide +kernel
theorem dX6_readOp_61 : decode cX6_readOp 61 = .ok (.iconst 1, 1) := by decide +kernel
theorem dX6_readOp_62 : decode cX6_readOp 62 = .ok (.goto 4, 3) := by decide +kernel
theorem dX6_readOp_65 : decode cX6_readOp 65 = .ok (.iconst 0, 1) := by decide +kernel
theorem dX6_readOp_66 : decode cX6_readOp 66 = .ok (.istore 4, 2) := by decide +kernel
theorem dX6_readOp_68 : decode cX6_readOp 68 = .ok (.iload 4, 2) := by decide +kernel
theorem dX6_readOp_70 : decode cX6_readOp 70 = .ok (.ifCond .ne 23, 3) := by decide +kernel
theorem dX6_readOp_73 : decode cX6_readOp 73 = .ok (.iload_n 2, 1) := by decide +kernel
theorem dX6_readOp_74 : decode cX6_readOp 74 = .ok (.iconst 2, 1) := by decide +kernel
theorem dX6_readOp_75 : decode cX6_readOp 75 = .ok (.if_icmp .eq 18, 3) := by decide +kernel
theorem dX6_readOp_78 : decode cX6_readOp 78 = .ok (.iload_n 2, 1) := by decide +kernel
theorem dX6_readOp_79 : decode cX6_readOp 79 = .ok (.iload_n 3, 1) := by decide +kernel
theorem dX6_readOp_80 : decode cX6_readOp 80 = .ok (.invokestatic 186, 3) := by decide +kernel
theorem dX6_readOp_83 : decode cX6_readOp 83 = .ok (.if_icmp .eq 10, 3) := by decide +kernel
theorem dX6_readOp_86 : decode cX6_readOp 86 = .ok (.aload_n 0, 1) := by decide +kernel
theorem dX6_readOp_87 : decode cX6_readOp 87 = .ok (.bipush 6, 2) := by decide +kernel
theorem dX6_readOp_89 : decode cX6_readOp 89 = .ok (.invokevirtual 72, 3) := by decide +kernel
theorem dX6_readOp_92 : decode cX6_readOp 92 = .ok (.ireturn, 1) := by decide +kernel
theorem dX6_readOp_93 : decode cX6_readOp 93 = .ok (.aload_n 0, 1) := by decide +kernel
theorem dX6_readOp_94 : decode cX6_readOp 94 = .ok (.getfield 12, 3) := by decide +kernel
theorem dX6_readOp_97 : decode cX6_readOp 97 = .ok (.getfield 189, 3) := by decide +kernel
theorem dX6_readOp_100 : decode cX6_readOp 100 = .ok (.iload_n 1, 1) := by decide +kernel
theorem dX6_readOp_101 : decode cX6_readOp 101 = .ok (.iload_n 3, 1) := by decide +kernel
theorem dX6_readOp_102 : decode cX6_readOp 102 = .ok (.iastore, 1) := by decide +kernel
theorem dX6_readOp_103 : decode cX6_readOp 103 = .ok (.aload_n 0, 1) := by decide +kernel
theorem dX6_readOp_104 : decode cX6_readOp 104 = .ok (.getfield 12, 3) := by decide +kernel
theorem dX6_readOp_107 : decode cX6_readOp 107 = .ok (.getfield 192, 3) := by decide +kernel
theorem dX6_readOp_110 : decode cX6_readOp 110 = .ok (.iload_n 1, 1) := by decide +kernel
theorem dX6_readOp_111 : decode cX6_readOp 111 = .ok (.aload_n 0, 1) := by decide +kernel
theorem dX6_readOp_112 : decode cX6_readOp 112 = .ok (.getfield 33, 3) := by decide +kernel
theorem dX6_readOp_115 : decode cX6_readOp 115 = .ok (.getfield 78, 3) := by decide +kernel
theorem dX6_readOp_118 : decode cX6_readOp 118 = .ok (.iastore, 1) := by decide +kernel
theorem dX6_readOp_119 : decode cX6_readOp 119 = .ok (.iconst 0, 1) := by decide +kernel
theorem dX6_readOp_120 : decode cX6_readOp 120 = .ok (.istore 5, 2) := by decide +kernel
theorem dX6_readOp_122 : decode cX6_readOp 122 = .ok (.iconst 0, 1) := by decide +kernel
theorem dX6_readOp_123 : decode cX6_readOp 123 = .ok (.istore 6, 2) := by decide +kernel
theorem dX6_readOp_125 : decode cX6_readOp 125 = .ok (.iload 6, 2) := by decide +kernel
theorem dX6_readOp_127 : decode cX6_readOp 127 = .ok (.iload_n 3, 1) := by decide +kernel
theorem dX6_readOp_128 : decode cX6_readOp 128 = .ok (.invokestatic 195, 3) := by decide +kernel
theorem dX6_readOp_131 : decode cX6_readOp 131 = .ok (.if_icmp .ge 38, 3) := by decide +kernel
theorem dX6_readOp_134 : decode cX6_readOp 134 = .ok (.iload 5, 2) := by decide +kernel
theorem dX6_readOp_136 : decode cX6_readOp 136 = .ok (.ifCond .ne 33, 3) := by decide +kernel
theorem dX6_readOp_139 : decode cX6_readOp 139 = .ok (.aload_n 0, 1) := by decide +kernel
theorem dX6_readOp_140 : decode cX6_readOp 140 = .ok (.getfield 33, 3) := by decide +kernel
theorem dX6_readOp_143 : decode cX6_readOp 143 = .ok (.invokevirtual 62, 3) := by decide +kernel
theorem dX6_readOp_146 : decode cX6_readOp 146 = .ok (.aload_n 0, 1) := by decide +kernel
theorem dX6_readOp_147 : decode cX6_readOp 147 = .ok (.iload_n 1, 1) := by decide +kernel
theorem dX6_readOp_148 : decode cX6_readOp 148 = .ok (.iload 6, 2) := by decide +kernel
theorem dX6_readOp_150 : decode cX6_readOp 150 = .ok (.aload_n 0, 1) := by decide +kernel
theorem dX6_readOp_151 : decode cX6_readOp 151 = .ok (.iload_n 3, 1) := by decide +kernel
theorem dX6_readOp_152 : decode cX6_readOp 152 = .ok (.iload 6, 2) := by decide +kernel
theorem dX6_readOp_154 : decode cX6_readOp 154 = .ok (.iload_n 2, 1) := by decide +kernel
theorem dX6_readOp_155 : decode cX6_readOp 155 = .ok (.invokevirtual 198, 3) := by decide +kernel
theorem dX6_readOp_158 : decode cX6_readOp 158 = .ok (.invokevirtual 163, 3) := by decide +kernel
theorem dX6_readOp_161 : decode cX6_readOp 161 = .ok (.istore 5, 2) := by decide +kernel
theorem dX6_readOp_163 : decode cX6_readOp 163 = .ok (.iinc 6 1, 3) := by decide +kernel
theorem dX6_readOp_166 : decode cX6_readOp 166 = .ok (.goto (-41), 3) := by decide +kernel
theorem dX6_readOp_169 : decode cX6_readOp 169 = .ok (.iload 4, 2) := by decide +kernel
theorem dX6_readOp_171 : decode cX6_readOp 171 = .ok (.ifCond .ne 11, 3) := by decide +kernel
theorem dX6_readOp_174 : decode cX6_readOp 174 = .ok (.aload_n 0, 1) := by decide +kernel
theorem dX6_readOp_175 : decode cX6_readOp 175 = .ok (.iload_n 3, 1) := by decide +kernel
theorem dX6_readOp_176 : decode cX6_readOp 176 = .ok (.invokestatic 186, 3) := by decide +kernel
theorem dX6_readOp_179 : decode cX6_readOp 179 = .ok (.putfield 183, 3) := by decide +kernel
theorem dX6_readOp_182 : decode cX6_readOp 182 = .ok (.iload 5, 2) := by decide +kernel
theorem dX6_readOp_184 : decode cX6_readOp 184 = .ok (.ireturn, 1) := by decide +kernel
theorem dX6_typeWanted_0 : decode cX6_typeWanted 0 = .ok (.iload_n 1, 1) := by decide +kernel
theorem dX6_typeWanted_1 : decode cX6_typeWanted 1 = .ok (.bipush 14, 2) := by decide +kernel
theorem dX6_typeWanted_3 : decode cX6_typeWanted 3 = .ok (.if_icmp .ne 5, 3) := by decide +kernel
theorem dX6_typeWanted_6 : decode cX6_typeWanted 6 = .ok (.iload_n 3, 1) := by decide +kernel
theorem dX6_typeWanted_7 : decode cX6_typeWanted 7 = .ok (.ireturn, 1) := by decide +kernel
theorem dX6_typeWanted_8 : decode cX6_typeWanted 8 = .ok (.iload_n 1, 1) := by decide +kernel
theorem dX6_typeWanted_9 : decode cX6_typeWanted 9 = .ok (.bipush 13, 2) := by decide +kernel
theorem dX6_typeWanted_11 : decode cX6_typeWanted 11 = .ok (.if_icmp .eq 8, 3) := by decide +kernel
theorem dX6_typeWanted_14 : decode cX6_typeWanted 14 = .ok (.iload_n 1, 1) := by decide +kernel
theorem dX6_typeWanted_15 : decode cX6_typeWanted 15 = .ok (.invokestatic 201, 3) := by decide +kernel
theorem dX6_typeWanted_18 : decode cX6_typeWanted 18 = .ok (.ireturn, 1) := by decide +kernel
theorem dX6_typeWanted_19 : decode cX6_typeWanted 19 = .ok (.iload_n 2, 1) := by decide +kernel
theorem dX6_typeWanted_20 : decode cX6_typeWanted 20 = .ok (.lookupswitch 32 #[(0, 28), (1, 30)], 28) := by decide +kernel
theorem dX6_typeWanted_48 : decode cX6_typeWanted 48 = .ok (.iconst 1, 1) := by decide +kernel
theorem dX6_typeWanted_49 : decode cX6_typeWanted 49 = .ok (.ireturn, 1) := by decide +kernel
theorem dX6_typeWanted_50 : decode cX6_typeWanted 50 = .ok (.iload_n 3, 1) := by decide +kernel
theorem dX6_typeWanted_51 : decode cX6_typeWanted 51 = .ok (.ireturn, 1) := by decide +kernel
theorem dX6_typeWanted_52 : decode cX6_typeWanted 52 = .ok (.aload_n 0, 1) := by decide +kernel
theorem dX6_typeWanted_53 : decode cX6_typeWanted 53 = .ok (.getfield 183, 3) := by decide +kernel
theorem dX6_typeWanted_56 : decode cX6_typeWanted 56 = .ok (.ireturn, 1) := by decide +kernel
theorem dX6_takeArg_0 : decode cX6_takeArg 0 = .ok (.aload_n 0, 1) := by decide +kernel
theorem dX6_takeArg_1 : decode cX6_takeArg 1 = .ok (.getfield 33, 3) := by decide +kernel
theorem dX6_takeArg_4 : decode cX6_takeArg 4 = .ok (.getfield 65, 3) := by decide +kernel
theorem dX6_takeArg_7 : decode cX6_takeArg 7 = .ok (.iconst 2, 1) := by decide +kernel
theorem dX6_takeArg_8 : decode cX6_takeArg 8 = .ok (.if_icmp .ne 22, 3) := by decide +kernel
theorem dX6_takeArg_11 : decode cX6_takeArg 11 = .ok (.aload_n 0, 1) := by decide +kernel
theorem dX6_takeArg_12 : decode cX6_takeArg 12 = .ok (.getfield 33, 3) := by decide +kernel
theorem dX6_takeArg_15 : decode cX6_takeArg 15 = .ok (.getfield 87, 3) := by decide +kernel
theorem dX6_takeArg_18 : decode cX6_takeArg 18 = .ok (.iconst (-1), 1) := by decide +kernel
theorem dX6_takeArg_19 : decode cX6_takeArg 19 = .ok (.ixor, 1) := by decide +kernel
theorem dX6_takeArg_20 : decode cX6_takeArg 20 = .ok (.istore 4, 2) := by decide +kernel
theorem dX6_takeArg_22 : decode cX6_takeArg 22 = .ok (.aload_n 0, 1) := by decide +kernel
theorem dX6_takeArg_23 : decode cX6_takeArg 23 = .ok (.iconst 0, 1) := by decide +kernel
theorem dX6_takeArg_24 : decode cX6_takeArg 24 = .ok (.putfield 183, 3) := by decide +kernel
theorem dX6_takeArg_27 : decode cX6_takeArg 27 = .ok (.goto 59, 3) := by decide +kernel
theorem dX6_takeArg_30 : decode cX6_takeArg 30 = .ok (.aload_n 0, 1) := by decide +kernel
theorem dX6_takeArg_31 : decode cX6_takeArg 31 = .ok (.getfield 33, 3) := by decide +kernel
theorem dX6_takeArg_34 : decode cX6_takeArg 34 = .ok (.getfield 65, 3) := by decide +kernel
theorem dX6_takeArg_37 : decode cX6_takeArg 37 = .ok (.iconst 4, 1) := by decide +kernel
theorem dX6_takeArg_38 : decode cX6_takeArg 38 = .ok (.if_icmp .ne 42, 3) := by decide +kernel
theorem dX6_takeArg_41 : decode cX6_takeArg 41 = .ok (.aload_n 0, 1) := by decide +kernel
theorem dX6_takeArg_42 : decode cX6_takeArg 42 = .ok (.aload_n 0, 1) := by decide +kernel
theorem dX6_takeArg_43 : decode cX6_takeArg 43 = .ok (.getfield 33, 3) := by decide +kernel
theorem dX6_takeArg_46 : decode cX6_takeArg 46 = .ok (.getfield 139, 3) := by decide +kernel
theorem dX6_takeArg_49 : decode cX6_takeArg 49 = .ok (.invokevirtual 143, 3) := by decide +kernel
theorem dX6_takeArg_52 : decode cX6_takeArg 52 = .ok (.istore 4, 2) := by decide +kernel
theorem dX6_takeArg_54 : decode cX6_takeArg 54 = .ok (.iload 4, 2) := by decide +kernel
theorem dX6_takeArg_56 : decode cX6_takeArg 56 = .ok (.iconst (-1), 1) := by decide +kernel
theorem dX6_takeArg_57 : decode cX6_takeArg 57 = .ok (.if_icmp .ne 9, 3) := by decide +kernel
theorem dX6_takeArg_60 : decode cX6_takeArg 60 = .ok (.aload_n 0, 1) := by decide +kernel
theorem dX6_takeArg_61 : decode cX6_takeArg 61 = .ok (.iconst 2, 1) := by decide +kernel
theorem dX6_takeArg_62 : decode cX6_takeArg 62 = .ok (.invokevirtual 72, 3) := by decide +kernel
theorem dX6_takeArg_65 : decode cX6_takeArg 65 = .ok (.ireturn, 1) := by decide +kernel
theorem dX6_takeArg_66 : decode cX6_takeArg 66 = .ok (.aload_n 0, 1) := by decide +kernel
theorem dX6_takeArg_67 : decode cX6_takeArg 67 = .ok (.aload_n 0, 1) := by decide +kernel
theorem dX6_takeArg_68 : decode cX6_takeArg 68 = .ok (.getfield 22, 3) := by decide +kernel
theorem dX6_takeArg_71 : decode cX6_takeArg 71 = .ok (.iload 4, 2) := by decide +kernel
theorem dX6_takeArg_73 : decode cX6_takeArg 73 = .ok (.iaload, 1) := by decide +kernel
theorem dX6_takeArg_74 : decode cX6_takeArg 74 = .ok (.putfield 183, 3) := by decide +kernel
theorem dX6_takeArg_77 : decode cX6_takeArg 77 = .ok (.goto 9, 3) := by decide +kernel
theorem dX6_takeArg_80 : decode cX6_takeArg 80 = .ok (.aload_n 0, 1) := by decide +kernel
theorem dX6_takeArg_81 : decode cX6_takeArg 81 = .ok (.iconst 1, 1) := by decide +kernel
theorem dX6_takeArg_82 : decode cX6_takeArg 82 = .ok (.invokevirtual 72, 3) := by decide +kernel
theorem dX6_takeArg_85 : decode cX6_takeArg 85 = .ok (.ireturn, 1) := by decide +kernel
theorem dX6_takeArg_86 : decode cX6_takeArg 86 = .ok (.aload_n 0, 1) := by decide +kernel
theorem dX6_takeArg_87 : decode cX6_takeArg 87 = .ok (.getfield 12, 3) := by decide +kernel
theorem dX6_takeArg_90 : decode cX6_takeArg 90 = .ok (.getfield 204, 3) := by decide +kernel
theorem dX6_takeArg_93 : decode cX6_takeArg 93 = .ok (.iconst 3, 1) := by decide +kernel
theorem dX6_takeArg_94 : decode cX6_takeArg 94 = .ok (.iload_n 1, 1) := by decide +kernel
theorem dX6_takeArg_95 : decode cX6_takeArg 95 = .ok (.imul, 1) := by decide +kernel
theorem dX6_takeArg_96 : decode cX6_takeArg 96 = .ok (.iload_n 2, 1) := by decide +kernel
theorem dX6_takeArg_97 : decode cX6_takeArg 97 = .ok (.iadd, 1) := by decide +kernel
theorem dX6_takeArg_98 : decode cX6_takeArg 98 = .ok (.iload 4, 2) := by decide +kernel
theorem dX6_takeArg_100 : decode cX6_takeArg 100 = .ok (.iastore, 1) := by decide +kernel
theorem dX6_takeArg_101 : decode cX6_takeArg 101 = .ok (.aload_n 0, 1) := by decide +kernel
theorem dX6_takeArg_102 : decode cX6_takeArg 102 = .ok (.getfield 12, 3) := by decide +kernel
theorem dX6_takeArg_105 : decode cX6_takeArg 105 = .ok (.getfield 207, 3) := by decide +kernel
theorem dX6_takeArg_108 : decode cX6_takeArg 108 = .ok (.iconst 3, 1) := by decide +kernel
theorem dX6_takeArg_109 : decode cX6_takeArg 109 = .ok (.iload_n 1, 1) := by decide +kernel
theorem dX6_takeArg_110 : decode cX6_takeArg 110 = .ok (.imul, 1) := by decide +kernel
theorem dX6_takeArg_111 : decode cX6_takeArg 111 = .ok (.iload_n 2, 1) := by decide +kernel
theorem dX6_takeArg_112 : decode cX6_takeArg 112 = .ok (.iadd, 1) := by decide +kernel
theorem dX6_takeArg_113 : decode cX6_takeArg 113 = .ok (.aload_n 0, 1) := by decide +kernel
theorem dX6_takeArg_114 : decode cX6_takeArg 114 = .ok (.getfield 33, 3) := by decide +kernel
theorem dX6_takeArg_117 : decode cX6_takeArg 117 = .ok (.getfield 78, 3) := by decide +kernel
theorem dX6_takeArg_120 : decode cX6_takeArg 120 = .ok (.iastore, 1) := by decide +kernel
theorem dX6_takeArg_121 : decode cX6_takeArg 121 = .ok (.iload_n 3, 1) := by decide +kernel
theorem dX6_takeArg_122 : decode cX6_takeArg 122 = .ok (.iconst 2, 1) := by decide +kernel
theorem dX6_takeArg_123 : decode cX6_takeArg 123 = .ok (.if_icmp .eq 11, 3) := by decide +kernel
theorem dX6_takeArg_126 : decode cX6_takeArg 126 = .ok (.iload_n 3, 1) := by decide +kernel
theorem dX6_takeArg_127 : decode cX6_takeArg 127 = .ok (.aload_n 0, 1) := by decide +kernel
theorem dX6_takeArg_128 : decode cX6_takeArg 128 = .ok (.getfield 183, 3) := by decide +kernel
theorem dX6_takeArg_131 : decode cX6_takeArg 131 = .ok (.if_icmp .ne 7, 3) := by decide +kernel
theorem dX6_takeArg_134 : decode cX6_takeArg 134 = .ok (.iconst 0, 1) := by decide +kernel
theorem dX6_takeArg_135 : decode cX6_takeArg 135 = .ok (.goto 9, 3) := by decide +kernel
theorem dX6_takeArg_138 : decode cX6_takeArg 138 = .ok (.aload_n 0, 1) := by decide +kernel
theorem dX6_takeArg_139 : decode cX6_takeArg 139 = .ok (.bipush 6, 2) := by decide +kernel
theorem dX6_takeArg_141 : decode cX6_takeArg 141 = .ok (.invokevirtual 72, 3) := by decide +kernel
theorem dX6_takeArg_144 : decode cX6_takeArg 144 = .ok (.ireturn, 1) := by decide +kernel
theorem dX6_readNumber_0 : decode cX6_readNumber 0 = .ok (.aload_n 0, 1) := by decide +kernel
theorem dX6_readNumber_1 : decode cX6_readNumber 1 = .ok (.getfield 33, 3) := by decide +kernel
theorem dX6_readNumber_4 : decode cX6_readNumber 4 = .ok (.invokevirtual 62, 3) := by decide +kernel
theorem dX6_readNumber_7 : decode cX6_readNumber 7 = .ok (.aload_n 0, 1) := by decide +kernel
theorem dX6_readNumber_8 : decode cX6_readNumber 8 = .ok (.getfield 33, 3) := by decide +kernel
theorem dX6_readNumber_11 : decode cX6_readNumber 11 = .ok (.getfield 65, 3) := by decide +kernel
theorem dX6_readNumber_14 : decode cX6_readNumber 14 = .ok (.iconst 2, 1) := by decide +kernel
theorem dX6_readNumber_15 : decode cX6_readNumber 15 = .ok (.if_icmp .eq 9, 3) := by decide +kernel
theorem dX6_readNumber_18 : decode cX6_readNumber 18 = .ok (.aload_n 0, 1) := by decide +kernel
theorem dX6_readNumber_19 : decode cX6_readNumber 19 = .ok (.iconst 1, 1) := by decide +kernel
theorem dX6_readNumber_20 : decode cX6_readNumber 20 = .ok (.invokevirtual 72, 3) := by decide +kernel
theorem dX6_readNumber_23 : decode cX6_readNumber 23 = .ok (.ireturn, 1) := by decide +kernel
theorem dX6_readNumber_24 : decode cX6_readNumber 24 = .ok (.aload_n 0, 1) := by decide +kernel
theorem dX6_readNumber_25 : decode cX6_readNumber 25 = .ok (.getfield 33, 3) := by decide +kernel
theorem dX6_readNumber_28 : decode cX6_readNumber 28 = .ok (.getfield 87, 3) := by decide +kernel
theorem dX6_readNumber_31 : decode cX6_readNumber 31 = .ok (.iload_n 1, 1) := by decide +kernel
theorem dX6_readNumber_32 : decode cX6_readNumber 32 = .ok (.if_icmp .lt 14, 3) := by decide +kernel
theorem dX6_readNumber_35 : decode cX6_readNumber 35 = .ok (.aload_n 0, 1) := by decide +kernel
theorem dX6_readNumber_36 : decode cX6_readNumber 36 = .ok (.getfield 33, 3) := by decide +kernel
theorem dX6_readNumber_39 : decode cX6_readNumber 39 = .ok (.getfield 87, 3) := by decide +kernel
theorem dX6_readNumber_42 : decode cX6_readNumber 42 = .ok (.iload_n 2, 1) := by decide +kernel
theorem dX6_readNumber_43 : decode cX6_readNumber 43 = .ok (.if_icmp .le 11, 3) := by decide +kernel
theorem dX6_readNumber_46 : decode cX6_readNumber 46 = .ok (.aload_n 0, 1) := by decide +kernel
theorem dX6_readNumber_47 : decode cX6_readNumber 47 = .ok (.iconst 4, 1) := by decide +kernel
theorem dX6_readNumber_48 : decode cX6_readNumber 48 = .ok (.invokevirtual 72, 3) := by decide +kernel
theorem dX6_readNumber_51 : decode cX6_readNumber 51 = .ok (.goto 4, 3) := by decide +kernel
theorem dX6_readNumber_54 : decode cX6_readNumber 54 = .ok (.iconst 0, 1) := by decide +kernel
theorem dX6_readNumber_55 : decode cX6_readNumber 55 = .ok (.ireturn, 1) := by decide +kernel
theorem dX6_readSemicolon_0 : decode cX6_readSemicolon 0 = .ok (.aload_n 0, 1) := by decide +kernel
theorem dX6_readSemicolon_1 : decode cX6_readSemicolon 1 = .ok (.getfield 33, 3) := by decide +kernel
theorem dX6_readSemicolon_4 : decode cX6_readSemicolon 4 = .ok (.invokevirtual 62, 3) := by decide +kernel
theorem dX6_readSemicolon_7 : decode cX6_readSemicolon 7 = .ok (.aload_n 0, 1) := by decide +kernel
theorem dX6_readSemicolon_8 : decode cX6_readSemicolon 8 = .ok (.getfield 33, 3) := by decide +kernel
theorem dX6_readSemicolon_11 : decode cX6_readSemicolon 11 = .ok (.getfield 65, 3) := by decide +kernel
theorem dX6_readSemicolon_14 : decode cX6_readSemicolon 14 = .ok (.iconst 3, 1) := by decide +kernel
theorem dX6_readSemicolon_15 : decode cX6_readSemicolon 15 = .ok (.if_icmp .ne 7, 3) := by decide +kernel
theorem dX6_readSemicolon_18 : decode cX6_readSemicolon 18 = .ok (.iconst 0, 1) := by decide +kernel
theorem dX6_readSemicolon_19 : decode cX6_readSemicolon 19 = .ok (.goto 8, 3) := by decide +kernel
theorem dX6_readSemicolon_22 : decode cX6_readSemicolon 22 = .ok (.aload_n 0, 1) := by decide +kernel
theorem dX6_readSemicolon_23 : decode cX6_readSemicolon 23 = .ok (.iconst 1, 1) := by decide +kernel
theorem dX6_readSemicolon_24 : decode cX6_readSemicolon 24 = .ok (.invokevirtual 72, 3) := by decide +kernel
theorem dX6_readSemicolon_27 : decode cX6_readSemicolon 27 = .ok (.ireturn, 1) := by decide +kernel
theorem dX6_slotOf_0 : decode cX6_slotOf 0 = .ok (.iconst 0, 1) := by decide +kernel
theorem dX6_slotOf_1 : decode cX6_slotOf 1 = .ok (.istore_n 3, 1) := by decide +kernel
theorem dX6_slotOf_2 : decode cX6_slotOf 2 = .ok (.iload_n 3, 1) := by decide +kernel
theorem dX6_slotOf_3 : decode cX6_slotOf 3 = .ok (.aload_n 0, 1) := by decide +kernel
theorem dX6_slotOf_4 : decode cX6_slotOf 4 = .ok (.getfield 40, 3) := by decide +kernel
theorem dX6_slotOf_7 : decode cX6_slotOf 7 = .ok (.if_icmp .ge 22, 3) := by decide +kernel
theorem dX6_slotOf_10 : decode cX6_slotOf 10 = .ok (.aload_n 0, 1) := by decide +kernel
theorem dX6_slotOf_11 : decode cX6_slotOf 11 = .ok (.getfield 18, 3) := by decide +kernel
theorem dX6_slotOf_14 : decode cX6_slotOf 14 = .ok (.iload_n 3, 1) := by decide +kernel
theorem dX6_slotOf_15 : decode cX6_slotOf 15 = .ok (.laload, 1) := by decide +kernel
theorem dX6_slotOf_16 : decode cX6_slotOf 16 = .ok (.lload_n 1, 1) := by decide +kernel
theorem dX6_slotOf_17 : decode cX6_slotOf 17 = .ok (.lcmp, 1) := by decide +kernel
theorem dX6_slotOf_18 : decode cX6_slotOf 18 = .ok (.ifCond .ne 5, 3) := by decide +kernel
theorem dX6_slotOf_21 : decode cX6_slotOf 21 = .ok (.iload_n 3, 1) := by decide +kernel
theorem dX6_slotOf_22 : decode cX6_slotOf 22 = .ok (.ireturn, 1) := by decide +kernel
theorem dX6_slotOf_23 : decode cX6_slotOf 23 = .ok (.iinc 3 1, 3) := by decide +kernel
theorem dX6_slotOf_26 : decode cX6_slotOf 26 = .ok (.goto (-24), 3) := by decide +kernel
theorem dX6_slotOf_29 : decode cX6_slotOf 29 = .ok (.iconst (-1), 1) := by decide +kernel
theorem dX6_slotOf_30 : decode cX6_slotOf 30 = .ok (.ireturn, 1) := by decide +kernel
theorem dX6_tell_0 : decode cX6_tell 0 = .ok (.aload_n 0, 1) := by decide +kernel
theorem dX6_tell_1 : decode cX6_tell 1 = .ok (.getfield 40, 3) := by decide +kernel
theorem dX6_tell_4 : decode cX6_tell 4 = .ok (.istore 5, 2) := by decide +kernel
theorem dX6_tell_6 : decode cX6_tell 6 = .ok (.aload_n 0, 1) := by decide +kernel
theorem dX6_tell_7 : decode cX6_tell 7 = .ok (.getfield 18, 3) := by decide +kernel
theorem dX6_tell_10 : decode cX6_tell 10 = .ok (.iload 5, 2) := by decide +kernel
theorem dX6_tell_12 : decode cX6_tell 12 = .ok (.lload_n 1, 1) := by decide +kernel
theorem dX6_tell_13 : decode cX6_tell 13 = .ok (.lastore, 1) := by decide +kernel
theorem dX6_tell_14 : decode cX6_tell 14 = .ok (.aload_n 0, 1) := by decide +kernel
theorem dX6_tell_15 : decode cX6_tell 15 = .ok (.getfield 22, 3) := by decide +kernel
theorem dX6_tell_18 : decode cX6_tell 18 = .ok (.iload 5, 2) := by decide +kernel
theorem dX6_tell_20 : decode cX6_tell 20 = .ok (.iload_n 3, 1) := by decide +kernel
theorem dX6_tell_21 : decode cX6_tell 21 = .ok (.iastore, 1) := by decide +kernel
theorem dX6_tell_22 : decode cX6_tell 22 = .ok (.aload_n 0, 1) := by decide +kernel
theorem dX6_tell_23 : decode cX6_tell 23 = .ok (.getfield 26, 3) := by decide +kernel
theorem dX6_tell_26 : decode cX6_tell 26 = .ok (.iload 5, 2) := by decide +kernel
theorem dX6_tell_28 : decode cX6_tell 28 = .ok (.iload 4, 2) := by decide +kernel
theorem dX6_tell_30 : decode cX6_tell 30 = .ok (.bastore, 1) := by decide +kernel
theorem dX6_tell_31 : decode cX6_tell 31 = .ok (.aload_n 0, 1) := by decide +kernel
theorem dX6_tell_32 : decode cX6_tell 32 = .ok (.dup, 1) := by decide +kernel
theorem dX6_tell_33 : decode cX6_tell 33 = .ok (.getfield 40, 3) := by decide +kernel
theorem dX6_tell_36 : decode cX6_tell 36 = .ok (.iconst 1, 1) := by decide +kernel
theorem dX6_tell_37 : decode cX6_tell 37 = .ok (.iadd, 1) := by decide +kernel
theorem dX6_tell_38 : decode cX6_tell 38 = .ok (.putfield 40, 3) := by decide +kernel
theorem dX6_tell_41 : decode cX6_tell 41 = .ok (.iload 5, 2) := by decide +kernel
theorem dX6_tell_43 : decode cX6_tell 43 = .ok (.ireturn, 1) := by decide +kernel
theorem dX7_init_0 : decode cX7_init 0 = .ok (.aload_n 0, 1) := by decide +kernel
theorem dX7_init_1 : decode cX7_init 1 = .ok (.invokespecial 3, 3) := by decide +kernel
theorem dX7_init_4 : decode cX7_init 4 = .ok (.aload_n 0, 1) := by decide +kernel
theorem dX7_init_5 : decode cX7_init 5 = .ok (.bipush 64, 2) := by decide +kernel
theorem dX7_init_7 : decode cX7_init 7 = .ok (.newarray .int, 2) := by decide +kernel
theorem dX7_init_9 : decode cX7_init 9 = .ok (.putfield 9, 3) := by decide +kernel
theorem dX7_init_12 : decode cX7_init 12 = .ok (.aload_n 0, 1) := by decide +kernel
theorem dX7_init_13 : decode cX7_init 13 = .ok (.bipush 64, 2) := by decide +kernel
theorem dX7_init_15 : decode cX7_init 15 = .ok (.newarray .int, 2) := by decide +kernel
theorem dX7_init_17 : decode cX7_init 17 = .ok (.putfield 15, 3) := by decide +kernel
theorem dX7_init_20 : decode cX7_init 20 = .ok (.aload_n 0, 1) := by decide +kernel
theorem dX7_init_21 : decode cX7_init 21 = .ok (.bipush 64, 2) := by decide +kernel
theorem dX7_init_23 : decode cX7_init 23 = .ok (.newarray .int, 2) := by decide +kernel
theorem dX7_init_25 : decode cX7_init 25 = .ok (.putfield 18, 3) := by decide +kernel
theorem dX7_init_28 : decode cX7_init 28 = .ok (.aload_n 0, 1) := by decide +kernel
theorem dX7_init_29 : decode cX7_init 29 = .ok (.sipush 192, 3) := by decide +kernel
theorem dX7_init_32 : decode cX7_init 32 = .ok (.newarray .int, 2) := by decide +kernel
theorem dX7_init_34 : decode cX7_init 34 = .ok (.putfield 21, 3) := by decide +kernel
theorem dX7_init_37 : decode cX7_init 37 = .ok (.aload_n 0, 1) := by decide +kernel
theorem dX7_init_38 : decode cX7_init 38 = .ok (.iconst 3, 1) := by decide +kernel
theorem dX7_init_39 : decode cX7_init 39 = .ok (.newarray .int, 2) := by decide +kernel
theorem dX7_init_41 : decode cX7_init 41 = .ok (.putfield 24, 3) := by decide +kernel
theorem dX7_init_44 : decode cX7_init 44 = .ok (.aload_n 0, 1) := by decide +kernel
theorem dX7_init_45 : decode cX7_init 45 = .ok (.bipush 64, 2) := by decide +kernel
theorem dX7_init_47 : decode cX7_init 47 = .ok (.newarray .int, 2) := by decide +kernel
theorem dX7_init_49 : decode cX7_init 49 = .ok (.putfield 27, 3) := by decide +kernel
theorem dX7_init_52 : decode cX7_init 52 = .ok (.aload_n 0, 1) := by decide +kernel
theorem dX7_init_53 : decode cX7_init 53 = .ok (.sipush 260, 3) := by decide +kernel
theorem dX7_init_56 : decode cX7_init 56 = .ok (.newarray .boolean, 2) := by decide +kernel
theorem dX7_init_58 : decode cX7_init 58 = .ok (.putfield 30, 3) := by decide +kernel
theorem dX7_init_61 : decode cX7_init 61 = .ok (.aload_n 0, 1) := by decide +kernel
theorem dX7_init_62 : decode cX7_init 62 = .ok (.iconst 2, 1) := by decide +kernel
theorem dX7_init_63 : decode cX7_init 63 = .ok (.newarray .int, 2) := by decide +kernel
theorem dX7_init_65 : decode cX7_init 65 = .ok (.putfield 34, 3) := by decide +kernel
theorem dX7_init_68 : decode cX7_init 68 = .ok (.aload_n 0, 1) := by decide +kernel
theorem dX7_init_69 : decode cX7_init 69 = .ok (.bipush 64, 2) := by decide +kernel
theorem dX7_init_71 : decode cX7_init 71 = .ok (.newarray .int, 2) := by decide +kernel
theorem dX7_init_73 : decode cX7_init 73 = .ok (.putfield 37, 3) := by decide +kernel
theorem dX7_init_76 : decode cX7_init 76 = .ok (.aload_n 0, 1) := by decide +kernel
theorem dX7_init_77 : decode cX7_init 77 = .ok (.bipush 64, 2) := by decide +kernel
theorem dX7_init_79 : decode cX7_init 79 = .ok (.newarray .int, 2) := by decide +kernel
theorem dX7_init_81 : decode cX7_init 81 = .ok (.putfield 40, 3) := by decide +kernel
theorem dX7_init_84 : decode cX7_init 84 = .ok (.aload_n 0, 1) := by decide +kernel
theorem dX7_init_85 : decode cX7_init 85 = .ok (.bipush 64, 2) := by decide +kernel
theorem dX7_init_87 : decode cX7_init 87 = .ok (.newarray .int, 2) := by decide +kernel
theorem dX7_init_89 : decode cX7_init 89 = .ok (.putfield 43, 3) := by decide +kernel
theorem dX7_init_92 : decode cX7_init 92 = .ok (.aload_n 0, 1) := by decide +kernel
theorem dX7_init_93 : decode cX7_init 93 = .ok (.bipush 64, 2) := by decide +kernel
theorem dX7_init_95 : decode cX7_init 95 = .ok (.newarray .int, 2) := by decide +kernel
theorem dX7_init_97 : decode cX7_init 97 = .ok (.putfield 46, 3) := by decide +kernel
theorem dX7_init_100 : decode cX7_init 100 = .ok (.aload_n 0, 1) := by decide +kernel
theorem dX7_init_101 : decode cX7_init 101 = .ok (.aload_n 1, 1) := by decide +kernel
theorem dX7_init_102 : decode cX7_init 102 = .ok (.putfield 49, 3) := by decide +kernel
theorem dX7_init_105 : decode cX7_init 105 = .ok (.aload_n 0, 1) := by decide +kernel
theorem dX7_init_106 : decode cX7_init 106 = .ok (.aload_n 2, 1) := by decide +kernel
theorem dX7_init_107 : decode cX7_init 107 = .ok (.putfield 53, 3) := by decide +kernel
theorem dX7_init_110 : decode cX7_init 110 = .ok (.aload_n 0, 1) := by decide +kernel
theorem dX7_init_111 : decode cX7_init 111 = .ok (.aload_n 3, 1) := by decide +kernel
theorem dX7_init_112 : decode cX7_init 112 = .ok (.putfield 57, 3) := by decide +kernel
theorem dX7_init_115 : decode cX7_init 115 = .ok (.return_, 1) := by decide +kernel
theorem dX7_arrange_0 : decode cX7_arrange 0 = .ok (.lconst 0, 1) := by decide +kernel
theorem dX7_arrange_1 : decode cX7_arrange 1 = .ok (.lstore_n 2, 1) := by decide +kernel
theorem dX7_arrange_2 : decode cX7_arrange 2 = .ok (.aload_n 0, 1) := by decide +kernel
theorem dX7_arrange_3 : decode cX7_arrange 3 = .ok (.iconst 0, 1) := by decide +kernel
theorem dX7_arrange_4 : decode cX7_arrange 4 = .ok (.putfield 61, 3) := by decide +kernel
theorem dX7_arrange_7 : decode cX7_arrange 7 = .ok (.iconst 0, 1) := by decide +kernel
theorem dX7_arrange_8 : decode cX7_arrange 8 = .ok (.istore 4, 2) := by decide +kernel
theorem dX7_arrange_10 : decode cX7_arrange 10 = .ok (.iload 4, 2) := by decide +kernel
theorem dX7_arrange_12 : decode cX7_arrange 12 = .ok (.aload_n 0, 1) := by decide +kernel
theorem dX7_arrange_13 : decode cX7_arrange 13 = .ok (.getfield 49, 3) := by decide +kernel
theorem dX7_arrange_16 : decode cX7_arrange 16 = .ok (.getfield 65, 3) := by decide +kernel
theorem dX7_arrange_19 : decode cX7_arrange 19 = .ok (.if_icmp .ge 145, 3) := by decide +kernel
theorem dX7_arrange_22 : decode cX7_arrange 22 = .ok (.iconst (-1), 1) := by decide +kernel
theorem dX7_arrange_23 : decode cX7_arrange 23 = .ok (.istore 5, 2) := by decide +kernel
theorem dX7_arrange_25 : decode cX7_arrange 25 = .ok (.iconst 0, 1) := by decide +kernel
theorem dX7_arrange_26 : decode cX7_arrange 26 = .ok (.istore 6, 2) := by decide +kernel
theorem dX7_arrange_28 : decode cX7_arrange 28 = .ok (.iload 6, 2) := by decide +kernel
theorem dX7_arrange_30 : decode cX7_arrange 30 = .ok (.aload_n 0, 1) := by decide +kernel
theorem dX7_arrange_31 : decode cX7_arrange 31 = .ok (.getfield 49, 3) := by decide +kernel
theorem dX7_arrange_34 : decode cX7_arrange 34 = .ok (.getfield 65, 3) := by decide +kernel
theorem dX7_arrange_37 : decode cX7_arrange 37 = .ok (.if_icmp .ge 88, 3) := by decide +kernel
theorem dX7_arrange_40 : decode cX7_arrange 40 = .ok (.aload_n 0, 1) := by decide +kernel
theorem dX7_arrange_41 : decode cX7_arrange 41 = .ok (.getfield 57, 3) := by decide +kernel
theorem dX7_arrange_44 : decode cX7_arrange 44 = .ok (.iload 6, 2) := by decide +kernel
theorem dX7_arrange_46 : decode cX7_arrange 46 = .ok (.invokevirtual 70, 3) := by decide +kernel
theorem dX7_arrange_49 : decode cX7_arrange 49 = .ok (.ifCond .eq 39, 3) := by decide +kernel
theorem dX7_arrange_52 : decode cX7_arrange 52 = .ok (.lload_n 2, 1) := by decide +kernel
theorem dX7_arrange_53 : decode cX7_arrange 53 = .ok (.iload 6, 2) := by decide +kernel
theorem dX7_arrange_55 : decode cX7_arrange 55 = .ok (.lushr, 1) := by decide +kernel
theorem dX7_arrange_56 : decode cX7_arrange 56 = .ok (.lconst 1, 1) := by decide +kernel
theorem dX7_arrange_57 : decode cX7_arrange 57 = .ok (.land, 1) := by decide +kernel
theorem dX7_arrange_58 : decode cX7_arrange 58 = .ok (.lconst 0, 1) := by decide +kernel
theorem dX7_arrange_59 : decode cX7_arrange 59 = .ok (.lcmp, 1) := by decide +kernel
theorem dX7_arrange_60 : decode cX7_arrange 60 = .ok (.ifCond .ne 28, 3) := by decide +kernel
theorem dX7_arrange_63 : decode cX7_arrange 63 = .ok (.aload_n 0, 1) := by decide +kernel
theorem dX7_arrange_64 : decode cX7_arrange 64 = .ok (.getfield 57, 3) := by decide +kernel
theorem dX7_arrange_67 : decode cX7_arrange 67 = .ok (.getfield 76, 3) := by decide +kernel
theorem dX7_arrange_70 : decode cX7_arrange 70 = .ok (.iload 6, 2) := by decide +kernel
theorem dX7_arrange_72 : decode cX7_arrange 72 = .ok (.laload, 1) := by decide +kernel
theorem dX7_arrange_73 : decode cX7_arrange 73 = .ok (.lload_n 2, 1) := by decide +kernel
theorem dX7_arrange_74 : decode cX7_arrange 74 = .ok (.ldc2_w 80, 3) := by decide +kernel
theorem dX7_arrange_77 : decode cX7_arrange 77 = .ok (.lxor, 1) := by decide +kernel
theorem dX7_arrange_78 : decode cX7_arrange 78 = .ok (.land, 1) := by decide +kernel
theorem dX7_arrange_79 : decode cX7_arrange 79 = .ok (.lconst 0, 1) := by decide +kernel
theorem dX7_arrange_80 : decode cX7_arrange 80 = .ok (.lcmp, 1) := by decide +kernel
theorem dX7_arrange_81 : decode cX7_arrange 81 = .ok (.ifCond .ne 7, 3) := by decide +kernel
theorem dX7_arrange_84 : decode cX7_arrange 84 = .ok (.iconst 1, 1) := by decide +kernel
theorem dX7_arrange_85 : decode cX7_arrange 85 = .ok (.goto 4, 3) := by decide +kernel
theorem dX7_arrange_88 : decode cX7_arrange 88 = .ok (.iconst 0, 1) := by decide +kernel
theorem dX7_arrange_89 : decode cX7_arrange 89 = .ok (.istore 7, 2) := by decide +kernel
theorem dX7_arrange_91 : decode cX7_arrange 91 = .ok (.iload 7, 2) := by decide +kernel
theorem dX7_arrange_93 : decode cX7_arrange 93 = .ok (.ifCond .eq 26, 3) := by decide +kernel
theorem dX7_arrange_96 : decode cX7_arrange 96 = .ok (.iload 5, 2) := by decide +kernel
theorem dX7_arrange_98 : decode cX7_arrange 98 = .ok (.iconst (-1), 1) := by decide +kernel
theorem dX7_arrange_99 : decode cX7_arrange 99 = .ok (.if_icmp .eq 16, 3) := by decide +kernel
theorem dX7_arrange_102 : decode cX7_arrange 102 = .ok (.aload_n 0, 1) := by decide +kernel
theorem dX7_arrange_103 : decode cX7_arrange 103 = .ok (.iload 6, 2) := by decide +kernel
theorem dX7_arrange_105 : decode cX7_arrange 105 = .ok (.iload 5, 2) := by decide +kernel
theorem dX7_arrange_107 : decode cX7_arrange 107 = .ok (.iload_n 1, 1) := by decide +kernel
theorem dX7_arrange_108 : decode cX7_arrange 108 = .ok (.lload_n 2, 1) := by decide +kernel
theorem dX7_arrange_109 : decode cX7_arrange 109 = .ok (.invokevirtual 82, 3) := by decide +kernel
theorem dX7_arrange_112 : decode cX7_arrange 112 = .ok (.ifCond .eq 7, 3) := by decide +kernel
theorem dX7_arrange_115 : decode cX7_arrange 115 = .ok (.iload 6, 2) := by decide +kernel
theorem dX7_arrange_117 : decode cX7_arrange 117 = .ok (.istore 5, 2) := by decide +kernel
theorem dX7_arrange_119 : decode cX7_arrange 119 = .ok (.iinc 6 1, 3) := by decide +kernel
theorem dX7_arrange_122 : decode cX7_arrange 122 = .ok (.goto (-94), 3) := by decide +kernel
theorem dX7_arrange_125 : decode cX7_arrange 125 = .ok (.iload 5, 2) := by decide +kernel
theorem dX7_arrange_127 : decode cX7_arrange 127 = .ok (.iconst (-1), 1) := by decide +kernel
theorem dX7_arrange_128 : decode cX7_arrange 128 = .ok (.if_icmp .eq 30, 3) := by decide +kernel
theorem dX7_arrange_131 : decode cX7_arrange 131 = .ok (.aload_n 0, 1) := by decide +kernel
theorem dX7_arrange_132 : decode cX7_arrange 132 = .ok (.aload_n 0, 1) := by decide +kernel
theorem dX7_arrange_133 : decode cX7_arrange 133 = .ok (.getfield 61, 3) := by decide +kernel
theorem dX7_arrange_136 : decode cX7_arrange 136 = .ok (.iload 5, 2) := by decide +kernel
theorem dX7_arrange_138 : decode cX7_arrange 138 = .ok (.invokevirtual 86, 3) := by decide +kernel
theorem dX7_arrange_141 : decode cX7_arrange 141 = .ok (.aload_n 0, 1) := by decide +kernel
theorem dX7_arrange_142 : decode cX7_arrange 142 = .ok (.dup, 1) := by decide +kernel
theorem dX7_arrange_143 : decode cX7_arrange 143 = .ok (.getfield 61, 3) := by decide +kernel
theorem dX7_arrange_146 : decode cX7_arrange 146 = .ok (.iconst 1, 1) := by decide +kernel
theorem dX7_arrange_147 : decode cX7_arrange 147 = .ok (.iadd, 1) := by decide +kernel
theorem dX7_arrange_148 : decode cX7_arrange 148 = .ok (.putfield 61, 3) := by decide +kernel
theorem dX7_arrange_151 : decode cX7_arrange 151 = .ok (.lload_n 2, 1) := by decide +kernel
theorem dX7_arrange_152 : decode cX7_arrange 152 = .ok (.lconst 1, 1) := by decide +kernel
theorem dX7_arrange_153 : decode cX7_arrange 153 = .ok (.iload 5, 2) := by decide +kernel
theorem dX7_arrange_155 : decode cX7_arrange 155 = .ok (.lshl, 1) := by decide +kernel
theorem dX7_arrange_156 : decode cX7_arrange 156 = .ok (.lor, 1) := by decide +kernel
theorem dX7_arrange_157 : decode cX7_arrange 157 = .ok (.lstore_n 2, 1) := by decide +kernel
theorem dX7_arrange_158 : decode cX7_arrange 158 = .ok (.iinc 4 1, 3) := by decide +kernel
theorem dX7_arrange_161 : decode cX7_arrange 161 = .ok (.goto (-151), 3) := by decide +kernel
theorem dX7_arrange_164 : decode cX7_arrange 164 = .ok (.return_, 1) := by decide +kernel
theorem dX7_putAt_0 : decode cX7_putAt 0 = .ok (.aload_n 0, 1) := by decide +kernel
theorem dX7_putAt_1 : decode cX7_putAt 1 = .ok (.getfield 9, 3) := by decide +kernel
theorem dX7_putAt_4 : decode cX7_putAt 4 = .ok (.iload_n 1, 1) := by decide +kernel
theorem dX7_putAt_5 : decode cX7_putAt 5 = .ok (.iload_n 2, 1) := by decide +kernel
theorem dX7_putAt_6 : decode cX7_putAt 6 = .ok (.iastore, 1) := by decide +kernel
theorem dX7_putAt_7 : decode cX7_putAt 7 = .ok (.aload_n 0, 1) := by decide +kernel
theorem dX7_putAt_8 : decode cX7_putAt 8 = .ok (.getfield 15, 3) := by decide +kernel
theorem dX7_putAt_11 : decode cX7_putAt 11 = .ok (.iload_n 2, 1) := by decide +kernel
theorem dX7_putAt_12 : decode cX7_putAt 12 = .ok (.iload_n 1, 1) := by decide +kernel
theorem dX7_putAt_13 : decode cX7_putAt 13 = .ok (.iastore, 1) := by decide +kernel
theorem dX7_putAt_14 : decode cX7_putAt 14 = .ok (.return_, 1) := by decide +kernel
theorem dX7_goesAhead_0 : decode cX7_goesAhead 0 = .ok (.iload_n 3, 1) := by decide +kernel
theorem dX7_goesAhead_1 : decode cX7_goesAhead 1 = .ok (.tableswitch 146 0 3 #[31, 146, 85, 112], 31) := by decide +kernel
theorem dX7_goesAhead_32 : decode cX7_goesAhead 32 = .ok (.aload_n 0, 1) := by decide +kernel
theorem dX7_goesAhead_33 : decode cX7_goesAhead 33 = .ok (.iload_n 1, 1) := by decide +kernel
theorem dX7_goesAhead_34 : decode cX7_goesAhead 34 = .ok (.lload 4, 2) := by decide +kernel
theorem dX7_goesAhead_36 : decode cX7_goesAhead 36 = .ok (.invokevirtual 90, 3) := by decide +kernel
theorem dX7_goesAhead_39 : decode cX7_goesAhead 39 = .ok (.aload_n 0, 1) := by decide +kernel
theorem dX7_goesAhead_40 : decode cX7_goesAhead 40 = .ok (.iload_n 2, 1) := by decide +kernel
theorem dX7_goesAhead_41 : decode cX7_goesAhead 41 = .ok (.lload 4, 2) := by decide +kernel
theorem dX7_goesAhead_43 : decode cX7_goesAhead 43 = .ok (.invokevirtual 90, 3) := by decide +kernel
theorem dX7_goesAhead_46 : decode cX7_goesAhead 46 = .ok (.isub, 1) := by decide +kernel
theorem dX7_goesAhead_47 : decode cX7_goesAhead 47 = .ok (.istore 6, 2) := by decide +kernel
theorem dX7_goesAhead_49 : decode cX7_goesAhead 49 = .ok (.iload 6, 2) := by decide +kernel
theorem dX7_goesAhead_51 : decode cX7_goesAhead 51 = .ok (.ifCond .lt 29, 3) := by decide +kernel
theorem dX7_goesAhead_54 : decode cX7_goesAhead 54 = .ok (.iload 6, 2) := by decide +kernel
theorem dX7_goesAhead_56 : decode cX7_goesAhead 56 = .ok (.ifCond .ne 28, 3) := by decide +kernel
theorem dX7_goesAhead_59 : decode cX7_goesAhead 59 = .ok (.aload_n 0, 1) := by decide +kernel
theorem dX7_goesAhead_60 : decode cX7_goesAhead 60 = .ok (.getfield 57, 3) := by decide +kernel
theorem dX7_goesAhead_63 : decode cX7_goesAhead 63 = .ok (.getfield 94, 3) := by decide +kernel
theorem dX7_goesAhead_66 : decode cX7_goesAhead 66 = .ok (.iload_n 1, 1) := by decide +kernel
theorem dX7_goesAhead_67 : decode cX7_goesAhead 67 = .ok (.iaload, 1) := by decide +kernel
theorem dX7_goesAhead_68 : decode cX7_goesAhead 68 = .ok (.aload_n 0, 1) := by decide +kernel
theorem dX7_goesAhead_69 : decode cX7_goesAhead 69 = .ok (.getfield 57, 3) := by decide +kernel
theorem dX7_goesAhead_72 : decode cX7_goesAhead 72 = .ok (.getfield 94, 3) := by decide +kernel
theorem dX7_goesAhead_75 : decode cX7_goesAhead 75 = .ok (.iload_n 2, 1) := by decide +kernel
theorem dX7_goesAhead_76 : decode cX7_goesAhead 76 = .ok (.iaload, 1) := by decide +kernel
theorem dX7_goesAhead_77 : decode cX7_goesAhead 77 = .ok (.if_icmp .le 7, 3) := by decide +kernel
theorem dX7_goesAhead_80 : decode cX7_goesAhead 80 = .ok (.iconst 1, 1) := by decide +kernel
theorem dX7_goesAhead_81 : decode cX7_goesAhead 81 = .ok (.goto 4, 3) := by decide +kernel
theorem dX7_goesAhead_84 : decode cX7_goesAhead 84 = .ok (.iconst 0, 1) := by decide +kernel
theorem dX7_goesAhead_85 : decode cX7_goesAhead 85 = .ok (.ireturn, 1) := by decide +kernel
theorem dX7_goesAhead_86 : decode cX7_goesAhead 86 = .ok (.aload_n 0, 1) := by decide +kernel
theorem dX7_goesAhead_87 : decode cX7_goesAhead 87 = .ok (.getfield 57, 3) := by decide +kernel
theorem dX7_goesAhead_90 : decode cX7_goesAhead 90 = .ok (.getfield 94, 3) := by decide +kernel
theorem dX7_goesAhead_93 : decode cX7_goesAhead 93 = .ok (.iload_n 1, 1) := by decide +kernel
theorem dX7_goesAhead_94 : decode cX7_goesAhead 94 = .ok (.iaload, 1) := by decide +kernel
theorem dX7_goesAhead_95 : decode cX7_goesAhead 95 = .ok (.aload_n 0, 1) := by decide +kernel
theorem dX7_goesAhead_96 : decode cX7_goesAhead 96 = .ok (.getfield 57, 3) := by decide +kernel
theorem dX7_goesAhead_99 : decode cX7_goesAhead 99 = .ok (.getfield 94, 3) := by decide +kernel
theorem dX7_goesAhead_102 : decode cX7_goesAhead 102 = .ok (.iload_n 2, 1) := by decide +kernel
theorem dX7_goesAhead_103 : decode cX7_goesAhead 103 = .ok (.iaload, 1) := by decide +kernel
theorem dX7_goesAhead_104 : decode cX7_goesAhead 104 = .ok (.if_icmp .le 7, 3) := by decide +kernel
theorem dX7_goesAhead_107 : decode cX7_goesAhead 107 = .ok (.iconst 1, 1) := by decide +kernel
theorem dX7_goesAhead_108 : decode cX7_goesAhead 108 = .ok (.goto 4, 3) := by decide +kernel
theorem dX7_goesAhead_111 : decode cX7_goesAhead 111 = .ok (.iconst 0, 1) := by decide +kernel
theorem dX7_goesAhead_112 : decode cX7_goesAhead 112 = .ok (.ireturn, 1) := by decide +kernel
theorem dX7_goesAhead_113 : decode cX7_goesAhead 113 = .ok (.aload_n 0, 1) := by decide +kernel
theorem dX7_goesAhead_114 : decode cX7_goesAhead 114 = .ok (.getfield 49, 3) := by decide +kernel
theorem dX7_goesAhead_117 : decode cX7_goesAhead 117 = .ok (.getfield 97, 3) := by decide +kernel
theorem dX7_goesAhead_120 : decode cX7_goesAhead 120 = .ok (.iload_n 1, 1) := by decide +kernel
theorem dX7_goesAhead_121 : decode cX7_goesAhead 121 = .ok (.iaload, 1) := by decide +kernel
theorem dX7_goesAhead_122 : decode cX7_goesAhead 122 = .ok (.bipush 7, 2) := by decide +kernel
theorem dX7_goesAhead_124 : decode cX7_goesAhead 124 = .ok (.if_icmp .ne 21, 3) := by decide +kernel
theorem dX7_goesAhead_127 : decode cX7_goesAhead 127 = .ok (.aload_n 0, 1) := by decide +kernel
theorem dX7_goesAhead_128 : decode cX7_goesAhead 128 = .ok (.getfield 49, 3) := by decide +kernel
theorem dX7_goesAhead_131 : decode cX7_goesAhead 131 = .ok (.getfield 97, 3) := by decide +kernel
theorem dX7_goesAhead_134 : decode cX7_goesAhead 134 = .ok (.iload_n 2, 1) := by decide +kernel
theorem dX7_goesAhead_135 : decode cX7_goesAhead 135 = .ok (.iaload, 1) := by decide +kernel
theorem dX7_goesAhead_136 : decode cX7_goesAhead 136 = .ok (.bipush 7, 2) := by decide +kernel
theorem dX7_goesAhead_138 : decode cX7_goesAhead 138 = .ok (.if_icmp .eq 7, 3) := by decide +kernel
theorem dX7_goesAhead_141 : decode cX7_goesAhead 141 = .ok (.iconst 1, 1) := by decide +kernel
theorem dX7_goesAhead_142 : decode cX7_goesAhead 142 = .ok (.goto 4, 3) := by decide +kernel
theorem dX7_goesAhead_145 : decode cX7_goesAhead 145 = .ok (.iconst 0, 1) := by decide +kernel
theorem dX7_goesAhead_146 : decode cX7_goesAhead 146 = .ok (.ireturn, 1) := by decide +kernel
theorem dX7_goesAhead_147 : decode cX7_goesAhead 147 = .ok (.iconst 0, 1) := by decide +kernel
theorem dX7_goesAhead_148 : decode cX7_goesAhead 148 = .ok (.ireturn, 1) := by decide +kernel
theorem dX7_growth_0 : decode cX7_growth 0 = .ok (.lload_n 2, 1) := by decide +kernel
theorem dX7_growth_1 : decode cX7_growth 1 = .ok (.lconst 1, 1) := by decide +kernel
theorem dX7_growth_2 : decode cX7_growth 2 = .ok (.iload_n 1, 1) := by decide +kernel
theorem dX7_growth_3 : decode cX7_growth 3 = .ok (.lshl, 1) := by decide +kernel
theorem dX7_growth_4 : decode cX7_growth 4 = .ok (.lor, 1) := by decide +kernel
theorem dX7_growth_5 : decode cX7_growth 5 = .ok (.lstore 4, 2) := by decide +kernel
theorem dX7_growth_7 : decode cX7_growth 7 = .ok (.aload_n 0, 1) := by decide +kernel
theorem dX7_growth_8 : decode cX7_growth 8 = .ok (.getfield 53, 3) := by decide +kernel
theorem dX7_growth_11 : decode cX7_growth 11 = .ok (.getfield 100, 3) := by decide +kernel
theorem dX7_growth_14 : decode cX7_growth 14 = .ok (.iload_n 1, 1) := by decide +kernel
theorem dX7_growth_15 : decode cX7_growth 15 = .ok (.iaload, 1) := by decide +kernel
theorem dX7_growth_16 : decode cX7_growth 16 = .ok (.istore 6, 2) := by decide +kernel
theorem dX7_growth_18 : decode cX7_growth 18 = .ok (.iconst 0, 1) := by decide +kernel
theorem dX7_growth_19 : decode cX7_growth 19 = .ok (.istore 7, 2) := by decide +kernel
theorem dX7_growth_21 : decode cX7_growth 21 = .ok (.iload 7, 2) := by decide +kernel
theorem dX7_growth_23 : decode cX7_growth 23 = .ok (.aload_n 0, 1) := by decide +kernel
theorem dX7_growth_24 : decode cX7_growth 24 = .ok (.getfield 57, 3) := by decide +kernel
theorem dX7_growth_27 : decode cX7_growth 27 = .ok (.getfield 105, 3) := by decide +kernel
theorem dX7_growth_30 : decode cX7_growth 30 = .ok (.iload_n 1, 1) := by decide +kernel
theorem dX7_growth_31 : decode cX7_growth 31 = .ok (.iaload, 1) := by decide +kernel
theorem dX7_growth_32 : decode cX7_growth 32 = .ok (.if_icmp .ge 74, 3) := by decide +kernel
theorem dX7_growth_35 : decode cX7_growth 35 = .ok (.aload_n 0, 1) := by decide +kernel
theorem dX7_growth_36 : decode cX7_growth 36 = .ok (.getfield 57, 3) := by decide +kernel
theorem dX7_growth_39 : decode cX7_growth 39 = .ok (.getfield 108, 3) := by decide +kernel
theorem dX7_growth_42 : decode cX7_growth 42 = .ok (.iconst 3, 1) := by decide +kernel
theorem dX7_growth_43 : decode cX7_growth 43 = .ok (.iload_n 1, 1) := by decide +kernel
theorem dX7_growth_44 : decode cX7_growth 44 = .ok (.imul, 1) := by decide +kernel
theorem dX7_growth_45 : decode cX7_growth 45 = .ok (.iload 7, 2) := by decide +kernel
theorem dX7_growth_47 : decode cX7_growth 47 = .ok (.iadd, 1) := by decide +kernel
theorem dX7_growth_48 : decode cX7_growth 48 = .ok (.iaload, 1) := by decide +kernel
theorem dX7_growth_49 : decode cX7_growth 49 = .ok (.istore 8, 2) := by decide +kernel
theorem dX7_growth_51 : decode cX7_growth 51 = .ok (.aload_n 0, 1) := by decide +kernel
theorem dX7_growth_52 : decode cX7_growth 52 = .ok (.getfield 57, 3) := by decide +kernel
theorem dX7_growth_55 : decode cX7_growth 55 = .ok (.getfield 111, 3) := by decide +kernel
theorem dX7_growth_58 : decode cX7_growth 58 = .ok (.iload 8, 2) := by decide +kernel
theorem dX7_growth_60 : decode cX7_growth 60 = .ok (.laload, 1) := by decide +kernel
theorem dX7_growth_61 : decode cX7_growth 61 = .ok (.lload 4, 2) := by decide +kernel
theorem dX7_growth_63 : decode cX7_growth 63 = .ok (.ldc2_w 80, 3) := by decide +kernel
theorem dX7_growth_66 : decode cX7_growth 66 = .ok (.lxor, 1) := by decide +kernel
theorem dX7_growth_67 : decode cX7_growth 67 = .ok (.land, 1) := by decide +kernel
theorem dX7_growth_68 : decode cX7_growth 68 = .ok (.lconst 0, 1) := by decide +kernel
theorem dX7_growth_69 : decode cX7_growth 69 = .ok (.lcmp, 1) := by decide +kernel
theorem dX7_growth_70 : decode cX7_growth 70 = .ok (.ifCond .ne 30, 3) := by decide +kernel
theorem dX7_growth_73 : decode cX7_growth 73 = .ok (.aload_n 0, 1) := by decide +kernel
theorem dX7_growth_74 : decode cX7_growth 74 = .ok (.getfield 57, 3) := by decide +kernel
theorem dX7_growth_77 : decode cX7_growth 77 = .ok (.iload 8, 2) := by decide +kernel
theorem dX7_growth_79 : decode cX7_growth 79 = .ok (.invokevirtual 114, 3) := by decide +kernel
theorem dX7_growth_82 : decode cX7_growth 82 = .ok (.ifCond .ne 18, 3) := by decide +kernel
theorem dX7_growth_85 : decode cX7_growth 85 = .ok (.iload 6, 2) := by decide +kernel
theorem dX7_growth_87 : decode cX7_growth 87 = .ok (.aload_n 0, 1) := by decide +kernel
theorem dX7_growth_88 : decode cX7_growth 88 = .ok (.getfield 53, 3) := by decide +kernel
theorem dX7_growth_91 : decode cX7_growth 91 = .ok (.getfield 100, 3) := by decide +kernel
theorem dX7_growth_94 : decode cX7_growth 94 = .ok (.iload 8, 2) := by decide +kernel
theorem dX7_growth_96 : decode cX7_growth 96 = .ok (.iaload, 1) := by decide +kernel
theorem dX7_growth_97 : decode cX7_growth 97 = .ok (.isub, 1) := by decide +kernel
theorem dX7_growth_98 : decode cX7_growth 98 = .ok (.istore 6, 2) := by decide +kernel
theorem dX7_growth_100 : decode cX7_growth 100 = .ok (.iinc 7 1, 3) := by decide +kernel
theorem dX7_growth_103 : decode cX7_growth 103 = .ok (.goto (-82), 3) := by decide +kernel
theorem dX7_growth_106 : decode cX7_growth 106 = .ok (.iload 6, 2) := by decide +kernel
theorem dX7_growth_108 : decode cX7_growth 108 = .ok (.ireturn, 1) := by decide +kernel
theorem dX7_settle_0 : decode cX7_settle 0 = .ok (.aload_n 0, 1) := by decide +kernel
theorem dX7_settle_1 : decode cX7_settle 1 = .ok (.invokevirtual 117, 3) := by decide +kernel
theorem dX7_settle_4 : decode cX7_settle 4 = .ok (.aload_n 0, 1) := by decide +kernel
theorem dX7_settle_5 : decode cX7_settle 5 = .ok (.invokevirtual 120, 3) := by decide +kernel
theorem dX7_settle_8 : decode cX7_settle 8 = .ok (.aload_n 0, 1) := by decide +kernel
theorem dX7_settle_9 : decode cX7_settle 9 = .ok (.invokevirtual 123, 3) := by decide +kernel
theorem dX7_settle_12 : decode cX7_settle 12 = .ok (.aload_n 0, 1) := by decide +kernel
theorem dX7_settle_13 : decode cX7_settle 13 = .ok (.iload_n 1, 1) := by decide +kernel
theorem dX7_settle_14 : decode cX7_settle 14 = .ok (.iload_n 2, 1) := by decide +kernel
theorem dX7_settle_15 : decode cX7_settle 15 = .ok (.invokevirtual 126, 3) := by decide +kernel
theorem dX7_settle_18 : decode cX7_settle 18 = .ok (.return_, 1) := by decide +kernel
theorem dX7_findEnds_0 : decode cX7_findEnds 0 = .ok (.iconst 0, 1) := by decide +kernel
theorem dX7_findEnds_1 : decode cX7_findEnds 1 = .ok (.istore_n 1, 1) := by decide +kernel
theorem dX7_findEnds_2 : decode cX7_findEnds 2 = .ok (.iload_n 1, 1) := by decide +kernel
theorem dX7_findEnds_3 : decode cX7_findEnds 3 = .ok (.aload_n 0, 1) := by decide +kernel
theorem dX7_findEnds_4 : decode cX7_findEnds 4 = .ok (.getfield 61, 3) := by decide +kernel
theorem dX7_findEnds_7 : decode cX7_findEnds 7 = .ok (.if_icmp .ge 95, 3) := by decide +kernel
theorem dX7_findEnds_10 : decode cX7_findEnds 10 = .ok (.aload_n 0, 1) := by decide +kernel
theorem dX7_findEnds_11 : decode cX7_findEnds 11 = .ok (.getfield 9, 3) := by decide +kernel
theorem dX7_findEnds_14 : decode cX7_findEnds 14 = .ok (.iload_n 1, 1) := by decide +kernel
theorem dX7_findEnds_15 : decode cX7_findEnds 15 = .ok (.iaload, 1) := by decide +kernel
theorem dX7_findEnds_16 : decode cX7_findEnds 16 = .ok (.istore_n 2, 1) := by decide +kernel
theorem dX7_findEnds_17 : decode cX7_findEnds 17 = .ok (.aload_n 0, 1) := by decide +kernel
theorem dX7_findEnds_18 : decode cX7_findEnds 18 = .ok (.getfield 18, 3) := by decide +kernel
theorem dX7_findEnds_21 : decode cX7_findEnds 21 = .ok (.iload_n 2, 1) := by decide +kernel
theorem dX7_findEnds_22 : decode cX7_findEnds 22 = .ok (.aload_n 0, 1) := by decide +kernel
theorem dX7_findEnds_23 : decode cX7_findEnds 23 = .ok (.getfield 57, 3) := by decide +kernel
theorem dX7_findEnds_26 : decode cX7_findEnds 26 = .ok (.iload_n 2, 1) := by decide +kernel
theorem dX7_findEnds_27 : decode cX7_findEnds 27 = .ok (.invokevirtual 114, 3) := by decide +kernel
theorem dX7_findEnds_30 : decode cX7_findEnds 30 = .ok (.ifCond .eq 10, 3) := by decide +kernel
theorem dX7_findEnds_33 : decode cX7_findEnds 33 = .ok (.aload_n 0, 1) := by decide +kernel
theorem dX7_findEnds_34 : decode cX7_findEnds 34 = .ok (.getfield 61, 3) := by decide +kernel
theorem dX7_findEnds_37 : decode cX7_findEnds 37 = .ok (.goto 4, 3) := by decide +kernel
theorem dX7_findEnds_40 : decode cX7_findEnds 40 = .ok (.iload_n 1, 1) := by decide +kernel
theorem dX7_findEnds_41 : decode cX7_findEnds 41 = .ok (.iastore, 1) := by decide +kernel
theorem dX7_findEnds_42 : decode cX7_findEnds 42 = .ok (.iconst 0, 1) := by decide +kernel
theorem dX7_findEnds_43 : decode cX7_findEnds 43 = .ok (.istore_n 3, 1) := by decide +kernel
theorem dX7_findEnds_44 : decode cX7_findEnds 44 = .ok (.iload_n 3, 1) := by decide +kernel
theorem dX7_findEnds_45 : decode cX7_findEnds 45 = .ok (.aload_n 0, 1) := by decide +kernel
theorem dX7_findEnds_46 : decode cX7_findEnds 46 = .ok (.getfield 57, 3) := by decide +kernel
theorem dX7_findEnds_49 : decode cX7_findEnds 49 = .ok (.getfield 105, 3) := by decide +kernel
theorem dX7_findEnds_52 : decode cX7_findEnds 52 = .ok (.iload_n 2, 1) := by decide +kernel
theorem dX7_findEnds_53 : decode cX7_findEnds 53 = .ok (.iaload, 1) := by decide +kernel
theorem dX7_findEnds_54 : decode cX7_findEnds 54 = .ok (.if_icmp .ge 42, 3) := by decide +kernel
theorem dX7_findEnds_57 : decode cX7_findEnds 57 = .ok (.aload_n 0, 1) := by decide +kernel
theorem dX7_findEnds_58 : decode cX7_findEnds 58 = .ok (.getfield 57, 3) := by decide +kernel
theorem dX7_findEnds_61 : decode cX7_findEnds 61 = .ok (.getfield 108, 3) := by decide +kernel
theorem dX7_findEnds_64 : decode cX7_findEnds 64 = .ok (.iconst 3, 1) := by decide +kernel
theorem dX7_findEnds_65 : decode cX7_findEnds 65 = .ok (.iload_n 2, 1) := by decide +kernel
theorem dX7_findEnds_66 : decode cX7_findEnds 66 = .ok (.imul, 1) := by decide +kernel
theorem dX7_findEnds_67 : decode cX7_findEnds 67 = .ok (.iload_n 3, 1) := by decide +kernel
theorem dX7_findEnds_68 : decode cX7_findEnds 68 = .ok (.iadd, 1) := by decide +kernel
theorem dX7_findEnds_69 : decode cX7_findEnds 69 = .ok (.iaload, 1) := by decide +kernel
theorem dX7_findEnds_70 : decode cX7_findEnds 70 = .ok (.istore 4, 2) := by decide +kernel
theorem dX7_findEnds_72 : decode cX7_findEnds 72 = .ok (.aload_n 0, 1) := by decide +kernel
theorem dX7_findEnds_73 : decode cX7_findEnds 73 = .ok (.getfield 18, 3) := by decide +kernel
theorem dX7_findEnds_76 : decode cX7_findEnds 76 = .ok (.iload 4, 2) := by decide +kernel
theorem dX7_findEnds_78 : decode cX7_findEnds 78 = .ok (.aload_n 0, 1) := by decide +kernel
theorem dX7_findEnds_79 : decode cX7_findEnds 79 = .ok (.getfield 18, 3) := by decide +kernel
theorem dX7_findEnds_82 : decode cX7_findEnds 82 = .ok (.iload 4, 2) := by decide +kernel
theorem dX7_findEnds_84 : decode cX7_findEnds 84 = .ok (.iaload, 1) := by decide +kernel
theorem dX7_findEnds_85 : decode cX7_findEnds 85 = .ok (.iload_n 1, 1) := by decide +kernel
theorem dX7_findEnds_86 : decode cX7_findEnds 86 = .ok (.invokestatic 129, 3) := by decide +kernel
theorem dX7_findEnds_89 : decode cX7_findEnds 89 = .ok (.iastore, 1) := by decide +kernel
theorem dX7_findEnds_90 : decode cX7_findEnds 90 = .ok (.iinc 3 1, 3) := by decide +kernel
theorem dX7_findEnds_93 : decode cX7_findEnds 93 = .ok (.goto (-49), 3) := by decide +kernel
theorem dX7_findEnds_96 : decode cX7_findEnds 96 = .ok (.iinc 1 1, 3) := by decide +kernel
theorem dX7_findEnds_99 : decode cX7_findEnds 99 = .ok (.goto (-97), 3) := by decide +kernel
theorem dX7_findEnds_102 : decode cX7_findEnds 102 = .ok (.return_, 1) := by decide +kernel
theorem dX7_findPressures_0 : decode cX7_findPressures 0 = .ok (.iconst 0, 1) := by decide +kernel
theorem dX7_findPressures_1 : decode cX7_findPressures 1 = .ok (.istore_n 1, 1) := by decide +kernel
theorem dX7_findPressures_2 : decode cX7_findPressures 2 = .ok (.iload_n 1, 1) := by decide +kernel
theorem dX7_findPressures_3 : decode cX7_findPressures 3 = .ok (.iconst 2, 1) := by decide +kernel
theorem dX7_findPressures_4 : decode cX7_findPressures 4 = .ok (.if_icmp .gt 75, 3) := by decide +kernel
theorem dX7_findPressures_7 : decode cX7_findPressures 7 = .ok (.aload_n 0, 1) := by decide +kernel
theorem dX7_findPressures_8 : decode cX7_findPressures 8 = .ok (.getfield 24, 3) := by decide +kernel
theorem dX7_findPressures_11 : decode cX7_findPressures 11 = .ok (.iload_n 1, 1) := by decide +kernel
theorem dX7_findPressures_12 : decode cX7_findPressures 12 = .ok (.iconst 0, 1) := by decide +kernel
theorem dX7_findPressures_13 : decode cX7_findPressures 13 = .ok (.iastore, 1) := by decide +kernel
theorem dX7_findPressures_14 : decode cX7_findPressures 14 = .ok (.iconst 0, 1) := by decide +kernel
theorem dX7_findPressures_15 : decode cX7_findPressures 15 = .ok (.istore_n 2, 1) := by decide +kernel
theorem dX7_findPressures_16 : decode cX7_findPressures 16 = .ok (.iload_n 2, 1) := by decide +kernel
theorem dX7_findPressures_17 : decode cX7_findPressures 17 = .ok (.aload_n 0, 1) := by decide +kernel
theorem dX7_findPressures_18 : decode cX7_findPressures 18 = .ok (.getfield 61, 3) := by decide +kernel
theorem dX7_findPressures_21 : decode cX7_findPressures 21 = .ok (.if_icmp .ge 52, 3) := by decide +kernel
theorem dX7_findPressures_24 : decode cX7_findPressures 24 = .ok (.aload_n 0, 1) := by decide +kernel
theorem dX7_findPressures_25 : decode cX7_findPressures 25 = .ok (.getfield 21, 3) := by decide +kernel
theorem dX7_findPressures_28 : decode cX7_findPressures 28 = .ok (.bipush 64, 2) := by decide +kernel
theorem dX7_findPressures_30 : decode cX7_findPressures 30 = .ok (.iload_n 1, 1) := by decide +kernel
theorem dX7_findPressures_31 : decode cX7_findPressures 31 = .ok (.imul, 1) := by decide +kernel
theorem dX7_findPressures_32 : decode cX7_findPressures 32 = .ok (.iload_n 2, 1) := by decide +kernel
theorem dX7_findPressures_33 : decode cX7_findPressures 33 = .ok (.iadd, 1) := by decide +kernel
theorem dX7_findPressures_34 : decode cX7_findPressures 34 = .ok (.aload_n 0, 1) := by decide +kernel
theorem dX7_findPressures_35 : decode cX7_findPressures 35 = .ok (.iload_n 2, 1) := by decide +kernel
theorem dX7_findPressures_36 : decode cX7_findPressures 36 = .ok (.iload_n 1, 1) := by decide +kernel
theorem dX7_findPressures_37 : decode cX7_findPressures 37 = .ok (.invokevirtual 135, 3) := by decide +kernel
theorem dX7_findPressures_40 : decode cX7_findPressures 40 = .ok (.iastore, 1) := by decide +kernel
theorem dX7_findPressures_41 : decode cX7_findPressures 41 = .ok (.aload_n 0, 1) := by decide +kernel
theorem dX7_findPressures_42 : decode cX7_findPressures 42 = .ok (.getfield 24, 3) := by decide +kernel
theorem dX7_findPressures_45 : decode cX7_findPressures 45 = .ok (.iload_n 1, 1) := by decide +kernel
theorem dX7_findPressures_46 : decode cX7_findPressures 46 = .ok (.aload_n 0, 1) := by decide +kernel
theorem dX7_findPressures_47 : decode cX7_findPressures 47 = .ok (.getfield 24, 3) := by decide +kernel
theorem dX7_findPressures_50 : decode cX7_findPressures 50 = .ok (.iload_n 1, 1) := by decide +kernel
theorem dX7_findPressures_51 : decode cX7_findPressures 51 = .ok (.iaload, 1) := by decide +kernel
theorem dX7_findPressures_52 : decode cX7_findPressures 52 = .ok (.aload_n 0, 1) := by decide +kernel
theorem dX7_findPressures_53 : decode cX7_findPressures 53 = .ok (.getfield 21, 3) := by decide +kernel
theorem dX7_findPressures_56 : decode cX7_findPressures 56 = .ok (.bipush 64, 2) := by decide +kernel
theorem dX7_findPressures_58 : decode cX7_findPressures 58 = .ok (.iload_n 1, 1) := by decide +kernel
theorem dX7_findPressures_59 : decode cX7_findPressures 59 = .ok (.imul, 1) := by decide +kernel
theorem dX7_findPressures_60 : decode cX7_findPressures 60 = .ok (.iload_n 2, 1) := by decide +kernel
theorem dX7_findPressures_61 : decode cX7_findPressures 61 = .ok (.iadd, 1) := by decide +kernel
theorem dX7_findPressures_62 : decode cX7_findPressures 62 = .ok (.iaload, 1) := by decide +kernel
theorem dX7_findPressures_63 : decode cX7_findPressures 63 = .ok (.invokestatic 129, 3) := by decide +kernel
theorem dX7_findPressures_66 : decode cX7_findPressures 66 = .ok (.iastore, 1) := by decide +kernel
theorem dX7_findPressures_67 : decode cX7_findPressures 67 = .ok (.iinc 2 1, 3) := by decide +kernel
theorem dX7_findPressures_70 : decode cX7_findPressures 70 = .ok (.goto (-54), 3) := by decide +kernel
theorem dX7_findPressures_73 : decode cX7_findPressures 73 = .ok (.iinc 1 1, 3) := by decide +kernel
theorem dX7_findPressures_76 : decode cX7_findPressures 76 = .ok (.goto (-74), 3) := by decide +kernel
theorem dX7_findPressures_79 : decode cX7_findPressures 79 = .ok (.return_, 1) := by decide +kernel
theorem dX7_pressureAt_0 : decode cX7_pressureAt 0 = .ok (.iconst 0, 1) := by decide +kernel
theorem dX7_pressureAt_1 : decode cX7_pressureAt 1 = .ok (.istore_n 3, 1) := by decide +kernel
theorem dX7_pressureAt_2 : decode cX7_pressureAt 2 = .ok (.iconst 0, 1) := by decide +kernel
theorem dX7_pressureAt_3 : decode cX7_pressureAt 3 = .ok (.istore 4, 2) := by decide +kernel
theorem dX7_pressureAt_5 : decode cX7_pressureAt 5 = .ok (.iload 4, 2) := by decide +kernel
theorem dX7_pressureAt_7 : decode cX7_pressureAt 7 = .ok (.iload_n 1, 1) := by decide +kernel
theorem dX7_pressureAt_8 : decode cX7_pressureAt 8 = .ok (.if_icmp .gt 57, 3) := by decide +kernel
theorem dX7_pressureAt_11 : decode cX7_pressureAt 11 = .ok (.aload_n 0, 1) := by decide +kernel
theorem dX7_pressureAt_12 : decode cX7_pressureAt 12 = .ok (.getfield 9, 3) := by decide +kernel
theorem dX7_pressureAt_15 : decode cX7_pressureAt 15 = .ok (.iload 4, 2) := by decide +kernel
theorem dX7_pressureAt_17 : decode cX7_pressureAt 17 = .ok (.iaload, 1) := by decide +kernel
theorem dX7_pressureAt_18 : decode cX7_pressureAt 18 = .ok (.istore 5, 2) := by decide +kernel
theorem dX7_pressureAt_20 : decode cX7_pressureAt 20 = .ok (.aload_n 0, 1) := by decide +kernel
theorem dX7_pressureAt_21 : decode cX7_pressureAt 21 = .ok (.getfield 18, 3) := by decide +kernel
theorem dX7_pressureAt_24 : decode cX7_pressureAt 24 = .ok (.iload 5, 2) := by decide +kernel
theorem dX7_pressureAt_26 : decode cX7_pressureAt 26 = .ok (.iaload, 1) := by decide +kernel
theorem dX7_pressureAt_27 : decode cX7_pressureAt 27 = .ok (.iload_n 1, 1) := by decide +kernel
theorem dX7_pressureAt_28 : decode cX7_pressureAt 28 = .ok (.if_icmp .le 31, 3) := by decide +kernel
theorem dX7_pressureAt_31 : decode cX7_pressureAt 31 = .ok (.iload_n 2, 1) := by decide +kernel
theorem dX7_pressureAt_32 : decode cX7_pressureAt 32 = .ok (.iconst 2, 1) := by decide +kernel
theorem dX7_pressureAt_33 : decode cX7_pressureAt 33 = .ok (.if_icmp .eq 13, 3) := by decide +kernel
theorem dX7_pressureAt_36 : decode cX7_pressureAt 36 = .ok (.iload_n 2, 1) := by decide +kernel
theorem dX7_pressureAt_37 : decode cX7_pressureAt 37 = .ok (.aload_n 0, 1) := by decide +kernel
theorem dX7_pressureAt_38 : decode cX7_pressureAt 38 = .ok (.iload 5, 2) := by decide +kernel
theorem dX7_pressureAt_40 : decode cX7_pressureAt 40 = .ok (.invokevirtual 138, 3) := by decide +kernel
theorem dX7_pressureAt_43 : decode cX7_pressureAt 43 = .ok (.if_icmp .ne 16, 3) := by decide +kernel
theorem dX7_pressureAt_46 : decode cX7_pressureAt 46 = .ok (.iload_n 3, 1) := by decide +kernel
theorem dX7_pressureAt_47 : decode cX7_pressureAt 47 = .ok (.aload_n 0, 1) := by decide +kernel
theorem dX7_pressureAt_48 : decode cX7_pressureAt 48 = .ok (.getfield 53, 3) := by decide +kernel
theorem dX7_pressureAt_51 : decode cX7_pressureAt 51 = .ok (.getfield 100, 3) := by decide +kernel
theorem dX7_pressureAt_54 : decode cX7_pressureAt 54 = .ok (.iload 5, 2) := by decide +kernel
theorem dX7_pressureAt_56 : decode cX7_pressureAt 56 = .ok (.iaload, 1) := by decide +kernel
theorem dX7_pressureAt_57 : decode cX7_pressureAt 57 = .ok (.iadd, 1) := by decide +kernel
theorem dX7_pressureAt_58 : decode cX7_pressureAt 58 = .ok (.istore_n 3, 1) := by decide +kernel
theorem dX7_pressureAt_59 : decode cX7_pressureAt 59 = .ok (.iinc 4 1, 3) := by decide +kernel
theorem dX7_pressureAt_62 : decode cX7_pressureAt 62 = .ok (.goto (-57), 3) := by decide +kernel
theorem dX7_pressureAt_65 : decode cX7_pressureAt 65 = .ok (.iload_n 3, 1) := by decide +kernel
theorem dX7_pressureAt_66 : decode cX7_pressureAt 66 = .ok (.ireturn, 1) := by decide +kernel
theorem dX7_fileOf_0 : decode cX7_fileOf 0 = .ok (.aload_n 0, 1) := by decide +kernel
theorem dX7_fileOf_1 : decode cX7_fileOf 1 = .ok (.getfield 49, 3) := by decide +kernel
theorem dX7_fileOf_4 : decode cX7_fileOf 4 = .ok (.getfield 142, 3) := by decide +kernel
theorem dX7_fileOf_7 : decode cX7_fileOf 7 = .ok (.iload_n 1, 1) := by decide +kernel
theorem dX7_fileOf_8 : decode cX7_fileOf 8 = .ok (.baload, 1) := by decide +kernel
theorem dX7_fileOf_9 : decode cX7_fileOf 9 = .ok (.ifCond .eq 7, 3) := by decide +kernel
theorem dX7_fileOf_12 : decode cX7_fileOf 12 = .ok (.iconst 0, 1) := by decide +kernel
theorem dX7_fileOf_13 : decode cX7_fileOf 13 = .ok (.goto 4, 3) := by decide +kernel
theorem dX7_fileOf_16 : decode cX7_fileOf 16 = .ok (.iconst 1, 1) := by decide +kernel
theorem dX7_fileOf_17 : decode cX7_fileOf 17 = .ok (.ireturn, 1) := by decide +kernel
theorem dX7_halfOf_0 : decode cX7_halfOf 0 = .ok (.sipush 130, 3) := by decide +kernel
theorem dX7_halfOf_3 : decode cX7_halfOf 3 = .ok (.aload_n 0, 1) := by decide +kernel
theorem dX7_halfOf_4 : decode cX7_halfOf 4 = .ok (.iload_n 1, 1) := by decide +kernel
theorem dX7_halfOf_5 : decode cX7_halfOf 5 = .ok (.invokevirtual 138, 3) := by decide +kernel
theorem dX7_halfOf_8 : decode cX7_halfOf 8 = .ok (.imul, 1) := by decide +kernel
theorem dX7_halfOf_9 : decode cX7_halfOf 9 = .ok (.aload_n 0, 1) := by decide +kernel
theorem dX7_halfOf_10 : decode cX7_halfOf 10 = .ok (.getfield 27, 3) := by decide +kernel
theorem dX7_halfOf_13 : decode cX7_halfOf 13 = .ok (.iload_n 1, 1) := by decide +kernel
theorem dX7_halfOf_14 : decode cX7_halfOf 14 = .ok (.iaload, 1) := by decide +kernel
theorem dX7_halfOf_15 : decode cX7_halfOf 15 = .ok (.iadd, 1) := by decide +kernel
theorem dX7_halfOf_16 : decode cX7_halfOf 16 = .ok (.ireturn, 1) := by decide +kernel
theorem dX7_giveRegisters_0 : decode cX7_giveRegisters 0 = .ok (.iconst 0, 1) := by decide +kernel
theorem dX7_giveRegisters_1 : decode cX7_giveRegisters 1 = .ok (.istore_n 1, 1) := by decide +kernel
theorem dX7_giveRegisters_2 : decode cX7_giveRegisters 2 = .ok (.iload_n 1, 1) := by decide +kernel
theorem dX7_giveRegisters_3 : decode cX7_giveRegisters 3 = .ok (.sipush 260, 3) := by decide +kernel
theorem dX7_giveRegisters_6 : decode cX7_giveRegisters 6 = .ok (.if_icmp .ge 16, 3) := by decide +kernel
theorem dX7_giveRegisters_9 : decode cX7_giveRegisters 9 = .ok (.aload_n 0, 1) := by decide +kernel
theorem dX7_giveRegisters_10 : decode cX7_giveRegisters 10 = .ok (.getfield 30, 3) := by decide +kernel
theorem dX7_giveRegisters_13 : decode cX7_giveRegisters 13 = .ok (.iload_n 1, 1) := by decide +kernel
theorem dX7_giveRegisters_14 : decode cX7_giveRegisters 14 = .ok (.iconst 0, 1) := by decide +kernel
theorem dX7_giveRegisters_15 : decode cX7_giveRegisters 15 = .ok (.bastore, 1) := by decide +kernel
theorem dX7_giveRegisters_16 : decode cX7_giveRegisters 16 = .ok (.iinc 1 1, 3) := by decide +kernel
theorem dX7_giveRegisters_19 : decode cX7_giveRegisters 19 = .ok (.goto (-17), 3) := by decide +kernel
theorem dX7_giveRegisters_22 : decode cX7_giveRegisters 22 = .ok (.aload_n 0, 1) := by decide +kernel
theorem dX7_giveRegisters_23 : decode cX7_giveRegisters 23 = .ok (.getfield 34, 3) := by decide +kernel
theorem dX7_giveRegisters_26 : decode cX7_giveRegisters 26 = .ok (.iconst 0, 1) := by decide +kernel
theorem dX7_giveRegisters_27 : decode cX7_giveRegisters 27 = .ok (.iconst 0, 1) := by decide +kernel
theorem dX7_giveRegisters_28 : decode cX7_giveRegisters 28 = .ok (.iastore, 1) := by decide +kernel
theorem dX7_giveRegisters_29 : decode cX7_giveRegisters 29 = .ok (.aload_n 0, 1) := by decide +kernel
theorem dX7_giveRegisters_30 : decode cX7_giveRegisters 30 = .ok (.getfield 34, 3) := by decide +kernel
theorem dX7_giveRegisters_33 : decode cX7_giveRegisters 33 = .ok (.iconst 1, 1) := by decide +kernel
theorem dX7_giveRegisters_34 : decode cX7_giveRegisters 34 = .ok (.iconst 0, 1) := by decide +kernel
theorem dX7_giveRegisters_35 : decode cX7_giveRegisters 35 = .ok (.iastore, 1) := by decide +kernel
theorem dX7_giveRegisters_36 : decode cX7_giveRegisters 36 = .ok (.iconst 0, 1) := by decide +kernel
theorem dX7_giveRegisters_37 : decode cX7_giveRegisters 37 = .ok (.istore_n 1, 1) := by decide +kernel
theorem dX7_giveRegisters_38 : decode cX7_giveRegisters 38 = .ok (.iload_n 1, 1) := by decide +kernel
theorem dX7_giveRegisters_39 : decode cX7_giveRegisters 39 = .ok (.aload_n 0, 1) := by decide +kernel
theorem dX7_giveRegisters_40 : decode cX7_giveRegisters 40 = .ok (.getfield 61, 3) := by decide +kernel
theorem dX7_giveRegisters_43 : decode cX7_giveRegisters 43 = .ok (.if_icmp .ge 118, 3) := by decide +kernel
theorem dX7_giveRegisters_46 : decode cX7_giveRegisters 46 = .ok (.iconst 0, 1) := by decide +kernel
theorem dX7_giveRegisters_47 : decode cX7_giveRegisters 47 = .ok (.istore_n 2, 1) := by decide +kernel
theorem dX7_giveRegisters_48 : decode cX7_giveRegisters 48 = .ok (.iload_n 2, 1) := by decide +kernel
theorem dX7_giveRegisters_49 : decode cX7_giveRegisters 49 = .ok (.iload_n 1, 1) := by decide +kernel
theorem dX7_giveRegisters_50 : decode cX7_giveRegisters 50 = .ok (.if_icmp .ge 35, 3) := by decide +kernel
theorem dX7_giveRegisters_53 : decode cX7_giveRegisters 53 = .ok (.aload_n 0, 1) := by decide +kernel
theorem dX7_giveRegisters_54 : decode cX7_giveRegisters 54 = .ok (.getfield 18, 3) := by decide +kernel
theorem dX7_giveRegisters_57 : decode cX7_giveRegisters 57 = .ok (.aload_n 0, 1) := by decide +kernel
theorem dX7_giveRegisters_58 : decode cX7_giveRegisters 58 = .ok (.getfield 9, 3) := by decide +kernel
theorem dX7_giveRegisters_61 : decode cX7_giveRegisters 61 = .ok (.iload_n 2, 1) := by decide +kernel
theorem dX7_giveRegisters_62 : decode cX7_giveRegisters 62 = .ok (.iaload, 1) := by decide +kernel
theorem dX7_giveRegisters_63 : decode cX7_giveRegisters 63 = .ok (.iaload, 1) := by decide +kernel
theorem dX7_giveRegisters_64 : decode cX7_giveRegisters 64 = .ok (.iload_n 1, 1) := by decide +kernel
theorem dX7_giveRegisters_65 : decode cX7_giveRegisters 65 = .ok (.if_icmp .ne 14, 3) := by decide +kernel
theorem dX7_giveRegisters_68 : decode cX7_giveRegisters 68 = .ok (.aload_n 0, 1) := by decide +kernel
theorem dX7_giveRegisters_69 : decode cX7_giveRegisters 69 = .ok (.aload_n 0, 1) := by decide +kernel
theorem dX7_giveRegisters_70 : decode cX7_giveRegisters 70 = .ok (.getfield 9, 3) := by decide +kernel
theorem dX7_giveRegisters_73 : decode cX7_giveRegisters 73 = .ok (.iload_n 2, 1) := by decide +kernel
theorem dX7_giveRegisters_74 : decode cX7_giveRegisters 74 = .ok (.iaload, 1) := by decide +kernel
theorem dX7_giveRegisters_75 : decode cX7_giveRegisters 75 = .ok (.iconst 0, 1) := by decide +kernel
theorem dX7_giveRegisters_76 : decode cX7_giveRegisters 76 = .ok (.invokevirtual 145, 3) := by decide +kernel
theorem dX7_giveRegisters_79 : decode cX7_giveRegisters 79 = .ok (.iinc 2 1, 3) := by decide +kernel
theorem dX7_giveRegisters_82 : decode cX7_giveRegisters 82 = .ok (.goto (-34), 3) := by decide +kernel
theorem dX7_giveRegisters_85 : decode cX7_giveRegisters 85 = .ok (.aload_n 0, 1) := by decide +kernel
theorem dX7_giveRegisters_86 : decode cX7_giveRegisters 86 = .ok (.getfield 9, 3) := by decide +kernel
theorem dX7_giveRegisters_89 : decode cX7_giveRegisters 89 = .ok (.iload_n 1, 1) := by decide +kernel
theorem dX7_giveRegisters_90 : decode cX7_giveRegisters 90 = .ok (.iaload, 1) := by decide +kernel
theorem dX7_giveRegisters_91 : decode cX7_giveRegisters 91 = .ok (.istore_n 2, 1) := by decide +kernel
theorem dX7_giveRegisters_92 : decode cX7_giveRegisters 92 = .ok (.aload_n 0, 1) := by decide +kernel
theorem dX7_giveRegisters_93 : decode cX7_giveRegisters 93 = .ok (.iload_n 2, 1) := by decide +kernel
theorem dX7_giveRegisters_94 : decode cX7_giveRegisters 94 = .ok (.invokevirtual 138, 3) := by decide +kernel
theorem dX7_giveRegisters_97 : decode cX7_giveRegisters 97 = .ok (.istore_n 3, 1) := by decide +kernel
theorem dX7_giveRegisters_98 : decode cX7_giveRegisters 98 = .ok (.aload_n 0, 1) := by decide +kernel
theorem dX7_giveRegisters_99 : decode cX7_giveRegisters 99 = .ok (.getfield 27, 3) := by decide +kernel
theorem dX7_giveRegisters_102 : decode cX7_giveRegisters 102 = .ok (.iload_n 2, 1) := by decide +kernel
theorem dX7_giveRegisters_103 : decode cX7_giveRegisters 103 = .ok (.aload_n 0, 1) := by decide +kernel
theorem dX7_giveRegisters_104 : decode cX7_giveRegisters 104 = .ok (.iload_n 3, 1) := by decide +kernel
theorem dX7_giveRegisters_105 : decode cX7_giveRegisters 105 = .ok (.aload_n 0, 1) := by decide +kernel
theorem dX7_giveRegisters_106 : decode cX7_giveRegisters 106 = .ok (.getfield 53, 3) := by decide +kernel
theorem dX7_giveRegisters_109 : decode cX7_giveRegisters 109 = .ok (.getfield 100, 3) := by decide +kernel
theorem dX7_giveRegisters_112 : decode cX7_giveRegisters 112 = .ok (.iload_n 2, 1) := by decide +kernel
theorem dX7_giveRegisters_113 : decode cX7_giveRegisters 113 = .ok (.iaload, 1) := by decide +kernel
theorem dX7_giveRegisters_114 : decode cX7_giveRegisters 114 = .ok (.invokevirtual 149, 3) := by decide +kernel
theorem dX7_giveRegisters_117 : decode cX7_giveRegisters 117 = .ok (.iastore, 1) := by decide +kernel
theorem dX7_giveRegisters_118 : decode cX7_giveRegisters 118 = .ok (.aload_n 0, 1) := by decide +kernel
theorem dX7_giveRegisters_119 : decode cX7_giveRegisters 119 = .ok (.iload_n 2, 1) := by decide +kernel
theorem dX7_giveRegisters_120 : decode cX7_giveRegisters 120 = .ok (.iconst 1, 1) := by decide +kernel
theorem dX7_giveRegisters_121 : decode cX7_giveRegisters 121 = .ok (.invokevirtual 145, 3) := by decide +kernel
theorem dX7_giveRegisters_124 : decode cX7_giveRegisters 124 = .ok (.aload_n 0, 1) := by decide +kernel
theorem dX7_giveRegisters_125 : decode cX7_giveRegisters 125 = .ok (.getfield 34, 3) := by decide +kernel
theorem dX7_giveRegisters_128 : decode cX7_giveRegisters 128 = .ok (.iload_n 3, 1) := by decide +kernel
theorem dX7_giveRegisters_129 : decode cX7_giveRegisters 129 = .ok (.aload_n 0, 1) := by decide +kernel
theorem dX7_giveRegisters_130 : decode cX7_giveRegisters 130 = .ok (.getfield 34, 3) := by decide +kernel
theorem dX7_giveRegisters_133 : decode cX7_giveRegisters 133 = .ok (.iload_n 3, 1) := by decide +kernel
theorem dX7_giveRegisters_134 : decode cX7_giveRegisters 134 = .ok (.iaload, 1) := by decide +kernel
theorem dX7_giveRegisters_135 : decode cX7_giveRegisters 135 = .ok (.aload_n 0, 1) := by decide +kernel
theorem dX7_giveRegisters_136 : decode cX7_giveRegisters 136 = .ok (.getfield 27, 3) := by decide +kernel
theorem dX7_giveRegisters_139 : decode cX7_giveRegisters 139 = .ok (.iload_n 2, 1) := by decide +kernel
theorem dX7_giveRegisters_140 : decode cX7_giveRegisters 140 = .ok (.iaload, 1) := by decide +kernel
theorem dX7_giveRegisters_141 : decode cX7_giveRegisters 141 = .ok (.aload_n 0, 1) := by decide +kernel
theorem dX7_giveRegisters_142 : decode cX7_giveRegisters 142 = .ok (.getfield 53, 3) := by decide +kernel
theorem dX7_giveRegisters_145 : decode cX7_giveRegisters 145 = .ok (.getfield 100, 3) := by decide +kernel
theorem dX7_giveRegisters_148 : decode cX7_giveRegisters 148 = .ok (.iload_n 2, 1) := by decide +kernel
theorem dX7_giveRegisters_149 : decode cX7_giveRegisters 149 = .ok (.iaload, 1) := by decide +kernel
theorem dX7_giveRegisters_150 : decode cX7_giveRegisters 150 = .ok (.iadd, 1) := by decide +kernel
theorem dX7_giveRegisters_151 : decode cX7_giveRegisters 151 = .ok (.invokestatic 129, 3) := by decide +kernel
theorem dX7_giveRegisters_154 : decode cX7_giveRegisters 154 = .ok (.iastore, 1) := by decide +kernel
theorem dX7_giveRegisters_155 : decode cX7_giveRegisters 155 = .ok (.iinc 1 1, 3) := by decide +kernel
theorem dX7_giveRegisters_158 : decode cX7_giveRegisters 158 = .ok (.goto (-120), 3) := by decide +kernel
theorem dX7_giveRegisters_161 : decode cX7_giveRegisters 161 = .ok (.return_, 1) := by decide +kernel
theorem dX7_mark_0 : decode cX7_mark 0 = .ok (.iconst 0, 1) := by decide +kernel
theorem dX7_mark_1 : decode cX7_mark 1 = .ok (.istore_n 3, 1) := by decide +kernel
theorem dX7_mark_2 : decode cX7_mark 2 = .ok (.iload_n 3, 1) := by decide +kernel
theorem dX7_mark_3 : decode cX7_mark 3 = .ok (.aload_n 0, 1) := by decide +kernel
theorem dX7_mark_4 : decode cX7_mark 4 = .ok (.getfield 53, 3) := by decide +kernel
theorem dX7_mark_7 : decode cX7_mark 7 = .ok (.getfield 100, 3) := by decide +kernel
theorem dX7_mark_10 : decode cX7_mark 10 = .ok (.iload_n 1, 1) := by decide +kernel
theorem dX7_mark_11 : decode cX7_mark 11 = .ok (.iaload, 1) := by decide +kernel
theorem dX7_mark_12 : decode cX7_mark 12 = .ok (.if_icmp .ge 22, 3) := by decide +kernel
theorem dX7_mark_15 : decode cX7_mark 15 = .ok (.aload_n 0, 1) := by decide +kernel
theorem dX7_mark_16 : decode cX7_mark 16 = .ok (.getfield 30, 3) := by decide +kernel
theorem dX7_mark_19 : decode cX7_mark 19 = .ok (.aload_n 0, 1) := by decide +kernel
theorem dX7_mark_20 : decode cX7_mark 20 = .ok (.iload_n 1, 1) := by decide +kernel
theorem dX7_mark_21 : decode cX7_mark 21 = .ok (.invokevirtual 152, 3) := by decide +kernel
theorem dX7_mark_24 : decode cX7_mark 24 = .ok (.iload_n 3, 1) := by decide +kernel
theorem dX7_mark_25 : decode cX7_mark 25 = .ok (.iadd, 1) := by decide +kernel
theorem dX7_mark_26 : decode cX7_mark 26 = .ok (.iload_n 2, 1) := by decide +kernel
theorem dX7_mark_27 : decode cX7_mark 27 = .ok (.bastore, 1) := by decide +kernel
theorem dX7_mark_28 : decode cX7_mark 28 = .ok (.iinc 3 1, 3) := by decide +kernel
theorem dX7_mark_31 : decode cX7_mark 31 = .ok (.goto (-29), 3) := by decide +kernel
theorem dX7_mark_34 : decode cX7_mark 34 = .ok (.return_, 1) := by decide +kernel
theorem dX7_lowestFree_0 : decode cX7_lowestFree 0 = .ok (.iconst 0, 1) := by decide +kernel
theorem dX7_lowestFree_1 : decode cX7_lowestFree 1 = .ok (.istore_n 3, 1) := by decide +kernel
theorem dX7_lowestFree_2 : decode cX7_lowestFree 2 = .ok (.iload_n 3, 1) := by decide +kernel
theorem dX7_lowestFree_3 : decode cX7_lowestFree 3 = .ok (.iload_n 2, 1) := by decide +kernel
theorem dX7_lowestFree_4 : decode cX7_lowestFree 4 = .ok (.iadd, 1) := by decide +kernel
theorem dX7_lowestFree_5 : decode cX7_lowestFree 5 = .ok (.sipush 130, 3) := by decide +kernel
theorem dX7_lowestFree_8 : decode cX7_lowestFree 8 = .ok (.if_icmp .gt 45, 3) := by decide +kernel
theorem dX7_lowestFree_11 : decode cX7_lowestFree 11 = .ok (.sipush 130, 3) := by decide +kernel
theorem dX7_lowestFree_14 : decode cX7_lowestFree 14 = .ok (.iload_n 1, 1) := by decide +kernel
theorem dX7_lowestFree_15 : decode cX7_lowestFree 15 = .ok (.imul, 1) := by decide +kernel
theorem dX7_lowestFree_16 : decode cX7_lowestFree 16 = .ok (.iload_n 3, 1) := by decide +kernel
theorem dX7_lowestFree_17 : decode cX7_lowestFree 17 = .ok (.iadd, 1) := by decide +kernel
theorem dX7_lowestFree_18 : decode cX7_lowestFree 18 = .ok (.istore 4, 2) := by decide +kernel
theorem dX7_lowestFree_20 : decode cX7_lowestFree 20 = .ok (.aload_n 0, 1) := by decide +kernel
theorem dX7_lowestFree_21 : decode cX7_lowestFree 21 = .ok (.getfield 30, 3) := by decide +kernel
theorem dX7_lowestFree_24 : decode cX7_lowestFree 24 = .ok (.iload 4, 2) := by decide +kernel
theorem dX7_lowestFree_26 : decode cX7_lowestFree 26 = .ok (.baload, 1) := by decide +kernel
theorem dX7_lowestFree_27 : decode cX7_lowestFree 27 = .ok (.ifCond .ne 19, 3) := by decide +kernel
theorem dX7_lowestFree_30 : decode cX7_lowestFree 30 = .ok (.aload_n 0, 1) := by decide +kernel
theorem dX7_lowestFree_31 : decode cX7_lowestFree 31 = .ok (.getfield 30, 3) := by decide +kernel
theorem dX7_lowestFree_34 : decode cX7_lowestFree 34 = .ok (.iload 4, 2) := by decide +kernel
theorem dX7_lowestFree_36 : decode cX7_lowestFree 36 = .ok (.iload_n 2, 1) := by decide +kernel
theorem dX7_lowestFree_37 : decode cX7_lowestFree 37 = .ok (.iadd, 1) := by decide +kernel
theorem dX7_lowestFree_38 : decode cX7_lowestFree 38 = .ok (.iconst 1, 1) := by decide +kernel
theorem dX7_lowestFree_39 : decode cX7_lowestFree 39 = .ok (.isub, 1) := by decide +kernel
theorem dX7_lowestFree_40 : decode cX7_lowestFree 40 = .ok (.baload, 1) := by decide +kernel
theorem dX7_lowestFree_41 : decode cX7_lowestFree 41 = .ok (.ifCond .ne 5, 3) := by decide +kernel
theorem dX7_lowestFree_44 : decode cX7_lowestFree 44 = .ok (.iload_n 3, 1) := by decide +kernel
theorem dX7_lowestFree_45 : decode cX7_lowestFree 45 = .ok (.ireturn, 1) := by decide +kernel
theorem dX7_lowestFree_46 : decode cX7_lowestFree 46 = .ok (.iload_n 3, 1) := by decide +kernel
theorem dX7_lowestFree_47 : decode cX7_lowestFree 47 = .ok (.iload_n 2, 1) := by decide +kernel
theorem dX7_lowestFree_48 : decode cX7_lowestFree 48 = .ok (.iadd, 1) := by decide +kernel
theorem dX7_lowestFree_49 : decode cX7_lowestFree 49 = .ok (.istore_n 3, 1) := by decide +kernel
theorem dX7_lowestFree_50 : decode cX7_lowestFree 50 = .ok (.goto (-48), 3) := by decide +kernel
theorem dX7_lowestFree_53 : decode cX7_lowestFree 53 = .ok (.iconst 0, 1) := by decide +kernel
theorem dX7_lowestFree_54 : decode cX7_lowestFree 54 = .ok (.ireturn, 1) := by decide +kernel
theorem dX7_cutClauses_0 : decode cX7_cutClauses 0 = .ok (.aload_n 0, 1) := by decide +kernel
theorem dX7_cutClauses_1 : decode cX7_cutClauses 1 = .ok (.iconst 0, 1) := by decide +kernel
theorem dX7_cutClauses_2 : decode cX7_cutClauses 2 = .ok (.putfield 155, 3) := by decide +kernel
theorem dX7_cutClauses_5 : decode cX7_cutClauses 5 = .ok (.aload_n 0, 1) := by decide +kernel
theorem dX7_cutClauses_6 : decode cX7_cutClauses 6 = .ok (.iconst 0, 1) := by decide +kernel
theorem dX7_cutClauses_7 : decode cX7_cutClauses 7 = .ok (.putfield 158, 3) := by decide +kernel
theorem dX7_cutClauses_10 : decode cX7_cutClauses 10 = .ok (.iconst 0, 1) := by decide +kernel
theorem dX7_cutClauses_11 : decode cX7_cutClauses 11 = .ok (.istore_n 3, 1) := by decide +kernel
theorem dX7_cutClauses_12 : decode cX7_cutClauses 12 = .ok (.iload_n 3, 1) := by decide +kernel
theorem dX7_cutClauses_13 : decode cX7_cutClauses 13 = .ok (.aload_n 0, 1) := by decide +kernel
theorem dX7_cutClauses_14 : decode cX7_cutClauses 14 = .ok (.getfield 61, 3) := by decide +kernel
theorem dX7_cutClauses_17 : decode cX7_cutClauses 17 = .ok (.if_icmp .ge 191, 3) := by decide +kernel
theorem dX7_cutClauses_20 : decode cX7_cutClauses 20 = .ok (.aload_n 0, 1) := by decide +kernel
theorem dX7_cutClauses_21 : decode cX7_cutClauses 21 = .ok (.getfield 9, 3) := by decide +kernel
theorem dX7_cutClauses_24 : decode cX7_cutClauses 24 = .ok (.iload_n 3, 1) := by decide +kernel
theorem dX7_cutClauses_25 : decode cX7_cutClauses 25 = .ok (.iaload, 1) := by decide +kernel
theorem dX7_cutClauses_26 : decode cX7_cutClauses 26 = .ok (.istore 4, 2) := by decide +kernel
theorem dX7_cutClauses_28 : decode cX7_cutClauses 28 = .ok (.aload_n 0, 1) := by decide +kernel
theorem dX7_cutClauses_29 : decode cX7_cutClauses 29 = .ok (.getfield 49, 3) := by decide +kernel
theorem dX7_cutClauses_32 : decode cX7_cutClauses 32 = .ok (.getfield 97, 3) := by decide +kernel
theorem dX7_cutClauses_35 : decode cX7_cutClauses 35 = .ok (.iload 4, 2) := by decide +kernel
theorem dX7_cutClauses_37 : decode cX7_cutClauses 37 = .ok (.iaload, 1) := by decide +kernel
theorem dX7_cutClauses_38 : decode cX7_cutClauses 38 = .ok (.bipush 7, 2) := by decide +kernel
theorem dX7_cutClauses_40 : decode cX7_cutClauses 40 = .ok (.if_icmp .ne 7, 3) := by decide +kernel
theorem dX7_cutClauses_43 : decode cX7_cutClauses 43 = .ok (.iconst 1, 1) := by decide +kernel
theorem dX7_cutClauses_44 : decode cX7_cutClauses 44 = .ok (.goto 4, 3) := by decide +kernel
theorem dX7_cutClauses_47 : decode cX7_cutClauses 47 = .ok (.iconst 0, 1) := by decide +kernel
theorem dX7_cutClauses_48 : decode cX7_cutClauses 48 = .ok (.istore 5, 2) := by decide +kernel
theorem dX7_cutClauses_50 : decode cX7_cutClauses 50 = .ok (.aload_n 0, 1) := by decide +kernel
theorem dX7_cutClauses_51 : decode cX7_cutClauses 51 = .ok (.iload 4, 2) := by decide +kernel
theorem dX7_cutClauses_53 : decode cX7_cutClauses 53 = .ok (.iload 5, 2) := by decide +kernel
theorem dX7_cutClauses_55 : decode cX7_cutClauses 55 = .ok (.iload 5, 2) := by decide +kernel
theorem dX7_cutClauses_57 : decode cX7_cutClauses 57 = .ok (.ifCond .eq 7, 3) := by decide +kernel
theorem dX7_cutClauses_60 : decode cX7_cutClauses 60 = .ok (.iload_n 1, 1) := by decide +kernel
theorem dX7_cutClauses_61 : decode cX7_cutClauses 61 = .ok (.goto 4, 3) := by decide +kernel
theorem dX7_cutClauses_64 : decode cX7_cutClauses 64 = .ok (.iload_n 2, 1) := by decide +kernel
theorem dX7_cutClauses_65 : decode cX7_cutClauses 65 = .ok (.invokevirtual 161, 3) := by decide +kernel
theorem dX7_cutClauses_68 : decode cX7_cutClauses 68 = .ok (.ifCond .ne 71, 3) := by decide +kernel
theorem dX7_cutClauses_71 : decode cX7_cutClauses 71 = .ok (.aload_n 0, 1) := by decide +kernel
theorem dX7_cutClauses_72 : decode cX7_cutClauses 72 = .ok (.getfield 40, 3) := by decide +kernel
theorem dX7_cutClauses_75 : decode cX7_cutClauses 75 = .ok (.aload_n 0, 1) := by decide +kernel
theorem dX7_cutClauses_76 : decode cX7_cutClauses 76 = .ok (.getfield 155, 3) := by decide +kernel
theorem dX7_cutClauses_79 : decode cX7_cutClauses 79 = .ok (.iload_n 3, 1) := by decide +kernel
theorem dX7_cutClauses_80 : decode cX7_cutClauses 80 = .ok (.iastore, 1) := by decide +kernel
theorem dX7_cutClauses_81 : decode cX7_cutClauses 81 = .ok (.aload_n 0, 1) := by decide +kernel
theorem dX7_cutClauses_82 : decode cX7_cutClauses 82 = .ok (.getfield 43, 3) := by decide +kernel
theorem dX7_cutClauses_85 : decode cX7_cutClauses 85 = .ok (.aload_n 0, 1) := by decide +kernel
theorem dX7_cutClauses_86 : decode cX7_cutClauses 86 = .ok (.getfield 155, 3) := by decide +kernel
theorem dX7_cutClauses_89 : decode cX7_cutClauses 89 = .ok (.iconst 0, 1) := by decide +kernel
theorem dX7_cutClauses_90 : decode cX7_cutClauses 90 = .ok (.iastore, 1) := by decide +kernel
theorem dX7_cutClauses_91 : decode cX7_cutClauses 91 = .ok (.aload_n 0, 1) := by decide +kernel
theorem dX7_cutClauses_92 : decode cX7_cutClauses 92 = .ok (.getfield 46, 3) := by decide +kernel
theorem dX7_cutClauses_95 : decode cX7_cutClauses 95 = .ok (.aload_n 0, 1) := by decide +kernel
theorem dX7_cutClauses_96 : decode cX7_cutClauses 96 = .ok (.getfield 155, 3) := by decide +kernel
theorem dX7_cutClauses_99 : decode cX7_cutClauses 99 = .ok (.iload 5, 2) := by decide +kernel
theorem dX7_cutClauses_101 : decode cX7_cutClauses 101 = .ok (.ifCond .eq 8, 3) := by decide +kernel
theorem dX7_cutClauses_104 : decode cX7_cutClauses 104 = .ok (.bipush 12, 2) := by decide +kernel
theorem dX7_cutClauses_106 : decode cX7_cutClauses 106 = .ok (.goto 4, 3) := by decide +kernel
theorem dX7_cutClauses_109 : decode cX7_cutClauses 109 = .ok (.iconst 2, 1) := by decide +kernel
theorem dX7_cutClauses_110 : decode cX7_cutClauses 110 = .ok (.iastore, 1) := by decide +kernel
theorem dX7_cutClauses_111 : decode cX7_cutClauses 111 = .ok (.aload_n 0, 1) := by decide +kernel
theorem dX7_cutClauses_112 : decode cX7_cutClauses 112 = .ok (.dup, 1) := by decide +kernel
theorem dX7_cutClauses_113 : decode cX7_cutClauses 113 = .ok (.getfield 158, 3) := by decide +kernel
theorem dX7_cutClauses_116 : decode cX7_cutClauses 116 = .ok (.aload_n 0, 1) := by decide +kernel
theorem dX7_cutClauses_117 : decode cX7_cutClauses 117 = .ok (.getfield 46, 3) := by decide +kernel
theorem dX7_cutClauses_120 : decode cX7_cutClauses 120 = .ok (.aload_n 0, 1) := by decide +kernel
theorem dX7_cutClauses_121 : decode cX7_cutClauses 121 = .ok (.getfield 155, 3) := by decide +kernel
theorem dX7_cutClauses_124 : decode cX7_cutClauses 124 = .ok (.iaload, 1) := by decide +kernel
theorem dX7_cutClauses_125 : decode cX7_cutClauses 125 = .ok (.iadd, 1) := by decide +kernel
theorem dX7_cutClauses_126 : decode cX7_cutClauses 126 = .ok (.putfield 158, 3) := by decide +kernel
theorem dX7_cutClauses_129 : decode cX7_cutClauses 129 = .ok (.aload_n 0, 1) := by decide +kernel
theorem dX7_cutClauses_130 : decode cX7_cutClauses 130 = .ok (.dup, 1) := by decide +kernel
theorem dX7_cutClauses_131 : decode cX7_cutClauses 131 = .ok (.getfield 155, 3) := by decide +kernel
theorem dX7_cutClauses_134 : decode cX7_cutClauses 134 = .ok (.iconst 1, 1) := by decide +kernel
theorem dX7_cutClauses_135 : decode cX7_cutClauses 135 = .ok (.iadd, 1) := by decide +kernel
theorem dX7_cutClauses_136 : decode cX7_cutClauses 136 = .ok (.putfield 155, 3) := by decide +kernel
theorem dX7_cutClauses_139 : decode cX7_cutClauses 139 = .ok (.aload_n 0, 1) := by decide +kernel
theorem dX7_cutClauses_140 : decode cX7_cutClauses 140 = .ok (.getfield 37, 3) := by decide +kernel
theorem dX7_cutClauses_143 : decode cX7_cutClauses 143 = .ok (.iload 4, 2) := by decide +kernel
theorem dX7_cutClauses_145 : decode cX7_cutClauses 145 = .ok (.aload_n 0, 1) := by decide +kernel
theorem dX7_cutClauses_146 : decode cX7_cutClauses 146 = .ok (.getfield 155, 3) := by decide +kernel
theorem dX7_cutClauses_149 : decode cX7_cutClauses 149 = .ok (.iconst 1, 1) := by decide +kernel
theorem dX7_cutClauses_150 : decode cX7_cutClauses 150 = .ok (.isub, 1) := by decide +kernel
theorem dX7_cutClauses_151 : decode cX7_cutClauses 151 = .ok (.iastore, 1) := by decide +kernel
theorem dX7_cutClauses_152 : decode cX7_cutClauses 152 = .ok (.aload_n 0, 1) := by decide +kernel
theorem dX7_cutClauses_153 : decode cX7_cutClauses 153 = .ok (.getfield 43, 3) := by decide +kernel
theorem dX7_cutClauses_156 : decode cX7_cutClauses 156 = .ok (.aload_n 0, 1) := by decide +kernel
theorem dX7_cutClauses_157 : decode cX7_cutClauses 157 = .ok (.getfield 155, 3) := by decide +kernel
theorem dX7_cutClauses_160 : decode cX7_cutClauses 160 = .ok (.iconst 1, 1) := by decide +kernel
theorem dX7_cutClauses_161 : decode cX7_cutClauses 161 = .ok (.isub, 1) := by decide +kernel
theorem dX7_cutClauses_162 : decode cX7_cutClauses 162 = .ok (.dup2, 1) := by decide +kernel
theorem dX7_cutClauses_163 : decode cX7_cutClauses 163 = .ok (.iaload, 1) := by decide +kernel
theorem dX7_cutClauses_164 : decode cX7_cutClauses 164 = .ok (.iconst 1, 1) := by decide +kernel
theorem dX7_cutClauses_165 : decode cX7_cutClauses 165 = .ok (.iadd, 1) := by decide +kernel
theorem dX7_cutClauses_166 : decode cX7_cutClauses 166 = .ok (.iastore, 1) := by decide +kernel
theorem dX7_cutClauses_167 : decode cX7_cutClauses 167 = .ok (.aload_n 0, 1) := by decide +kernel
theorem dX7_cutClauses_168 : decode cX7_cutClauses 168 = .ok (.getfield 46, 3) := by decide +kernel
theorem dX7_cutClauses_171 : decode cX7_cutClauses 171 = .ok (.aload_n 0, 1) := by decide +kernel
theorem dX7_cutClauses_172 : decode cX7_cutClauses 172 = .ok (.getfield 155, 3) := by decide +kernel
theorem dX7_cutClauses_175 : decode cX7_cutClauses 175 = .ok (.iconst 1, 1) := by decide +kernel
theorem dX7_cutClauses_176 : decode cX7_cutClauses 176 = .ok (.isub, 1) := by decide +kernel
theorem dX7_cutClauses_177 : decode cX7_cutClauses 177 = .ok (.dup2, 1) := by decide +kernel
theorem dX7_cutClauses_178 : decode cX7_cutClauses 178 = .ok (.iaload, 1) := by decide +kernel
theorem dX7_cutClauses_179 : decode cX7_cutClauses 179 = .ok (.aload_n 0, 1) := by decide +kernel
theorem dX7_cutClauses_180 : decode cX7_cutClauses 180 = .ok (.iload 4, 2) := by decide +kernel
theorem dX7_cutClauses_182 : decode cX7_cutClauses 182 = .ok (.invokevirtual 165, 3) := by decide +kernel
theorem dX7_cutClauses_185 : decode cX7_cutClauses 185 = .ok (.iadd, 1) := by decide +kernel
theorem dX7_cutClauses_186 : decode cX7_cutClauses 186 = .ok (.iastore, 1) := by decide +kernel
theorem dX7_cutClauses_187 : decode cX7_cutClauses 187 = .ok (.aload_n 0, 1) := by decide +kernel
theorem dX7_cutClauses_188 : decode cX7_cutClauses 188 = .ok (.dup, 1) := by decide +kernel
theorem dX7_cutClauses_189 : decode cX7_cutClauses 189 = .ok (.getfield 158, 3) := by decide +kernel
theorem dX7_cutClauses_192 : decode cX7_cutClauses 192 = .ok (.aload_n 0, 1) := by decide +kernel
theorem dX7_cutClauses_193 : decode cX7_cutClauses 193 = .ok (.iload 4, 2) := by decide +kernel
theorem dX7_cutClauses_195 : decode cX7_cutClauses 195 = .ok (.invokevirtual 165, 3) := by decide +kernel
theorem dX7_cutClauses_198 : decode cX7_cutClauses 198 = .ok (.iadd, 1) := by decide +kernel
theorem dX7_cutClauses_199 : decode cX7_cutClauses 199 = .ok (.putfield 158, 3) := by decide +kernel
theorem dX7_cutClauses_202 : decode cX7_cutClauses 202 = .ok (.iinc 3 1, 3) := by decide +kernel
theorem dX7_cutClauses_205 : decode cX7_cutClauses 205 = .ok (.goto (-193), 3) := by decide +kernel
theorem dX7_cutClauses_208 : decode cX7_cutClauses 208 = .ok (.return_, 1) := by decide +kernel
theorem dX7_joins_0 : decode cX7_joins 0 = .ok (.aload_n 0, 1) := by decide +kernel
theorem dX7_joins_1 : decode cX7_joins 1 = .ok (.getfield 155, 3) := by decide +kernel
theorem dX7_joins_4 : decode cX7_joins 4 = .ok (.ifCond .ne 5, 3) := by decide +kernel
theorem dX7_joins_7 : decode cX7_joins 7 = .ok (.iconst 0, 1) := by decide +kernel
theorem dX7_joins_8 : decode cX7_joins 8 = .ok (.ireturn, 1) := by decide +kernel
theorem dX7_joins_9 : decode cX7_joins 9 = .ok (.aload_n 0, 1) := by decide +kernel
theorem dX7_joins_10 : decode cX7_joins 10 = .ok (.getfield 155, 3) := by decide +kernel
theorem dX7_joins_13 : decode cX7_joins 13 = .ok (.iconst 1, 1) := by decide +kernel
theorem dX7_joins_14 : decode cX7_joins 14 = .ok (.isub, 1) := by decide +kernel
theorem dX7_joins_15 : decode cX7_joins 15 = .ok (.istore 4, 2) := by decide +kernel
theorem dX7_joins_17 : decode cX7_joins 17 = .ok (.aload_n 0, 1) := by decide +kernel
theorem dX7_joins_18 : decode cX7_joins 18 = .ok (.getfield 49, 3) := by decide +kernel
theorem dX7_joins_21 : decode cX7_joins 21 = .ok (.getfield 97, 3) := by decide +kernel
theorem dX7_joins_24 : decode cX7_joins 24 = .ok (.aload_n 0, 1) := by decide +kernel
theorem dX7_joins_25 : decode cX7_joins 25 = .ok (.getfield 9, 3) := by decide +kernel
theorem dX7_joins_28 : decode cX7_joins 28 = .ok (.aload_n 0, 1) := by decide +kernel
theorem dX7_joins_29 : decode cX7_joins 29 = .ok (.getfield 40, 3) := by decide +kernel
theorem dX7_joins_32 : decode cX7_joins 32 = .ok (.iload 4, 2) := by decide +kernel
theorem dX7_joins_34 : decode cX7_joins 34 = .ok (.iaload, 1) := by decide +kernel
theorem dX7_joins_35 : decode cX7_joins 35 = .ok (.iaload, 1) := by decide +kernel
theorem dX7_joins_36 : decode cX7_joins 36 = .ok (.iaload, 1) := by decide +kernel
theorem dX7_joins_37 : decode cX7_joins 37 = .ok (.bipush 7, 2) := by decide +kernel
theorem dX7_joins_39 : decode cX7_joins 39 = .ok (.if_icmp .ne 7, 3) := by decide +kernel
theorem dX7_joins_42 : decode cX7_joins 42 = .ok (.iconst 1, 1) := by decide +kernel
theorem dX7_joins_43 : decode cX7_joins 43 = .ok (.goto 4, 3) := by decide +kernel
theorem dX7_joins_46 : decode cX7_joins 46 = .ok (.iconst 0, 1) := by decide +kernel
theorem dX7_joins_47 : decode cX7_joins 47 = .ok (.istore 5, 2) := by decide +kernel
theorem dX7_joins_49 : decode cX7_joins 49 = .ok (.iload 5, 2) := by decide +kernel
theorem dX7_joins_51 : decode cX7_joins 51 = .ok (.iload_n 2, 1) := by decide +kernel
theorem dX7_joins_52 : decode cX7_joins 52 = .ok (.if_icmp .ne 14, 3) := by decide +kernel
theorem dX7_joins_55 : decode cX7_joins 55 = .ok (.aload_n 0, 1) := by decide +kernel
theorem dX7_joins_56 : decode cX7_joins 56 = .ok (.getfield 43, 3) := by decide +kernel
theorem dX7_joins_59 : decode cX7_joins 59 = .ok (.iload 4, 2) := by decide +kernel
theorem dX7_joins_61 : decode cX7_joins 61 = .ok (.iaload, 1) := by decide +kernel
theorem dX7_joins_62 : decode cX7_joins 62 = .ok (.iload_n 3, 1) := by decide +kernel
theorem dX7_joins_63 : decode cX7_joins 63 = .ok (.if_icmp .lt 5, 3) := by decide +kernel
theorem dX7_joins_66 : decode cX7_joins 66 = .ok (.iconst 0, 1) := by decide +kernel
theorem dX7_joins_67 : decode cX7_joins 67 = .ok (.ireturn, 1) := by decide +kernel
theorem dX7_joins_68 : decode cX7_joins 68 = .ok (.iconst 0, 1) := by decide +kernel
theorem dX7_joins_69 : decode cX7_joins 69 = .ok (.istore 6, 2) := by decide +kernel
theorem dX7_joins_71 : decode cX7_joins 71 = .ok (.iload 6, 2) := by decide +kernel
theorem dX7_joins_73 : decode cX7_joins 73 = .ok (.aload_n 0, 1) := by decide +kernel
theorem dX7_joins_74 : decode cX7_joins 74 = .ok (.getfield 57, 3) := by decide +kernel
theorem dX7_joins_77 : decode cX7_joins 77 = .ok (.getfield 105, 3) := by decide +kernel
theorem dX7_joins_80 : decode cX7_joins 80 = .ok (.iload_n 1, 1) := by decide +kernel
theorem dX7_joins_81 : decode cX7_joins 81 = .ok (.iaload, 1) := by decide +kernel
theorem dX7_joins_82 : decode cX7_joins 82 = .ok (.if_icmp .ge 39, 3) := by decide +kernel
theorem dX7_joins_85 : decode cX7_joins 85 = .ok (.iload_n 2, 1) := by decide +kernel
theorem dX7_joins_86 : decode cX7_joins 86 = .ok (.ifCond .eq 35, 3) := by decide +kernel
theorem dX7_joins_89 : decode cX7_joins 89 = .ok (.aload_n 0, 1) := by decide +kernel
theorem dX7_joins_90 : decode cX7_joins 90 = .ok (.getfield 37, 3) := by decide +kernel
theorem dX7_joins_93 : decode cX7_joins 93 = .ok (.aload_n 0, 1) := by decide +kernel
theorem dX7_joins_94 : decode cX7_joins 94 = .ok (.getfield 57, 3) := by decide +kernel
theorem dX7_joins_97 : decode cX7_joins 97 = .ok (.getfield 108, 3) := by decide +kernel
theorem dX7_joins_100 : decode cX7_joins 100 = .ok (.iconst 3, 1) := by decide +kernel
theorem dX7_joins_101 : decode cX7_joins 101 = .ok (.iload_n 1, 1) := by decide +kernel
theorem dX7_joins_102 : decode cX7_joins 102 = .ok (.imul, 1) := by decide +kernel
theorem dX7_joins_103 : decode cX7_joins 103 = .ok (.iload 6, 2) := by decide +kernel
theorem dX7_joins_105 : decode cX7_joins 105 = .ok (.iadd, 1) := by decide +kernel
theorem dX7_joins_106 : decode cX7_joins 106 = .ok (.iaload, 1) := by decide +kernel
theorem dX7_joins_107 : decode cX7_joins 107 = .ok (.iaload, 1) := by decide +kernel
theorem dX7_joins_108 : decode cX7_joins 108 = .ok (.iload 4, 2) := by decide +kernel
theorem dX7_joins_110 : decode cX7_joins 110 = .ok (.if_icmp .ne 5, 3) := by decide +kernel
theorem dX7_joins_113 : decode cX7_joins 113 = .ok (.iconst 0, 1) := by decide +kernel
theorem dX7_joins_114 : decode cX7_joins 114 = .ok (.ireturn, 1) := by decide +kernel
theorem dX7_joins_115 : decode cX7_joins 115 = .ok (.iinc 6 1, 3) := by decide +kernel
theorem dX7_joins_118 : decode cX7_joins 118 = .ok (.goto (-47), 3) := by decide +kernel
theorem dX7_joins_121 : decode cX7_joins 121 = .ok (.iconst 1, 1) := by decide +kernel
theorem dX7_joins_122 : decode cX7_joins 122 = .ok (.ireturn, 1) := by decide +kernel
theorem dX7_cyclesOf_0 : decode cX7_cyclesOf 0 = .ok (.aload_n 0, 1) := by decide +kernel
theorem dX7_cyclesOf_1 : decode cX7_cyclesOf 1 = .ok (.getfield 49, 3) := by decide +kernel
theorem dX7_cyclesOf_4 : decode cX7_cyclesOf 4 = .ok (.getfield 97, 3) := by decide +kernel
theorem dX7_cyclesOf_7 : decode cX7_cyclesOf 7 = .ok (.iload_n 1, 1) := by decide +kernel
theorem dX7_cyclesOf_8 : decode cX7_cyclesOf 8 = .ok (.iaload, 1) := by decide +kernel
theorem dX7_cyclesOf_9 : decode cX7_cyclesOf 9 = .ok (.istore_n 2, 1) := by decide +kernel
theorem dX7_cyclesOf_10 : decode cX7_cyclesOf 10 = .ok (.iload_n 2, 1) := by decide +kernel
theorem dX7_cyclesOf_11 : decode cX7_cyclesOf 11 = .ok (.bipush 7, 2) := by decide +kernel
theorem dX7_cyclesOf_13 : decode cX7_cyclesOf 13 = .ok (.if_icmp .ne 5, 3) := by decide +kernel
theorem dX7_cyclesOf_16 : decode cX7_cyclesOf 16 = .ok (.iconst 2, 1) := by decide +kernel
theorem dX7_cyclesOf_17 : decode cX7_cyclesOf 17 = .ok (.ireturn, 1) := by decide +kernel
theorem dX7_cyclesOf_18 : decode cX7_cyclesOf 18 = .ok (.aload_n 0, 1) := by decide +kernel
theorem dX7_cyclesOf_19 : decode cX7_cyclesOf 19 = .ok (.getfield 49, 3) := by decide +kernel
theorem dX7_cyclesOf_22 : decode cX7_cyclesOf 22 = .ok (.getfield 142, 3) := by decide +kernel
theorem dX7_cyclesOf_25 : decode cX7_cyclesOf 25 = .ok (.iload_n 1, 1) := by decide +kernel
theorem dX7_cyclesOf_26 : decode cX7_cyclesOf 26 = .ok (.baload, 1) := by decide +kernel
theorem dX7_cyclesOf_27 : decode cX7_cyclesOf 27 = .ok (.ifCond .ne 7, 3) := by decide +kernel
theorem dX7_cyclesOf_30 : decode cX7_cyclesOf 30 = .ok (.iload_n 2, 1) := by decide +kernel
theorem dX7_cyclesOf_31 : decode cX7_cyclesOf 31 = .ok (.ifCond .ne 5, 3) := by decide +kernel
theorem dX7_cyclesOf_34 : decode cX7_cyclesOf 34 = .ok (.iconst 1, 1) := by decide +kernel
theorem dX7_cyclesOf_35 : decode cX7_cyclesOf 35 = .ok (.ireturn, 1) := by decide +kernel
theorem dX7_cyclesOf_36 : decode cX7_cyclesOf 36 = .ok (.iload_n 2, 1) := by decide +kernel
theorem dX7_cyclesOf_37 : decode cX7_cyclesOf 37 = .ok (.iconst 4, 1) := by decide +kernel
theorem dX7_cyclesOf_38 : decode cX7_cyclesOf 38 = .ok (.if_icmp .ne 17, 3) := by decide +kernel
theorem dX7_cyclesOf_41 : decode cX7_cyclesOf 41 = .ok (.iconst 2, 1) := by decide +kernel
theorem dX7_cyclesOf_42 : decode cX7_cyclesOf 42 = .ok (.aload_n 0, 1) := by decide +kernel
theorem dX7_cyclesOf_43 : decode cX7_cyclesOf 43 = .ok (.getfield 53, 3) := by decide +kernel
theorem dX7_cyclesOf_46 : decode cX7_cyclesOf 46 = .ok (.getfield 100, 3) := by decide +kernel
theorem dX7_cyclesOf_49 : decode cX7_cyclesOf 49 = .ok (.iload_n 1, 1) := by decide +kernel
theorem dX7_cyclesOf_50 : decode cX7_cyclesOf 50 = .ok (.iaload, 1) := by decide +kernel
theorem dX7_cyclesOf_51 : decode cX7_cyclesOf 51 = .ok (.imul, 1) := by decide +kernel
theorem dX7_cyclesOf_52 : decode cX7_cyclesOf 52 = .ok (.goto 12, 3) := by decide +kernel
theorem dX7_cyclesOf_55 : decode cX7_cyclesOf 55 = .ok (.aload_n 0, 1) := by decide +kernel
theorem dX7_cyclesOf_56 : decode cX7_cyclesOf 56 = .ok (.getfield 53, 3) := by decide +kernel
theorem dX7_cyclesOf_59 : decode cX7_cyclesOf 59 = .ok (.getfield 100, 3) := by decide +kernel
theorem dX7_cyclesOf_62 : decode cX7_cyclesOf 62 = .ok (.iload_n 1, 1) := by decide +kernel
theorem dX7_cyclesOf_63 : decode cX7_cyclesOf 63 = .ok (.iaload, 1) := by decide +kernel
theorem dX7_cyclesOf_64 : decode cX7_cyclesOf 64 = .ok (.ireturn, 1) := by decide +kernel
theorem dX8_init_0 : decode cX8_init 0 = .ok (.aload_n 0, 1) := by decide +kernel
theorem dX8_init_1 : decode cX8_init 1 = .ok (.invokespecial 3, 3) := by decide +kernel
theorem dX8_init_4 : decode cX8_init 4 = .ok (.aload_n 0, 1) := by decide +kernel
theorem dX8_init_5 : decode cX8_init 5 = .ok (.sipush 1000, 3) := by decide +kernel
theorem dX8_init_8 : decode cX8_init 8 = .ok (.newarray .byte, 2) := by decide +kernel
theorem dX8_init_10 : decode cX8_init 10 = .ok (.putfield 9, 3) := by decide +kernel
theorem dX8_init_13 : decode cX8_init 13 = .ok (.aload_n 0, 1) := by decide +kernel
theorem dX8_init_14 : decode cX8_init 14 = .ok (.bipush 23, 2) := by decide +kernel
theorem dX8_init_16 : decode cX8_init 16 = .ok (.newarray .long, 2) := by decide +kernel
theorem dX8_init_18 : decode cX8_init 18 = .ok (.putfield 15, 3) := by decide +kernel
theorem dX8_init_21 : decode cX8_init 21 = .ok (.iconst 0, 1) := by decide +kernel
theorem dX8_init_22 : decode cX8_init 22 = .ok (.istore_n 1, 1) := by decide +kernel
theorem dX8_init_23 : decode cX8_init 23 = .ok (.iconst 0, 1) := by decide +kernel
theorem dX8_init_24 : decode cX8_init 24 = .ok (.istore_n 2, 1) := by decide +kernel
theorem dX8_init_25 : decode cX8_init 25 = .ok (.iload_n 2, 1) := by decide +kernel
theorem dX8_init_26 : decode cX8_init 26 = .ok (.ldc 19, 2) := by decide +kernel
theorem dX8_init_28 : decode cX8_init 28 = .ok (.invokevirtual 21, 3) := by decide +kernel
theorem dX8_init_31 : decode cX8_init 31 = .ok (.if_icmp .ge 58, 3) := by decide +kernel
theorem dX8_init_34 : decode cX8_init 34 = .ok (.iload_n 1, 1) := by decide +kernel
theorem dX8_init_35 : decode cX8_init 35 = .ok (.bipush 23, 2) := by decide +kernel
theorem dX8_init_37 : decode cX8_init 37 = .ok (.if_icmp .ge 52, 3) := by decide +kernel
theorem dX8_init_40 : decode cX8_init 40 = .ok (.ldc 19, 2) := by decide +kernel
theorem dX8_init_42 : decode cX8_init 42 = .ok (.iload_n 2, 1) := by decide +kernel
theorem dX8_init_43 : decode cX8_init 43 = .ok (.invokevirtual 27, 3) := by decide +kernel
theorem dX8_init_46 : decode cX8_init 46 = .ok (.istore_n 3, 1) := by decide +kernel
theorem dX8_init_47 : decode cX8_init 47 = .ok (.iload_n 3, 1) := by decide +kernel
theorem dX8_init_48 : decode cX8_init 48 = .ok (.bipush 32, 2) := by decide +kernel
theorem dX8_init_50 : decode cX8_init 50 = .ok (.if_icmp .ne 9, 3) := by decide +kernel
theorem dX8_init_53 : decode cX8_init 53 = .ok (.iinc 1 1, 3) := by decide +kernel
theorem dX8_init_56 : decode cX8_init 56 = .ok (.goto 27, 3) := by decide +kernel
theorem dX8_init_59 : decode cX8_init 59 = .ok (.aload_n 0, 1) := by decide +kernel
theorem dX8_init_60 : decode cX8_init 60 = .ok (.getfield 15, 3) := by decide +kernel
theorem dX8_init_63 : decode cX8_init 63 = .ok (.iload_n 1, 1) := by decide +kernel
theorem dX8_init_64 : decode cX8_init 64 = .ok (.aload_n 0, 1) := by decide +kernel
theorem dX8_init_65 : decode cX8_init 65 = .ok (.getfield 15, 3) := by decide +kernel
theorem dX8_init_68 : decode cX8_init 68 = .ok (.iload_n 1, 1) := by decide +kernel
theorem dX8_init_69 : decode cX8_init 69 = .ok (.laload, 1) := by decide +kernel
theorem dX8_init_70 : decode cX8_init 70 = .ok (.ldc2_w 31, 3) := by decide +kernel
theorem dX8_init_73 : decode cX8_init 73 = .ok (.lmul, 1) := by decide +kernel
theorem dX8_init_74 : decode cX8_init 74 = .ok (.iload_n 3, 1) := by decide +kernel
theorem dX8_init_75 : decode cX8_init 75 = .ok (.bipush 97, 2) := by decide +kernel
theorem dX8_init_77 : decode cX8_init 77 = .ok (.isub, 1) := by decide +kernel
theorem dX8_init_78 : decode cX8_init 78 = .ok (.iconst 1, 1) := by decide +kernel
theorem dX8_init_79 : decode cX8_init 79 = .ok (.iadd, 1) := by decide +kernel
theorem dX8_init_80 : decode cX8_init 80 = .ok (.i2l, 1) := by decide +kernel
theorem dX8_init_81 : decode cX8_init 81 = .ok (.ladd, 1) := by decide +kernel
theorem dX8_init_82 : decode cX8_init 82 = .ok (.lastore, 1) := by decide +kernel
theorem dX8_init_83 : decode cX8_init 83 = .ok (.iinc 2 1, 3) := by decide +kernel
theorem dX8_init_86 : decode cX8_init 86 = .ok (.goto (-61), 3) := by decide +kernel
theorem dX8_init_89 : decode cX8_init 89 = .ok (.return_, 1) := by decide +kernel
theorem dX8_put_0 : decode cX8_put 0 = .ok (.iload_n 1, 1) := by decide +kernel
theorem dX8_put_1 : decode cX8_put 1 = .ok (.bipush 10, 2) := by decide +kernel
theorem dX8_put_3 : decode cX8_put 3 = .ok (.if_icmp .eq 15, 3) := by decide +kernel
theorem dX8_put_6 : decode cX8_put 6 = .ok (.iload_n 1, 1) := by decide +kernel
theorem dX8_put_7 : decode cX8_put 7 = .ok (.bipush 32, 2) := by decide +kernel
theorem dX8_put_9 : decode cX8_put 9 = .ok (.if_icmp .lt 13, 3) := by decide +kernel
theorem dX8_put_12 : decode cX8_put 12 = .ok (.iload_n 1, 1) := by decide +kernel
theorem dX8_put_13 : decode cX8_put 13 = .ok (.bipush 126, 2) := by decide +kernel
theorem dX8_put_15 : decode cX8_put 15 = .ok (.if_icmp .gt 7, 3) := by decide +kernel
theorem dX8_put_18 : decode cX8_put 18 = .ok (.iconst 1, 1) := by decide +kernel
theorem dX8_put_19 : decode cX8_put 19 = .ok (.goto 4, 3) := by decide +kernel
theorem dX8_put_22 : decode cX8_put 22 = .ok (.iconst 0, 1) := by decide +kernel
theorem dX8_put_23 : decode cX8_put 23 = .ok (.istore_n 2, 1) := by decide +kernel
theorem dX8_put_24 : decode cX8_put 24 = .ok (.iload_n 2, 1) := by decide +kernel
theorem dX8_put_25 : decode cX8_put 25 = .ok (.ifCond .eq 34, 3) := by decide +kernel
theorem dX8_put_28 : decode cX8_put 28 = .ok (.aload_n 0, 1) := by decide +kernel
theorem dX8_put_29 : decode cX8_put 29 = .ok (.getfield 33, 3) := by decide +kernel
theorem dX8_put_32 : decode cX8_put 32 = .ok (.sipush 1000, 3) := by decide +kernel
theorem dX8_put_35 : decode cX8_put 35 = .ok (.if_icmp .ge 24, 3) := by decide +kernel
theorem dX8_put_38 : decode cX8_put 38 = .ok (.aload_n 0, 1) := by decide +kernel
theorem dX8_put_39 : decode cX8_put 39 = .ok (.getfield 9, 3) := by decide +kernel
theorem dX8_put_42 : decode cX8_put 42 = .ok (.aload_n 0, 1) := by decide +kernel
theorem dX8_put_43 : decode cX8_put 43 = .ok (.getfield 33, 3) := by decide +kernel
theorem dX8_put_46 : decode cX8_put 46 = .ok (.iload_n 1, 1) := by decide +kernel
theorem dX8_put_47 : decode cX8_put 47 = .ok (.i2b, 1) := by decide +kernel
theorem dX8_put_48 : decode cX8_put 48 = .ok (.bastore, 1) := by decide +kernel
theorem dX8_put_49 : decode cX8_put 49 = .ok (.aload_n 0, 1) := by decide +kernel
theorem dX8_put_50 : decode cX8_put 50 = .ok (.dup, 1) := by decide +kernel
theorem dX8_put_51 : decode cX8_put 51 = .ok (.getfield 33, 3) := by decide +kernel
theorem dX8_put_54 : decode cX8_put 54 = .ok (.iconst 1, 1) := by decide +kernel
theorem dX8_put_55 : decode cX8_put 55 = .ok (.iadd, 1) := by decide +kernel
theorem dX8_put_56 : decode cX8_put 56 = .ok (.putfield 33, 3) := by decide +kernel
theorem dX8_put_59 : decode cX8_put 59 = .ok (.return_, 1) := by decide +kernel
theorem dX8_wipe_0 : decode cX8_wipe 0 = .ok (.aload_n 0, 1) := by decide +kernel
theorem dX8_wipe_1 : decode cX8_wipe 1 = .ok (.iconst 0, 1) := by decide +kernel
theorem dX8_wipe_2 : decode cX8_wipe 2 = .ok (.putfield 33, 3) := by decide +kernel
theorem dX8_wipe_5 : decode cX8_wipe 5 = .ok (.return_, 1) := by decide +kernel
theorem dX8_rewind_0 : decode cX8_rewind 0 = .ok (.aload_n 0, 1) := by decide +kernel
theorem dX8_rewind_1 : decode cX8_rewind 1 = .ok (.iconst 0, 1) := by decide +kernel
theorem dX8_rewind_2 : decode cX8_rewind 2 = .ok (.putfield 36, 3) := by decide +kernel
theorem dX8_rewind_5 : decode cX8_rewind 5 = .ok (.return_, 1) := by decide +kernel
theorem dX8_advance_0 : decode cX8_advance 0 = .ok (.aload_n 0, 1) := by decide +kernel
theorem dX8_advance_1 : decode cX8_advance 1 = .ok (.getfield 36, 3) := by decide +kernel
theorem dX8_advance_4 : decode cX8_advance 4 = .ok (.aload_n 0, 1) := by decide +kernel
theorem dX8_advance_5 : decode cX8_advance 5 = .ok (.getfield 33, 3) := by decide +kernel
theorem dX8_advance_8 : decode cX8_advance 8 = .ok (.if_icmp .ge 44, 3) := by decide +kernel
theorem dX8_advance_11 : decode cX8_advance 11 = .ok (.aload_n 0, 1) := by decide +kernel
theorem dX8_advance_12 : decode cX8_advance 12 = .ok (.getfield 9, 3) := by decide +kernel
theorem dX8_advance_15 : decode cX8_advance 15 = .ok (.aload_n 0, 1) := by decide +kernel
theorem dX8_advance_16 : decode cX8_advance 16 = .ok (.getfield 36, 3) := by decide +kernel
theorem dX8_advance_19 : decode cX8_advance 19 = .ok (.baload, 1) := by decide +kernel
theorem dX8_advance_20 : decode cX8_advance 20 = .ok (.bipush 10, 2) := by decide +kernel
theorem dX8_advance_22 : decode cX8_advance 22 = .ok (.if_icmp .eq 17, 3) := by decide +kernel
theorem dX8_advance_25 : decode cX8_advance 25 = .ok (.aload_n 0, 1) := by decide +kernel
theorem dX8_advance_26 : decode cX8_advance 26 = .ok (.getfield 9, 3) := by decide +kernel
theorem dX8_advance_29 : decode cX8_advance 29 = .ok (.aload_n 0, 1) := by decide +kernel
theorem dX8_advance_30 : decode cX8_advance 30 = .ok (.getfield 36, 3) := by decide +kernel
theorem dX8_advance_33 : decode cX8_advance 33 = .ok (.baload, 1) := by decide +kernel
theorem dX8_advance_34 : decode cX8_advance 34 = .ok (.bipush 32, 2) := by decide +kernel
theorem dX8_advance_36 : decode cX8_advance 36 = .ok (.if_icmp .ne 16, 3) := by decide +kernel
theorem dX8_advance_39 : decode cX8_advance 39 = .ok (.aload_n 0, 1) := by decide +kernel
theorem dX8_advance_40 : decode cX8_advance 40 = .ok (.dup, 1) := by decide +kernel
theorem dX8_advance_41 : decode cX8_advance 41 = .ok (.getfield 36, 3) := by decide +kernel
theorem dX8_advance_44 : decode cX8_advance 44 = .ok (.iconst 1, 1) := by decide +kernel
theorem dX8_advance_45 : decode cX8_advance 45 = .ok (.iadd, 1) := by decide +kernel
theorem dX8_advance_46 : decode cX8_advance 46 = .ok (.putfield 36, 3) := by decide +kernel
theorem dX8_advance_49 : decode cX8_advance 49 = .ok (.goto (-49), 3) := by decide +kernel
theorem dX8_advance_52 : decode cX8_advance 52 = .ok (.aload_n 0, 1) := by decide +kernel
theorem dX8_advance_53 : decode cX8_advance 53 = .ok (.aload_n 0, 1) := by decide +kernel
theorem dX8_advance_54 : decode cX8_advance 54 = .ok (.getfield 36, 3) := by decide +kernel
theorem dX8_advance_57 : decode cX8_advance 57 = .ok (.putfield 39, 3) := by decide +kernel
theorem dX8_advance_60 : decode cX8_advance 60 = .ok (.aload_n 0, 1) := by decide +kernel
theorem dX8_advance_61 : decode cX8_advance 61 = .ok (.getfield 36, 3) := by decide +kernel
theorem dX8_advance_64 : decode cX8_advance 64 = .ok (.aload_n 0, 1) := by decide +kernel
theorem dX8_advance_65 : decode cX8_advance 65 = .ok (.getfield 33, 3) := by decide +kernel
theorem dX8_advance_68 : decode cX8_advance 68 = .ok (.if_icmp .ge 15, 3) := by decide +kernel
theorem dX8_advance_71 : decode cX8_advance 71 = .ok (.aload_n 0, 1) := by decide +kernel
theorem dX8_advance_72 : decode cX8_advance 72 = .ok (.getfield 9, 3) := by decide +kernel
theorem dX8_advance_75 : decode cX8_advance 75 = .ok (.aload_n 0, 1) := by decide +kernel
theorem dX8_advance_76 : decode cX8_advance 76 = .ok (.getfield 36, 3) := by decide +kernel
theorem dX8_advance_79 : decode cX8_advance 79 = .ok (.baload, 1) := by decide +kernel
theorem dX8_advance_80 : decode cX8_advance 80 = .ok (.goto 4, 3) := by decide +kernel
theorem dX8_advance_83 : decode cX8_advance 83 = .ok (.iconst 0, 1) := by decide +kernel
theorem dX8_advance_84 : decode cX8_advance 84 = .ok (.istore_n 1, 1) := by decide +kernel
theorem dX8_advance_85 : decode cX8_advance 85 = .ok (.aload_n 0, 1) := by decide +kernel
theorem dX8_advance_86 : decode cX8_advance 86 = .ok (.getfield 36, 3) := by decide +kernel
theorem dX8_advance_89 : decode cX8_advance 89 = .ok (.aload_n 0, 1) := by decide +kernel
theorem dX8_advance_90 : decode cX8_advance 90 = .ok (.getfield 33, 3) := by decide +kernel
theorem dX8_advance_93 : decode cX8_advance 93 = .ok (.if_icmp .lt 11, 3) := by decide +kernel
theorem dX8_advance_96 : decode cX8_advance 96 = .ok (.aload_n 0, 1) := by decide +kernel
theorem dX8_advance_97 : decode cX8_advance 97 = .ok (.iconst 0, 1) := by decide +kernel
theorem dX8_advance_98 : decode cX8_advance 98 = .ok (.putfield 42, 3) := by decide +kernel
theorem dX8_advance_101 : decode cX8_advance 101 = .ok (.goto 66, 3) := by decide +kernel
theorem dX8_advance_104 : decode cX8_advance 104 = .ok (.iload_n 1, 1) := by decide +kernel
theorem dX8_advance_105 : decode cX8_advance 105 = .ok (.bipush 97, 2) := by decide +kernel
theorem dX8_advance_107 : decode cX8_advance 107 = .ok (.if_icmp .lt 16, 3) := by decide +kernel
theorem dX8_advance_110 : decode cX8_advance 110 = .ok (.iload_n 1, 1) := by decide +kernel
theorem dX8_advance_111 : decode cX8_advance 111 = .ok (.bipush 122, 2) := by decide +kernel
theorem dX8_advance_113 : decode cX8_advance 113 = .ok (.if_icmp .gt 10, 3) := by decide +kernel
theorem dX8_advance_116 : decode cX8_advance 116 = .ok (.aload_n 0, 1) := by decide +kernel
theorem dX8_advance_117 : decode cX8_advance 117 = .ok (.invokevirtual 45, 3) := by decide +kernel
theorem dX8_advance_120 : decode cX8_advance 120 = .ok (.goto 47, 3) := by decide +kernel
theorem dX8_advance_123 : decode cX8_advance 123 = .ok (.iload_n 1, 1) := by decide +kernel
theorem dX8_advance_124 : decode cX8_advance 124 = .ok (.bipush 48, 2) := by decide +kernel
theorem dX8_advance_126 : decode cX8_advance 126 = .ok (.if_icmp .lt 16, 3) := by decide +kernel
theorem dX8_advance_129 : decode cX8_advance 129 = .ok (.iload_n 1, 1) := by decide +kernel
theorem dX8_advance_130 : decode cX8_advance 130 = .ok (.bipush 57, 2) := by decide +kernel
theorem dX8_advance_132 : decode cX8_advance 132 = .ok (.if_icmp .gt 10, 3) := by decide +kernel
theorem dX8_advance_135 : decode cX8_advance 135 = .ok (.aload_n 0, 1) := by decide +kernel
theorem dX8_advance_136 : decode cX8_advance 136 = .ok (.invokevirtual 48, 3) := by decide +kernel
theorem dX8_advance_139 : decode cX8_advance 139 = .ok (.goto 28, 3) := by decide +kernel
theorem dX8_advance_142 : decode cX8_advance 142 = .ok (.aload_n 0, 1) := by decide +kernel
theorem dX8_advance_143 : decode cX8_advance 143 = .ok (.iload_n 1, 1) := by decide +kernel
theorem dX8_advance_144 : decode cX8_advance 144 = .ok (.bipush 59, 2) := by decide +kernel
theorem dX8_advance_146 : decode cX8_advance 146 = .ok (.if_icmp .ne 7, 3) := by decide +kernel
theorem dX8_advance_149 : decode cX8_advance 149 = .ok (.iconst 3, 1) := by decide +kernel
theorem dX8_advance_150 : decode cX8_advance 150 = .ok (.goto 4, 3) := by decide +kernel
theorem dX8_advance_153 : decode cX8_advance 153 = .ok (.iconst 1, 1) := by decide +kernel
theorem dX8_advance_154 : decode cX8_advance 154 = .ok (.putfield 42, 3) := by decide +kernel
theorem dX8_advance_157 : decode cX8_advance 157 = .ok (.aload_n 0, 1) := by decide +kernel
theorem dX8_advance_158 : decode cX8_advance 158 = .ok (.dup, 1) := by decide +kernel
theorem dX8_advance_159 : decode cX8_advance 159 = .ok (.getfield 36, 3) := by decide +kernel
theorem dX8_advance_162 : decode cX8_advance 162 = .ok (.iconst 1, 1) := by decide +kernel
theorem dX8_advance_163 : decode cX8_advance 163 = .ok (.iadd, 1) := by decide +kernel
theorem dX8_advance_164 : decode cX8_advance 164 = .ok (.putfield 36, 3) := by decide +kernel
theorem dX8_advance_167 : decode cX8_advance 167 = .ok (.return_, 1) := by decide +kernel
theorem dX8_readWord_0 : decode cX8_readWord 0 = .ok (.aload_n 0, 1) := by decide +kernel
theorem dX8_readWord_1 : decode cX8_readWord 1 = .ok (.lconst 0, 1) := by decide +kernel
theorem dX8_readWord_2 : decode cX8_readWord 2 = .ok (.putfield 51, 3) := by decide +kernel
theorem dX8_readWord_5 : decode cX8_readWord 5 = .ok (.aload_n 0, 1) := by decide +kernel
theorem dX8_readWord_6 : decode cX8_readWord 6 = .ok (.getfield 36, 3) := by decide +kernel
theorem dX8_readWord_9 : decode cX8_readWord 9 = .ok (.aload_n 0, 1) := by decide +kernel
theorem dX8_readWord_10 : decode cX8_readWord 10 = .ok (.getfield 33, 3) := by decide +kernel
theorem dX8_readWord_13 : decode cX8_readWord 13 = .ok (.if_icmp .ge 72, 3) := by decide +kernel
theorem dX8_readWord_16 : decode cX8_readWord 16 = .ok (.aload_n 0, 1) := by decide +kernel
theorem dX8_readWord_17 : decode cX8_readWord 17 = .ok (.getfield 9, 3) := by decide +kernel
theorem dX8_readWord_20 : decode cX8_readWord 20 = .ok (.aload_n 0, 1) := by decide +kernel
theorem dX8_readWord_21 : decode cX8_readWord 21 = .ok (.getfield 36, 3) := by decide +kernel
theorem dX8_readWord_24 : decode cX8_readWord 24 = .ok (.baload, 1) := by decide +kernel
theorem dX8_readWord_25 : decode cX8_readWord 25 = .ok (.bipush 97, 2) := by decide +kernel
theorem dX8_readWord_27 : decode cX8_readWord 27 = .ok (.if_icmp .lt 58, 3) := by decide +kernel
theorem dX8_readWord_30 : decode cX8_readWord 30 = .ok (.aload_n 0, 1) := by decide +kernel
theorem dX8_readWord_31 : decode cX8_readWord 31 = .ok (.getfield 9, 3) := by decide +kernel
theorem dX8_readWord_34 : decode cX8_readWord 34 = .ok (.aload_n 0, 1) := by decide +kernel
theorem dX8_readWord_35 : decode cX8_readWord 35 = .ok (.getfield 36, 3) := by decide +kernel
theorem dX8_readWord_38 : decode cX8_readWord 38 = .ok (.baload, 1) := by decide +kernel
theorem dX8_readWord_39 : decode cX8_readWord 39 = .ok (.bipush 122, 2) := by decide +kernel
theorem dX8_readWord_41 : decode cX8_readWord 41 = .ok (.if_icmp .gt 44, 3) := by decide +kernel
theorem dX8_readWord_44 : decode cX8_readWord 44 = .ok (.aload_n 0, 1) := by decide +kernel
theorem dX8_readWord_45 : decode cX8_readWord 45 = .ok (.aload_n 0, 1) := by decide +kernel
theorem dX8_readWord_46 : decode cX8_readWord 46 = .ok (.getfield 51, 3) := by decide +kernel
theorem dX8_readWord_49 : decode cX8_readWord 49 = .ok (.ldc2_w 31, 3) := by decide +kernel
theorem dX8_readWord_52 : decode cX8_readWord 52 = .ok (.lmul, 1) := by decide +kernel
theorem dX8_readWord_53 : decode cX8_readWord 53 = .ok (.aload_n 0, 1) := by decide +kernel
theorem dX8_readWord_54 : decode cX8_readWord 54 = .ok (.getfield 9, 3) := by decide +kernel
theorem dX8_readWord_57 : decode cX8_readWord 57 = .ok (.aload_n 0, 1) := by decide +kernel
theorem dX8_readWord_58 : decode cX8_readWord 58 = .ok (.getfield 36, 3) := by decide +kernel
theorem dX8_readWord_61 : decode cX8_readWord 61 = .ok (.baload, 1) := by decide +kernel
theorem dX8_readWord_62 : decode cX8_readWord 62 = .ok (.bipush 97, 2) := by decide +kernel
theorem dX8_readWord_64 : decode cX8_readWord 64 = .ok (.isub, 1) := by decide +kernel
theorem dX8_readWord_65 : decode cX8_readWord 65 = .ok (.iconst 1, 1) := by decide +kernel
theorem dX8_readWord_66 : decode cX8_readWord 66 = .ok (.iadd, 1) := by decide +kernel
theorem dX8_readWord_67 : decode cX8_readWord 67 = .ok (.i2l, 1) := by decide +kernel
theorem dX8_readWord_68 : decode cX8_readWord 68 = .ok (.ladd, 1) := by decide +kernel
theorem dX8_readWord_69 : decode cX8_readWord 69 = .ok (.putfield 51, 3) := by decide +kernel
theorem dX8_readWord_72 : decode cX8_readWord 72 = .ok (.aload_n 0, 1) := by decide +kernel
theorem dX8_readWord_73 : decode cX8_readWord 73 = .ok (.dup, 1) := by decide +kernel
theorem dX8_readWord_74 : decode cX8_readWord 74 = .ok (.getfield 36, 3) := by decide +kernel
theorem dX8_readWord_77 : decode cX8_readWord 77 = .ok (.iconst 1, 1) := by decide +kernel
theorem dX8_readWord_78 : decode cX8_readWord 78 = .ok (.iadd, 1) := by decide +kernel
theorem dX8_readWord_79 : decode cX8_readWord 79 = .ok (.putfield 36, 3) := by decide +kernel
theorem dX8_readWord_82 : decode cX8_readWord 82 = .ok (.goto (-77), 3) := by decide +kernel
theorem dX8_readWord_85 : decode cX8_readWord 85 = .ok (.aload_n 0, 1) := by decide +kernel
theorem dX8_readWord_86 : decode cX8_readWord 86 = .ok (.aload_n 0, 1) := by decide +kernel
theorem dX8_readWord_87 : decode cX8_readWord 87 = .ok (.getfield 36, 3) := by decide +kernel
theorem dX8_readWord_90 : decode cX8_readWord 90 = .ok (.aload_n 0, 1) := by decide +kernel
theorem dX8_readWord_91 : decode cX8_readWord 91 = .ok (.getfield 39, 3) := by decide +kernel
theorem dX8_readWord_94 : decode cX8_readWord 94 = .ok (.isub, 1) := by decide +kernel
theorem dX8_readWord_95 : decode cX8_readWord 95 = .ok (.bipush 7, 2) := by decide +kernel
theorem dX8_readWord_97 : decode cX8_readWord 97 = .ok (.if_icmp .gt 7, 3) := by decide +kernel
theorem dX8_readWord_100 : decode cX8_readWord 100 = .ok (.iconst 4, 1) := by decide +kernel
theorem dX8_readWord_101 : decode cX8_readWord 101 = .ok (.goto 4, 3) := by decide +kernel
theorem dX8_readWord_104 : decode cX8_readWord 104 = .ok (.iconst 1, 1) := by decide +kernel
theorem dX8_readWord_105 : decode cX8_readWord 105 = .ok (.putfield 42, 3) := by decide +kernel
theorem dX8_readWord_108 : decode cX8_readWord 108 = .ok (.iconst 0, 1) := by decide +kernel
theorem dX8_readWord_109 : decode cX8_readWord 109 = .ok (.istore_n 1, 1) := by decide +kernel
theorem dX8_readWord_110 : decode cX8_readWord 110 = .ok (.iload_n 1, 1) := by decide +kernel
theorem dX8_readWord_111 : decode cX8_readWord 111 = .ok (.bipush 23, 2) := by decide +kernel
theorem dX8_readWord_113 : decode cX8_readWord 113 = .ok (.if_icmp .ge 41, 3) := by decide +kernel
theorem dX8_readWord_116 : decode cX8_readWord 116 = .ok (.aload_n 0, 1) := by decide +kernel
theorem dX8_readWord_117 : decode cX8_readWord 117 = .ok (.getfield 42, 3) := by decide +kernel
theorem dX8_readWord_120 : decode cX8_readWord 120 = .ok (.iconst 4, 1) := by decide +kernel
theorem dX8_readWord_121 : decode cX8_readWord 121 = .ok (.if_icmp .ne 33, 3) := by decide +kernel
theorem dX8_readWord_124 : decode cX8_readWord 124 = .ok (.aload_n 0, 1) := by decide +kernel
theorem dX8_readWord_125 : decode cX8_readWord 125 = .ok (.getfield 15, 3) := by decide +kernel
theorem dX8_readWord_128 : decode cX8_readWord 128 = .ok (.iload_n 1, 1) := by decide +kernel
theorem dX8_readWord_129 : decode cX8_readWord 129 = .ok (.laload, 1) := by decide +kernel
theorem dX8_readWord_130 : decode cX8_readWord 130 = .ok (.aload_n 0, 1) := by decide +kernel
theorem dX8_readWord_131 : decode cX8_readWord 131 = .ok (.getfield 51, 3) := by decide +kernel
theorem dX8_readWord_134 : decode cX8_readWord 134 = .ok (.lcmp, 1) := by decide +kernel
theorem dX8_readWord_135 : decode cX8_readWord 135 = .ok (.ifCond .ne 13, 3) := by decide +kernel
theorem dX8_readWord_138 : decode cX8_readWord 138 = .ok (.aload_n 0, 1) := by decide +kernel
theorem dX8_readWord_139 : decode cX8_readWord 139 = .ok (.iconst 5, 1) := by decide +kernel
theorem dX8_readWord_140 : decode cX8_readWord 140 = .ok (.putfield 42, 3) := by decide +kernel
theorem dX8_readWord_143 : decode cX8_readWord 143 = .ok (.aload_n 0, 1) := by decide +kernel
theorem dX8_readWord_144 : decode cX8_readWord 144 = .ok (.iload_n 1, 1) := by decide +kernel
theorem dX8_readWord_145 : decode cX8_readWord 145 = .ok (.putfield 55, 3) := by decide +kernel
theorem dX8_readWord_148 : decode cX8_readWord 148 = .ok (.iinc 1 1, 3) := by decide +kernel
theorem dX8_readWord_151 : decode cX8_readWord 151 = .ok (.goto (-41), 3) := by decide +kernel
theorem dX8_readWord_154 : decode cX8_readWord 154 = .ok (.return_, 1) := by decide +kernel
theorem dX8_readNumeral_0 : decode cX8_readNumeral 0 = .ok (.aload_n 0, 1) := by decide +kernel
theorem dX8_readNumeral_1 : decode cX8_readNumeral 1 = .ok (.iconst 0, 1) := by decide +kernel
theorem dX8_readNumeral_2 : decode cX8_readNumeral 2 = .ok (.putfield 55, 3) := by decide +kernel
theorem dX8_readNumeral_5 : decode cX8_readNumeral 5 = .ok (.aload_n 0, 1) := by decide +kernel
theorem dX8_readNumeral_6 : decode cX8_readNumeral 6 = .ok (.getfield 36, 3) := by decide +kernel
theorem dX8_readNumeral_9 : decode cX8_readNumeral 9 = .ok (.aload_n 0, 1) := by decide +kernel
theorem dX8_readNumeral_10 : decode cX8_readNumeral 10 = .ok (.getfield 33, 3) := by decide +kernel
theorem dX8_readNumeral_13 : decode cX8_readNumeral 13 = .ok (.if_icmp .ge 68, 3) := by decide +kernel
theorem dX8_readNumeral_16 : decode cX8_readNumeral 16 = .ok (.aload_n 0, 1) := by decide +kernel
theorem dX8_readNumeral_17 : decode cX8_readNumeral 17 = .ok (.getfield 9, 3) := by decide +kernel
theorem dX8_readNumeral_20 : decode cX8_readNumeral 20 = .ok (.aload_n 0, 1) := by decide +kernel
theorem dX8_readNumeral_21 : decode cX8_readNumeral 21 = .ok (.getfield 36, 3) := by decide +kernel
theorem dX8_readNumeral_24 : decode cX8_readNumeral 24 = .ok (.baload, 1) := by decide +kernel
theorem dX8_readNumeral_25 : decode cX8_readNumeral 25 = .ok (.bipush 48, 2) := by decide +kernel
theorem dX8_readNumeral_27 : decode cX8_readNumeral 27 = .ok (.if_icmp .lt 54, 3) := by decide +kernel
theorem dX8_readNumeral_30 : decode cX8_readNumeral 30 = .ok (.aload_n 0, 1) := by decide +kernel
theorem dX8_readNumeral_31 : decode cX8_readNumeral 31 = .ok (.getfield 9, 3) := by decide +kernel
theorem dX8_readNumeral_34 : decode cX8_readNumeral 34 = .ok (.aload_n 0, 1) := by decide +kernel
theorem dX8_readNumeral_35 : decode cX8_readNumeral 35 = .ok (.getfield 36, 3) := by decide +kernel
theorem dX8_readNumeral_38 : decode cX8_readNumeral 38 = .ok (.baload, 1) := by decide +kernel
theorem dX8_readNumeral_39 : decode cX8_readNumeral 39 = .ok (.bipush 57, 2) := by decide +kernel
theorem dX8_readNumeral_41 : decode cX8_readNumeral 41 = .ok (.if_icmp .gt 40, 3) := by decide +kernel
theorem dX8_readNumeral_44 : decode cX8_readNumeral 44 = .ok (.aload_n 0, 1) := by decide +kernel
theorem dX8_readNumeral_45 : decode cX8_readNumeral 45 = .ok (.aload_n 0, 1) := by decide +kernel
theorem dX8_readNumeral_46 : decode cX8_readNumeral 46 = .ok (.getfield 55, 3) := by decide +kernel
theorem dX8_readNumeral_49 : decode cX8_readNumeral 49 = .ok (.bipush 10, 2) := by decide +kernel
theorem dX8_readNumeral_51 : decode cX8_readNumeral 51 = .ok (.imul, 1) := by decide +kernel
theorem dX8_readNumeral_52 : decode cX8_readNumeral 52 = .ok (.aload_n 0, 1) := by decide +kernel
theorem dX8_readNumeral_53 : decode cX8_readNumeral 53 = .ok (.getfield 9, 3) := by decide +kernel
theorem dX8_readNumeral_56 : decode cX8_readNumeral 56 = .ok (.aload_n 0, 1) := by decide +kernel
theorem dX8_readNumeral_57 : decode cX8_readNumeral 57 = .ok (.getfield 36, 3) := by decide +kernel
theorem dX8_readNumeral_60 : decode cX8_readNumeral 60 = .ok (.baload, 1) := by decide +kernel
theorem dX8_readNumeral_61 : decode cX8_readNumeral 61 = .ok (.bipush 48, 2) := by decide +kernel
theorem dX8_readNumeral_63 : decode cX8_readNumeral 63 = .ok (.isub, 1) := by decide +kernel
theorem dX8_readNumeral_64 : decode cX8_readNumeral 64 = .ok (.iadd, 1) := by decide +kernel
theorem dX8_readNumeral_65 : decode cX8_readNumeral 65 = .ok (.putfield 55, 3) := by decide +kernel
theorem dX8_readNumeral_68 : decode cX8_readNumeral 68 = .ok (.aload_n 0, 1) := by decide +kernel
theorem dX8_readNumeral_69 : decode cX8_readNumeral 69 = .ok (.dup, 1) := by decide +kernel
theorem dX8_readNumeral_70 : decode cX8_readNumeral 70 = .ok (.getfield 36, 3) := by decide +kernel
theorem dX8_readNumeral_73 : decode cX8_readNumeral 73 = .ok (.iconst 1, 1) := by decide +kernel
theorem dX8_readNumeral_74 : decode cX8_readNumeral 74 = .ok (.iadd, 1) := by decide +kernel
theorem dX8_readNumeral_75 : decode cX8_readNumeral 75 = .ok (.putfield 36, 3) := by decide +kernel
theorem dX8_readNumeral_78 : decode cX8_readNumeral 78 = .ok (.goto (-73), 3) := by decide +kernel
theorem dX8_readNumeral_81 : decode cX8_readNumeral 81 = .ok (.aload_n 0, 1) := by decide +kernel
theorem dX8_readNumeral_82 : decode cX8_readNumeral 82 = .ok (.aload_n 0, 1) := by decide +kernel
theorem dX8_readNumeral_83 : decode cX8_readNumeral 83 = .ok (.getfield 36, 3) := by decide +kernel
theorem dX8_readNumeral_86 : decode cX8_readNumeral 86 = .ok (.aload_n 0, 1) := by decide +kernel
theorem dX8_readNumeral_87 : decode cX8_readNumeral 87 = .ok (.getfield 39, 3) := by decide +kernel
theorem dX8_readNumeral_90 : decode cX8_readNumeral 90 = .ok (.isub, 1) := by decide +kernel
theorem dX8_readNumeral_91 : decode cX8_readNumeral 91 = .ok (.iconst 3, 1) := by decide +kernel
theorem dX8_readNumeral_92 : decode cX8_readNumeral 92 = .ok (.if_icmp .gt 7, 3) := by decide +kernel
theorem dX8_readNumeral_95 : decode cX8_readNumeral 95 = .ok (.iconst 2, 1) := by decide +kernel
theorem dX8_readNumeral_96 : decode cX8_readNumeral 96 = .ok (.goto 4, 3) := by decide +kernel
theorem dX8_readNumeral_99 : decode cX8_readNumeral 99 = .ok (.iconst 1, 1) := by decide +kernel
theorem dX8_readNumeral_100 : decode cX8_readNumeral 100 = .ok (.putfield 42, 3) := by decide +kernel
theorem dX8_readNumeral_103 : decode cX8_readNumeral 103 = .ok (.return_, 1) := by decide +kernel
theorem dX8_isWord_0 : decode cX8_isWord 0 = .ok (.aload_n 0, 1) := by decide +kernel
theorem dX8_isWord_1 : decode cX8_isWord 1 = .ok (.getfield 42, 3) := by decide +kernel
theorem dX8_isWord_4 : decode cX8_isWord 4 = .ok (.iconst 5, 1) := by decide +kernel
theorem dX8_isWord_5 : decode cX8_isWord 5 = .ok (.if_icmp .ne 15, 3) := by decide +kernel
theorem dX8_isWord_8 : decode cX8_isWord 8 = .ok (.aload_n 0, 1) := by decide +kernel
theorem dX8_isWord_9 : decode cX8_isWord 9 = .ok (.getfield 55, 3) := by decide +kernel
theorem dX8_isWord_12 : decode cX8_isWord 12 = .ok (.iload_n 1, 1) := by decide +kernel
theorem dX8_isWord_13 : decode cX8_isWord 13 = .ok (.if_icmp .ne 7, 3) := by decide +kernel
theorem dX8_isWord_16 : decode cX8_isWord 16 = .ok (.iconst 1, 1) := by decide +kernel
theorem dX8_isWord_17 : decode cX8_isWord 17 = .ok (.goto 4, 3) := by decide +kernel
theorem dX8_isWord_20 : decode cX8_isWord 20 = .ok (.iconst 0, 1) := by decide +kernel
theorem dX8_isWord_21 : decode cX8_isWord 21 = .ok (.ireturn, 1) := by decide +kernel
theorem dX9_init_0 : decode cX9_init 0 = .ok (.aload_n 0, 1) := by decide +kernel
theorem dX9_init_1 : decode cX9_init 1 = .ok (.invokespecial 3, 3) := by decide +kernel
theorem dX9_init_4 : decode cX9_init 4 = .ok (.aload_n 0, 1) := by decide +kernel
theorem dX9_init_5 : decode cX9_init 5 = .ok (.bipush 64, 2) := by decide +kernel
theorem dX9_init_7 : decode cX9_init 7 = .ok (.newarray .int, 2) := by decide +kernel
theorem dX9_init_9 : decode cX9_init 9 = .ok (.putfield 9, 3) := by decide +kernel
theorem dX9_init_12 : decode cX9_init 12 = .ok (.aload_n 0, 1) := by decide +kernel
theorem dX9_init_13 : decode cX9_init 13 = .ok (.sipush 192, 3) := by decide +kernel
theorem dX9_init_16 : decode cX9_init 16 = .ok (.newarray .int, 2) := by decide +kernel
theorem dX9_init_18 : decode cX9_init 18 = .ok (.putfield 15, 3) := by decide +kernel
theorem dX9_init_21 : decode cX9_init 21 = .ok (.aload_n 0, 1) := by decide +kernel
theorem dX9_init_22 : decode cX9_init 22 = .ok (.bipush 64, 2) := by decide +kernel
theorem dX9_init_24 : decode cX9_init 24 = .ok (.newarray .boolean, 2) := by decide +kernel
theorem dX9_init_26 : decode cX9_init 26 = .ok (.putfield 18, 3) := by decide +kernel
theorem dX9_init_29 : decode cX9_init 29 = .ok (.aload_n 0, 1) := by decide +kernel
theorem dX9_init_30 : decode cX9_init 30 = .ok (.bipush 64, 2) := by decide +kernel
theorem dX9_init_32 : decode cX9_init 32 = .ok (.newarray .boolean, 2) := by decide +kernel
theorem dX9_init_34 : decode cX9_init 34 = .ok (.putfield 22, 3) := by decide +kernel
theorem dX9_init_37 : decode cX9_init 37 = .ok (.aload_n 0, 1) := by decide +kernel
theorem dX9_init_38 : decode cX9_init 38 = .ok (.bipush 8, 2) := by decide +kernel
theorem dX9_init_40 : decode cX9_init 40 = .ok (.newarray .int, 2) := by decide +kernel
theorem dX9_init_42 : decode cX9_init 42 = .ok (.putfield 25, 3) := by decide +kernel
theorem dX9_init_45 : decode cX9_init 45 = .ok (.aload_n 0, 1) := by decide +kernel
theorem dX9_init_46 : decode cX9_init 46 = .ok (.sipush 200, 3) := by decide +kernel
theorem dX9_init_49 : decode cX9_init 49 = .ok (.newarray .boolean, 2) := by decide +kernel
theorem dX9_init_51 : decode cX9_init 51 = .ok (.putfield 28, 3) := by decide +kernel
theorem dX9_init_54 : decode cX9_init 54 = .ok (.return_, 1) := by decide +kernel
theorem dX9_start_0 : decode cX9_start 0 = .ok (.aload_n 0, 1) := by decide +kernel
theorem dX9_start_1 : decode cX9_start 1 = .ok (.iconst 0, 1) := by decide +kernel
theorem dX9_start_2 : decode cX9_start 2 = .ok (.putfield 31, 3) := by decide +kernel
theorem dX9_start_5 : decode cX9_start 5 = .ok (.aload_n 0, 1) := by decide +kernel
theorem dX9_start_6 : decode cX9_start 6 = .ok (.iconst 0, 1) := by decide +kernel
theorem dX9_start_7 : decode cX9_start 7 = .ok (.putfield 35, 3) := by decide +kernel
theorem dX9_start_10 : decode cX9_start 10 = .ok (.iconst 0, 1) := by decide +kernel
theorem dX9_start_11 : decode cX9_start 11 = .ok (.istore_n 2, 1) := by decide +kernel
theorem dX9_start_12 : decode cX9_start 12 = .ok (.iload_n 2, 1) := by decide +kernel
theorem dX9_start_13 : decode cX9_start 13 = .ok (.aload_n 1, 1) := by decide +kernel
theorem dX9_start_14 : decode cX9_start 14 = .ok (.getfield 38, 3) := by decide +kernel
theorem dX9_start_17 : decode cX9_start 17 = .ok (.if_icmp .ge 35, 3) := by decide +kernel
theorem dX9_start_20 : decode cX9_start 20 = .ok (.aload_n 0, 1) := by decide +kernel
theorem dX9_start_21 : decode cX9_start 21 = .ok (.iconst 0, 1) := by decide +kernel
theorem dX9_start_22 : decode cX9_start 22 = .ok (.iload_n 2, 1) := by decide +kernel
theorem dX9_start_23 : decode cX9_start 23 = .ok (.iconst (-1), 1) := by decide +kernel
theorem dX9_start_24 : decode cX9_start 24 = .ok (.iconst (-1), 1) := by decide +kernel
theorem dX9_start_25 : decode cX9_start 25 = .ok (.invokevirtual 43, 3) := by decide +kernel
theorem dX9_start_28 : decode cX9_start 28 = .ok (.istore_n 3, 1) := by decide +kernel
theorem dX9_start_29 : decode cX9_start 29 = .ok (.iload_n 3, 1) := by decide +kernel
theorem dX9_start_30 : decode cX9_start 30 = .ok (.iconst (-1), 1) := by decide +kernel
theorem dX9_start_31 : decode cX9_start 31 = .ok (.if_icmp .eq 15, 3) := by decide +kernel
theorem dX9_start_34 : decode cX9_start 34 = .ok (.aload_n 0, 1) := by decide +kernel
theorem dX9_start_35 : decode cX9_start 35 = .ok (.getfield 22, 3) := by decide +kernel
theorem dX9_start_38 : decode cX9_start 38 = .ok (.iload_n 3, 1) := by decide +kernel
theorem dX9_start_39 : decode cX9_start 39 = .ok (.aload_n 1, 1) := by decide +kernel
theorem dX9_start_40 : decode cX9_start 40 = .ok (.getfield 47, 3) := by decide +kernel
theorem dX9_start_43 : decode cX9_start 43 = .ok (.iload_n 2, 1) := by decide +kernel
theorem dX9_start_44 : decode cX9_start 44 = .ok (.baload, 1) := by decide +kernel
theorem dX9_start_45 : decode cX9_start 45 = .ok (.bastore, 1) := by decide +kernel
theorem dX9_start_46 : decode cX9_start 46 = .ok (.iinc 2 1, 3) := by decide +kernel
theorem dX9_start_49 : decode cX9_start 49 = .ok (.goto (-37), 3) := by decide +kernel
theorem dX9_start_52 : decode cX9_start 52 = .ok (.iconst 0, 1) := by decide +kernel
theorem dX9_start_53 : decode cX9_start 53 = .ok (.istore_n 2, 1) := by decide +kernel
theorem dX9_start_54 : decode cX9_start 54 = .ok (.iload_n 2, 1) := by decide +kernel
theorem dX9_start_55 : decode cX9_start 55 = .ok (.aload_n 1, 1) := by decide +kernel
theorem dX9_start_56 : decode cX9_start 56 = .ok (.getfield 50, 3) := by decide +kernel
theorem dX9_start_59 : decode cX9_start 59 = .ok (.if_icmp .ge 23, 3) := by decide +kernel
theorem dX9_start_62 : decode cX9_start 62 = .ok (.iload_n 2, 1) := by decide +kernel
theorem dX9_start_63 : decode cX9_start 63 = .ok (.sipush 200, 3) := by decide +kernel
theorem dX9_start_66 : decode cX9_start 66 = .ok (.if_icmp .ge 16, 3) := by decide +kernel
theorem dX9_start_69 : decode cX9_start 69 = .ok (.aload_n 0, 1) := by decide +kernel
theorem dX9_start_70 : decode cX9_start 70 = .ok (.getfield 28, 3) := by decide +kernel
theorem dX9_start_73 : decode cX9_start 73 = .ok (.iload_n 2, 1) := by decide +kernel
theorem dX9_start_74 : decode cX9_start 74 = .ok (.iconst 0, 1) := by decide +kernel
theorem dX9_start_75 : decode cX9_start 75 = .ok (.bastore, 1) := by decide +kernel
theorem dX9_start_76 : decode cX9_start 76 = .ok (.iinc 2 1, 3) := by decide +kernel
theorem dX9_start_79 : decode cX9_start 79 = .ok (.goto (-25), 3) := by decide +kernel
theorem dX9_start_82 : decode cX9_start 82 = .ok (.return_, 1) := by decide +kernel
theorem dX9_ofOp_0 : decode cX9_ofOp 0 = .ok (.iload_n 1, 1) := by decide +kernel
theorem dX9_ofOp_1 : decode cX9_ofOp 1 = .ok (.bipush 14, 2) := by decide +kernel
theorem dX9_ofOp_3 : decode cX9_ofOp 3 = .ok (.if_icmp .ne 5, 3) := by decide +kernel
theorem dX9_ofOp_6 : decode cX9_ofOp 6 = .ok (.iload_n 2, 1) := by decide +kernel
theorem dX9_ofOp_7 : decode cX9_ofOp 7 = .ok (.ireturn, 1) := by decide +kernel
theorem dX9_ofOp_8 : decode cX9_ofOp 8 = .ok (.iload_n 1, 1) := by decide +kernel
theorem dX9_ofOp_9 : decode cX9_ofOp 9 = .ok (.bipush 13, 2) := by decide +kernel
theorem dX9_ofOp_11 : decode cX9_ofOp 11 = .ok (.if_icmp .ne 11, 3) := by decide +kernel
theorem dX9_ofOp_14 : decode cX9_ofOp 14 = .ok (.iload_n 3, 1) := by decide +kernel
theorem dX9_ofOp_15 : decode cX9_ofOp 15 = .ok (.iload 4, 2) := by decide +kernel
theorem dX9_ofOp_17 : decode cX9_ofOp 17 = .ok (.if_icmp .ne 5, 3) := by decide +kernel
theorem dX9_ofOp_20 : decode cX9_ofOp 20 = .ok (.iload_n 3, 1) := by decide +kernel
theorem dX9_ofOp_21 : decode cX9_ofOp 21 = .ok (.ireturn, 1) := by decide +kernel
theorem dX9_ofOp_22 : decode cX9_ofOp 22 = .ok (.iload_n 1, 1) := by decide +kernel
theorem dX9_ofOp_23 : decode cX9_ofOp 23 = .ok (.invokestatic 53, 3) := by decide +kernel
theorem dX9_ofOp_26 : decode cX9_ofOp 26 = .ok (.ifCond .eq 20, 3) := by decide +kernel
theorem dX9_ofOp_29 : decode cX9_ofOp 29 = .ok (.iload_n 3, 1) := by decide +kernel
theorem dX9_ofOp_30 : decode cX9_ofOp 30 = .ok (.iload_n 2, 1) := by decide +kernel
theorem dX9_ofOp_31 : decode cX9_ofOp 31 = .ok (.if_icmp .ge 15, 3) := by decide +kernel
theorem dX9_ofOp_34 : decode cX9_ofOp 34 = .ok (.aload_n 0, 1) := by decide +kernel
theorem dX9_ofOp_35 : decode cX9_ofOp 35 = .ok (.iload_n 1, 1) := by decide +kernel
theorem dX9_ofOp_36 : decode cX9_ofOp 36 = .ok (.iload_n 3, 1) := by decide +kernel
theorem dX9_ofOp_37 : decode cX9_ofOp 37 = .ok (.iload_n 2, 1) := by decide +kernel
theorem dX9_ofOp_38 : decode cX9_ofOp 38 = .ok (.iload 4, 2) := by decide +kernel
theorem dX9_ofOp_40 : decode cX9_ofOp 40 = .ok (.invokevirtual 43, 3) := by decide +kernel
theorem dX9_ofOp_43 : decode cX9_ofOp 43 = .ok (.goto 12, 3) := by decide +kernel
theorem dX9_ofOp_46 : decode cX9_ofOp 46 = .ok (.aload_n 0, 1) := by decide +kernel
theorem dX9_ofOp_47 : decode cX9_ofOp 47 = .ok (.iload_n 1, 1) := by decide +kernel
theorem dX9_ofOp_48 : decode cX9_ofOp 48 = .ok (.iload_n 2, 1) := by decide +kernel
theorem dX9_ofOp_49 : decode cX9_ofOp 49 = .ok (.iload_n 3, 1) := by decide +kernel
theorem dX9_ofOp_50 : decode cX9_ofOp 50 = .ok (.iload 4, 2) := by decide +kernel
theorem dX9_ofOp_52 : decode cX9_ofOp 52 = .ok (.invokevirtual 43, 3) := by decide +kernel
theorem dX9_ofOp_55 : decode cX9_ofOp 55 = .ok (.ireturn, 1) := by decide +kernel
theorem dX9_single_0 : decode cX9_single 0 = .ok (.iconst 0, 1) := by decide +kernel
theorem dX9_single_1 : decode cX9_single 1 = .ok (.istore 5, 2) := by decide +kernel
theorem dX9_single_3 : decode cX9_single 3 = .ok (.iload 5, 2) := by decide +kernel
theorem dX9_single_5 : decode cX9_single 5 = .ok (.aload_n 0, 1) := by decide +kernel
theorem dX9_single_6 : decode cX9_single 6 = .ok (.getfield 31, 3) := by decide +kernel
theorem dX9_single_9 : decode cX9_single 9 = .ok (.if_icmp .ge 67, 3) := by decide +kernel
theorem dX9_single_12 : decode cX9_single 12 = .ok (.iconst 3, 1) := by decide +kernel
theorem dX9_single_13 : decode cX9_single 13 = .ok (.iload 5, 2) := by decide +kernel
theorem dX9_single_15 : decode cX9_single 15 = .ok (.imul, 1) := by decide +kernel
theorem dX9_single_16 : decode cX9_single 16 = .ok (.istore 6, 2) := by decide +kernel
theorem dX9_single_18 : decode cX9_single 18 = .ok (.aload_n 0, 1) := by decide +kernel
theorem dX9_single_19 : decode cX9_single 19 = .ok (.getfield 9, 3) := by decide +kernel
theorem dX9_single_22 : decode cX9_single 22 = .ok (.iload 5, 2) := by decide +kernel
theorem dX9_single_24 : decode cX9_single 24 = .ok (.iaload, 1) := by decide +kernel
theorem dX9_single_25 : decode cX9_single 25 = .ok (.iload_n 1, 1) := by decide +kernel
theorem dX9_single_26 : decode cX9_single 26 = .ok (.if_icmp .ne 44, 3) := by decide +kernel
theorem dX9_single_29 : decode cX9_single 29 = .ok (.aload_n 0, 1) := by decide +kernel
theorem dX9_single_30 : decode cX9_single 30 = .ok (.getfield 15, 3) := by decide +kernel
theorem dX9_single_33 : decode cX9_single 33 = .ok (.iload 6, 2) := by decide +kernel
theorem dX9_single_35 : decode cX9_single 35 = .ok (.iaload, 1) := by decide +kernel
theorem dX9_single_36 : decode cX9_single 36 = .ok (.iload_n 2, 1) := by decide +kernel
theorem dX9_single_37 : decode cX9_single 37 = .ok (.if_icmp .ne 33, 3) := by decide +kernel
theorem dX9_single_40 : decode cX9_single 40 = .ok (.aload_n 0, 1) := by decide +kernel
theorem dX9_single_41 : decode cX9_single 41 = .ok (.getfield 15, 3) := by decide +kernel
theorem dX9_single_44 : decode cX9_single 44 = .ok (.iload 6, 2) := by decide +kernel
theorem dX9_single_46 : decode cX9_single 46 = .ok (.iconst 1, 1) := by decide +kernel
theorem dX9_single_47 : decode cX9_single 47 = .ok (.iadd, 1) := by decide +kernel
theorem dX9_single_48 : decode cX9_single 48 = .ok (.iaload, 1) := by decide +kernel
theorem dX9_single_49 : decode cX9_single 49 = .ok (.iload_n 3, 1) := by decide +kernel
theorem dX9_single_50 : decode cX9_single 50 = .ok (.if_icmp .ne 20, 3) := by decide +kernel
theorem dX9_single_53 : decode cX9_single 53 = .ok (.aload_n 0, 1) := by decide +kernel
theorem dX9_single_54 : decode cX9_single 54 = .ok (.getfield 15, 3) := by decide +kernel
theorem dX9_single_57 : decode cX9_single 57 = .ok (.iload 6, 2) := by decide +kernel
theorem dX9_single_59 : decode cX9_single 59 = .ok (.iconst 2, 1) := by decide +kernel
theorem dX9_single_60 : decode cX9_single 60 = .ok (.iadd, 1) := by decide +kernel
theorem dX9_single_61 : decode cX9_single 61 = .ok (.iaload, 1) := by decide +kernel
theorem dX9_single_62 : decode cX9_single 62 = .ok (.iload 4, 2) := by decide +kernel
theorem dX9_single_64 : decode cX9_single 64 = .ok (.if_icmp .ne 6, 3) := by decide +kernel
theorem dX9_single_67 : decode cX9_single 67 = .ok (.iload 5, 2) := by decide +kernel
theorem dX9_single_69 : decode cX9_single 69 = .ok (.ireturn, 1) := by decide +kernel
theorem dX9_single_70 : decode cX9_single 70 = .ok (.iinc 5 1, 3) := by decide +kernel
theorem dX9_single_73 : decode cX9_single 73 = .ok (.goto (-70), 3) := by decide +kernel
theorem dX9_single_76 : decode cX9_single 76 = .ok (.aload_n 0, 1) := by decide +kernel
theorem dX9_single_77 : decode cX9_single 77 = .ok (.getfield 31, 3) := by decide +kernel
theorem dX9_single_80 : decode cX9_single 80 = .ok (.bipush 64, 2) := by decide +kernel
theorem dX9_single_82 : decode cX9_single 82 = .ok (.if_icmp .lt 5, 3) := by decide +kernel
theorem dX9_single_85 : decode cX9_single 85 = .ok (.iconst (-1), 1) := by decide +kernel
theorem dX9_single_86 : decode cX9_single 86 = .ok (.ireturn, 1) := by decide +kernel
theorem dX9_single_87 : decode cX9_single 87 = .ok (.aload_n 0, 1) := by decide +kernel
theorem dX9_single_88 : decode cX9_single 88 = .ok (.getfield 31, 3) := by decide +kernel
theorem dX9_single_91 : decode cX9_single 91 = .ok (.istore 5, 2) := by decide +kernel
theorem dX9_single_93 : decode cX9_single 93 = .ok (.aload_n 0, 1) := by decide +kernel
theorem dX9_single_94 : decode cX9_single 94 = .ok (.getfield 9, 3) := by decide +kernel
theorem dX9_single_97 : decode cX9_single 97 = .ok (.iload 5, 2) := by decide +kernel
theorem dX9_single_99 : decode cX9_single 99 = .ok (.iload_n 1, 1) := by decide +kernel
theorem dX9_single_100 : decode cX9_single 100 = .ok (.iastore, 1) := by decide +kernel
theorem dX9_single_101 : decode cX9_single 101 = .ok (.aload_n 0, 1) := by decide +kernel
theorem dX9_single_102 : decode cX9_single 102 = .ok (.getfield 15, 3) := by decide +kernel
theorem dX9_single_105 : decode cX9_single 105 = .ok (.iconst 3, 1) := by decide +kernel
theorem dX9_single_106 : decode cX9_single 106 = .ok (.iload 5, 2) := by decide +kernel
theorem dX9_single_108 : decode cX9_single 108 = .ok (.imul, 1) := by decide +kernel
theorem dX9_single_109 : decode cX9_single 109 = .ok (.iload_n 2, 1) := by decide +kernel
theorem dX9_single_110 : decode cX9_single 110 = .ok (.iastore, 1) := by decide +kernel
theorem dX9_single_111 : decode cX9_single 111 = .ok (.aload_n 0, 1) := by decide +kernel
theorem dX9_single_112 : decode cX9_single 112 = .ok (.getfield 15, 3) := by decide +kernel
theorem dX9_single_115 : decode cX9_single 115 = .ok (.iconst 3, 1) := by decide +kernel
theorem dX9_single_116 : decode cX9_single 116 = .ok (.iload 5, 2) := by decide +kernel
theorem dX9_single_118 : decode cX9_single 118 = .ok (.imul, 1) := by decide +kernel
theorem dX9_single_119 : decode cX9_single 119 = .ok (.iconst 1, 1) := by decide +kernel
theorem dX9_single_120 : decode cX9_single 120 = .ok (.iadd, 1) := by decide +kernel
theorem dX9_single_121 : decode cX9_single 121 = .ok (.iload_n 3, 1) := by decide +kernel
theorem dX9_single_122 : decode cX9_single 122 = .ok (.iastore, 1) := by decide +kernel
theorem dX9_single_123 : decode cX9_single 123 = .ok (.aload_n 0, 1) := by decide +kernel
theorem dX9_single_124 : decode cX9_single 124 = .ok (.getfield 15, 3) := by decide +kernel
theorem dX9_single_127 : decode cX9_single 127 = .ok (.iconst 3, 1) := by decide +kernel
theorem dX9_single_128 : decode cX9_single 128 = .ok (.iload 5, 2) := by decide +kernel
theorem dX9_single_130 : decode cX9_single 130 = .ok (.imul, 1) := by decide +kernel
theorem dX9_single_131 : decode cX9_single 131 = .ok (.iconst 2, 1) := by decide +kernel
theorem dX9_single_132 : decode cX9_single 132 = .ok (.iadd, 1) := by decide +kernel
theorem dX9_single_133 : decode cX9_single 133 = .ok (.iload 4, 2) := by decide +kernel
theorem dX9_single_135 : decode cX9_single 135 = .ok (.iastore, 1) := by decide +kernel
theorem dX9_single_136 : decode cX9_single 136 = .ok (.aload_n 0, 1) := by decide +kernel
theorem dX9_single_137 : decode cX9_single 137 = .ok (.getfield 18, 3) := by decide +kernel
theorem dX9_single_140 : decode cX9_single 140 = .ok (.iload 5, 2) := by decide +kernel
theorem dX9_single_142 : decode cX9_single 142 = .ok (.iload_n 1, 1) := by decide +kernel
theorem dX9_single_143 : decode cX9_single 143 = .ok (.invokestatic 57, 3) := by decide +kernel
theorem dX9_single_146 : decode cX9_single 146 = .ok (.iconst 1, 1) := by decide +kernel
theorem dX9_single_147 : decode cX9_single 147 = .ok (.if_icmp .eq 18, 3) := by decide +kernel
theorem dX9_single_150 : decode cX9_single 150 = .ok (.iload_n 1, 1) := by decide +kernel
theorem dX9_single_151 : decode cX9_single 151 = .ok (.bipush 13, 2) := by decide +kernel
theorem dX9_single_153 : decode cX9_single 153 = .ok (.if_icmp .ne 16, 3) := by decide +kernel
theorem dX9_single_156 : decode cX9_single 156 = .ok (.aload_n 0, 1) := by decide +kernel
theorem dX9_single_157 : decode cX9_single 157 = .ok (.getfield 18, 3) := by decide +kernel
theorem dX9_single_160 : decode cX9_single 160 = .ok (.iload_n 3, 1) := by decide +kernel
theorem dX9_single_161 : decode cX9_single 161 = .ok (.baload, 1) := by decide +kernel
theorem dX9_single_162 : decode cX9_single 162 = .ok (.ifCond .eq 7, 3) := by decide +kernel
theorem dX9_single_165 : decode cX9_single 165 = .ok (.iconst 1, 1) := by decide +kernel
theorem dX9_single_166 : decode cX9_single 166 = .ok (.goto 4, 3) := by decide +kernel
theorem dX9_single_169 : decode cX9_single 169 = .ok (.iconst 0, 1) := by decide +kernel
theorem dX9_single_170 : decode cX9_single 170 = .ok (.bastore, 1) := by decide +kernel
theorem dX9_single_171 : decode cX9_single 171 = .ok (.aload_n 0, 1) := by decide +kernel
theorem dX9_single_172 : decode cX9_single 172 = .ok (.getfield 22, 3) := by decide +kernel
theorem dX9_single_175 : decode cX9_single 175 = .ok (.iload 5, 2) := by decide +kernel
theorem dX9_single_177 : decode cX9_single 177 = .ok (.iconst 1, 1) := by decide +kernel
theorem dX9_single_178 : decode cX9_single 178 = .ok (.bastore, 1) := by decide +kernel
theorem dX9_single_179 : decode cX9_single 179 = .ok (.iconst 0, 1) := by decide +kernel
theorem dX9_single_180 : decode cX9_single 180 = .ok (.istore 6, 2) := by decide +kernel
theorem dX9_single_182 : decode cX9_single 182 = .ok (.iload 6, 2) := by decide +kernel
theorem dX9_single_184 : decode cX9_single 184 = .ok (.iload_n 1, 1) := by decide +kernel
theorem dX9_single_185 : decode cX9_single 185 = .ok (.invokestatic 61, 3) := by decide +kernel
theorem dX9_single_188 : decode cX9_single 188 = .ok (.if_icmp .ge 51, 3) := by decide +kernel
theorem dX9_single_191 : decode cX9_single 191 = .ok (.aload_n 0, 1) := by decide +kernel
theorem dX9_single_192 : decode cX9_single 192 = .ok (.getfield 22, 3) := by decide +kernel
theorem dX9_single_195 : decode cX9_single 195 = .ok (.iload 5, 2) := by decide +kernel
theorem dX9_single_197 : decode cX9_single 197 = .ok (.aload_n 0, 1) := by decide +kernel
theorem dX9_single_198 : decode cX9_single 198 = .ok (.getfield 22, 3) := by decide +kernel
theorem dX9_single_201 : decode cX9_single 201 = .ok (.iload 5, 2) := by decide +kernel
theorem dX9_single_203 : decode cX9_single 203 = .ok (.baload, 1) := by decide +kernel
theorem dX9_single_204 : decode cX9_single 204 = .ok (.ifCond .eq 27, 3) := by decide +kernel
theorem dX9_single_207 : decode cX9_single 207 = .ok (.aload_n 0, 1) := by decide +kernel
theorem dX9_single_208 : decode cX9_single 208 = .ok (.getfield 22, 3) := by decide +kernel
theorem dX9_single_211 : decode cX9_single 211 = .ok (.aload_n 0, 1) := by decide +kernel
theorem dX9_single_212 : decode cX9_single 212 = .ok (.getfield 15, 3) := by decide +kernel
theorem dX9_single_215 : decode cX9_single 215 = .ok (.iconst 3, 1) := by decide +kernel
theorem dX9_single_216 : decode cX9_single 216 = .ok (.iload 5, 2) := by decide +kernel
theorem dX9_single_218 : decode cX9_single 218 = .ok (.imul, 1) := by decide +kernel
theorem dX9_single_219 : decode cX9_single 219 = .ok (.iload 6, 2) := by decide +kernel
theorem dX9_single_221 : decode cX9_single 221 = .ok (.iadd, 1) := by decide +kernel
theorem dX9_single_222 : decode cX9_single 222 = .ok (.iaload, 1) := by decide +kernel
theorem dX9_single_223 : decode cX9_single 223 = .ok (.baload, 1) := by decide +kernel
theorem dX9_single_224 : decode cX9_single 224 = .ok (.ifCond .eq 7, 3) := by decide +kernel
theorem dX9_single_227 : decode cX9_single 227 = .ok (.iconst 1, 1) := by decide +kernel
theorem dX9_single_228 : decode cX9_single 228 = .ok (.goto 4, 3) := by decide +kernel
theorem dX9_single_231 : decode cX9_single 231 = .ok (.iconst 0, 1) := by decide +kernel
theorem dX9_single_232 : decode cX9_single 232 = .ok (.bastore, 1) := by decide +kernel
theorem dX9_single_233 : decode cX9_single 233 = .ok (.iinc 6 1, 3) := by decide +kernel
theorem dX9_single_236 : decode cX9_single 236 = .ok (.goto (-54), 3) := by decide +kernel
theorem dX9_single_239 : decode cX9_single 239 = .ok (.aload_n 0, 1) := by decide +kernel
theorem dX9_single_240 : decode cX9_single 240 = .ok (.dup, 1) := by decide +kernel
theorem dX9_single_241 : decode cX9_single 241 = .ok (.getfield 31, 3) := by decide +kernel
theorem dX9_single_244 : decode cX9_single 244 = .ok (.iconst 1, 1) := by decide +kernel
theorem dX9_single_245 : decode cX9_single 245 = .ok (.iadd, 1) := by decide +kernel
theorem dX9_single_246 : decode cX9_single 246 = .ok (.putfield 31, 3) := by decide +kernel
theorem dX9_single_249 : decode cX9_single 249 = .ok (.iload 5, 2) := by decide +kernel
theorem dX9_single_251 : decode cX9_single 251 = .ok (.ireturn, 1) := by decide +kernel
theorem dX9_isShown_0 : decode cX9_isShown 0 = .ok (.iconst 0, 1) := by decide +kernel
theorem dX9_isShown_1 : decode cX9_isShown 1 = .ok (.istore_n 2, 1) := by decide +kernel
theorem dX9_isShown_2 : decode cX9_isShown 2 = .ok (.iload_n 2, 1) := by decide +kernel
theorem dX9_isShown_3 : decode cX9_isShown 3 = .ok (.aload_n 0, 1) := by decide +kernel
theorem dX9_isShown_4 : decode cX9_isShown 4 = .ok (.getfield 35, 3) := by decide +kernel
theorem dX9_isShown_7 : decode cX9_isShown 7 = .ok (.if_icmp .ge 21, 3) := by decide +kernel
theorem dX9_isShown_10 : decode cX9_isShown 10 = .ok (.aload_n 0, 1) := by decide +kernel
theorem dX9_isShown_11 : decode cX9_isShown 11 = .ok (.getfield 25, 3) := by decide +kernel
theorem dX9_isShown_14 : decode cX9_isShown 14 = .ok (.iload_n 2, 1) := by decide +kernel
theorem dX9_isShown_15 : decode cX9_isShown 15 = .ok (.iaload, 1) := by decide +kernel
theorem dX9_isShown_16 : decode cX9_isShown 16 = .ok (.iload_n 1, 1) := by decide +kernel
theorem dX9_isShown_17 : decode cX9_isShown 17 = .ok (.if_icmp .ne 5, 3) := by decide +kernel
theorem dX9_isShown_20 : decode cX9_isShown 20 = .ok (.iconst 1, 1) := by decide +kernel
theorem dX9_isShown_21 : decode cX9_isShown 21 = .ok (.ireturn, 1) := by decide +kernel
theorem dX9_isShown_22 : decode cX9_isShown 22 = .ok (.iinc 2 1, 3) := by decide +kernel
theorem dX9_isShown_25 : decode cX9_isShown 25 = .ok (.goto (-23), 3) := by decide +kernel
theorem dX9_isShown_28 : decode cX9_isShown 28 = .ok (.iconst 0, 1) := by decide +kernel
theorem dX9_isShown_29 : decode cX9_isShown 29 = .ok (.ireturn, 1) := by decide +kernel
theorem dX9_copyFrom_0 : decode cX9_copyFrom 0 = .ok (.aload_n 0, 1) := by decide +kernel
theorem dX9_copyFrom_1 : decode cX9_copyFrom 1 = .ok (.aload_n 1, 1) := by decide +kernel
theorem dX9_copyFrom_2 : decode cX9_copyFrom 2 = .ok (.getfield 31, 3) := by decide +kernel
theorem dX9_copyFrom_5 : decode cX9_copyFrom 5 = .ok (.putfield 31, 3) := by decide +kernel
theorem dX9_copyFrom_8 : decode cX9_copyFrom 8 = .ok (.aload_n 0, 1) := by decide +kernel
theorem dX9_copyFrom_9 : decode cX9_copyFrom 9 = .ok (.aload_n 1, 1) := by decide +kernel
theorem dX9_copyFrom_10 : decode cX9_copyFrom 10 = .ok (.getfield 35, 3) := by decide +kernel
theorem dX9_copyFrom_13 : decode cX9_copyFrom 13 = .ok (.putfield 35, 3) := by decide +kernel
theorem dX9_copyFrom_16 : decode cX9_copyFrom 16 = .ok (.aload_n 1, 1) := by decide +kernel
theorem dX9_copyFrom_17 : decode cX9_copyFrom 17 = .ok (.getfield 9, 3) := by decide +kernel
theorem dX9_copyFrom_20 : decode cX9_copyFrom 20 = .ok (.iconst 0, 1) := by decide +kernel
theorem dX9_copyFrom_21 : decode cX9_copyFrom 21 = .ok (.aload_n 0, 1) := by decide +kernel
theorem dX9_copyFrom_22 : decode cX9_copyFrom 22 = .ok (.getfield 9, 3) := by decide +kernel
theorem dX9_copyFrom_25 : decode cX9_copyFrom 25 = .ok (.iconst 0, 1) := by decide +kernel
theorem dX9_copyFrom_26 : decode cX9_copyFrom 26 = .ok (.bipush 64, 2) := by decide +kernel
theorem dX9_copyFrom_28 : decode cX9_copyFrom 28 = .ok (.invokestatic 64, 3) := by decide +kernel
theorem dX9_copyFrom_31 : decode cX9_copyFrom 31 = .ok (.aload_n 1, 1) := by decide +kernel
theorem dX9_copyFrom_32 : decode cX9_copyFrom 32 = .ok (.getfield 15, 3) := by decide +kernel
theorem dX9_copyFrom_35 : decode cX9_copyFrom 35 = .ok (.iconst 0, 1) := by decide +kernel
theorem dX9_copyFrom_36 : decode cX9_copyFrom 36 = .ok (.aload_n 0, 1) := by decide +kernel
theorem dX9_copyFrom_37 : decode cX9_copyFrom 37 = .ok (.getfield 15, 3) := by decide +kernel
theorem dX9_copyFrom_40 : decode cX9_copyFrom 40 = .ok (.iconst 0, 1) := by decide +kernel
theorem dX9_copyFrom_41 : decode cX9_copyFrom 41 = .ok (.sipush 192, 3) := by decide +kernel
theorem dX9_copyFrom_44 : decode cX9_copyFrom 44 = .ok (.invokestatic 64, 3) := by decide +kernel
theorem dX9_copyFrom_47 : decode cX9_copyFrom 47 = .ok (.aload_n 1, 1) := by decide +kernel
theorem dX9_copyFrom_48 : decode cX9_copyFrom 48 = .ok (.getfield 25, 3) := by decide +kernel
theorem dX9_copyFrom_51 : decode cX9_copyFrom 51 = .ok (.iconst 0, 1) := by decide +kernel
theorem dX9_copyFrom_52 : decode cX9_copyFrom 52 = .ok (.aload_n 0, 1) := by decide +kernel
theorem dX9_copyFrom_53 : decode cX9_copyFrom 53 = .ok (.getfield 25, 3) := by decide +kernel
theorem dX9_copyFrom_56 : decode cX9_copyFrom 56 = .ok (.iconst 0, 1) := by decide +kernel
theorem dX9_copyFrom_57 : decode cX9_copyFrom 57 = .ok (.bipush 8, 2) := by decide +kernel
theorem dX9_copyFrom_59 : decode cX9_copyFrom 59 = .ok (.invokestatic 64, 3) := by decide +kernel
theorem dX9_copyFrom_62 : decode cX9_copyFrom 62 = .ok (.iconst 0, 1) := by decide +kernel
theorem dX9_copyFrom_63 : decode cX9_copyFrom 63 = .ok (.istore_n 2, 1) := by decide +kernel
theorem dX9_copyFrom_64 : decode cX9_copyFrom 64 = .ok (.iload_n 2, 1) := by decide +kernel
theorem dX9_copyFrom_65 : decode cX9_copyFrom 65 = .ok (.bipush 64, 2) := by decide +kernel
theorem dX9_copyFrom_67 : decode cX9_copyFrom 67 = .ok (.if_icmp .ge 33, 3) := by decide +kernel
theorem dX9_copyFrom_70 : decode cX9_copyFrom 70 = .ok (.aload_n 0, 1) := by decide +kernel
theorem dX9_copyFrom_71 : decode cX9_copyFrom 71 = .ok (.getfield 18, 3) := by decide +kernel
theorem dX9_copyFrom_74 : decode cX9_copyFrom 74 = .ok (.iload_n 2, 1) := by decide +kernel
theorem dX9_copyFrom_75 : decode cX9_copyFrom 75 = .ok (.aload_n 1, 1) := by decide +kernel
theorem dX9_copyFrom_76 : decode cX9_copyFrom 76 = .ok (.getfield 18, 3) := by decide +kernel
theorem dX9_copyFrom_79 : decode cX9_copyFrom 79 = .ok (.iload_n 2, 1) := by decide +kernel
theorem dX9_copyFrom_80 : decode cX9_copyFrom 80 = .ok (.baload, 1) := by decide +kernel
theorem dX9_copyFrom_81 : decode cX9_copyFrom 81 = .ok (.bastore, 1) := by decide +kernel
theorem dX9_copyFrom_82 : decode cX9_copyFrom 82 = .ok (.aload_n 0, 1) := by decide +kernel
theorem dX9_copyFrom_83 : decode cX9_copyFrom 83 = .ok (.getfield 22, 3) := by decide +kernel
theorem dX9_copyFrom_86 : decode cX9_copyFrom 86 = .ok (.iload_n 2, 1) := by decide +kernel
theorem dX9_copyFrom_87 : decode cX9_copyFrom 87 = .ok (.aload_n 1, 1) := by decide +kernel
theorem dX9_copyFrom_88 : decode cX9_copyFrom 88 = .ok (.getfield 22, 3) := by decide +kernel
theorem dX9_copyFrom_91 : decode cX9_copyFrom 91 = .ok (.iload_n 2, 1) := by decide +kernel
theorem dX9_copyFrom_92 : decode cX9_copyFrom 92 = .ok (.baload, 1) := by decide +kernel
theorem dX9_copyFrom_93 : decode cX9_copyFrom 93 = .ok (.bastore, 1) := by decide +kernel
theorem dX9_copyFrom_94 : decode cX9_copyFrom 94 = .ok (.iinc 2 1, 3) := by decide +kernel
theorem dX9_copyFrom_97 : decode cX9_copyFrom 97 = .ok (.goto (-33), 3) := by decide +kernel
theorem dX9_copyFrom_100 : decode cX9_copyFrom 100 = .ok (.iconst 0, 1) := by decide +kernel
theorem dX9_copyFrom_101 : decode cX9_copyFrom 101 = .ok (.istore_n 2, 1) := by decide +kernel
theorem dX9_copyFrom_102 : decode cX9_copyFrom 102 = .ok (.iload_n 2, 1) := by decide +kernel
theorem dX9_copyFrom_103 : decode cX9_copyFrom 103 = .ok (.sipush 200, 3) := by decide +kernel
theorem dX9_copyFrom_106 : decode cX9_copyFrom 106 = .ok (.if_icmp .ge 21, 3) := by decide +kernel
theorem dX9_copyFrom_109 : decode cX9_copyFrom 109 = .ok (.aload_n 0, 1) := by decide +kernel
theorem dX9_copyFrom_110 : decode cX9_copyFrom 110 = .ok (.getfield 28, 3) := by decide +kernel
theorem dX9_copyFrom_113 : decode cX9_copyFrom 113 = .ok (.iload_n 2, 1) := by decide +kernel
theorem dX9_copyFrom_114 : decode cX9_copyFrom 114 = .ok (.aload_n 1, 1) := by decide +kernel
theorem dX9_copyFrom_115 : decode cX9_copyFrom 115 = .ok (.getfield 28, 3) := by decide +kernel
theorem dX9_copyFrom_118 : decode cX9_copyFrom 118 = .ok (.iload_n 2, 1) := by decide +kernel
theorem dX9_copyFrom_119 : decode cX9_copyFrom 119 = .ok (.baload, 1) := by decide +kernel
theorem dX9_copyFrom_120 : decode cX9_copyFrom 120 = .ok (.bastore, 1) := by decide +kernel
theorem dX9_copyFrom_121 : decode cX9_copyFrom 121 = .ok (.iinc 2 1, 3) := by decide +kernel
theorem dX9_copyFrom_124 : decode cX9_copyFrom 124 = .ok (.goto (-22), 3) := by decide +kernel
theorem dX9_copyFrom_127 : decode cX9_copyFrom 127 = .ok (.return_, 1) := by decide +kernel
theorem dX10_init_0 : decode cX10_init 0 = .ok (.aload_n 0, 1) := by decide +kernel
theorem dX10_init_1 : decode cX10_init 1 = .ok (.invokespecial 3, 3) := by decide +kernel
theorem dX10_init_4 : decode cX10_init 4 = .ok (.aload_n 0, 1) := by decide +kernel
theorem dX10_init_5 : decode cX10_init 5 = .ok (.new 9, 3) := by decide +kernel
theorem dX10_init_8 : decode cX10_init 8 = .ok (.dup, 1) := by decide +kernel
theorem dX10_init_9 : decode cX10_init 9 = .ok (.invokespecial 11, 3) := by decide +kernel
theorem dX10_init_12 : decode cX10_init 12 = .ok (.putfield 12, 3) := by decide +kernel
theorem dX10_init_15 : decode cX10_init 15 = .ok (.aload_n 0, 1) := by decide +kernel
theorem dX10_init_16 : decode cX10_init 16 = .ok (.bipush 20, 2) := by decide +kernel
theorem dX10_init_18 : decode cX10_init 18 = .ok (.newarray .int, 2) := by decide +kernel
theorem dX10_init_20 : decode cX10_init 20 = .ok (.putfield 18, 3) := by decide +kernel
theorem dX10_init_23 : decode cX10_init 23 = .ok (.aload_n 0, 1) := by decide +kernel
theorem dX10_init_24 : decode cX10_init 24 = .ok (.iconst 4, 1) := by decide +kernel
theorem dX10_init_25 : decode cX10_init 25 = .ok (.bipush 20, 2) := by decide +kernel
theorem dX10_init_27 : decode cX10_init 27 = .ok (.multianewarray 22 2, 4) := by decide +kernel
theorem dX10_init_31 : decode cX10_init 31 = .ok (.putfield 24, 3) := by decide +kernel
theorem dX10_init_34 : decode cX10_init 34 = .ok (.aload_n 0, 1) := by decide +kernel
theorem dX10_init_35 : decode cX10_init 35 = .ok (.iconst 4, 1) := by decide +kernel
theorem dX10_init_36 : decode cX10_init 36 = .ok (.bipush 20, 2) := by decide +kernel
theorem dX10_init_38 : decode cX10_init 38 = .ok (.multianewarray 22 2, 4) := by decide +kernel
theorem dX10_init_42 : decode cX10_init 42 = .ok (.putfield 27, 3) := by decide +kernel
theorem dX10_init_45 : decode cX10_init 45 = .ok (.aload_n 0, 1) := by decide +kernel
theorem dX10_init_46 : decode cX10_init 46 = .ok (.iconst 4, 1) := by decide +kernel
theorem dX10_init_47 : decode cX10_init 47 = .ok (.newarray .int, 2) := by decide +kernel
theorem dX10_init_49 : decode cX10_init 49 = .ok (.putfield 30, 3) := by decide +kernel
theorem dX10_init_52 : decode cX10_init 52 = .ok (.aload_n 0, 1) := by decide +kernel
theorem dX10_init_53 : decode cX10_init 53 = .ok (.iconst 4, 1) := by decide +kernel
theorem dX10_init_54 : decode cX10_init 54 = .ok (.newarray .int, 2) := by decide +kernel
theorem dX10_init_56 : decode cX10_init 56 = .ok (.putfield 33, 3) := by decide +kernel
theorem dX10_init_59 : decode cX10_init 59 = .ok (.aload_n 0, 1) := by decide +kernel
theorem dX10_init_60 : decode cX10_init 60 = .ok (.iconst 3, 1) := by decide +kernel
theorem dX10_init_61 : decode cX10_init 61 = .ok (.newarray .int, 2) := by decide +kernel
theorem dX10_init_63 : decode cX10_init 63 = .ok (.putfield 36, 3) := by decide +kernel
theorem dX10_init_66 : decode cX10_init 66 = .ok (.return_, 1) := by decide +kernel
theorem dX10_work_0 : decode cX10_work 0 = .ok (.aload_n 0, 1) := by decide +kernel
theorem dX10_work_1 : decode cX10_work 1 = .ok (.getfield 12, 3) := by decide +kernel
theorem dX10_work_4 : decode cX10_work 4 = .ok (.aload_n 1, 1) := by decide +kernel
theorem dX10_work_5 : decode cX10_work 5 = .ok (.invokevirtual 39, 3) := by decide +kernel
theorem dX10_work_8 : decode cX10_work 8 = .ok (.aload_n 0, 1) := by decide +kernel
theorem dX10_work_9 : decode cX10_work 9 = .ok (.iconst 0, 1) := by decide +kernel
theorem dX10_work_10 : decode cX10_work 10 = .ok (.putfield 43, 3) := by decide +kernel
theorem dX10_work_13 : decode cX10_work 13 = .ok (.aload_n 0, 1) := by decide +kernel
theorem dX10_work_14 : decode cX10_work 14 = .ok (.iconst 0, 1) := by decide +kernel
theorem dX10_work_15 : decode cX10_work 15 = .ok (.putfield 47, 3) := by decide +kernel
theorem dX10_work_18 : decode cX10_work 18 = .ok (.aload_n 0, 1) := by decide +kernel
theorem dX10_work_19 : decode cX10_work 19 = .ok (.iconst 0, 1) := by decide +kernel
theorem dX10_work_20 : decode cX10_work 20 = .ok (.putfield 50, 3) := by decide +kernel
theorem dX10_work_23 : decode cX10_work 23 = .ok (.iconst 0, 1) := by decide +kernel
theorem dX10_work_24 : decode cX10_work 24 = .ok (.istore_n 2, 1) := by decide +kernel
theorem dX10_work_25 : decode cX10_work 25 = .ok (.iconst 0, 1) := by decide +kernel
theorem dX10_work_26 : decode cX10_work 26 = .ok (.istore_n 3, 1) := by decide +kernel
theorem dX10_work_27 : decode cX10_work 27 = .ok (.iload_n 3, 1) := by decide +kernel
theorem dX10_work_28 : decode cX10_work 28 = .ok (.sipush 10000, 3) := by decide +kernel
theorem dX10_work_31 : decode cX10_work 31 = .ok (.if_icmp .ge 44, 3) := by decide +kernel
theorem dX10_work_34 : decode cX10_work 34 = .ok (.iload_n 2, 1) := by decide +kernel
theorem dX10_work_35 : decode cX10_work 35 = .ok (.aload_n 1, 1) := by decide +kernel
theorem dX10_work_36 : decode cX10_work 36 = .ok (.getfield 53, 3) := by decide +kernel
theorem dX10_work_39 : decode cX10_work 39 = .ok (.if_icmp .ge 36, 3) := by decide +kernel
theorem dX10_work_42 : decode cX10_work 42 = .ok (.aload_n 0, 1) := by decide +kernel
theorem dX10_work_43 : decode cX10_work 43 = .ok (.getfield 50, 3) := by decide +kernel
theorem dX10_work_46 : decode cX10_work 46 = .ok (.ifCond .ne 29, 3) := by decide +kernel
theorem dX10_work_49 : decode cX10_work 49 = .ok (.aload_n 0, 1) := by decide +kernel
theorem dX10_work_50 : decode cX10_work 50 = .ok (.aload_n 1, 1) := by decide +kernel
theorem dX10_work_51 : decode cX10_work 51 = .ok (.iload_n 2, 1) := by decide +kernel
theorem dX10_work_52 : decode cX10_work 52 = .ok (.invokevirtual 58, 3) := by decide +kernel
theorem dX10_work_55 : decode cX10_work 55 = .ok (.aload_n 0, 1) := by decide +kernel
theorem dX10_work_56 : decode cX10_work 56 = .ok (.getfield 50, 3) := by decide +kernel
theorem dX10_work_59 : decode cX10_work 59 = .ok (.ifCond .ne 10, 3) := by decide +kernel
theorem dX10_work_62 : decode cX10_work 62 = .ok (.aload_n 0, 1) := by decide +kernel
theorem dX10_work_63 : decode cX10_work 63 = .ok (.aload_n 1, 1) := by decide +kernel
theorem dX10_work_64 : decode cX10_work 64 = .ok (.iload_n 2, 1) := by decide +kernel
theorem dX10_work_65 : decode cX10_work 65 = .ok (.invokevirtual 62, 3) := by decide +kernel
theorem dX10_work_68 : decode cX10_work 68 = .ok (.istore_n 2, 1) := by decide +kernel
theorem dX10_work_69 : decode cX10_work 69 = .ok (.iinc 3 1, 3) := by decide +kernel
theorem dX10_work_72 : decode cX10_work 72 = .ok (.goto (-45), 3) := by decide +kernel
theorem dX10_work_75 : decode cX10_work 75 = .ok (.aload_n 0, 1) := by decide +kernel
theorem dX10_work_76 : decode cX10_work 76 = .ok (.getfield 50, 3) := by decide +kernel
theorem dX10_work_79 : decode cX10_work 79 = .ok (.ireturn, 1) := by decide +kernel
theorem dX10_countLine_0 : decode cX10_countLine 0 = .ok (.aload_n 1, 1) := by decide +kernel
theorem dX10_countLine_1 : decode cX10_countLine 1 = .ok (.getfield 66, 3) := by decide +kernel
theorem dX10_countLine_4 : decode cX10_countLine 4 = .ok (.iload_n 2, 1) := by decide +kernel
theorem dX10_countLine_5 : decode cX10_countLine 5 = .ok (.iaload, 1) := by decide +kernel
theorem dX10_countLine_6 : decode cX10_countLine 6 = .ok (.istore_n 3, 1) := by decide +kernel
theorem dX10_countLine_7 : decode cX10_countLine 7 = .ok (.iload_n 3, 1) := by decide +kernel
theorem dX10_countLine_8 : decode cX10_countLine 8 = .ok (.iconst 4, 1) := by decide +kernel
theorem dX10_countLine_9 : decode cX10_countLine 9 = .ok (.if_icmp .eq 20, 3) := by decide +kernel
theorem dX10_countLine_12 : decode cX10_countLine 12 = .ok (.iload_n 3, 1) := by decide +kernel
theorem dX10_countLine_13 : decode cX10_countLine 13 = .ok (.iconst 5, 1) := by decide +kernel
theorem dX10_countLine_14 : decode cX10_countLine 14 = .ok (.if_icmp .eq 15, 3) := by decide +kernel
theorem dX10_countLine_17 : decode cX10_countLine 17 = .ok (.iload_n 3, 1) := by decide +kernel
theorem dX10_countLine_18 : decode cX10_countLine 18 = .ok (.bipush 7, 2) := by decide +kernel
theorem dX10_countLine_20 : decode cX10_countLine 20 = .ok (.if_icmp .eq 9, 3) := by decide +kernel
theorem dX10_countLine_23 : decode cX10_countLine 23 = .ok (.iload_n 3, 1) := by decide +kernel
theorem dX10_countLine_24 : decode cX10_countLine 24 = .ok (.bipush 9, 2) := by decide +kernel
theorem dX10_countLine_26 : decode cX10_countLine 26 = .ok (.if_icmp .ne 33, 3) := by decide +kernel
theorem dX10_countLine_29 : decode cX10_countLine 29 = .ok (.aload_n 0, 1) := by decide +kernel
theorem dX10_countLine_30 : decode cX10_countLine 30 = .ok (.dup, 1) := by decide +kernel
theorem dX10_countLine_31 : decode cX10_countLine 31 = .ok (.getfield 47, 3) := by decide +kernel
theorem dX10_countLine_34 : decode cX10_countLine 34 = .ok (.iconst 1, 1) := by decide +kernel
theorem dX10_countLine_35 : decode cX10_countLine 35 = .ok (.iadd, 1) := by decide +kernel
theorem dX10_countLine_36 : decode cX10_countLine 36 = .ok (.putfield 47, 3) := by decide +kernel
theorem dX10_countLine_39 : decode cX10_countLine 39 = .ok (.aload_n 0, 1) := by decide +kernel
theorem dX10_countLine_40 : decode cX10_countLine 40 = .ok (.getfield 47, 3) := by decide +kernel
theorem dX10_countLine_43 : decode cX10_countLine 43 = .ok (.sipush 200, 3) := by decide +kernel
theorem dX10_countLine_46 : decode cX10_countLine 46 = .ok (.if_icmp .le 13, 3) := by decide +kernel
theorem dX10_countLine_49 : decode cX10_countLine 49 = .ok (.aload_n 0, 1) := by decide +kernel
theorem dX10_countLine_50 : decode cX10_countLine 50 = .ok (.aload_n 1, 1) := by decide +kernel
theorem dX10_countLine_51 : decode cX10_countLine 51 = .ok (.getfield 69, 3) := by decide +kernel
theorem dX10_countLine_54 : decode cX10_countLine 54 = .ok (.iload_n 2, 1) := by decide +kernel
theorem dX10_countLine_55 : decode cX10_countLine 55 = .ok (.iaload, 1) := by decide +kernel
theorem dX10_countLine_56 : decode cX10_countLine 56 = .ok (.invokevirtual 72, 3) := by decide +kernel
theorem dX10_countLine_59 : decode cX10_countLine 59 = .ok (.return_, 1) := by decide +kernel
theorem dX10_tooMany_0 : decode cX10_tooMany 0 = .ok (.aload_n 0, 1) := by decide +kernel
theorem dX10_tooMany_1 : decode cX10_tooMany 1 = .ok (.getfield 50, 3) := by decide +kernel
theorem dX10_tooMany_4 : decode cX10_tooMany 4 = .ok (.ifCond .ne 13, 3) := by decide +kernel
theorem dX10_tooMany_7 : decode cX10_tooMany 7 = .ok (.aload_n 0, 1) := by decide +kernel
theorem dX10_tooMany_8 : decode cX10_tooMany 8 = .ok (.iconst 5, 1) := by decide +kernel
theorem dX10_tooMany_9 : decode cX10_tooMany 9 = .ok (.bipush 16, 2) := by decide +kernel
theorem dX10_tooMany_11 : decode cX10_tooMany 11 = .ok (.iload_n 1, 1) := by decide +kernel
theorem dX10_tooMany_12 : decode cX10_tooMany 12 = .ok (.imul, 1) := by decide +kernel
theorem dX10_tooMany_13 : decode cX10_tooMany 13 = .ok (.iadd, 1) := by decide +kernel
theorem dX10_tooMany_14 : decode cX10_tooMany 14 = .ok (.putfield 50, 3) := by decide +kernel
theorem dX10_tooMany_17 : decode cX10_tooMany 17 = .ok (.return_, 1) := by decide +kernel
theorem dX10_workLine_0 : decode cX10_workLine 0 = .ok (.aload_n 1, 1) := by decide +kernel
theorem dX10_workLine_1 : decode cX10_workLine 1 = .ok (.getfield 66, 3) := by decide +kernel
theorem dX10_workLine_4 : decode cX10_workLine 4 = .ok (.iload_n 2, 1) := by decide +kernel
theorem dX10_workLine_5 : decode cX10_workLine 5 = .ok (.iaload, 1) := by decide +kernel
theorem dX10_workLine_6 : decode cX10_workLine 6 = .ok (.tableswitch 133 0 9 #[54, 133, 133, 133, 75, 95, 105, 119, 133, 85], 54) := by decide +kernel
theorem dX10_workLine_60 : decode cX10_workLine 60 = .ok (.aload_n 0, 1) := by decide +kernel
theorem dX10_workLine_61 : decode cX10_workLine 61 = .ok (.getfield 18, 3) := by decide +kernel
theorem dX10_workLine_64 : decode cX10_workLine 64 = .ok (.aload_n 1, 1) := by decide +kernel
theorem dX10_workLine_65 : decode cX10_workLine 65 = .ok (.getfield 76, 3) := by decide +kernel
theorem dX10_workLine_68 : decode cX10_workLine 68 = .ok (.iload_n 2, 1) := by decide +kernel
theorem dX10_workLine_69 : decode cX10_workLine 69 = .ok (.iaload, 1) := by decide +kernel
theorem dX10_workLine_70 : decode cX10_workLine 70 = .ok (.aload_n 1, 1) := by decide +kernel
theorem dX10_workLine_71 : decode cX10_workLine 71 = .ok (.getfield 79, 3) := by decide +kernel
theorem dX10_workLine_74 : decode cX10_workLine 74 = .ok (.iload_n 2, 1) := by decide +kernel
theorem dX10_workLine_75 : decode cX10_workLine 75 = .ok (.iaload, 1) := by decide +kernel
theorem dX10_workLine_76 : decode cX10_workLine 76 = .ok (.iastore, 1) := by decide +kernel
theorem dX10_workLine_77 : decode cX10_workLine 77 = .ok (.iload_n 2, 1) := by decide +kernel
theorem dX10_workLine_78 : decode cX10_workLine 78 = .ok (.iconst 1, 1) := by decide +kernel
theorem dX10_workLine_79 : decode cX10_workLine 79 = .ok (.iadd, 1) := by decide +kernel
theorem dX10_workLine_80 : decode cX10_workLine 80 = .ok (.ireturn, 1) := by decide +kernel
theorem dX10_workLine_81 : decode cX10_workLine 81 = .ok (.aload_n 0, 1) := by decide +kernel
theorem dX10_workLine_82 : decode cX10_workLine 82 = .ok (.aload_n 1, 1) := by decide +kernel
theorem dX10_workLine_83 : decode cX10_workLine 83 = .ok (.iload_n 2, 1) := by decide +kernel
theorem dX10_workLine_84 : decode cX10_workLine 84 = .ok (.invokevirtual 82, 3) := by decide +kernel
theorem dX10_workLine_87 : decode cX10_workLine 87 = .ok (.iload_n 2, 1) := by decide +kernel
theorem dX10_workLine_88 : decode cX10_workLine 88 = .ok (.iconst 1, 1) := by decide +kernel
theorem dX10_workLine_89 : decode cX10_workLine 89 = .ok (.iadd, 1) := by decide +kernel
theorem dX10_workLine_90 : decode cX10_workLine 90 = .ok (.ireturn, 1) := by decide +kernel
theorem dX10_workLine_91 : decode cX10_workLine 91 = .ok (.aload_n 0, 1) := by decide +kernel
theorem dX10_workLine_92 : decode cX10_workLine 92 = .ok (.aload_n 1, 1) := by decide +kernel
theorem dX10_workLine_93 : decode cX10_workLine 93 = .ok (.iload_n 2, 1) := by decide +kernel
theorem dX10_workLine_94 : decode cX10_workLine 94 = .ok (.invokevirtual 85, 3) := by decide +kernel
theorem dX10_workLine_97 : decode cX10_workLine 97 = .ok (.iload_n 2, 1) := by decide +kernel
theorem dX10_workLine_98 : decode cX10_workLine 98 = .ok (.iconst 1, 1) := by decide +kernel
theorem dX10_workLine_99 : decode cX10_workLine 99 = .ok (.iadd, 1) := by decide +kernel
theorem dX10_workLine_100 : decode cX10_workLine 100 = .ok (.ireturn, 1) := by decide +kernel
theorem dX10_workLine_101 : decode cX10_workLine 101 = .ok (.aload_n 0, 1) := by decide +kernel
theorem dX10_workLine_102 : decode cX10_workLine 102 = .ok (.aload_n 1, 1) := by decide +kernel
theorem dX10_workLine_103 : decode cX10_workLine 103 = .ok (.iload_n 2, 1) := by decide +kernel
theorem dX10_workLine_104 : decode cX10_workLine 104 = .ok (.invokevirtual 88, 3) := by decide +kernel
theorem dX10_workLine_107 : decode cX10_workLine 107 = .ok (.iload_n 2, 1) := by decide +kernel
theorem dX10_workLine_108 : decode cX10_workLine 108 = .ok (.iconst 1, 1) := by decide +kernel
theorem dX10_workLine_109 : decode cX10_workLine 109 = .ok (.iadd, 1) := by decide +kernel
theorem dX10_workLine_110 : decode cX10_workLine 110 = .ok (.ireturn, 1) := by decide +kernel
theorem dX10_workLine_111 : decode cX10_workLine 111 = .ok (.aload_n 0, 1) := by decide +kernel
theorem dX10_workLine_112 : decode cX10_workLine 112 = .ok (.aload_n 0, 1) := by decide +kernel
theorem dX10_workLine_113 : decode cX10_workLine 113 = .ok (.getfield 43, 3) := by decide +kernel
theorem dX10_workLine_116 : decode cX10_workLine 116 = .ok (.iconst 1, 1) := by decide +kernel
theorem dX10_workLine_117 : decode cX10_workLine 117 = .ok (.isub, 1) := by decide +kernel
theorem dX10_workLine_118 : decode cX10_workLine 118 = .ok (.invokevirtual 91, 3) := by decide +kernel
theorem dX10_workLine_121 : decode cX10_workLine 121 = .ok (.iload_n 2, 1) := by decide +kernel
theorem dX10_workLine_122 : decode cX10_workLine 122 = .ok (.iconst 1, 1) := by decide +kernel
theorem dX10_workLine_123 : decode cX10_workLine 123 = .ok (.iadd, 1) := by decide +kernel
theorem dX10_workLine_124 : decode cX10_workLine 124 = .ok (.ireturn, 1) := by decide +kernel
theorem dX10_workLine_125 : decode cX10_workLine 125 = .ok (.aload_n 0, 1) := by decide +kernel
theorem dX10_workLine_126 : decode cX10_workLine 126 = .ok (.aload_n 1, 1) := by decide +kernel
theorem dX10_workLine_127 : decode cX10_workLine 127 = .ok (.getfield 79, 3) := by decide +kernel
theorem dX10_workLine_130 : decode cX10_workLine 130 = .ok (.iload_n 2, 1) := by decide +kernel
theorem dX10_workLine_131 : decode cX10_workLine 131 = .ok (.iaload, 1) := by decide +kernel
theorem dX10_workLine_132 : decode cX10_workLine 132 = .ok (.invokevirtual 94, 3) := by decide +kernel
theorem dX10_workLine_135 : decode cX10_workLine 135 = .ok (.iload_n 2, 1) := by decide +kernel
theorem dX10_workLine_136 : decode cX10_workLine 136 = .ok (.iconst 1, 1) := by decide +kernel
theorem dX10_workLine_137 : decode cX10_workLine 137 = .ok (.iadd, 1) := by decide +kernel
theorem dX10_workLine_138 : decode cX10_workLine 138 = .ok (.ireturn, 1) := by decide +kernel
theorem dX10_workLine_139 : decode cX10_workLine 139 = .ok (.aload_n 1, 1) := by decide +kernel
theorem dX10_workLine_140 : decode cX10_workLine 140 = .ok (.iload_n 2, 1) := by decide +kernel
theorem dX10_workLine_141 : decode cX10_workLine 141 = .ok (.invokevirtual 97, 3) := by decide +kernel
theorem dX10_workLine_144 : decode cX10_workLine 144 = .ok (.ifCond .eq 12, 3) := by decide +kernel
theorem dX10_workLine_147 : decode cX10_workLine 147 = .ok (.aload_n 0, 1) := by decide +kernel
theorem dX10_workLine_148 : decode cX10_workLine 148 = .ok (.aload_n 1, 1) := by decide +kernel
theorem dX10_workLine_149 : decode cX10_workLine 149 = .ok (.iload_n 2, 1) := by decide +kernel
theorem dX10_workLine_150 : decode cX10_workLine 150 = .ok (.invokevirtual 101, 3) := by decide +kernel
theorem dX10_workLine_153 : decode cX10_workLine 153 = .ok (.goto 9, 3) := by decide +kernel
theorem dX10_workLine_156 : decode cX10_workLine 156 = .ok (.aload_n 0, 1) := by decide +kernel
theorem dX10_workLine_157 : decode cX10_workLine 157 = .ok (.aload_n 1, 1) := by decide +kernel
theorem dX10_workLine_158 : decode cX10_workLine 158 = .ok (.iload_n 2, 1) := by decide +kernel
theorem dX10_workLine_159 : decode cX10_workLine 159 = .ok (.invokevirtual 104, 3) := by decide +kernel
theorem dX10_workLine_162 : decode cX10_workLine 162 = .ok (.ireturn, 1) := by decide +kernel
theorem dX10_beginTimes_0 : decode cX10_beginTimes 0 = .ok (.aload_n 0, 1) := by decide +kernel
theorem dX10_beginTimes_1 : decode cX10_beginTimes 1 = .ok (.getfield 43, 3) := by decide +kernel
theorem dX10_beginTimes_4 : decode cX10_beginTimes 4 = .ok (.iconst 4, 1) := by decide +kernel
theorem dX10_beginTimes_5 : decode cX10_beginTimes 5 = .ok (.if_icmp .ge 23, 3) := by decide +kernel
theorem dX10_beginTimes_8 : decode cX10_beginTimes 8 = .ok (.aload_n 0, 1) := by decide +kernel
theorem dX10_beginTimes_9 : decode cX10_beginTimes 9 = .ok (.getfield 33, 3) := by decide +kernel
theorem dX10_beginTimes_12 : decode cX10_beginTimes 12 = .ok (.aload_n 0, 1) := by decide +kernel
theorem dX10_beginTimes_13 : decode cX10_beginTimes 13 = .ok (.getfield 43, 3) := by decide +kernel
theorem dX10_beginTimes_16 : decode cX10_beginTimes 16 = .ok (.iload_n 1, 1) := by decide +kernel
theorem dX10_beginTimes_17 : decode cX10_beginTimes 17 = .ok (.iastore, 1) := by decide +kernel
theorem dX10_beginTimes_18 : decode cX10_beginTimes 18 = .ok (.aload_n 0, 1) := by decide +kernel
theorem dX10_beginTimes_19 : decode cX10_beginTimes 19 = .ok (.dup, 1) := by decide +kernel
theorem dX10_beginTimes_20 : decode cX10_beginTimes 20 = .ok (.getfield 43, 3) := by decide +kernel
theorem dX10_beginTimes_23 : decode cX10_beginTimes 23 = .ok (.iconst 1, 1) := by decide +kernel
theorem dX10_beginTimes_24 : decode cX10_beginTimes 24 = .ok (.iadd, 1) := by decide +kernel
theorem dX10_beginTimes_25 : decode cX10_beginTimes 25 = .ok (.putfield 43, 3) := by decide +kernel
theorem dX10_beginTimes_28 : decode cX10_beginTimes 28 = .ok (.return_, 1) := by decide +kernel
theorem dX10_endFirstPart_0 : decode cX10_endFirstPart 0 = .ok (.iload_n 1, 1) := by decide +kernel
theorem dX10_endFirstPart_1 : decode cX10_endFirstPart 1 = .ok (.ifCond .lt 37, 3) := by decide +kernel
theorem dX10_endFirstPart_4 : decode cX10_endFirstPart 4 = .ok (.aload_n 0, 1) := by decide +kernel
theorem dX10_endFirstPart_5 : decode cX10_endFirstPart 5 = .ok (.getfield 18, 3) := by decide +kernel
theorem dX10_endFirstPart_8 : decode cX10_endFirstPart 8 = .ok (.iconst 0, 1) := by decide +kernel
theorem dX10_endFirstPart_9 : decode cX10_endFirstPart 9 = .ok (.aload_n 0, 1) := by decide +kernel
theorem dX10_endFirstPart_10 : decode cX10_endFirstPart 10 = .ok (.getfield 27, 3) := by decide +kernel
theorem dX10_endFirstPart_13 : decode cX10_endFirstPart 13 = .ok (.iload_n 1, 1) := by decide +kernel
theorem dX10_endFirstPart_14 : decode cX10_endFirstPart 14 = .ok (.aaload, 1) := by decide +kernel
theorem dX10_endFirstPart_15 : decode cX10_endFirstPart 15 = .ok (.iconst 0, 1) := by decide +kernel
theorem dX10_endFirstPart_16 : decode cX10_endFirstPart 16 = .ok (.bipush 20, 2) := by decide +kernel
theorem dX10_endFirstPart_18 : decode cX10_endFirstPart 18 = .ok (.invokestatic 107, 3) := by decide +kernel
theorem dX10_endFirstPart_21 : decode cX10_endFirstPart 21 = .ok (.aload_n 0, 1) := by decide +kernel
theorem dX10_endFirstPart_22 : decode cX10_endFirstPart 22 = .ok (.getfield 24, 3) := by decide +kernel
theorem dX10_endFirstPart_25 : decode cX10_endFirstPart 25 = .ok (.iload_n 1, 1) := by decide +kernel
theorem dX10_endFirstPart_26 : decode cX10_endFirstPart 26 = .ok (.aaload, 1) := by decide +kernel
theorem dX10_endFirstPart_27 : decode cX10_endFirstPart 27 = .ok (.iconst 0, 1) := by decide +kernel
theorem dX10_endFirstPart_28 : decode cX10_endFirstPart 28 = .ok (.aload_n 0, 1) := by decide +kernel
theorem dX10_endFirstPart_29 : decode cX10_endFirstPart 29 = .ok (.getfield 18, 3) := by decide +kernel
theorem dX10_endFirstPart_32 : decode cX10_endFirstPart 32 = .ok (.iconst 0, 1) := by decide +kernel
theorem dX10_endFirstPart_33 : decode cX10_endFirstPart 33 = .ok (.bipush 20, 2) := by decide +kernel
theorem dX10_endFirstPart_35 : decode cX10_endFirstPart 35 = .ok (.invokestatic 107, 3) := by decide +kernel
theorem dX10_endFirstPart_38 : decode cX10_endFirstPart 38 = .ok (.return_, 1) := by decide +kernel
theorem dX10_workIs_0 : decode cX10_workIs 0 = .ok (.aload_n 1, 1) := by decide +kernel
theorem dX10_workIs_1 : decode cX10_workIs 1 = .ok (.getfield 113, 3) := by decide +kernel
theorem dX10_workIs_4 : decode cX10_workIs 4 = .ok (.iload_n 2, 1) := by decide +kernel
theorem dX10_workIs_5 : decode cX10_workIs 5 = .ok (.iaload, 1) := by decide +kernel
theorem dX10_workIs_6 : decode cX10_workIs 6 = .ok (.istore_n 3, 1) := by decide +kernel
theorem dX10_workIs_7 : decode cX10_workIs 7 = .ok (.iconst 0, 1) := by decide +kernel
theorem dX10_workIs_8 : decode cX10_workIs 8 = .ok (.istore 4, 2) := by decide +kernel
theorem dX10_workIs_10 : decode cX10_workIs 10 = .ok (.iload 4, 2) := by decide +kernel
theorem dX10_workIs_12 : decode cX10_workIs 12 = .ok (.iconst 3, 1) := by decide +kernel
theorem dX10_workIs_13 : decode cX10_workIs 13 = .ok (.if_icmp .ge 44, 3) := by decide +kernel
theorem dX10_workIs_16 : decode cX10_workIs 16 = .ok (.aload_n 0, 1) := by decide +kernel
theorem dX10_workIs_17 : decode cX10_workIs 17 = .ok (.getfield 36, 3) := by decide +kernel
theorem dX10_workIs_20 : decode cX10_workIs 20 = .ok (.iload 4, 2) := by decide +kernel
theorem dX10_workIs_22 : decode cX10_workIs 22 = .ok (.iload 4, 2) := by decide +kernel
theorem dX10_workIs_24 : decode cX10_workIs 24 = .ok (.iload_n 3, 1) := by decide +kernel
theorem dX10_workIs_25 : decode cX10_workIs 25 = .ok (.invokestatic 116, 3) := by decide +kernel
theorem dX10_workIs_28 : decode cX10_workIs 28 = .ok (.if_icmp .ge 21, 3) := by decide +kernel
theorem dX10_workIs_31 : decode cX10_workIs 31 = .ok (.aload_n 0, 1) := by decide +kernel
theorem dX10_workIs_32 : decode cX10_workIs 32 = .ok (.getfield 50, 3) := by decide +kernel
theorem dX10_workIs_35 : decode cX10_workIs 35 = .ok (.ifCond .ne 14, 3) := by decide +kernel
theorem dX10_workIs_38 : decode cX10_workIs 38 = .ok (.aload_n 0, 1) := by decide +kernel
theorem dX10_workIs_39 : decode cX10_workIs 39 = .ok (.aload_n 1, 1) := by decide +kernel
theorem dX10_workIs_40 : decode cX10_workIs 40 = .ok (.iload_n 2, 1) := by decide +kernel
theorem dX10_workIs_41 : decode cX10_workIs 41 = .ok (.iload 4, 2) := by decide +kernel
theorem dX10_workIs_43 : decode cX10_workIs 43 = .ok (.invokevirtual 120, 3) := by decide +kernel
theorem dX10_workIs_46 : decode cX10_workIs 46 = .ok (.goto 4, 3) := by decide +kernel
theorem dX10_workIs_49 : decode cX10_workIs 49 = .ok (.iconst (-1), 1) := by decide +kernel
theorem dX10_workIs_50 : decode cX10_workIs 50 = .ok (.iastore, 1) := by decide +kernel
theorem dX10_workIs_51 : decode cX10_workIs 51 = .ok (.iinc 4 1, 3) := by decide +kernel
theorem dX10_workIs_54 : decode cX10_workIs 54 = .ok (.goto (-44), 3) := by decide +kernel
theorem dX10_workIs_57 : decode cX10_workIs 57 = .ok (.aload_n 0, 1) := by decide +kernel
theorem dX10_workIs_58 : decode cX10_workIs 58 = .ok (.getfield 50, 3) := by decide +kernel
theorem dX10_workIs_61 : decode cX10_workIs 61 = .ok (.ifCond .ne 49, 3) := by decide +kernel
theorem dX10_workIs_64 : decode cX10_workIs 64 = .ok (.aload_n 0, 1) := by decide +kernel
theorem dX10_workIs_65 : decode cX10_workIs 65 = .ok (.getfield 12, 3) := by decide +kernel
theorem dX10_workIs_68 : decode cX10_workIs 68 = .ok (.iload_n 3, 1) := by decide +kernel
theorem dX10_workIs_69 : decode cX10_workIs 69 = .ok (.aload_n 0, 1) := by decide +kernel
theorem dX10_workIs_70 : decode cX10_workIs 70 = .ok (.getfield 36, 3) := by decide +kernel
theorem dX10_workIs_73 : decode cX10_workIs 73 = .ok (.iconst 0, 1) := by decide +kernel
theorem dX10_workIs_74 : decode cX10_workIs 74 = .ok (.iaload, 1) := by decide +kernel
theorem dX10_workIs_75 : decode cX10_workIs 75 = .ok (.aload_n 0, 1) := by decide +kernel
theorem dX10_workIs_76 : decode cX10_workIs 76 = .ok (.getfield 36, 3) := by decide +kernel
theorem dX10_workIs_79 : decode cX10_workIs 79 = .ok (.iconst 1, 1) := by decide +kernel
theorem dX10_workIs_80 : decode cX10_workIs 80 = .ok (.iaload, 1) := by decide +kernel
theorem dX10_workIs_81 : decode cX10_workIs 81 = .ok (.aload_n 0, 1) := by decide +kernel
theorem dX10_workIs_82 : decode cX10_workIs 82 = .ok (.getfield 36, 3) := by decide +kernel
theorem dX10_workIs_85 : decode cX10_workIs 85 = .ok (.iconst 2, 1) := by decide +kernel
theorem dX10_workIs_86 : decode cX10_workIs 86 = .ok (.iaload, 1) := by decide +kernel
theorem dX10_workIs_87 : decode cX10_workIs 87 = .ok (.invokevirtual 124, 3) := by decide +kernel
theorem dX10_workIs_90 : decode cX10_workIs 90 = .ok (.istore 4, 2) := by decide +kernel
theorem dX10_workIs_92 : decode cX10_workIs 92 = .ok (.aload_n 0, 1) := by decide +kernel
theorem dX10_workIs_93 : decode cX10_workIs 93 = .ok (.aload_n 1, 1) := by decide +kernel
theorem dX10_workIs_94 : decode cX10_workIs 94 = .ok (.getfield 76, 3) := by decide +kernel
theorem dX10_workIs_97 : decode cX10_workIs 97 = .ok (.iload_n 2, 1) := by decide +kernel
theorem dX10_workIs_98 : decode cX10_workIs 98 = .ok (.iaload, 1) := by decide +kernel
theorem dX10_workIs_99 : decode cX10_workIs 99 = .ok (.iload 4, 2) := by decide +kernel
theorem dX10_workIs_101 : decode cX10_workIs 101 = .ok (.aload_n 1, 1) := by decide +kernel
theorem dX10_workIs_102 : decode cX10_workIs 102 = .ok (.getfield 128, 3) := by decide +kernel
theorem dX10_workIs_105 : decode cX10_workIs 105 = .ok (.iload_n 2, 1) := by decide +kernel
theorem dX10_workIs_106 : decode cX10_workIs 106 = .ok (.iaload, 1) := by decide +kernel
theorem dX10_workIs_107 : decode cX10_workIs 107 = .ok (.invokevirtual 131, 3) := by decide +kernel
theorem dX10_workIs_110 : decode cX10_workIs 110 = .ok (.return_, 1) := by decide +kernel
theorem dX10_workShow_0 : decode cX10_workShow 0 = .ok (.aload_n 0, 1) := by decide +kernel
theorem dX10_workShow_1 : decode cX10_workShow 1 = .ok (.getfield 12, 3) := by decide +kernel
theorem dX10_workShow_4 : decode cX10_workShow 4 = .ok (.getfield 135, 3) := by decide +kernel
theorem dX10_workShow_7 : decode cX10_workShow 7 = .ok (.bipush 8, 2) := by decide +kernel
theorem dX10_workShow_9 : decode cX10_workShow 9 = .ok (.if_icmp .lt 14, 3) := by decide +kernel
theorem dX10_workShow_12 : decode cX10_workShow 12 = .ok (.aload_n 0, 1) := by decide +kernel
theorem dX10_workShow_13 : decode cX10_workShow 13 = .ok (.aload_n 1, 1) := by decide +kernel
theorem dX10_workShow_14 : decode cX10_workShow 14 = .ok (.getfield 69, 3) := by decide +kernel
theorem dX10_workShow_17 : decode cX10_workShow 17 = .ok (.iload_n 2, 1) := by decide +kernel
theorem dX10_workShow_18 : decode cX10_workShow 18 = .ok (.iaload, 1) := by decide +kernel
theorem dX10_workShow_19 : decode cX10_workShow 19 = .ok (.invokevirtual 72, 3) := by decide +kernel
theorem dX10_workShow_22 : decode cX10_workShow 22 = .ok (.return_, 1) := by decide +kernel
theorem dX10_workShow_23 : decode cX10_workShow 23 = .ok (.aload_n 0, 1) := by decide +kernel
theorem dX10_workShow_24 : decode cX10_workShow 24 = .ok (.aload_n 1, 1) := by decide +kernel
theorem dX10_workShow_25 : decode cX10_workShow 25 = .ok (.iload_n 2, 1) := by decide +kernel
theorem dX10_workShow_26 : decode cX10_workShow 26 = .ok (.iconst 0, 1) := by decide +kernel
theorem dX10_workShow_27 : decode cX10_workShow 27 = .ok (.invokevirtual 120, 3) := by decide +kernel
theorem dX10_workShow_30 : decode cX10_workShow 30 = .ok (.istore_n 3, 1) := by decide +kernel
theorem dX10_workShow_31 : decode cX10_workShow 31 = .ok (.aload_n 0, 1) := by decide +kernel
theorem dX10_workShow_32 : decode cX10_workShow 32 = .ok (.getfield 50, 3) := by decide +kernel
theorem dX10_workShow_35 : decode cX10_workShow 35 = .ok (.ifCond .ne 32, 3) := by decide +kernel
theorem dX10_workShow_38 : decode cX10_workShow 38 = .ok (.aload_n 0, 1) := by decide +kernel
theorem dX10_workShow_39 : decode cX10_workShow 39 = .ok (.getfield 12, 3) := by decide +kernel
theorem dX10_workShow_42 : decode cX10_workShow 42 = .ok (.getfield 138, 3) := by decide +kernel
theorem dX10_workShow_45 : decode cX10_workShow 45 = .ok (.aload_n 0, 1) := by decide +kernel
theorem dX10_workShow_46 : decode cX10_workShow 46 = .ok (.getfield 12, 3) := by decide +kernel
theorem dX10_workShow_49 : decode cX10_workShow 49 = .ok (.getfield 135, 3) := by decide +kernel
theorem dX10_workShow_52 : decode cX10_workShow 52 = .ok (.iload_n 3, 1) := by decide +kernel
theorem dX10_workShow_53 : decode cX10_workShow 53 = .ok (.iastore, 1) := by decide +kernel
theorem dX10_workShow_54 : decode cX10_workShow 54 = .ok (.aload_n 0, 1) := by decide +kernel
theorem dX10_workShow_55 : decode cX10_workShow 55 = .ok (.getfield 12, 3) := by decide +kernel
theorem dX10_workShow_58 : decode cX10_workShow 58 = .ok (.dup, 1) := by decide +kernel
theorem dX10_workShow_59 : decode cX10_workShow 59 = .ok (.getfield 135, 3) := by decide +kernel
theorem dX10_workShow_62 : decode cX10_workShow 62 = .ok (.iconst 1, 1) := by decide +kernel
theorem dX10_workShow_63 : decode cX10_workShow 63 = .ok (.iadd, 1) := by decide +kernel
theorem dX10_workShow_64 : decode cX10_workShow 64 = .ok (.putfield 135, 3) := by decide +kernel
theorem dX10_workShow_67 : decode cX10_workShow 67 = .ok (.return_, 1) := by decide +kernel
theorem dX10_argValue_0 : decode cX10_argValue 0 = .ok (.aload_n 1, 1) := by decide +kernel
theorem dX10_argValue_1 : decode cX10_argValue 1 = .ok (.getfield 141, 3) := by decide +kernel
theorem dX10_argValue_4 : decode cX10_argValue 4 = .ok (.iconst 3, 1) := by decide +kernel
theorem dX10_argValue_5 : decode cX10_argValue 5 = .ok (.iload_n 2, 1) := by decide +kernel
theorem dX10_argValue_6 : decode cX10_argValue 6 = .ok (.imul, 1) := by decide +kernel
theorem dX10_argValue_7 : decode cX10_argValue 7 = .ok (.iload_n 3, 1) := by decide +kernel
theorem dX10_argValue_8 : decode cX10_argValue 8 = .ok (.iadd, 1) := by decide +kernel
theorem dX10_argValue_9 : decode cX10_argValue 9 = .ok (.iaload, 1) := by decide +kernel
theorem dX10_argValue_10 : decode cX10_argValue 10 = .ok (.istore 4, 2) := by decide +kernel
theorem dX10_argValue_12 : decode cX10_argValue 12 = .ok (.iload 4, 2) := by decide +kernel
theorem dX10_argValue_14 : decode cX10_argValue 14 = .ok (.ifCond .lt 11, 3) := by decide +kernel
theorem dX10_argValue_17 : decode cX10_argValue 17 = .ok (.aload_n 0, 1) := by decide +kernel
theorem dX10_argValue_18 : decode cX10_argValue 18 = .ok (.getfield 18, 3) := by decide +kernel
theorem dX10_argValue_21 : decode cX10_argValue 21 = .ok (.iload 4, 2) := by decide +kernel
theorem dX10_argValue_23 : decode cX10_argValue 23 = .ok (.iaload, 1) := by decide +kernel
theorem dX10_argValue_24 : decode cX10_argValue 24 = .ok (.ireturn, 1) := by decide +kernel
theorem dX10_argValue_25 : decode cX10_argValue 25 = .ok (.aload_n 0, 1) := by decide +kernel
theorem dX10_argValue_26 : decode cX10_argValue 26 = .ok (.getfield 12, 3) := by decide +kernel
theorem dX10_argValue_29 : decode cX10_argValue 29 = .ok (.iconst 1, 1) := by decide +kernel
theorem dX10_argValue_30 : decode cX10_argValue 30 = .ok (.iload 4, 2) := by decide +kernel
theorem dX10_argValue_32 : decode cX10_argValue 32 = .ok (.iconst (-1), 1) := by decide +kernel
theorem dX10_argValue_33 : decode cX10_argValue 33 = .ok (.ixor, 1) := by decide +kernel
theorem dX10_argValue_34 : decode cX10_argValue 34 = .ok (.iconst (-1), 1) := by decide +kernel
theorem dX10_argValue_35 : decode cX10_argValue 35 = .ok (.iconst (-1), 1) := by decide +kernel
theorem dX10_argValue_36 : decode cX10_argValue 36 = .ok (.invokevirtual 144, 3) := by decide +kernel
theorem dX10_argValue_39 : decode cX10_argValue 39 = .ok (.istore 5, 2) := by decide +kernel
theorem dX10_argValue_41 : decode cX10_argValue 41 = .ok (.iload 5, 2) := by decide +kernel
theorem dX10_argValue_43 : decode cX10_argValue 43 = .ok (.iconst (-1), 1) := by decide +kernel
theorem dX10_argValue_44 : decode cX10_argValue 44 = .ok (.if_icmp .ne 17, 3) := by decide +kernel
theorem dX10_argValue_47 : decode cX10_argValue 47 = .ok (.aload_n 0, 1) := by decide +kernel
theorem dX10_argValue_48 : decode cX10_argValue 48 = .ok (.aload_n 1, 1) := by decide +kernel
theorem dX10_argValue_49 : decode cX10_argValue 49 = .ok (.getfield 147, 3) := by decide +kernel
theorem dX10_argValue_52 : decode cX10_argValue 52 = .ok (.iconst 3, 1) := by decide +kernel
theorem dX10_argValue_53 : decode cX10_argValue 53 = .ok (.iload_n 2, 1) := by decide +kernel
theorem dX10_argValue_54 : decode cX10_argValue 54 = .ok (.imul, 1) := by decide +kernel
theorem dX10_argValue_55 : decode cX10_argValue 55 = .ok (.iload_n 3, 1) := by decide +kernel
theorem dX10_argValue_56 : decode cX10_argValue 56 = .ok (.iadd, 1) := by decide +kernel
theorem dX10_argValue_57 : decode cX10_argValue 57 = .ok (.iaload, 1) := by decide +kernel
theorem dX10_argValue_58 : decode cX10_argValue 58 = .ok (.invokevirtual 72, 3) := by decide +kernel
theorem dX10_argValue_61 : decode cX10_argValue 61 = .ok (.iload 5, 2) := by decide +kernel
theorem dX10_argValue_63 : decode cX10_argValue 63 = .ok (.ireturn, 1) := by decide +kernel
theorem dX10_keep_0 : decode cX10_keep 0 = .ok (.iload_n 2, 1) := by decide +kernel
theorem dX10_keep_1 : decode cX10_keep 1 = .ok (.iconst (-1), 1) := by decide +kernel
theorem dX10_keep_2 : decode cX10_keep 2 = .ok (.if_icmp .ne 11, 3) := by decide +kernel
theorem dX10_keep_5 : decode cX10_keep 5 = .ok (.aload_n 0, 1) := by decide +kernel
theorem dX10_keep_6 : decode cX10_keep 6 = .ok (.iload_n 3, 1) := by decide +kernel
theorem dX10_keep_7 : decode cX10_keep 7 = .ok (.invokevirtual 72, 3) := by decide +kernel
theorem dX10_keep_10 : decode cX10_keep 10 = .ok (.goto 10, 3) := by decide +kernel
theorem dX10_keep_13 : decode cX10_keep 13 = .ok (.aload_n 0, 1) := by decide +kernel
theorem dX10_keep_14 : decode cX10_keep 14 = .ok (.getfield 18, 3) := by decide +kernel
theorem dX10_keep_17 : decode cX10_keep 17 = .ok (.iload_n 1, 1) := by decide +kernel
theorem dX10_keep_18 : decode cX10_keep 18 = .ok (.iload_n 2, 1) := by decide +kernel
theorem dX10_keep_19 : decode cX10_keep 19 = .ok (.iastore, 1) := by decide +kernel
theorem dX10_keep_20 : decode cX10_keep 20 = .ok (.return_, 1) := by decide +kernel
theorem dX10_beginWhen_0 : decode cX10_beginWhen 0 = .ok (.aload_n 0, 1) := by decide +kernel
theorem dX10_beginWhen_1 : decode cX10_beginWhen 1 = .ok (.aload_n 1, 1) := by decide +kernel
theorem dX10_beginWhen_2 : decode cX10_beginWhen 2 = .ok (.iload_n 2, 1) := by decide +kernel
theorem dX10_beginWhen_3 : decode cX10_beginWhen 3 = .ok (.iconst 0, 1) := by decide +kernel
theorem dX10_beginWhen_4 : decode cX10_beginWhen 4 = .ok (.invokevirtual 120, 3) := by decide +kernel
theorem dX10_beginWhen_7 : decode cX10_beginWhen 7 = .ok (.istore_n 3, 1) := by decide +kernel
theorem dX10_beginWhen_8 : decode cX10_beginWhen 8 = .ok (.iload_n 3, 1) := by decide +kernel
theorem dX10_beginWhen_9 : decode cX10_beginWhen 9 = .ok (.iconst (-1), 1) := by decide +kernel
theorem dX10_beginWhen_10 : decode cX10_beginWhen 10 = .ok (.if_icmp .eq 11, 3) := by decide +kernel
theorem dX10_beginWhen_13 : decode cX10_beginWhen 13 = .ok (.aload_n 0, 1) := by decide +kernel
theorem dX10_beginWhen_14 : decode cX10_beginWhen 14 = .ok (.getfield 43, 3) := by decide +kernel
theorem dX10_beginWhen_17 : decode cX10_beginWhen 17 = .ok (.iconst 4, 1) := by decide +kernel
theorem dX10_beginWhen_18 : decode cX10_beginWhen 18 = .ok (.if_icmp .lt 4, 3) := by decide +kernel
theorem dX10_beginWhen_21 : decode cX10_beginWhen 21 = .ok (.return_, 1) := by decide +kernel
theorem dX10_beginWhen_22 : decode cX10_beginWhen 22 = .ok (.aload_n 0, 1) := by decide +kernel
theorem dX10_beginWhen_23 : decode cX10_beginWhen 23 = .ok (.getfield 30, 3) := by decide +kernel
theorem dX10_beginWhen_26 : decode cX10_beginWhen 26 = .ok (.aload_n 0, 1) := by decide +kernel
theorem dX10_beginWhen_27 : decode cX10_beginWhen 27 = .ok (.getfield 43, 3) := by decide +kernel
theorem dX10_beginWhen_30 : decode cX10_beginWhen 30 = .ok (.iload_n 3, 1) := by decide +kernel
theorem dX10_beginWhen_31 : decode cX10_beginWhen 31 = .ok (.iastore, 1) := by decide +kernel
theorem dX10_beginWhen_32 : decode cX10_beginWhen 32 = .ok (.aload_n 0, 1) := by decide +kernel
theorem dX10_beginWhen_33 : decode cX10_beginWhen 33 = .ok (.getfield 12, 3) := by decide +kernel
theorem dX10_beginWhen_36 : decode cX10_beginWhen 36 = .ok (.getfield 150, 3) := by decide +kernel
theorem dX10_beginWhen_39 : decode cX10_beginWhen 39 = .ok (.iload_n 3, 1) := by decide +kernel
theorem dX10_beginWhen_40 : decode cX10_beginWhen 40 = .ok (.baload, 1) := by decide +kernel
theorem dX10_beginWhen_41 : decode cX10_beginWhen 41 = .ok (.ifCond .ne 18, 3) := by decide +kernel
theorem dX10_beginWhen_44 : decode cX10_beginWhen 44 = .ok (.aload_n 0, 1) := by decide +kernel
theorem dX10_beginWhen_45 : decode cX10_beginWhen 45 = .ok (.getfield 12, 3) := by decide +kernel
theorem dX10_beginWhen_48 : decode cX10_beginWhen 48 = .ok (.getfield 154, 3) := by decide +kernel
theorem dX10_beginWhen_51 : decode cX10_beginWhen 51 = .ok (.aload_n 1, 1) := by decide +kernel
theorem dX10_beginWhen_52 : decode cX10_beginWhen 52 = .ok (.getfield 79, 3) := by decide +kernel
theorem dX10_beginWhen_55 : decode cX10_beginWhen 55 = .ok (.iload_n 2, 1) := by decide +kernel
theorem dX10_beginWhen_56 : decode cX10_beginWhen 56 = .ok (.iaload, 1) := by decide +kernel
theorem dX10_beginWhen_57 : decode cX10_beginWhen 57 = .ok (.iconst 1, 1) := by decide +kernel
theorem dX10_beginWhen_58 : decode cX10_beginWhen 58 = .ok (.bastore, 1) := by decide +kernel
theorem dX10_beginWhen_59 : decode cX10_beginWhen 59 = .ok (.aload_n 0, 1) := by decide +kernel
theorem dX10_beginWhen_60 : decode cX10_beginWhen 60 = .ok (.getfield 18, 3) := by decide +kernel
theorem dX10_beginWhen_63 : decode cX10_beginWhen 63 = .ok (.iconst 0, 1) := by decide +kernel
theorem dX10_beginWhen_64 : decode cX10_beginWhen 64 = .ok (.aload_n 0, 1) := by decide +kernel
theorem dX10_beginWhen_65 : decode cX10_beginWhen 65 = .ok (.getfield 24, 3) := by decide +kernel
theorem dX10_beginWhen_68 : decode cX10_beginWhen 68 = .ok (.aload_n 0, 1) := by decide +kernel
theorem dX10_beginWhen_69 : decode cX10_beginWhen 69 = .ok (.getfield 43, 3) := by decide +kernel
theorem dX10_beginWhen_72 : decode cX10_beginWhen 72 = .ok (.aaload, 1) := by decide +kernel
theorem dX10_beginWhen_73 : decode cX10_beginWhen 73 = .ok (.iconst 0, 1) := by decide +kernel
theorem dX10_beginWhen_74 : decode cX10_beginWhen 74 = .ok (.bipush 20, 2) := by decide +kernel
theorem dX10_beginWhen_76 : decode cX10_beginWhen 76 = .ok (.invokestatic 107, 3) := by decide +kernel
theorem dX10_beginWhen_79 : decode cX10_beginWhen 79 = .ok (.aload_n 0, 1) := by decide +kernel
theorem dX10_beginWhen_80 : decode cX10_beginWhen 80 = .ok (.dup, 1) := by decide +kernel
theorem dX10_beginWhen_81 : decode cX10_beginWhen 81 = .ok (.getfield 43, 3) := by decide +kernel
theorem dX10_beginWhen_84 : decode cX10_beginWhen 84 = .ok (.iconst 1, 1) := by decide +kernel
theorem dX10_beginWhen_85 : decode cX10_beginWhen 85 = .ok (.iadd, 1) := by decide +kernel
theorem dX10_beginWhen_86 : decode cX10_beginWhen 86 = .ok (.putfield 43, 3) := by decide +kernel
theorem dX10_beginWhen_89 : decode cX10_beginWhen 89 = .ok (.return_, 1) := by decide +kernel
theorem dX10_endTimes_0 : decode cX10_endTimes 0 = .ok (.aload_n 0, 1) := by decide +kernel
theorem dX10_endTimes_1 : decode cX10_endTimes 1 = .ok (.getfield 43, 3) := by decide +kernel
theorem dX10_endTimes_4 : decode cX10_endTimes 4 = .ok (.ifCond .ne 7, 3) := by decide +kernel
theorem dX10_endTimes_7 : decode cX10_endTimes 7 = .ok (.iload_n 2, 1) := by decide +kernel
theorem dX10_endTimes_8 : decode cX10_endTimes 8 = .ok (.iconst 1, 1) := by decide +kernel
theorem dX10_endTimes_9 : decode cX10_endTimes 9 = .ok (.iadd, 1) := by decide +kernel
theorem dX10_endTimes_10 : decode cX10_endTimes 10 = .ok (.ireturn, 1) := by decide +kernel
theorem dX10_endTimes_11 : decode cX10_endTimes 11 = .ok (.aload_n 0, 1) := by decide +kernel
theorem dX10_endTimes_12 : decode cX10_endTimes 12 = .ok (.getfield 33, 3) := by decide +kernel
theorem dX10_endTimes_15 : decode cX10_endTimes 15 = .ok (.aload_n 0, 1) := by decide +kernel
theorem dX10_endTimes_16 : decode cX10_endTimes 16 = .ok (.getfield 43, 3) := by decide +kernel
theorem dX10_endTimes_19 : decode cX10_endTimes 19 = .ok (.iconst 1, 1) := by decide +kernel
theorem dX10_endTimes_20 : decode cX10_endTimes 20 = .ok (.isub, 1) := by decide +kernel
theorem dX10_endTimes_21 : decode cX10_endTimes 21 = .ok (.dup2, 1) := by decide +kernel
theorem dX10_endTimes_22 : decode cX10_endTimes 22 = .ok (.iaload, 1) := by decide +kernel
theorem dX10_endTimes_23 : decode cX10_endTimes 23 = .ok (.iconst 1, 1) := by decide +kernel
theorem dX10_endTimes_24 : decode cX10_endTimes 24 = .ok (.isub, 1) := by decide +kernel
theorem dX10_endTimes_25 : decode cX10_endTimes 25 = .ok (.iastore, 1) := by decide +kernel
theorem dX10_endTimes_26 : decode cX10_endTimes 26 = .ok (.aload_n 0, 1) := by decide +kernel
theorem dX10_endTimes_27 : decode cX10_endTimes 27 = .ok (.getfield 33, 3) := by decide +kernel
theorem dX10_endTimes_30 : decode cX10_endTimes 30 = .ok (.aload_n 0, 1) := by decide +kernel
theorem dX10_endTimes_31 : decode cX10_endTimes 31 = .ok (.getfield 43, 3) := by decide +kernel
theorem dX10_endTimes_34 : decode cX10_endTimes 34 = .ok (.iconst 1, 1) := by decide +kernel
theorem dX10_endTimes_35 : decode cX10_endTimes 35 = .ok (.isub, 1) := by decide +kernel
theorem dX10_endTimes_36 : decode cX10_endTimes 36 = .ok (.iaload, 1) := by decide +kernel
theorem dX10_endTimes_37 : decode cX10_endTimes 37 = .ok (.ifCond .le 12, 3) := by decide +kernel
theorem dX10_endTimes_40 : decode cX10_endTimes 40 = .ok (.aload_n 1, 1) := by decide +kernel
theorem dX10_endTimes_41 : decode cX10_endTimes 41 = .ok (.getfield 157, 3) := by decide +kernel
theorem dX10_endTimes_44 : decode cX10_endTimes 44 = .ok (.iload_n 2, 1) := by decide +kernel
theorem dX10_endTimes_45 : decode cX10_endTimes 45 = .ok (.iaload, 1) := by decide +kernel
theorem dX10_endTimes_46 : decode cX10_endTimes 46 = .ok (.iconst 1, 1) := by decide +kernel
theorem dX10_endTimes_47 : decode cX10_endTimes 47 = .ok (.iadd, 1) := by decide +kernel
theorem dX10_endTimes_48 : decode cX10_endTimes 48 = .ok (.ireturn, 1) := by decide +kernel
theorem dX10_endTimes_49 : decode cX10_endTimes 49 = .ok (.aload_n 0, 1) := by decide +kernel
theorem dX10_endTimes_50 : decode cX10_endTimes 50 = .ok (.dup, 1) := by decide +kernel
theorem dX10_endTimes_51 : decode cX10_endTimes 51 = .ok (.getfield 43, 3) := by decide +kernel
theorem dX10_endTimes_54 : decode cX10_endTimes 54 = .ok (.iconst 1, 1) := by decide +kernel
theorem dX10_endTimes_55 : decode cX10_endTimes 55 = .ok (.isub, 1) := by decide +kernel
theorem dX10_endTimes_56 : decode cX10_endTimes 56 = .ok (.putfield 43, 3) := by decide +kernel
theorem dX10_endTimes_59 : decode cX10_endTimes 59 = .ok (.iload_n 2, 1) := by decide +kernel
theorem dX10_endTimes_60 : decode cX10_endTimes 60 = .ok (.iconst 1, 1) := by decide +kernel
theorem dX10_endTimes_61 : decode cX10_endTimes 61 = .ok (.iadd, 1) := by decide +kernel
theorem dX10_endTimes_62 : decode cX10_endTimes 62 = .ok (.ireturn, 1) := by decide +kernel
theorem dX10_endWhen_0 : decode cX10_endWhen 0 = .ok (.aload_n 1, 1) := by decide +kernel
theorem dX10_endWhen_1 : decode cX10_endWhen 1 = .ok (.getfield 157, 3) := by decide +kernel
theorem dX10_endWhen_4 : decode cX10_endWhen 4 = .ok (.iload_n 2, 1) := by decide +kernel
theorem dX10_endWhen_5 : decode cX10_endWhen 5 = .ok (.iaload, 1) := by decide +kernel
theorem dX10_endWhen_6 : decode cX10_endWhen 6 = .ok (.istore_n 3, 1) := by decide +kernel
theorem dX10_endWhen_7 : decode cX10_endWhen 7 = .ok (.aload_n 0, 1) := by decide +kernel
theorem dX10_endWhen_8 : decode cX10_endWhen 8 = .ok (.getfield 43, 3) := by decide +kernel
theorem dX10_endWhen_11 : decode cX10_endWhen 11 = .ok (.ifCond .eq 7, 3) := by decide +kernel
theorem dX10_endWhen_14 : decode cX10_endWhen 14 = .ok (.iload_n 3, 1) := by decide +kernel
theorem dX10_endWhen_15 : decode cX10_endWhen 15 = .ok (.ifCond .ge 7, 3) := by decide +kernel
theorem dX10_endWhen_18 : decode cX10_endWhen 18 = .ok (.iload_n 2, 1) := by decide +kernel
theorem dX10_endWhen_19 : decode cX10_endWhen 19 = .ok (.iconst 1, 1) := by decide +kernel
theorem dX10_endWhen_20 : decode cX10_endWhen 20 = .ok (.iadd, 1) := by decide +kernel
theorem dX10_endWhen_21 : decode cX10_endWhen 21 = .ok (.ireturn, 1) := by decide +kernel
theorem dX10_endWhen_22 : decode cX10_endWhen 22 = .ok (.aload_n 0, 1) := by decide +kernel
theorem dX10_endWhen_23 : decode cX10_endWhen 23 = .ok (.dup, 1) := by decide +kernel
theorem dX10_endWhen_24 : decode cX10_endWhen 24 = .ok (.getfield 43, 3) := by decide +kernel
theorem dX10_endWhen_27 : decode cX10_endWhen 27 = .ok (.iconst 1, 1) := by decide +kernel
theorem dX10_endWhen_28 : decode cX10_endWhen 28 = .ok (.isub, 1) := by decide +kernel
theorem dX10_endWhen_29 : decode cX10_endWhen 29 = .ok (.putfield 43, 3) := by decide +kernel
theorem dX10_endWhen_32 : decode cX10_endWhen 32 = .ok (.aload_n 1, 1) := by decide +kernel
theorem dX10_endWhen_33 : decode cX10_endWhen 33 = .ok (.iload_n 3, 1) := by decide +kernel
theorem dX10_endWhen_34 : decode cX10_endWhen 34 = .ok (.invokevirtual 160, 3) := by decide +kernel
theorem dX10_endWhen_37 : decode cX10_endWhen 37 = .ok (.ifCond .ne 11, 3) := by decide +kernel
theorem dX10_endWhen_40 : decode cX10_endWhen 40 = .ok (.aload_n 0, 1) := by decide +kernel
theorem dX10_endWhen_41 : decode cX10_endWhen 41 = .ok (.aload_n 0, 1) := by decide +kernel
theorem dX10_endWhen_42 : decode cX10_endWhen 42 = .ok (.getfield 43, 3) := by decide +kernel
theorem dX10_endWhen_45 : decode cX10_endWhen 45 = .ok (.invokevirtual 91, 3) := by decide +kernel
theorem dX10_endWhen_48 : decode cX10_endWhen 48 = .ok (.iconst 0, 1) := by decide +kernel
theorem dX10_endWhen_49 : decode cX10_endWhen 49 = .ok (.istore 4, 2) := by decide +kernel
theorem dX10_endWhen_51 : decode cX10_endWhen 51 = .ok (.iload 4, 2) := by decide +kernel
theorem dX10_endWhen_53 : decode cX10_endWhen 53 = .ok (.aload_n 1, 1) := by decide +kernel
theorem dX10_endWhen_54 : decode cX10_endWhen 54 = .ok (.getfield 76, 3) := by decide +kernel
theorem dX10_endWhen_57 : decode cX10_endWhen 57 = .ok (.iload_n 3, 1) := by decide +kernel
theorem dX10_endWhen_58 : decode cX10_endWhen 58 = .ok (.iaload, 1) := by decide +kernel
theorem dX10_endWhen_59 : decode cX10_endWhen 59 = .ok (.if_icmp .ge 69, 3) := by decide +kernel
theorem dX10_endWhen_62 : decode cX10_endWhen 62 = .ok (.aload_n 0, 1) := by decide +kernel
theorem dX10_endWhen_63 : decode cX10_endWhen 63 = .ok (.getfield 50, 3) := by decide +kernel
theorem dX10_endWhen_66 : decode cX10_endWhen 66 = .ok (.ifCond .ne 62, 3) := by decide +kernel
theorem dX10_endWhen_69 : decode cX10_endWhen 69 = .ok (.aload_n 0, 1) := by decide +kernel
theorem dX10_endWhen_70 : decode cX10_endWhen 70 = .ok (.getfield 12, 3) := by decide +kernel
theorem dX10_endWhen_73 : decode cX10_endWhen 73 = .ok (.bipush 13, 2) := by decide +kernel
theorem dX10_endWhen_75 : decode cX10_endWhen 75 = .ok (.aload_n 0, 1) := by decide +kernel
theorem dX10_endWhen_76 : decode cX10_endWhen 76 = .ok (.getfield 30, 3) := by decide +kernel
theorem dX10_endWhen_79 : decode cX10_endWhen 79 = .ok (.aload_n 0, 1) := by decide +kernel
theorem dX10_endWhen_80 : decode cX10_endWhen 80 = .ok (.getfield 43, 3) := by decide +kernel
theorem dX10_endWhen_83 : decode cX10_endWhen 83 = .ok (.iaload, 1) := by decide +kernel
theorem dX10_endWhen_84 : decode cX10_endWhen 84 = .ok (.aload_n 0, 1) := by decide +kernel
theorem dX10_endWhen_85 : decode cX10_endWhen 85 = .ok (.getfield 27, 3) := by decide +kernel
theorem dX10_endWhen_88 : decode cX10_endWhen 88 = .ok (.aload_n 0, 1) := by decide +kernel
theorem dX10_endWhen_89 : decode cX10_endWhen 89 = .ok (.getfield 43, 3) := by decide +kernel
theorem dX10_endWhen_92 : decode cX10_endWhen 92 = .ok (.aaload, 1) := by decide +kernel
theorem dX10_endWhen_93 : decode cX10_endWhen 93 = .ok (.iload 4, 2) := by decide +kernel
theorem dX10_endWhen_95 : decode cX10_endWhen 95 = .ok (.iaload, 1) := by decide +kernel
theorem dX10_endWhen_96 : decode cX10_endWhen 96 = .ok (.aload_n 0, 1) := by decide +kernel
theorem dX10_endWhen_97 : decode cX10_endWhen 97 = .ok (.getfield 18, 3) := by decide +kernel
theorem dX10_endWhen_100 : decode cX10_endWhen 100 = .ok (.iload 4, 2) := by decide +kernel
theorem dX10_endWhen_102 : decode cX10_endWhen 102 = .ok (.iaload, 1) := by decide +kernel
theorem dX10_endWhen_103 : decode cX10_endWhen 103 = .ok (.invokevirtual 124, 3) := by decide +kernel
theorem dX10_endWhen_106 : decode cX10_endWhen 106 = .ok (.istore 5, 2) := by decide +kernel
theorem dX10_endWhen_108 : decode cX10_endWhen 108 = .ok (.aload_n 0, 1) := by decide +kernel
theorem dX10_endWhen_109 : decode cX10_endWhen 109 = .ok (.iload 4, 2) := by decide +kernel
theorem dX10_endWhen_111 : decode cX10_endWhen 111 = .ok (.iload 5, 2) := by decide +kernel
theorem dX10_endWhen_113 : decode cX10_endWhen 113 = .ok (.aload_n 1, 1) := by decide +kernel
theorem dX10_endWhen_114 : decode cX10_endWhen 114 = .ok (.getfield 69, 3) := by decide +kernel
theorem dX10_endWhen_117 : decode cX10_endWhen 117 = .ok (.iload_n 2, 1) := by decide +kernel
theorem dX10_endWhen_118 : decode cX10_endWhen 118 = .ok (.iaload, 1) := by decide +kernel
theorem dX10_endWhen_119 : decode cX10_endWhen 119 = .ok (.invokevirtual 131, 3) := by decide +kernel
theorem dX10_endWhen_122 : decode cX10_endWhen 122 = .ok (.iinc 4 1, 3) := by decide +kernel
theorem dX10_endWhen_125 : decode cX10_endWhen 125 = .ok (.goto (-74), 3) := by decide +kernel
theorem dX10_endWhen_128 : decode cX10_endWhen 128 = .ok (.iload_n 2, 1) := by decide +kernel
theorem dX10_endWhen_129 : decode cX10_endWhen 129 = .ok (.iconst 1, 1) := by decide +kernel
theorem dX10_endWhen_130 : decode cX10_endWhen 130 = .ok (.iadd, 1) := by decide +kernel
theorem dX10_endWhen_131 : decode cX10_endWhen 131 = .ok (.ireturn, 1) := by decide +kernel
theorem dX11_init_0 : decode cX11_init 0 = .ok (.aload_n 0, 1) := by decide +kernel
theorem dX11_init_1 : decode cX11_init 1 = .ok (.invokespecial 5, 3) := by decide +kernel
theorem dX11_init_4 : decode cX11_init 4 = .ok (.aload_n 0, 1) := by decide +kernel
theorem dX11_init_5 : decode cX11_init 5 = .ok (.new 11, 3) := by decide +kernel
theorem dX11_init_8 : decode cX11_init 8 = .ok (.dup, 1) := by decide +kernel
theorem dX11_init_9 : decode cX11_init 9 = .ok (.invokespecial 13, 3) := by decide +kernel
theorem dX11_init_12 : decode cX11_init 12 = .ok (.putfield 14, 3) := by decide +kernel
theorem dX11_init_15 : decode cX11_init 15 = .ok (.aload_n 0, 1) := by decide +kernel
theorem dX11_init_16 : decode cX11_init 16 = .ok (.new 18, 3) := by decide +kernel
theorem dX11_init_19 : decode cX11_init 19 = .ok (.dup, 1) := by decide +kernel
theorem dX11_init_20 : decode cX11_init 20 = .ok (.aload_n 0, 1) := by decide +kernel
theorem dX11_init_21 : decode cX11_init 21 = .ok (.getfield 14, 3) := by decide +kernel
theorem dX11_init_24 : decode cX11_init 24 = .ok (.invokespecial 20, 3) := by decide +kernel
theorem dX11_init_27 : decode cX11_init 27 = .ok (.putfield 23, 3) := by decide +kernel
theorem dX11_init_30 : decode cX11_init 30 = .ok (.aload_n 0, 1) := by decide +kernel
theorem dX11_init_31 : decode cX11_init 31 = .ok (.new 27, 3) := by decide +kernel
theorem dX11_init_34 : decode cX11_init 34 = .ok (.dup, 1) := by decide +kernel
theorem dX11_init_35 : decode cX11_init 35 = .ok (.invokespecial 29, 3) := by decide +kernel
theorem dX11_init_38 : decode cX11_init 38 = .ok (.putfield 30, 3) := by decide +kernel
theorem dX11_init_41 : decode cX11_init 41 = .ok (.aload_n 0, 1) := by decide +kernel
theorem dX11_init_42 : decode cX11_init 42 = .ok (.new 34, 3) := by decide +kernel
theorem dX11_init_45 : decode cX11_init 45 = .ok (.dup, 1) := by decide +kernel
theorem dX11_init_46 : decode cX11_init 46 = .ok (.invokespecial 36, 3) := by decide +kernel
theorem dX11_init_49 : decode cX11_init 49 = .ok (.putfield 37, 3) := by decide +kernel
theorem dX11_init_52 : decode cX11_init 52 = .ok (.aload_n 0, 1) := by decide +kernel
theorem dX11_init_53 : decode cX11_init 53 = .ok (.new 41, 3) := by decide +kernel
theorem dX11_init_56 : decode cX11_init 56 = .ok (.dup, 1) := by decide +kernel
theorem dX11_init_57 : decode cX11_init 57 = .ok (.invokespecial 43, 3) := by decide +kernel
theorem dX11_init_60 : decode cX11_init 60 = .ok (.putfield 44, 3) := by decide +kernel
theorem dX11_init_63 : decode cX11_init 63 = .ok (.aload_n 0, 1) := by decide +kernel
theorem dX11_init_64 : decode cX11_init 64 = .ok (.new 48, 3) := by decide +kernel
theorem dX11_init_67 : decode cX11_init 67 = .ok (.dup, 1) := by decide +kernel
theorem dX11_init_68 : decode cX11_init 68 = .ok (.aload_n 0, 1) := by decide +kernel
theorem dX11_init_69 : decode cX11_init 69 = .ok (.getfield 44, 3) := by decide +kernel
theorem dX11_init_72 : decode cX11_init 72 = .ok (.invokespecial 50, 3) := by decide +kernel
theorem dX11_init_75 : decode cX11_init 75 = .ok (.putfield 53, 3) := by decide +kernel
theorem dX11_init_78 : decode cX11_init 78 = .ok (.aload_n 0, 1) := by decide +kernel
theorem dX11_init_79 : decode cX11_init 79 = .ok (.new 57, 3) := by decide +kernel
theorem dX11_init_82 : decode cX11_init 82 = .ok (.dup, 1) := by decide +kernel
theorem dX11_init_83 : decode cX11_init 83 = .ok (.aload_n 0, 1) := by decide +kernel
theorem dX11_init_84 : decode cX11_init 84 = .ok (.getfield 37, 3) := by decide +kernel
