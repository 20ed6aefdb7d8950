theorem dX12_takeArg_73 : decode cX12_takeArg 73 = .ok (.iconst 2, 1) := by decide +kernel
theorem dX12_takeArg_74 : decode cX12_takeArg 74 = .ok (.invokevirtual 66, 3) := by decide +kernel
theorem dX12_takeArg_77 : decode cX12_takeArg 77 = .ok (.aload_n 0, 1) := by decide +kernel
theorem dX12_takeArg_78 : decode cX12_takeArg 78 = .ok (.iload_n 3, 1) := by decide +kernel
theorem dX12_takeArg_79 : decode cX12_takeArg 79 = .ok (.ifCond .ne 8, 3) := by decide +kernel
theorem dX12_takeArg_82 : decode cX12_takeArg 82 = .ok (.iload 4, 2) := by decide +kernel
theorem dX12_takeArg_84 : decode cX12_takeArg 84 = .ok (.ifCond .ge 7, 3) := by decide +kernel
theorem dX12_takeArg_87 : decode cX12_takeArg 87 = .ok (.iconst 0, 1) := by decide +kernel
theorem dX12_takeArg_88 : decode cX12_takeArg 88 = .ok (.goto 13, 3) := by decide +kernel
theorem dX12_takeArg_91 : decode cX12_takeArg 91 = .ok (.aload_n 0, 1) := by decide +kernel
theorem dX12_takeArg_92 : decode cX12_takeArg 92 = .ok (.getfield 135, 3) := by decide +kernel
theorem dX12_takeArg_95 : decode cX12_takeArg 95 = .ok (.iload 4, 2) := by decide +kernel
theorem dX12_takeArg_97 : decode cX12_takeArg 97 = .ok (.iaload, 1) := by decide +kernel
theorem dX12_takeArg_98 : decode cX12_takeArg 98 = .ok (.invokestatic 260, 3) := by decide +kernel
theorem dX12_takeArg_101 : decode cX12_takeArg 101 = .ok (.putfield 263, 3) := by decide +kernel
theorem dX12_takeArg_104 : decode cX12_takeArg 104 = .ok (.iload_n 2, 1) := by decide +kernel
theorem dX12_takeArg_105 : decode cX12_takeArg 105 = .ok (.iconst 3, 1) := by decide +kernel
theorem dX12_takeArg_106 : decode cX12_takeArg 106 = .ok (.if_icmp .eq 17, 3) := by decide +kernel
theorem dX12_takeArg_109 : decode cX12_takeArg 109 = .ok (.aload_n 0, 1) := by decide +kernel
theorem dX12_takeArg_110 : decode cX12_takeArg 110 = .ok (.getfield 263, 3) := by decide +kernel
theorem dX12_takeArg_113 : decode cX12_takeArg 113 = .ok (.iload_n 2, 1) := by decide +kernel
theorem dX12_takeArg_114 : decode cX12_takeArg 114 = .ok (.if_icmp .eq 9, 3) := by decide +kernel
theorem dX12_takeArg_117 : decode cX12_takeArg 117 = .ok (.aload_n 0, 1) := by decide +kernel
theorem dX12_takeArg_118 : decode cX12_takeArg 118 = .ok (.bipush 6, 2) := by decide +kernel
theorem dX12_takeArg_120 : decode cX12_takeArg 120 = .ok (.invokevirtual 66, 3) := by decide +kernel
theorem dX12_takeArg_123 : decode cX12_takeArg 123 = .ok (.aload_n 0, 1) := by decide +kernel
theorem dX12_takeArg_124 : decode cX12_takeArg 124 = .ok (.getfield 57, 3) := by decide +kernel
theorem dX12_takeArg_127 : decode cX12_takeArg 127 = .ok (.ifCond .le 4, 3) := by decide +kernel
theorem dX12_takeArg_130 : decode cX12_takeArg 130 = .ok (.return_, 1) := by decide +kernel
theorem dX12_takeArg_131 : decode cX12_takeArg 131 = .ok (.aload_n 0, 1) := by decide +kernel
theorem dX12_takeArg_132 : decode cX12_takeArg 132 = .ok (.getfield 129, 3) := by decide +kernel
theorem dX12_takeArg_135 : decode cX12_takeArg 135 = .ok (.iload_n 1, 1) := by decide +kernel
theorem dX12_takeArg_136 : decode cX12_takeArg 136 = .ok (.iload_n 3, 1) := by decide +kernel
theorem dX12_takeArg_137 : decode cX12_takeArg 137 = .ok (.ifCond .eq 16, 3) := by decide +kernel
theorem dX12_takeArg_140 : decode cX12_takeArg 140 = .ok (.aload_n 0, 1) := by decide +kernel
theorem dX12_takeArg_141 : decode cX12_takeArg 141 = .ok (.getfield 46, 3) := by decide +kernel
theorem dX12_takeArg_144 : decode cX12_takeArg 144 = .ok (.aload_n 0, 1) := by decide +kernel
theorem dX12_takeArg_145 : decode cX12_takeArg 145 = .ok (.getfield 54, 3) := by decide +kernel
theorem dX12_takeArg_148 : decode cX12_takeArg 148 = .ok (.laload, 1) := by decide +kernel
theorem dX12_takeArg_149 : decode cX12_takeArg 149 = .ok (.l2i, 1) := by decide +kernel
theorem dX12_takeArg_150 : decode cX12_takeArg 150 = .ok (.goto 7, 3) := by decide +kernel
theorem dX12_takeArg_153 : decode cX12_takeArg 153 = .ok (.iconst (-1), 1) := by decide +kernel
theorem dX12_takeArg_154 : decode cX12_takeArg 154 = .ok (.iload 4, 2) := by decide +kernel
theorem dX12_takeArg_156 : decode cX12_takeArg 156 = .ok (.isub, 1) := by decide +kernel
theorem dX12_takeArg_157 : decode cX12_takeArg 157 = .ok (.iastore, 1) := by decide +kernel
theorem dX12_takeArg_158 : decode cX12_takeArg 158 = .ok (.aload_n 0, 1) := by decide +kernel
theorem dX12_takeArg_159 : decode cX12_takeArg 159 = .ok (.getfield 129, 3) := by decide +kernel
theorem dX12_takeArg_162 : decode cX12_takeArg 162 = .ok (.iload_n 1, 1) := by decide +kernel
theorem dX12_takeArg_163 : decode cX12_takeArg 163 = .ok (.iconst 1, 1) := by decide +kernel
theorem dX12_takeArg_164 : decode cX12_takeArg 164 = .ok (.iadd, 1) := by decide +kernel
theorem dX12_takeArg_165 : decode cX12_takeArg 165 = .ok (.aload_n 0, 1) := by decide +kernel
theorem dX12_takeArg_166 : decode cX12_takeArg 166 = .ok (.getfield 36, 3) := by decide +kernel
theorem dX12_takeArg_169 : decode cX12_takeArg 169 = .ok (.aload_n 0, 1) := by decide +kernel
theorem dX12_takeArg_170 : decode cX12_takeArg 170 = .ok (.getfield 54, 3) := by decide +kernel
theorem dX12_takeArg_173 : decode cX12_takeArg 173 = .ok (.iaload, 1) := by decide +kernel
theorem dX12_takeArg_174 : decode cX12_takeArg 174 = .ok (.iastore, 1) := by decide +kernel
theorem dX12_takeArg_175 : decode cX12_takeArg 175 = .ok (.aload_n 0, 1) := by decide +kernel
theorem dX12_takeArg_176 : decode cX12_takeArg 176 = .ok (.dup, 1) := by decide +kernel
theorem dX12_takeArg_177 : decode cX12_takeArg 177 = .ok (.getfield 54, 3) := by decide +kernel
theorem dX12_takeArg_180 : decode cX12_takeArg 180 = .ok (.iconst 1, 1) := by decide +kernel
theorem dX12_takeArg_181 : decode cX12_takeArg 181 = .ok (.iadd, 1) := by decide +kernel
theorem dX12_takeArg_182 : decode cX12_takeArg 182 = .ok (.putfield 54, 3) := by decide +kernel
theorem dX12_takeArg_185 : decode cX12_takeArg 185 = .ok (.return_, 1) := by decide +kernel
theorem dX12_makesFlag_0 : decode cX12_makesFlag 0 = .ok (.iload_n 0, 1) := by decide +kernel
theorem dX12_makesFlag_1 : decode cX12_makesFlag 1 = .ok (.bipush 8, 2) := by decide +kernel
theorem dX12_makesFlag_3 : decode cX12_makesFlag 3 = .ok (.if_icmp .lt 13, 3) := by decide +kernel
theorem dX12_makesFlag_6 : decode cX12_makesFlag 6 = .ok (.iload_n 0, 1) := by decide +kernel
theorem dX12_makesFlag_7 : decode cX12_makesFlag 7 = .ok (.bipush 12, 2) := by decide +kernel
theorem dX12_makesFlag_9 : decode cX12_makesFlag 9 = .ok (.if_icmp .gt 7, 3) := by decide +kernel
theorem dX12_makesFlag_12 : decode cX12_makesFlag 12 = .ok (.iconst 1, 1) := by decide +kernel
theorem dX12_makesFlag_13 : decode cX12_makesFlag 13 = .ok (.goto 4, 3) := by decide +kernel
theorem dX12_makesFlag_16 : decode cX12_makesFlag 16 = .ok (.iconst 0, 1) := by decide +kernel
theorem dX12_makesFlag_17 : decode cX12_makesFlag 17 = .ok (.ireturn, 1) := by decide +kernel
theorem dX12_argsOf_0 : decode cX12_argsOf 0 = .ok (.iload_n 0, 1) := by decide +kernel
theorem dX12_argsOf_1 : decode cX12_argsOf 1 = .ok (.bipush 7, 2) := by decide +kernel
theorem dX12_argsOf_3 : decode cX12_argsOf 3 = .ok (.if_icmp .eq 15, 3) := by decide +kernel
theorem dX12_argsOf_6 : decode cX12_argsOf 6 = .ok (.iload_n 0, 1) := by decide +kernel
theorem dX12_argsOf_7 : decode cX12_argsOf 7 = .ok (.bipush 12, 2) := by decide +kernel
theorem dX12_argsOf_9 : decode cX12_argsOf 9 = .ok (.if_icmp .eq 9, 3) := by decide +kernel
theorem dX12_argsOf_12 : decode cX12_argsOf 12 = .ok (.iload_n 0, 1) := by decide +kernel
theorem dX12_argsOf_13 : decode cX12_argsOf 13 = .ok (.bipush 14, 2) := by decide +kernel
theorem dX12_argsOf_15 : decode cX12_argsOf 15 = .ok (.if_icmp .ne 7, 3) := by decide +kernel
theorem dX12_argsOf_18 : decode cX12_argsOf 18 = .ok (.iconst 1, 1) := by decide +kernel
theorem dX12_argsOf_19 : decode cX12_argsOf 19 = .ok (.goto 14, 3) := by decide +kernel
theorem dX12_argsOf_22 : decode cX12_argsOf 22 = .ok (.iload_n 0, 1) := by decide +kernel
theorem dX12_argsOf_23 : decode cX12_argsOf 23 = .ok (.bipush 13, 2) := by decide +kernel
theorem dX12_argsOf_25 : decode cX12_argsOf 25 = .ok (.if_icmp .ne 7, 3) := by decide +kernel
theorem dX12_argsOf_28 : decode cX12_argsOf 28 = .ok (.iconst 3, 1) := by decide +kernel
theorem dX12_argsOf_29 : decode cX12_argsOf 29 = .ok (.goto 4, 3) := by decide +kernel
theorem dX12_argsOf_32 : decode cX12_argsOf 32 = .ok (.iconst 2, 1) := by decide +kernel
theorem dX12_argsOf_33 : decode cX12_argsOf 33 = .ok (.ireturn, 1) := by decide +kernel
theorem dX12_readIs_0 : decode cX12_readIs 0 = .ok (.aload_n 0, 1) := by decide +kernel
theorem dX12_readIs_1 : decode cX12_readIs 1 = .ok (.invokevirtual 249, 3) := by decide +kernel
theorem dX12_readIs_4 : decode cX12_readIs 4 = .ok (.istore_n 1, 1) := by decide +kernel
theorem dX12_readIs_5 : decode cX12_readIs 5 = .ok (.iload_n 1, 1) := by decide +kernel
theorem dX12_readIs_6 : decode cX12_readIs 6 = .ok (.ifCond .lt 21, 3) := by decide +kernel
theorem dX12_readIs_9 : decode cX12_readIs 9 = .ok (.aload_n 0, 1) := by decide +kernel
theorem dX12_readIs_10 : decode cX12_readIs 10 = .ok (.getfield 135, 3) := by decide +kernel
theorem dX12_readIs_13 : decode cX12_readIs 13 = .ok (.iload_n 1, 1) := by decide +kernel
theorem dX12_readIs_14 : decode cX12_readIs 14 = .ok (.iaload, 1) := by decide +kernel
theorem dX12_readIs_15 : decode cX12_readIs 15 = .ok (.iconst 2, 1) := by decide +kernel
theorem dX12_readIs_16 : decode cX12_readIs 16 = .ok (.if_icmp .ne 11, 3) := by decide +kernel
theorem dX12_readIs_19 : decode cX12_readIs 19 = .ok (.aload_n 0, 1) := by decide +kernel
theorem dX12_readIs_20 : decode cX12_readIs 20 = .ok (.iconst 3, 1) := by decide +kernel
theorem dX12_readIs_21 : decode cX12_readIs 21 = .ok (.invokevirtual 66, 3) := by decide +kernel
theorem dX12_readIs_24 : decode cX12_readIs 24 = .ok (.goto 21, 3) := by decide +kernel
theorem dX12_readIs_27 : decode cX12_readIs 27 = .ok (.iload_n 1, 1) := by decide +kernel
theorem dX12_readIs_28 : decode cX12_readIs 28 = .ok (.ifCond .ge 17, 3) := by decide +kernel
theorem dX12_readIs_31 : decode cX12_readIs 31 = .ok (.aload_n 0, 1) := by decide +kernel
theorem dX12_readIs_32 : decode cX12_readIs 32 = .ok (.getfield 235, 3) := by decide +kernel
theorem dX12_readIs_35 : decode cX12_readIs 35 = .ok (.bipush 20, 2) := by decide +kernel
theorem dX12_readIs_37 : decode cX12_readIs 37 = .ok (.if_icmp .ne 8, 3) := by decide +kernel
theorem dX12_readIs_40 : decode cX12_readIs 40 = .ok (.aload_n 0, 1) := by decide +kernel
theorem dX12_readIs_41 : decode cX12_readIs 41 = .ok (.iconst 5, 1) := by decide +kernel
theorem dX12_readIs_42 : decode cX12_readIs 42 = .ok (.invokevirtual 66, 3) := by decide +kernel
theorem dX12_readIs_45 : decode cX12_readIs 45 = .ok (.aload_n 0, 1) := by decide +kernel
theorem dX12_readIs_46 : decode cX12_readIs 46 = .ok (.getfield 57, 3) := by decide +kernel
theorem dX12_readIs_49 : decode cX12_readIs 49 = .ok (.ifCond .le 4, 3) := by decide +kernel
theorem dX12_readIs_52 : decode cX12_readIs 52 = .ok (.return_, 1) := by decide +kernel
theorem dX12_readIs_53 : decode cX12_readIs 53 = .ok (.aload_n 0, 1) := by decide +kernel
theorem dX12_readIs_54 : decode cX12_readIs 54 = .ok (.iconst 0, 1) := by decide +kernel
theorem dX12_readIs_55 : decode cX12_readIs 55 = .ok (.invokevirtual 241, 3) := by decide +kernel
theorem dX12_readIs_58 : decode cX12_readIs 58 = .ok (.istore_n 2, 1) := by decide +kernel
theorem dX12_readIs_59 : decode cX12_readIs 59 = .ok (.aload_n 0, 1) := by decide +kernel
theorem dX12_readIs_60 : decode cX12_readIs 60 = .ok (.getfield 46, 3) := by decide +kernel
theorem dX12_readIs_63 : decode cX12_readIs 63 = .ok (.aload_n 0, 1) := by decide +kernel
theorem dX12_readIs_64 : decode cX12_readIs 64 = .ok (.getfield 54, 3) := by decide +kernel
theorem dX12_readIs_67 : decode cX12_readIs 67 = .ok (.laload, 1) := by decide +kernel
theorem dX12_readIs_68 : decode cX12_readIs 68 = .ok (.lstore_n 3, 1) := by decide +kernel
theorem dX12_readIs_69 : decode cX12_readIs 69 = .ok (.iload_n 1, 1) := by decide +kernel
theorem dX12_readIs_70 : decode cX12_readIs 70 = .ok (.ifCond .lt 12, 3) := by decide +kernel
theorem dX12_readIs_73 : decode cX12_readIs 73 = .ok (.aload_n 0, 1) := by decide +kernel
theorem dX12_readIs_74 : decode cX12_readIs 74 = .ok (.getfield 135, 3) := by decide +kernel
theorem dX12_readIs_77 : decode cX12_readIs 77 = .ok (.iload_n 1, 1) := by decide +kernel
theorem dX12_readIs_78 : decode cX12_readIs 78 = .ok (.iaload, 1) := by decide +kernel
theorem dX12_readIs_79 : decode cX12_readIs 79 = .ok (.goto 4, 3) := by decide +kernel
theorem dX12_readIs_82 : decode cX12_readIs 82 = .ok (.iconst 3, 1) := by decide +kernel
theorem dX12_readIs_83 : decode cX12_readIs 83 = .ok (.istore 5, 2) := by decide +kernel
theorem dX12_readIs_85 : decode cX12_readIs 85 = .ok (.aload_n 0, 1) := by decide +kernel
theorem dX12_readIs_86 : decode cX12_readIs 86 = .ok (.dup, 1) := by decide +kernel
theorem dX12_readIs_87 : decode cX12_readIs 87 = .ok (.getfield 54, 3) := by decide +kernel
theorem dX12_readIs_90 : decode cX12_readIs 90 = .ok (.iconst 1, 1) := by decide +kernel
theorem dX12_readIs_91 : decode cX12_readIs 91 = .ok (.iadd, 1) := by decide +kernel
theorem dX12_readIs_92 : decode cX12_readIs 92 = .ok (.putfield 54, 3) := by decide +kernel
theorem dX12_readIs_95 : decode cX12_readIs 95 = .ok (.aload_n 0, 1) := by decide +kernel
theorem dX12_readIs_96 : decode cX12_readIs 96 = .ok (.iconst 4, 1) := by decide +kernel
theorem dX12_readIs_97 : decode cX12_readIs 97 = .ok (.invokevirtual 266, 3) := by decide +kernel
theorem dX12_readIs_100 : decode cX12_readIs 100 = .ok (.aload_n 0, 1) := by decide +kernel
theorem dX12_readIs_101 : decode cX12_readIs 101 = .ok (.bipush 10, 2) := by decide +kernel
theorem dX12_readIs_103 : decode cX12_readIs 103 = .ok (.bipush 13, 2) := by decide +kernel
theorem dX12_readIs_105 : decode cX12_readIs 105 = .ok (.invokevirtual 70, 3) := by decide +kernel
theorem dX12_readIs_108 : decode cX12_readIs 108 = .ok (.iconst 2, 1) := by decide +kernel
theorem dX12_readIs_109 : decode cX12_readIs 109 = .ok (.iadd, 1) := by decide +kernel
theorem dX12_readIs_110 : decode cX12_readIs 110 = .ok (.istore 6, 2) := by decide +kernel
theorem dX12_readIs_112 : decode cX12_readIs 112 = .ok (.iload 6, 2) := by decide +kernel
theorem dX12_readIs_114 : decode cX12_readIs 114 = .ok (.iconst 2, 1) := by decide +kernel
theorem dX12_readIs_115 : decode cX12_readIs 115 = .ok (.if_icmp .ge 11, 3) := by decide +kernel
theorem dX12_readIs_118 : decode cX12_readIs 118 = .ok (.aload_n 0, 1) := by decide +kernel
theorem dX12_readIs_119 : decode cX12_readIs 119 = .ok (.iconst 1, 1) := by decide +kernel
theorem dX12_readIs_120 : decode cX12_readIs 120 = .ok (.invokevirtual 66, 3) := by decide +kernel
theorem dX12_readIs_123 : decode cX12_readIs 123 = .ok (.goto 40, 3) := by decide +kernel
theorem dX12_readIs_126 : decode cX12_readIs 126 = .ok (.iload 5, 2) := by decide +kernel
theorem dX12_readIs_128 : decode cX12_readIs 128 = .ok (.iconst 3, 1) := by decide +kernel
theorem dX12_readIs_129 : decode cX12_readIs 129 = .ok (.if_icmp .eq 34, 3) := by decide +kernel
theorem dX12_readIs_132 : decode cX12_readIs 132 = .ok (.iload 6, 2) := by decide +kernel
theorem dX12_readIs_134 : decode cX12_readIs 134 = .ok (.bipush 13, 2) := by decide +kernel
theorem dX12_readIs_136 : decode cX12_readIs 136 = .ok (.if_icmp .ge 27, 3) := by decide +kernel
theorem dX12_readIs_139 : decode cX12_readIs 139 = .ok (.iload 5, 2) := by decide +kernel
theorem dX12_readIs_141 : decode cX12_readIs 141 = .ok (.iload 6, 2) := by decide +kernel
theorem dX12_readIs_143 : decode cX12_readIs 143 = .ok (.invokestatic 269, 3) := by decide +kernel
theorem dX12_readIs_146 : decode cX12_readIs 146 = .ok (.ifCond .eq 7, 3) := by decide +kernel
theorem dX12_readIs_149 : decode cX12_readIs 149 = .ok (.iconst 1, 1) := by decide +kernel
theorem dX12_readIs_150 : decode cX12_readIs 150 = .ok (.goto 4, 3) := by decide +kernel
theorem dX12_readIs_153 : decode cX12_readIs 153 = .ok (.iconst 0, 1) := by decide +kernel
theorem dX12_readIs_154 : decode cX12_readIs 154 = .ok (.if_icmp .eq 9, 3) := by decide +kernel
theorem dX12_readIs_157 : decode cX12_readIs 157 = .ok (.aload_n 0, 1) := by decide +kernel
theorem dX12_readIs_158 : decode cX12_readIs 158 = .ok (.bipush 6, 2) := by decide +kernel
theorem dX12_readIs_160 : decode cX12_readIs 160 = .ok (.invokevirtual 66, 3) := by decide +kernel
theorem dX12_readIs_163 : decode cX12_readIs 163 = .ok (.aload_n 0, 1) := by decide +kernel
theorem dX12_readIs_164 : decode cX12_readIs 164 = .ok (.getfield 129, 3) := by decide +kernel
theorem dX12_readIs_167 : decode cX12_readIs 167 = .ok (.iload_n 2, 1) := by decide +kernel
theorem dX12_readIs_168 : decode cX12_readIs 168 = .ok (.iconst 1, 1) := by decide +kernel
theorem dX12_readIs_169 : decode cX12_readIs 169 = .ok (.iadd, 1) := by decide +kernel
theorem dX12_readIs_170 : decode cX12_readIs 170 = .ok (.iload_n 1, 1) := by decide +kernel
theorem dX12_readIs_171 : decode cX12_readIs 171 = .ok (.ifCond .lt 7, 3) := by decide +kernel
theorem dX12_readIs_174 : decode cX12_readIs 174 = .ok (.iload_n 1, 1) := by decide +kernel
theorem dX12_readIs_175 : decode cX12_readIs 175 = .ok (.goto 7, 3) := by decide +kernel
theorem dX12_readIs_178 : decode cX12_readIs 178 = .ok (.aload_n 0, 1) := by decide +kernel
theorem dX12_readIs_179 : decode cX12_readIs 179 = .ok (.getfield 235, 3) := by decide +kernel
theorem dX12_readIs_182 : decode cX12_readIs 182 = .ok (.iastore, 1) := by decide +kernel
theorem dX12_readIs_183 : decode cX12_readIs 183 = .ok (.aload_n 0, 1) := by decide +kernel
theorem dX12_readIs_184 : decode cX12_readIs 184 = .ok (.getfield 129, 3) := by decide +kernel
theorem dX12_readIs_187 : decode cX12_readIs 187 = .ok (.iload_n 2, 1) := by decide +kernel
theorem dX12_readIs_188 : decode cX12_readIs 188 = .ok (.iconst 2, 1) := by decide +kernel
theorem dX12_readIs_189 : decode cX12_readIs 189 = .ok (.iadd, 1) := by decide +kernel
theorem dX12_readIs_190 : decode cX12_readIs 190 = .ok (.iload 6, 2) := by decide +kernel
theorem dX12_readIs_192 : decode cX12_readIs 192 = .ok (.iastore, 1) := by decide +kernel
theorem dX12_readIs_193 : decode cX12_readIs 193 = .ok (.aload_n 0, 1) := by decide +kernel
theorem dX12_readIs_194 : decode cX12_readIs 194 = .ok (.getfield 129, 3) := by decide +kernel
theorem dX12_readIs_197 : decode cX12_readIs 197 = .ok (.iload_n 2, 1) := by decide +kernel
theorem dX12_readIs_198 : decode cX12_readIs 198 = .ok (.iconst 4, 1) := by decide +kernel
theorem dX12_readIs_199 : decode cX12_readIs 199 = .ok (.iadd, 1) := by decide +kernel
theorem dX12_readIs_200 : decode cX12_readIs 200 = .ok (.aload_n 0, 1) := by decide +kernel
theorem dX12_readIs_201 : decode cX12_readIs 201 = .ok (.getfield 57, 3) := by decide +kernel
theorem dX12_readIs_204 : decode cX12_readIs 204 = .ok (.ifCond .le 7, 3) := by decide +kernel
theorem dX12_readIs_207 : decode cX12_readIs 207 = .ok (.iconst 0, 1) := by decide +kernel
theorem dX12_readIs_208 : decode cX12_readIs 208 = .ok (.goto 12, 3) := by decide +kernel
theorem dX12_readIs_211 : decode cX12_readIs 211 = .ok (.aload_n 0, 1) := by decide +kernel
theorem dX12_readIs_212 : decode cX12_readIs 212 = .ok (.getfield 36, 3) := by decide +kernel
theorem dX12_readIs_215 : decode cX12_readIs 215 = .ok (.aload_n 0, 1) := by decide +kernel
theorem dX12_readIs_216 : decode cX12_readIs 216 = .ok (.getfield 54, 3) := by decide +kernel
theorem dX12_readIs_219 : decode cX12_readIs 219 = .ok (.iaload, 1) := by decide +kernel
theorem dX12_readIs_220 : decode cX12_readIs 220 = .ok (.iastore, 1) := by decide +kernel
theorem dX12_readIs_221 : decode cX12_readIs 221 = .ok (.aload_n 0, 1) := by decide +kernel
theorem dX12_readIs_222 : decode cX12_readIs 222 = .ok (.dup, 1) := by decide +kernel
theorem dX12_readIs_223 : decode cX12_readIs 223 = .ok (.getfield 54, 3) := by decide +kernel
theorem dX12_readIs_226 : decode cX12_readIs 226 = .ok (.aload_n 0, 1) := by decide +kernel
theorem dX12_readIs_227 : decode cX12_readIs 227 = .ok (.getfield 57, 3) := by decide +kernel
theorem dX12_readIs_230 : decode cX12_readIs 230 = .ok (.ifCond .le 7, 3) := by decide +kernel
theorem dX12_readIs_233 : decode cX12_readIs 233 = .ok (.iconst 0, 1) := by decide +kernel
theorem dX12_readIs_234 : decode cX12_readIs 234 = .ok (.goto 4, 3) := by decide +kernel
theorem dX12_readIs_237 : decode cX12_readIs 237 = .ok (.iconst 1, 1) := by decide +kernel
theorem dX12_readIs_238 : decode cX12_readIs 238 = .ok (.iadd, 1) := by decide +kernel
theorem dX12_readIs_239 : decode cX12_readIs 239 = .ok (.putfield 54, 3) := by decide +kernel
theorem dX12_readIs_242 : decode cX12_readIs 242 = .ok (.iload 6, 2) := by decide +kernel
theorem dX12_readIs_244 : decode cX12_readIs 244 = .ok (.bipush 10, 2) := by decide +kernel
theorem dX12_readIs_246 : decode cX12_readIs 246 = .ok (.if_icmp .lt 14, 3) := by decide +kernel
theorem dX12_readIs_249 : decode cX12_readIs 249 = .ok (.iload 6, 2) := by decide +kernel
theorem dX12_readIs_251 : decode cX12_readIs 251 = .ok (.bipush 13, 2) := by decide +kernel
theorem dX12_readIs_253 : decode cX12_readIs 253 = .ok (.if_icmp .gt 7, 3) := by decide +kernel
theorem dX12_readIs_256 : decode cX12_readIs 256 = .ok (.iconst 1, 1) := by decide +kernel
theorem dX12_readIs_257 : decode cX12_readIs 257 = .ok (.goto 16, 3) := by decide +kernel
theorem dX12_readIs_260 : decode cX12_readIs 260 = .ok (.iload 6, 2) := by decide +kernel
theorem dX12_readIs_262 : decode cX12_readIs 262 = .ok (.bipush 14, 2) := by decide +kernel
theorem dX12_readIs_264 : decode cX12_readIs 264 = .ok (.if_icmp .ne 8, 3) := by decide +kernel
theorem dX12_readIs_267 : decode cX12_readIs 267 = .ok (.iload 5, 2) := by decide +kernel
theorem dX12_readIs_269 : decode cX12_readIs 269 = .ok (.goto 4, 3) := by decide +kernel
theorem dX12_readIs_272 : decode cX12_readIs 272 = .ok (.iconst 0, 1) := by decide +kernel
theorem dX12_readIs_273 : decode cX12_readIs 273 = .ok (.istore 7, 2) := by decide +kernel
theorem dX12_readIs_275 : decode cX12_readIs 275 = .ok (.aload_n 0, 1) := by decide +kernel
theorem dX12_readIs_276 : decode cX12_readIs 276 = .ok (.iload_n 2, 1) := by decide +kernel
theorem dX12_readIs_277 : decode cX12_readIs 277 = .ok (.iconst 5, 1) := by decide +kernel
theorem dX12_readIs_278 : decode cX12_readIs 278 = .ok (.iadd, 1) := by decide +kernel
theorem dX12_readIs_279 : decode cX12_readIs 279 = .ok (.iload 7, 2) := by decide +kernel
theorem dX12_readIs_281 : decode cX12_readIs 281 = .ok (.invokevirtual 272, 3) := by decide +kernel
theorem dX12_readIs_284 : decode cX12_readIs 284 = .ok (.iload 6, 2) := by decide +kernel
theorem dX12_readIs_286 : decode cX12_readIs 286 = .ok (.bipush 14, 2) := by decide +kernel
theorem dX12_readIs_288 : decode cX12_readIs 288 = .ok (.if_icmp .ne 10, 3) := by decide +kernel
theorem dX12_readIs_291 : decode cX12_readIs 291 = .ok (.aload_n 0, 1) := by decide +kernel
theorem dX12_readIs_292 : decode cX12_readIs 292 = .ok (.getfield 263, 3) := by decide +kernel
theorem dX12_readIs_295 : decode cX12_readIs 295 = .ok (.goto 16, 3) := by decide +kernel
theorem dX12_readIs_298 : decode cX12_readIs 298 = .ok (.iload 6, 2) := by decide +kernel
theorem dX12_readIs_300 : decode cX12_readIs 300 = .ok (.invokestatic 269, 3) := by decide +kernel
theorem dX12_readIs_303 : decode cX12_readIs 303 = .ok (.ifCond .eq 7, 3) := by decide +kernel
theorem dX12_readIs_306 : decode cX12_readIs 306 = .ok (.iconst 1, 1) := by decide +kernel
theorem dX12_readIs_307 : decode cX12_readIs 307 = .ok (.goto 4, 3) := by decide +kernel
theorem dX12_readIs_310 : decode cX12_readIs 310 = .ok (.iconst 0, 1) := by decide +kernel
theorem dX12_readIs_311 : decode cX12_readIs 311 = .ok (.istore 8, 2) := by decide +kernel
theorem dX12_readIs_313 : decode cX12_readIs 313 = .ok (.iload 6, 2) := by decide +kernel
theorem dX12_readIs_315 : decode cX12_readIs 315 = .ok (.invokestatic 276, 3) := by decide +kernel
theorem dX12_readIs_318 : decode cX12_readIs 318 = .ok (.iconst 1, 1) := by decide +kernel
theorem dX12_readIs_319 : decode cX12_readIs 319 = .ok (.if_icmp .le 25, 3) := by decide +kernel
theorem dX12_readIs_322 : decode cX12_readIs 322 = .ok (.aload_n 0, 1) := by decide +kernel
theorem dX12_readIs_323 : decode cX12_readIs 323 = .ok (.iload_n 2, 1) := by decide +kernel
theorem dX12_readIs_324 : decode cX12_readIs 324 = .ok (.bipush 7, 2) := by decide +kernel
theorem dX12_readIs_326 : decode cX12_readIs 326 = .ok (.iadd, 1) := by decide +kernel
theorem dX12_readIs_327 : decode cX12_readIs 327 = .ok (.iload 6, 2) := by decide +kernel
theorem dX12_readIs_329 : decode cX12_readIs 329 = .ok (.bipush 13, 2) := by decide +kernel
theorem dX12_readIs_331 : decode cX12_readIs 331 = .ok (.if_icmp .ne 8, 3) := by decide +kernel
theorem dX12_readIs_334 : decode cX12_readIs 334 = .ok (.iload 5, 2) := by decide +kernel
theorem dX12_readIs_336 : decode cX12_readIs 336 = .ok (.goto 5, 3) := by decide +kernel
theorem dX12_readIs_339 : decode cX12_readIs 339 = .ok (.iload 7, 2) := by decide +kernel
theorem dX12_readIs_341 : decode cX12_readIs 341 = .ok (.invokevirtual 272, 3) := by decide +kernel
theorem dX12_readIs_344 : decode cX12_readIs 344 = .ok (.iload 6, 2) := by decide +kernel
theorem dX12_readIs_346 : decode cX12_readIs 346 = .ok (.bipush 13, 2) := by decide +kernel
theorem dX12_readIs_348 : decode cX12_readIs 348 = .ok (.if_icmp .ne 19, 3) := by decide +kernel
theorem dX12_readIs_351 : decode cX12_readIs 351 = .ok (.aload_n 0, 1) := by decide +kernel
theorem dX12_readIs_352 : decode cX12_readIs 352 = .ok (.getfield 263, 3) := by decide +kernel
theorem dX12_readIs_355 : decode cX12_readIs 355 = .ok (.istore 8, 2) := by decide +kernel
theorem dX12_readIs_357 : decode cX12_readIs 357 = .ok (.aload_n 0, 1) := by decide +kernel
theorem dX12_readIs_358 : decode cX12_readIs 358 = .ok (.iload_n 2, 1) := by decide +kernel
theorem dX12_readIs_359 : decode cX12_readIs 359 = .ok (.bipush 9, 2) := by decide +kernel
theorem dX12_readIs_361 : decode cX12_readIs 361 = .ok (.iadd, 1) := by decide +kernel
theorem dX12_readIs_362 : decode cX12_readIs 362 = .ok (.iload 8, 2) := by decide +kernel
theorem dX12_readIs_364 : decode cX12_readIs 364 = .ok (.invokevirtual 272, 3) := by decide +kernel
theorem dX12_readIs_367 : decode cX12_readIs 367 = .ok (.aload_n 0, 1) := by decide +kernel
theorem dX12_readIs_368 : decode cX12_readIs 368 = .ok (.getfield 57, 3) := by decide +kernel
theorem dX12_readIs_371 : decode cX12_readIs 371 = .ok (.ifCond .ne 14, 3) := by decide +kernel
theorem dX12_readIs_374 : decode cX12_readIs 374 = .ok (.iload_n 1, 1) := by decide +kernel
theorem dX12_readIs_375 : decode cX12_readIs 375 = .ok (.ifCond .ge 10, 3) := by decide +kernel
theorem dX12_readIs_378 : decode cX12_readIs 378 = .ok (.aload_n 0, 1) := by decide +kernel
theorem dX12_readIs_379 : decode cX12_readIs 379 = .ok (.lload_n 3, 1) := by decide +kernel
theorem dX12_readIs_380 : decode cX12_readIs 380 = .ok (.iload 8, 2) := by decide +kernel
theorem dX12_readIs_382 : decode cX12_readIs 382 = .ok (.invokevirtual 256, 3) := by decide +kernel
theorem dX12_readIs_385 : decode cX12_readIs 385 = .ok (.return_, 1) := by decide +kernel
theorem dX12_opens_0 : decode cX12_opens 0 = .ok (.aload_n 0, 1) := by decide +kernel
theorem dX12_opens_1 : decode cX12_opens 1 = .ok (.getfield 138, 3) := by decide +kernel
theorem dX12_opens_4 : decode cX12_opens 4 = .ok (.aload_n 0, 1) := by decide +kernel
theorem dX12_opens_5 : decode cX12_opens 5 = .ok (.getfield 238, 3) := by decide +kernel
theorem dX12_opens_8 : decode cX12_opens 8 = .ok (.iload_n 1, 1) := by decide +kernel
theorem dX12_opens_9 : decode cX12_opens 9 = .ok (.iastore, 1) := by decide +kernel
theorem dX12_opens_10 : decode cX12_opens 10 = .ok (.aload_n 0, 1) := by decide +kernel
theorem dX12_opens_11 : decode cX12_opens 11 = .ok (.getfield 141, 3) := by decide +kernel
theorem dX12_opens_14 : decode cX12_opens 14 = .ok (.aload_n 0, 1) := by decide +kernel
theorem dX12_opens_15 : decode cX12_opens 15 = .ok (.getfield 238, 3) := by decide +kernel
theorem dX12_opens_18 : decode cX12_opens 18 = .ok (.aload_n 0, 1) := by decide +kernel
theorem dX12_opens_19 : decode cX12_opens 19 = .ok (.getfield 235, 3) := by decide +kernel
theorem dX12_opens_22 : decode cX12_opens 22 = .ok (.iastore, 1) := by decide +kernel
theorem dX12_opens_23 : decode cX12_opens 23 = .ok (.aload_n 0, 1) := by decide +kernel
theorem dX12_opens_24 : decode cX12_opens 24 = .ok (.getfield 144, 3) := by decide +kernel
theorem dX12_opens_27 : decode cX12_opens 27 = .ok (.aload_n 0, 1) := by decide +kernel
theorem dX12_opens_28 : decode cX12_opens 28 = .ok (.getfield 238, 3) := by decide +kernel
theorem dX12_opens_31 : decode cX12_opens 31 = .ok (.iload_n 2, 1) := by decide +kernel
theorem dX12_opens_32 : decode cX12_opens 32 = .ok (.bipush 12, 2) := by decide +kernel
theorem dX12_opens_34 : decode cX12_opens 34 = .ok (.idiv, 1) := by decide +kernel
theorem dX12_opens_35 : decode cX12_opens 35 = .ok (.sipush 210, 3) := by decide +kernel
theorem dX12_opens_38 : decode cX12_opens 38 = .ok (.isub, 1) := by decide +kernel
theorem dX12_opens_39 : decode cX12_opens 39 = .ok (.iastore, 1) := by decide +kernel
theorem dX12_opens_40 : decode cX12_opens 40 = .ok (.aload_n 0, 1) := by decide +kernel
theorem dX12_opens_41 : decode cX12_opens 41 = .ok (.dup, 1) := by decide +kernel
theorem dX12_opens_42 : decode cX12_opens 42 = .ok (.getfield 238, 3) := by decide +kernel
theorem dX12_opens_45 : decode cX12_opens 45 = .ok (.iconst 1, 1) := by decide +kernel
theorem dX12_opens_46 : decode cX12_opens 46 = .ok (.iadd, 1) := by decide +kernel
theorem dX12_opens_47 : decode cX12_opens 47 = .ok (.putfield 238, 3) := by decide +kernel
theorem dX12_opens_50 : decode cX12_opens 50 = .ok (.return_, 1) := by decide +kernel
theorem dX12_readBlock_0 : decode cX12_readBlock 0 = .ok (.aload_n 0, 1) := by decide +kernel
theorem dX12_readBlock_1 : decode cX12_readBlock 1 = .ok (.getfield 238, 3) := by decide +kernel
theorem dX12_readBlock_4 : decode cX12_readBlock 4 = .ok (.iconst 4, 1) := by decide +kernel
theorem dX12_readBlock_5 : decode cX12_readBlock 5 = .ok (.if_icmp .ne 9, 3) := by decide +kernel
theorem dX12_readBlock_8 : decode cX12_readBlock 8 = .ok (.aload_n 0, 1) := by decide +kernel
theorem dX12_readBlock_9 : decode cX12_readBlock 9 = .ok (.iconst 5, 1) := by decide +kernel
theorem dX12_readBlock_10 : decode cX12_readBlock 10 = .ok (.invokevirtual 66, 3) := by decide +kernel
theorem dX12_readBlock_13 : decode cX12_readBlock 13 = .ok (.return_, 1) := by decide +kernel
theorem dX12_readBlock_14 : decode cX12_readBlock 14 = .ok (.aload_n 0, 1) := by decide +kernel
theorem dX12_readBlock_15 : decode cX12_readBlock 15 = .ok (.iload_n 1, 1) := by decide +kernel
theorem dX12_readBlock_16 : decode cX12_readBlock 16 = .ok (.ifCond .eq 7, 3) := by decide +kernel
theorem dX12_readBlock_19 : decode cX12_readBlock 19 = .ok (.iconst 1, 1) := by decide +kernel
theorem dX12_readBlock_20 : decode cX12_readBlock 20 = .ok (.goto 4, 3) := by decide +kernel
theorem dX12_readBlock_23 : decode cX12_readBlock 23 = .ok (.iconst 3, 1) := by decide +kernel
theorem dX12_readBlock_24 : decode cX12_readBlock 24 = .ok (.invokevirtual 241, 3) := by decide +kernel
theorem dX12_readBlock_27 : decode cX12_readBlock 27 = .ok (.istore_n 2, 1) := by decide +kernel
theorem dX12_readBlock_28 : decode cX12_readBlock 28 = .ok (.aload_n 0, 1) := by decide +kernel
theorem dX12_readBlock_29 : decode cX12_readBlock 29 = .ok (.dup, 1) := by decide +kernel
theorem dX12_readBlock_30 : decode cX12_readBlock 30 = .ok (.getfield 54, 3) := by decide +kernel
theorem dX12_readBlock_33 : decode cX12_readBlock 33 = .ok (.iconst 1, 1) := by decide +kernel
theorem dX12_readBlock_34 : decode cX12_readBlock 34 = .ok (.iadd, 1) := by decide +kernel
theorem dX12_readBlock_35 : decode cX12_readBlock 35 = .ok (.putfield 54, 3) := by decide +kernel
theorem dX12_readBlock_38 : decode cX12_readBlock 38 = .ok (.iload_n 1, 1) := by decide +kernel
theorem dX12_readBlock_39 : decode cX12_readBlock 39 = .ok (.ifCond .eq 54, 3) := by decide +kernel
theorem dX12_readBlock_42 : decode cX12_readBlock 42 = .ok (.aload_n 0, 1) := by decide +kernel
theorem dX12_readBlock_43 : decode cX12_readBlock 43 = .ok (.getfield 129, 3) := by decide +kernel
theorem dX12_readBlock_46 : decode cX12_readBlock 46 = .ok (.iload_n 2, 1) := by decide +kernel
theorem dX12_readBlock_47 : decode cX12_readBlock 47 = .ok (.iconst 1, 1) := by decide +kernel
theorem dX12_readBlock_48 : decode cX12_readBlock 48 = .ok (.iadd, 1) := by decide +kernel
theorem dX12_readBlock_49 : decode cX12_readBlock 49 = .ok (.aload_n 0, 1) := by decide +kernel
theorem dX12_readBlock_50 : decode cX12_readBlock 50 = .ok (.getfield 235, 3) := by decide +kernel
theorem dX12_readBlock_53 : decode cX12_readBlock 53 = .ok (.iastore, 1) := by decide +kernel
theorem dX12_readBlock_54 : decode cX12_readBlock 54 = .ok (.aload_n 0, 1) := by decide +kernel
theorem dX12_readBlock_55 : decode cX12_readBlock 55 = .ok (.getfield 129, 3) := by decide +kernel
theorem dX12_readBlock_58 : decode cX12_readBlock 58 = .ok (.iload_n 2, 1) := by decide +kernel
theorem dX12_readBlock_59 : decode cX12_readBlock 59 = .ok (.iconst 2, 1) := by decide +kernel
theorem dX12_readBlock_60 : decode cX12_readBlock 60 = .ok (.iadd, 1) := by decide +kernel
theorem dX12_readBlock_61 : decode cX12_readBlock 61 = .ok (.aload_n 0, 1) := by decide +kernel
theorem dX12_readBlock_62 : decode cX12_readBlock 62 = .ok (.getfield 126, 3) := by decide +kernel
theorem dX12_readBlock_65 : decode cX12_readBlock 65 = .ok (.sipush 414, 3) := by decide +kernel
theorem dX12_readBlock_68 : decode cX12_readBlock 68 = .ok (.iaload, 1) := by decide +kernel
theorem dX12_readBlock_69 : decode cX12_readBlock 69 = .ok (.iastore, 1) := by decide +kernel
theorem dX12_readBlock_70 : decode cX12_readBlock 70 = .ok (.aload_n 0, 1) := by decide +kernel
theorem dX12_readBlock_71 : decode cX12_readBlock 71 = .ok (.getfield 126, 3) := by decide +kernel
theorem dX12_readBlock_74 : decode cX12_readBlock 74 = .ok (.sipush 414, 3) := by decide +kernel
theorem dX12_readBlock_77 : decode cX12_readBlock 77 = .ok (.dup2, 1) := by decide +kernel
theorem dX12_readBlock_78 : decode cX12_readBlock 78 = .ok (.iaload, 1) := by decide +kernel
theorem dX12_readBlock_79 : decode cX12_readBlock 79 = .ok (.iconst 1, 1) := by decide +kernel
theorem dX12_readBlock_80 : decode cX12_readBlock 80 = .ok (.iadd, 1) := by decide +kernel
theorem dX12_readBlock_81 : decode cX12_readBlock 81 = .ok (.iastore, 1) := by decide +kernel
theorem dX12_readBlock_82 : decode cX12_readBlock 82 = .ok (.aload_n 0, 1) := by decide +kernel
theorem dX12_readBlock_83 : decode cX12_readBlock 83 = .ok (.iload_n 2, 1) := by decide +kernel
theorem dX12_readBlock_84 : decode cX12_readBlock 84 = .ok (.iconst 5, 1) := by decide +kernel
theorem dX12_readBlock_85 : decode cX12_readBlock 85 = .ok (.iadd, 1) := by decide +kernel
theorem dX12_readBlock_86 : decode cX12_readBlock 86 = .ok (.iconst 1, 1) := by decide +kernel
theorem dX12_readBlock_87 : decode cX12_readBlock 87 = .ok (.invokevirtual 272, 3) := by decide +kernel
theorem dX12_readBlock_90 : decode cX12_readBlock 90 = .ok (.goto 18, 3) := by decide +kernel
theorem dX12_readBlock_93 : decode cX12_readBlock 93 = .ok (.aload_n 0, 1) := by decide +kernel
theorem dX12_readBlock_94 : decode cX12_readBlock 94 = .ok (.getfield 129, 3) := by decide +kernel
theorem dX12_readBlock_97 : decode cX12_readBlock 97 = .ok (.iload_n 2, 1) := by decide +kernel
theorem dX12_readBlock_98 : decode cX12_readBlock 98 = .ok (.iconst 1, 1) := by decide +kernel
theorem dX12_readBlock_99 : decode cX12_readBlock 99 = .ok (.iadd, 1) := by decide +kernel
theorem dX12_readBlock_100 : decode cX12_readBlock 100 = .ok (.aload_n 0, 1) := by decide +kernel
theorem dX12_readBlock_101 : decode cX12_readBlock 101 = .ok (.iconst 2, 1) := by decide +kernel
theorem dX12_readBlock_102 : decode cX12_readBlock 102 = .ok (.bipush 9, 2) := by decide +kernel
theorem dX12_readBlock_104 : decode cX12_readBlock 104 = .ok (.invokevirtual 253, 3) := by decide +kernel
theorem dX12_readBlock_107 : decode cX12_readBlock 107 = .ok (.iastore, 1) := by decide +kernel
theorem dX12_readBlock_108 : decode cX12_readBlock 108 = .ok (.aload_n 0, 1) := by decide +kernel
theorem dX12_readBlock_109 : decode cX12_readBlock 109 = .ok (.iload_n 1, 1) := by decide +kernel
theorem dX12_readBlock_110 : decode cX12_readBlock 110 = .ok (.ifCond .eq 7, 3) := by decide +kernel
theorem dX12_readBlock_113 : decode cX12_readBlock 113 = .ok (.iconst 1, 1) := by decide +kernel
theorem dX12_readBlock_114 : decode cX12_readBlock 114 = .ok (.goto 4, 3) := by decide +kernel
theorem dX12_readBlock_117 : decode cX12_readBlock 117 = .ok (.iconst 3, 1) := by decide +kernel
theorem dX12_readBlock_118 : decode cX12_readBlock 118 = .ok (.iload_n 2, 1) := by decide +kernel
theorem dX12_readBlock_119 : decode cX12_readBlock 119 = .ok (.invokevirtual 279, 3) := by decide +kernel
theorem dX12_readBlock_122 : decode cX12_readBlock 122 = .ok (.return_, 1) := by decide +kernel
theorem dX12_readElse_0 : decode cX12_readElse 0 = .ok (.aload_n 0, 1) := by decide +kernel
theorem dX12_readElse_1 : decode cX12_readElse 1 = .ok (.getfield 238, 3) := by decide +kernel
theorem dX12_readElse_4 : decode cX12_readElse 4 = .ok (.ifCond .eq 18, 3) := by decide +kernel
theorem dX12_readElse_7 : decode cX12_readElse 7 = .ok (.aload_n 0, 1) := by decide +kernel
theorem dX12_readElse_8 : decode cX12_readElse 8 = .ok (.getfield 138, 3) := by decide +kernel
theorem dX12_readElse_11 : decode cX12_readElse 11 = .ok (.aload_n 0, 1) := by decide +kernel
theorem dX12_readElse_12 : decode cX12_readElse 12 = .ok (.getfield 238, 3) := by decide +kernel
theorem dX12_readElse_15 : decode cX12_readElse 15 = .ok (.iconst 1, 1) := by decide +kernel
theorem dX12_readElse_16 : decode cX12_readElse 16 = .ok (.isub, 1) := by decide +kernel
theorem dX12_readElse_17 : decode cX12_readElse 17 = .ok (.iaload, 1) := by decide +kernel
theorem dX12_readElse_18 : decode cX12_readElse 18 = .ok (.iconst 1, 1) := by decide +kernel
theorem dX12_readElse_19 : decode cX12_readElse 19 = .ok (.if_icmp .eq 9, 3) := by decide +kernel
theorem dX12_readElse_22 : decode cX12_readElse 22 = .ok (.aload_n 0, 1) := by decide +kernel
theorem dX12_readElse_23 : decode cX12_readElse 23 = .ok (.iconst 1, 1) := by decide +kernel
theorem dX12_readElse_24 : decode cX12_readElse 24 = .ok (.invokevirtual 66, 3) := by decide +kernel
theorem dX12_readElse_27 : decode cX12_readElse 27 = .ok (.return_, 1) := by decide +kernel
theorem dX12_readElse_28 : decode cX12_readElse 28 = .ok (.aload_n 0, 1) := by decide +kernel
theorem dX12_readElse_29 : decode cX12_readElse 29 = .ok (.getfield 138, 3) := by decide +kernel
theorem dX12_readElse_32 : decode cX12_readElse 32 = .ok (.aload_n 0, 1) := by decide +kernel
theorem dX12_readElse_33 : decode cX12_readElse 33 = .ok (.getfield 238, 3) := by decide +kernel
theorem dX12_readElse_36 : decode cX12_readElse 36 = .ok (.iconst 1, 1) := by decide +kernel
theorem dX12_readElse_37 : decode cX12_readElse 37 = .ok (.isub, 1) := by decide +kernel
theorem dX12_readElse_38 : decode cX12_readElse 38 = .ok (.iconst 2, 1) := by decide +kernel
theorem dX12_readElse_39 : decode cX12_readElse 39 = .ok (.iastore, 1) := by decide +kernel
theorem dX12_readElse_40 : decode cX12_readElse 40 = .ok (.aload_n 0, 1) := by decide +kernel
theorem dX12_readElse_41 : decode cX12_readElse 41 = .ok (.aload_n 0, 1) := by decide +kernel
theorem dX12_readElse_42 : decode cX12_readElse 42 = .ok (.getfield 141, 3) := by decide +kernel
theorem dX12_readElse_45 : decode cX12_readElse 45 = .ok (.aload_n 0, 1) := by decide +kernel
theorem dX12_readElse_46 : decode cX12_readElse 46 = .ok (.getfield 238, 3) := by decide +kernel
theorem dX12_readElse_49 : decode cX12_readElse 49 = .ok (.iconst 1, 1) := by decide +kernel
theorem dX12_readElse_50 : decode cX12_readElse 50 = .ok (.isub, 1) := by decide +kernel
theorem dX12_readElse_51 : decode cX12_readElse 51 = .ok (.iaload, 1) := by decide +kernel
theorem dX12_readElse_52 : decode cX12_readElse 52 = .ok (.putfield 235, 3) := by decide +kernel
theorem dX12_readElse_55 : decode cX12_readElse 55 = .ok (.aload_n 0, 1) := by decide +kernel
theorem dX12_readElse_56 : decode cX12_readElse 56 = .ok (.dup, 1) := by decide +kernel
theorem dX12_readElse_57 : decode cX12_readElse 57 = .ok (.getfield 238, 3) := by decide +kernel
theorem dX12_readElse_60 : decode cX12_readElse 60 = .ok (.iconst 1, 1) := by decide +kernel
theorem dX12_readElse_61 : decode cX12_readElse 61 = .ok (.isub, 1) := by decide +kernel
theorem dX12_readElse_62 : decode cX12_readElse 62 = .ok (.putfield 238, 3) := by decide +kernel
theorem dX12_readElse_65 : decode cX12_readElse 65 = .ok (.aload_n 0, 1) := by decide +kernel
theorem dX12_readElse_66 : decode cX12_readElse 66 = .ok (.iconst 2, 1) := by decide +kernel
theorem dX12_readElse_67 : decode cX12_readElse 67 = .ok (.invokevirtual 241, 3) := by decide +kernel
theorem dX12_readElse_70 : decode cX12_readElse 70 = .ok (.istore_n 1, 1) := by decide +kernel
theorem dX12_readElse_71 : decode cX12_readElse 71 = .ok (.aload_n 0, 1) := by decide +kernel
theorem dX12_readElse_72 : decode cX12_readElse 72 = .ok (.getfield 129, 3) := by decide +kernel
theorem dX12_readElse_75 : decode cX12_readElse 75 = .ok (.iload_n 1, 1) := by decide +kernel
theorem dX12_readElse_76 : decode cX12_readElse 76 = .ok (.bipush 7, 2) := by decide +kernel
theorem dX12_readElse_78 : decode cX12_readElse 78 = .ok (.iadd, 1) := by decide +kernel
theorem dX12_readElse_79 : decode cX12_readElse 79 = .ok (.aload_n 0, 1) := by decide +kernel
theorem dX12_readElse_80 : decode cX12_readElse 80 = .ok (.getfield 144, 3) := by decide +kernel
theorem dX12_readElse_83 : decode cX12_readElse 83 = .ok (.aload_n 0, 1) := by decide +kernel
theorem dX12_readElse_84 : decode cX12_readElse 84 = .ok (.getfield 238, 3) := by decide +kernel
theorem dX12_readElse_87 : decode cX12_readElse 87 = .ok (.iaload, 1) := by decide +kernel
theorem dX12_readElse_88 : decode cX12_readElse 88 = .ok (.iastore, 1) := by decide +kernel
theorem dX12_readElse_89 : decode cX12_readElse 89 = .ok (.aload_n 0, 1) := by decide +kernel
theorem dX12_readElse_90 : decode cX12_readElse 90 = .ok (.getfield 129, 3) := by decide +kernel
theorem dX12_readElse_93 : decode cX12_readElse 93 = .ok (.bipush 12, 2) := by decide +kernel
theorem dX12_readElse_95 : decode cX12_readElse 95 = .ok (.sipush 210, 3) := by decide +kernel
theorem dX12_readElse_98 : decode cX12_readElse 98 = .ok (.aload_n 0, 1) := by decide +kernel
theorem dX12_readElse_99 : decode cX12_readElse 99 = .ok (.getfield 144, 3) := by decide +kernel
theorem dX12_readElse_102 : decode cX12_readElse 102 = .ok (.aload_n 0, 1) := by decide +kernel
theorem dX12_readElse_103 : decode cX12_readElse 103 = .ok (.getfield 238, 3) := by decide +kernel
theorem dX12_readElse_106 : decode cX12_readElse 106 = .ok (.iaload, 1) := by decide +kernel
theorem dX12_readElse_107 : decode cX12_readElse 107 = .ok (.iadd, 1) := by decide +kernel
theorem dX12_readElse_108 : decode cX12_readElse 108 = .ok (.imul, 1) := by decide +kernel
theorem dX12_readElse_109 : decode cX12_readElse 109 = .ok (.bipush 7, 2) := by decide +kernel
theorem dX12_readElse_111 : decode cX12_readElse 111 = .ok (.iadd, 1) := by decide +kernel
theorem dX12_readElse_112 : decode cX12_readElse 112 = .ok (.iload_n 1, 1) := by decide +kernel
theorem dX12_readElse_113 : decode cX12_readElse 113 = .ok (.bipush 12, 2) := by decide +kernel
theorem dX12_readElse_115 : decode cX12_readElse 115 = .ok (.idiv, 1) := by decide +kernel
theorem dX12_readElse_116 : decode cX12_readElse 116 = .ok (.sipush 210, 3) := by decide +kernel
theorem dX12_readElse_119 : decode cX12_readElse 119 = .ok (.isub, 1) := by decide +kernel
theorem dX12_readElse_120 : decode cX12_readElse 120 = .ok (.iastore, 1) := by decide +kernel
theorem dX12_readElse_121 : decode cX12_readElse 121 = .ok (.aload_n 0, 1) := by decide +kernel
theorem dX12_readElse_122 : decode cX12_readElse 122 = .ok (.dup, 1) := by decide +kernel
theorem dX12_readElse_123 : decode cX12_readElse 123 = .ok (.getfield 238, 3) := by decide +kernel
theorem dX12_readElse_126 : decode cX12_readElse 126 = .ok (.iconst 1, 1) := by decide +kernel
theorem dX12_readElse_127 : decode cX12_readElse 127 = .ok (.iadd, 1) := by decide +kernel
theorem dX12_readElse_128 : decode cX12_readElse 128 = .ok (.putfield 238, 3) := by decide +kernel
theorem dX12_readElse_131 : decode cX12_readElse 131 = .ok (.aload_n 0, 1) := by decide +kernel
theorem dX12_readElse_132 : decode cX12_readElse 132 = .ok (.dup, 1) := by decide +kernel
theorem dX12_readElse_133 : decode cX12_readElse 133 = .ok (.getfield 54, 3) := by decide +kernel
theorem dX12_readElse_136 : decode cX12_readElse 136 = .ok (.iconst 1, 1) := by decide +kernel
theorem dX12_readElse_137 : decode cX12_readElse 137 = .ok (.iadd, 1) := by decide +kernel
theorem dX12_readElse_138 : decode cX12_readElse 138 = .ok (.putfield 54, 3) := by decide +kernel
theorem dX12_readElse_141 : decode cX12_readElse 141 = .ok (.return_, 1) := by decide +kernel
theorem dX12_readEnd_0 : decode cX12_readEnd 0 = .ok (.aload_n 0, 1) := by decide +kernel
theorem dX12_readEnd_1 : decode cX12_readEnd 1 = .ok (.getfield 238, 3) := by decide +kernel
theorem dX12_readEnd_4 : decode cX12_readEnd 4 = .ok (.ifCond .ne 9, 3) := by decide +kernel
theorem dX12_readEnd_7 : decode cX12_readEnd 7 = .ok (.aload_n 0, 1) := by decide +kernel
theorem dX12_readEnd_8 : decode cX12_readEnd 8 = .ok (.iconst 1, 1) := by decide +kernel
theorem dX12_readEnd_9 : decode cX12_readEnd 9 = .ok (.invokevirtual 66, 3) := by decide +kernel
theorem dX12_readEnd_12 : decode cX12_readEnd 12 = .ok (.return_, 1) := by decide +kernel
theorem dX12_readEnd_13 : decode cX12_readEnd 13 = .ok (.aload_n 0, 1) := by decide +kernel
theorem dX12_readEnd_14 : decode cX12_readEnd 14 = .ok (.dup, 1) := by decide +kernel
theorem dX12_readEnd_15 : decode cX12_readEnd 15 = .ok (.getfield 238, 3) := by decide +kernel
theorem dX12_readEnd_18 : decode cX12_readEnd 18 = .ok (.iconst 1, 1) := by decide +kernel
theorem dX12_readEnd_19 : decode cX12_readEnd 19 = .ok (.isub, 1) := by decide +kernel
theorem dX12_readEnd_20 : decode cX12_readEnd 20 = .ok (.putfield 238, 3) := by decide +kernel
theorem dX12_readEnd_23 : decode cX12_readEnd 23 = .ok (.aload_n 0, 1) := by decide +kernel
theorem dX12_readEnd_24 : decode cX12_readEnd 24 = .ok (.getfield 138, 3) := by decide +kernel
theorem dX12_readEnd_27 : decode cX12_readEnd 27 = .ok (.aload_n 0, 1) := by decide +kernel
theorem dX12_readEnd_28 : decode cX12_readEnd 28 = .ok (.getfield 238, 3) := by decide +kernel
theorem dX12_readEnd_31 : decode cX12_readEnd 31 = .ok (.iaload, 1) := by decide +kernel
theorem dX12_readEnd_32 : decode cX12_readEnd 32 = .ok (.iconst 3, 1) := by decide +kernel
theorem dX12_readEnd_33 : decode cX12_readEnd 33 = .ok (.if_icmp .ne 7, 3) := by decide +kernel
theorem dX12_readEnd_36 : decode cX12_readEnd 36 = .ok (.iconst 1, 1) := by decide +kernel
theorem dX12_readEnd_37 : decode cX12_readEnd 37 = .ok (.goto 4, 3) := by decide +kernel
theorem dX12_readEnd_40 : decode cX12_readEnd 40 = .ok (.iconst 0, 1) := by decide +kernel
theorem dX12_readEnd_41 : decode cX12_readEnd 41 = .ok (.istore_n 1, 1) := by decide +kernel
theorem dX12_readEnd_42 : decode cX12_readEnd 42 = .ok (.aload_n 0, 1) := by decide +kernel
theorem dX12_readEnd_43 : decode cX12_readEnd 43 = .ok (.iload_n 1, 1) := by decide +kernel
theorem dX12_readEnd_44 : decode cX12_readEnd 44 = .ok (.ifCond .eq 10, 3) := by decide +kernel
theorem dX12_readEnd_47 : decode cX12_readEnd 47 = .ok (.aload_n 0, 1) := by decide +kernel
theorem dX12_readEnd_48 : decode cX12_readEnd 48 = .ok (.getfield 235, 3) := by decide +kernel
theorem dX12_readEnd_51 : decode cX12_readEnd 51 = .ok (.goto 12, 3) := by decide +kernel
theorem dX12_readEnd_54 : decode cX12_readEnd 54 = .ok (.aload_n 0, 1) := by decide +kernel
theorem dX12_readEnd_55 : decode cX12_readEnd 55 = .ok (.getfield 141, 3) := by decide +kernel
theorem dX12_readEnd_58 : decode cX12_readEnd 58 = .ok (.aload_n 0, 1) := by decide +kernel
theorem dX12_readEnd_59 : decode cX12_readEnd 59 = .ok (.getfield 238, 3) := by decide +kernel
theorem dX12_readEnd_62 : decode cX12_readEnd 62 = .ok (.iaload, 1) := by decide +kernel
theorem dX12_readEnd_63 : decode cX12_readEnd 63 = .ok (.putfield 235, 3) := by decide +kernel
theorem dX12_readEnd_66 : decode cX12_readEnd 66 = .ok (.aload_n 0, 1) := by decide +kernel
theorem dX12_readEnd_67 : decode cX12_readEnd 67 = .ok (.iconst 4, 1) := by decide +kernel
theorem dX12_readEnd_68 : decode cX12_readEnd 68 = .ok (.invokevirtual 241, 3) := by decide +kernel
theorem dX12_readEnd_71 : decode cX12_readEnd 71 = .ok (.istore_n 2, 1) := by decide +kernel
theorem dX12_readEnd_72 : decode cX12_readEnd 72 = .ok (.bipush 12, 2) := by decide +kernel
theorem dX12_readEnd_74 : decode cX12_readEnd 74 = .ok (.sipush 210, 3) := by decide +kernel
theorem dX12_readEnd_77 : decode cX12_readEnd 77 = .ok (.aload_n 0, 1) := by decide +kernel
theorem dX12_readEnd_78 : decode cX12_readEnd 78 = .ok (.getfield 144, 3) := by decide +kernel
theorem dX12_readEnd_81 : decode cX12_readEnd 81 = .ok (.aload_n 0, 1) := by decide +kernel
theorem dX12_readEnd_82 : decode cX12_readEnd 82 = .ok (.getfield 238, 3) := by decide +kernel
theorem dX12_readEnd_85 : decode cX12_readEnd 85 = .ok (.iaload, 1) := by decide +kernel
theorem dX12_readEnd_86 : decode cX12_readEnd 86 = .ok (.iadd, 1) := by decide +kernel
theorem dX12_readEnd_87 : decode cX12_readEnd 87 = .ok (.imul, 1) := by decide +kernel
theorem dX12_readEnd_88 : decode cX12_readEnd 88 = .ok (.istore_n 3, 1) := by decide +kernel
theorem dX12_readEnd_89 : decode cX12_readEnd 89 = .ok (.aload_n 0, 1) := by decide +kernel
theorem dX12_readEnd_90 : decode cX12_readEnd 90 = .ok (.getfield 129, 3) := by decide +kernel
theorem dX12_readEnd_93 : decode cX12_readEnd 93 = .ok (.iload_n 2, 1) := by decide +kernel
theorem dX12_readEnd_94 : decode cX12_readEnd 94 = .ok (.iconst 1, 1) := by decide +kernel
theorem dX12_readEnd_95 : decode cX12_readEnd 95 = .ok (.iadd, 1) := by decide +kernel
theorem dX12_readEnd_96 : decode cX12_readEnd 96 = .ok (.iload_n 1, 1) := by decide +kernel
theorem dX12_readEnd_97 : decode cX12_readEnd 97 = .ok (.ifCond .eq 7, 3) := by decide +kernel
theorem dX12_readEnd_100 : decode cX12_readEnd 100 = .ok (.iconst 1, 1) := by decide +kernel
theorem dX12_readEnd_101 : decode cX12_readEnd 101 = .ok (.goto 21, 3) := by decide +kernel
theorem dX12_readEnd_104 : decode cX12_readEnd 104 = .ok (.aload_n 0, 1) := by decide +kernel
theorem dX12_readEnd_105 : decode cX12_readEnd 105 = .ok (.getfield 138, 3) := by decide +kernel
theorem dX12_readEnd_108 : decode cX12_readEnd 108 = .ok (.aload_n 0, 1) := by decide +kernel
theorem dX12_readEnd_109 : decode cX12_readEnd 109 = .ok (.getfield 238, 3) := by decide +kernel
theorem dX12_readEnd_112 : decode cX12_readEnd 112 = .ok (.iaload, 1) := by decide +kernel
theorem dX12_readEnd_113 : decode cX12_readEnd 113 = .ok (.iconst 2, 1) := by decide +kernel
theorem dX12_readEnd_114 : decode cX12_readEnd 114 = .ok (.if_icmp .ne 7, 3) := by decide +kernel
theorem dX12_readEnd_117 : decode cX12_readEnd 117 = .ok (.iconst 2, 1) := by decide +kernel
theorem dX12_readEnd_118 : decode cX12_readEnd 118 = .ok (.goto 4, 3) := by decide +kernel
theorem dX12_readEnd_121 : decode cX12_readEnd 121 = .ok (.iconst 0, 1) := by decide +kernel
theorem dX12_readEnd_122 : decode cX12_readEnd 122 = .ok (.iastore, 1) := by decide +kernel
theorem dX12_readEnd_123 : decode cX12_readEnd 123 = .ok (.aload_n 0, 1) := by decide +kernel
theorem dX12_readEnd_124 : decode cX12_readEnd 124 = .ok (.getfield 129, 3) := by decide +kernel
theorem dX12_readEnd_127 : decode cX12_readEnd 127 = .ok (.iload_n 2, 1) := by decide +kernel
theorem dX12_readEnd_128 : decode cX12_readEnd 128 = .ok (.bipush 7, 2) := by decide +kernel
theorem dX12_readEnd_130 : decode cX12_readEnd 130 = .ok (.iadd, 1) := by decide +kernel
theorem dX12_readEnd_131 : decode cX12_readEnd 131 = .ok (.aload_n 0, 1) := by decide +kernel
theorem dX12_readEnd_132 : decode cX12_readEnd 132 = .ok (.getfield 144, 3) := by decide +kernel
theorem dX12_readEnd_135 : decode cX12_readEnd 135 = .ok (.aload_n 0, 1) := by decide +kernel
theorem dX12_readEnd_136 : decode cX12_readEnd 136 = .ok (.getfield 238, 3) := by decide +kernel
theorem dX12_readEnd_139 : decode cX12_readEnd 139 = .ok (.iaload, 1) := by decide +kernel
theorem dX12_readEnd_140 : decode cX12_readEnd 140 = .ok (.iastore, 1) := by decide +kernel
theorem dX12_readEnd_141 : decode cX12_readEnd 141 = .ok (.aload_n 0, 1) := by decide +kernel
theorem dX12_readEnd_142 : decode cX12_readEnd 142 = .ok (.getfield 129, 3) := by decide +kernel
theorem dX12_readEnd_145 : decode cX12_readEnd 145 = .ok (.iload_n 3, 1) := by decide +kernel
theorem dX12_readEnd_146 : decode cX12_readEnd 146 = .ok (.bipush 9, 2) := by decide +kernel
theorem dX12_readEnd_148 : decode cX12_readEnd 148 = .ok (.iadd, 1) := by decide +kernel
theorem dX12_readEnd_149 : decode cX12_readEnd 149 = .ok (.iload_n 2, 1) := by decide +kernel
theorem dX12_readEnd_150 : decode cX12_readEnd 150 = .ok (.bipush 12, 2) := by decide +kernel
theorem dX12_readEnd_152 : decode cX12_readEnd 152 = .ok (.idiv, 1) := by decide +kernel
theorem dX12_readEnd_153 : decode cX12_readEnd 153 = .ok (.sipush 210, 3) := by decide +kernel
theorem dX12_readEnd_156 : decode cX12_readEnd 156 = .ok (.isub, 1) := by decide +kernel
theorem dX12_readEnd_157 : decode cX12_readEnd 157 = .ok (.iastore, 1) := by decide +kernel
theorem dX12_readEnd_158 : decode cX12_readEnd 158 = .ok (.aload_n 0, 1) := by decide +kernel
theorem dX12_readEnd_159 : decode cX12_readEnd 159 = .ok (.dup, 1) := by decide +kernel
theorem dX12_readEnd_160 : decode cX12_readEnd 160 = .ok (.getfield 54, 3) := by decide +kernel
theorem dX12_readEnd_163 : decode cX12_readEnd 163 = .ok (.iconst 1, 1) := by decide +kernel
theorem dX12_readEnd_164 : decode cX12_readEnd 164 = .ok (.iadd, 1) := by decide +kernel
theorem dX12_readEnd_165 : decode cX12_readEnd 165 = .ok (.putfield 54, 3) := by decide +kernel
theorem dX12_readEnd_168 : decode cX12_readEnd 168 = .ok (.return_, 1) := by decide +kernel
theorem dX12_readShow_0 : decode cX12_readShow 0 = .ok (.aload_n 0, 1) := by decide +kernel
theorem dX12_readShow_1 : decode cX12_readShow 1 = .ok (.invokevirtual 282, 3) := by decide +kernel
theorem dX12_readShow_4 : decode cX12_readShow 4 = .ok (.ifCond .eq 9, 3) := by decide +kernel
theorem dX12_readShow_7 : decode cX12_readShow 7 = .ok (.aload_n 0, 1) := by decide +kernel
theorem dX12_readShow_8 : decode cX12_readShow 8 = .ok (.iconst 1, 1) := by decide +kernel
theorem dX12_readShow_9 : decode cX12_readShow 9 = .ok (.invokevirtual 66, 3) := by decide +kernel
theorem dX12_readShow_12 : decode cX12_readShow 12 = .ok (.return_, 1) := by decide +kernel
theorem dX12_readShow_13 : decode cX12_readShow 13 = .ok (.aload_n 0, 1) := by decide +kernel
theorem dX12_readShow_14 : decode cX12_readShow 14 = .ok (.iconst 5, 1) := by decide +kernel
theorem dX12_readShow_15 : decode cX12_readShow 15 = .ok (.invokevirtual 241, 3) := by decide +kernel
theorem dX12_readShow_18 : decode cX12_readShow 18 = .ok (.istore_n 1, 1) := by decide +kernel
theorem dX12_readShow_19 : decode cX12_readShow 19 = .ok (.aload_n 0, 1) := by decide +kernel
theorem dX12_readShow_20 : decode cX12_readShow 20 = .ok (.dup, 1) := by decide +kernel
theorem dX12_readShow_21 : decode cX12_readShow 21 = .ok (.getfield 54, 3) := by decide +kernel
theorem dX12_readShow_24 : decode cX12_readShow 24 = .ok (.iconst 1, 1) := by decide +kernel
theorem dX12_readShow_25 : decode cX12_readShow 25 = .ok (.iadd, 1) := by decide +kernel
theorem dX12_readShow_26 : decode cX12_readShow 26 = .ok (.putfield 54, 3) := by decide +kernel
theorem dX12_readShow_29 : decode cX12_readShow 29 = .ok (.aload_n 0, 1) := by decide +kernel
theorem dX12_readShow_30 : decode cX12_readShow 30 = .ok (.iload_n 1, 1) := by decide +kernel
theorem dX12_readShow_31 : decode cX12_readShow 31 = .ok (.iconst 5, 1) := by decide +kernel
theorem dX12_readShow_32 : decode cX12_readShow 32 = .ok (.iadd, 1) := by decide +kernel
theorem dX12_readShow_33 : decode cX12_readShow 33 = .ok (.iconst 0, 1) := by decide +kernel
theorem dX12_readShow_34 : decode cX12_readShow 34 = .ok (.invokevirtual 272, 3) := by decide +kernel
theorem dX12_readShow_37 : decode cX12_readShow 37 = .ok (.return_, 1) := by decide +kernel
theorem dX12_readLine_0 : decode cX12_readLine 0 = .ok (.aload_n 0, 1) := by decide +kernel
theorem dX12_readLine_1 : decode cX12_readLine 1 = .ok (.iconst 0, 1) := by decide +kernel
theorem dX12_readLine_2 : decode cX12_readLine 2 = .ok (.bipush 10, 2) := by decide +kernel
theorem dX12_readLine_4 : decode cX12_readLine 4 = .ok (.invokevirtual 70, 3) := by decide +kernel
theorem dX12_readLine_7 : decode cX12_readLine 7 = .ok (.istore_n 1, 1) := by decide +kernel
theorem dX12_readLine_8 : decode cX12_readLine 8 = .ok (.iload_n 1, 1) := by decide +kernel
theorem dX12_readLine_9 : decode cX12_readLine 9 = .ok (.ifCond .eq 8, 3) := by decide +kernel
theorem dX12_readLine_12 : decode cX12_readLine 12 = .ok (.iload_n 1, 1) := by decide +kernel
theorem dX12_readLine_13 : decode cX12_readLine 13 = .ok (.iconst 1, 1) := by decide +kernel
theorem dX12_readLine_14 : decode cX12_readLine 14 = .ok (.if_icmp .ne 19, 3) := by decide +kernel
theorem dX12_readLine_17 : decode cX12_readLine 17 = .ok (.aload_n 0, 1) := by decide +kernel
theorem dX12_readLine_18 : decode cX12_readLine 18 = .ok (.iload_n 1, 1) := by decide +kernel
theorem dX12_readLine_19 : decode cX12_readLine 19 = .ok (.ifCond .ne 7, 3) := by decide +kernel
theorem dX12_readLine_22 : decode cX12_readLine 22 = .ok (.iconst 1, 1) := by decide +kernel
theorem dX12_readLine_23 : decode cX12_readLine 23 = .ok (.goto 4, 3) := by decide +kernel
theorem dX12_readLine_26 : decode cX12_readLine 26 = .ok (.iconst 0, 1) := by decide +kernel
theorem dX12_readLine_27 : decode cX12_readLine 27 = .ok (.invokevirtual 285, 3) := by decide +kernel
theorem dX12_readLine_30 : decode cX12_readLine 30 = .ok (.goto 121, 3) := by decide +kernel
theorem dX12_readLine_33 : decode cX12_readLine 33 = .ok (.iload_n 1, 1) := by decide +kernel
theorem dX12_readLine_34 : decode cX12_readLine 34 = .ok (.iconst 2, 1) := by decide +kernel
theorem dX12_readLine_35 : decode cX12_readLine 35 = .ok (.if_icmp .ne 14, 3) := by decide +kernel
theorem dX12_readLine_38 : decode cX12_readLine 38 = .ok (.aload_n 0, 1) := by decide +kernel
theorem dX12_readLine_39 : decode cX12_readLine 39 = .ok (.iconst 2, 1) := by decide +kernel
theorem dX12_readLine_40 : decode cX12_readLine 40 = .ok (.iconst 3, 1) := by decide +kernel
theorem dX12_readLine_41 : decode cX12_readLine 41 = .ok (.bipush 8, 2) := by decide +kernel
theorem dX12_readLine_43 : decode cX12_readLine 43 = .ok (.invokevirtual 289, 3) := by decide +kernel
theorem dX12_readLine_46 : decode cX12_readLine 46 = .ok (.goto 105, 3) := by decide +kernel
theorem dX12_readLine_49 : decode cX12_readLine 49 = .ok (.iload_n 1, 1) := by decide +kernel
theorem dX12_readLine_50 : decode cX12_readLine 50 = .ok (.iconst 3, 1) := by decide +kernel
theorem dX12_readLine_51 : decode cX12_readLine 51 = .ok (.if_icmp .ne 14, 3) := by decide +kernel
theorem dX12_readLine_54 : decode cX12_readLine 54 = .ok (.aload_n 0, 1) := by decide +kernel
theorem dX12_readLine_55 : decode cX12_readLine 55 = .ok (.iconst 3, 1) := by decide +kernel
theorem dX12_readLine_56 : decode cX12_readLine 56 = .ok (.iconst 4, 1) := by decide +kernel
theorem dX12_readLine_57 : decode cX12_readLine 57 = .ok (.bipush 16, 2) := by decide +kernel
theorem dX12_readLine_59 : decode cX12_readLine 59 = .ok (.invokevirtual 289, 3) := by decide +kernel
theorem dX12_readLine_62 : decode cX12_readLine 62 = .ok (.goto 89, 3) := by decide +kernel
theorem dX12_readLine_65 : decode cX12_readLine 65 = .ok (.iload_n 1, 1) := by decide +kernel
theorem dX12_readLine_66 : decode cX12_readLine 66 = .ok (.iconst 5, 1) := by decide +kernel
theorem dX12_readLine_67 : decode cX12_readLine 67 = .ok (.if_icmp .eq 9, 3) := by decide +kernel
theorem dX12_readLine_70 : decode cX12_readLine 70 = .ok (.iload_n 1, 1) := by decide +kernel
theorem dX12_readLine_71 : decode cX12_readLine 71 = .ok (.bipush 7, 2) := by decide +kernel
theorem dX12_readLine_73 : decode cX12_readLine 73 = .ok (.if_icmp .ne 20, 3) := by decide +kernel
theorem dX12_readLine_76 : decode cX12_readLine 76 = .ok (.aload_n 0, 1) := by decide +kernel
theorem dX12_readLine_77 : decode cX12_readLine 77 = .ok (.iload_n 1, 1) := by decide +kernel
theorem dX12_readLine_78 : decode cX12_readLine 78 = .ok (.iconst 5, 1) := by decide +kernel
theorem dX12_readLine_79 : decode cX12_readLine 79 = .ok (.if_icmp .ne 7, 3) := by decide +kernel
theorem dX12_readLine_82 : decode cX12_readLine 82 = .ok (.iconst 1, 1) := by decide +kernel
theorem dX12_readLine_83 : decode cX12_readLine 83 = .ok (.goto 4, 3) := by decide +kernel
theorem dX12_readLine_86 : decode cX12_readLine 86 = .ok (.iconst 0, 1) := by decide +kernel
theorem dX12_readLine_87 : decode cX12_readLine 87 = .ok (.invokevirtual 293, 3) := by decide +kernel
theorem dX12_readLine_90 : decode cX12_readLine 90 = .ok (.goto 61, 3) := by decide +kernel
theorem dX12_readLine_93 : decode cX12_readLine 93 = .ok (.iload_n 1, 1) := by decide +kernel
theorem dX12_readLine_94 : decode cX12_readLine 94 = .ok (.bipush 6, 2) := by decide +kernel
theorem dX12_readLine_96 : decode cX12_readLine 96 = .ok (.if_icmp .ne 10, 3) := by decide +kernel
theorem dX12_readLine_99 : decode cX12_readLine 99 = .ok (.aload_n 0, 1) := by decide +kernel
theorem dX12_readLine_100 : decode cX12_readLine 100 = .ok (.invokevirtual 296, 3) := by decide +kernel
theorem dX12_readLine_103 : decode cX12_readLine 103 = .ok (.goto 48, 3) := by decide +kernel
theorem dX12_readLine_106 : decode cX12_readLine 106 = .ok (.iload_n 1, 1) := by decide +kernel
theorem dX12_readLine_107 : decode cX12_readLine 107 = .ok (.bipush 8, 2) := by decide +kernel
theorem dX12_readLine_109 : decode cX12_readLine 109 = .ok (.if_icmp .ne 10, 3) := by decide +kernel
theorem dX12_readLine_112 : decode cX12_readLine 112 = .ok (.aload_n 0, 1) := by decide +kernel
theorem dX12_readLine_113 : decode cX12_readLine 113 = .ok (.invokevirtual 299, 3) := by decide +kernel
theorem dX12_readLine_116 : decode cX12_readLine 116 = .ok (.goto 35, 3) := by decide +kernel
theorem dX12_readLine_119 : decode cX12_readLine 119 = .ok (.iload_n 1, 1) := by decide +kernel
theorem dX12_readLine_120 : decode cX12_readLine 120 = .ok (.bipush 9, 2) := by decide +kernel
theorem dX12_readLine_122 : decode cX12_readLine 122 = .ok (.if_icmp .ne 10, 3) := by decide +kernel
theorem dX12_readLine_125 : decode cX12_readLine 125 = .ok (.aload_n 0, 1) := by decide +kernel
theorem dX12_readLine_126 : decode cX12_readLine 126 = .ok (.invokevirtual 302, 3) := by decide +kernel
theorem dX12_readLine_129 : decode cX12_readLine 129 = .ok (.goto 22, 3) := by decide +kernel
theorem dX12_readLine_132 : decode cX12_readLine 132 = .ok (.aload_n 0, 1) := by decide +kernel
theorem dX12_readLine_133 : decode cX12_readLine 133 = .ok (.invokevirtual 245, 3) := by decide +kernel
theorem dX12_readLine_136 : decode cX12_readLine 136 = .ok (.ifCond .eq 10, 3) := by decide +kernel
theorem dX12_readLine_139 : decode cX12_readLine 139 = .ok (.aload_n 0, 1) := by decide +kernel
theorem dX12_readLine_140 : decode cX12_readLine 140 = .ok (.invokevirtual 305, 3) := by decide +kernel
theorem dX12_readLine_143 : decode cX12_readLine 143 = .ok (.goto 8, 3) := by decide +kernel
theorem dX12_readLine_146 : decode cX12_readLine 146 = .ok (.aload_n 0, 1) := by decide +kernel
theorem dX12_readLine_147 : decode cX12_readLine 147 = .ok (.iconst 1, 1) := by decide +kernel
theorem dX12_readLine_148 : decode cX12_readLine 148 = .ok (.invokevirtual 66, 3) := by decide +kernel
theorem dX12_readLine_151 : decode cX12_readLine 151 = .ok (.return_, 1) := by decide +kernel
theorem dX12_shader_0 : decode cX12_shader 0 = .ok (.aload_n 0, 1) := by decide +kernel
theorem dX12_shader_1 : decode cX12_shader 1 = .ok (.iconst 0, 1) := by decide +kernel
theorem dX12_shader_2 : decode cX12_shader 2 = .ok (.putfield 1, 3) := by decide +kernel
theorem dX12_shader_5 : decode cX12_shader 5 = .ok (.aload_n 0, 1) := by decide +kernel
theorem dX12_shader_6 : decode cX12_shader 6 = .ok (.invokevirtual 308, 3) := by decide +kernel
theorem dX12_shader_9 : decode cX12_shader 9 = .ok (.aload_n 0, 1) := by decide +kernel
theorem dX12_shader_10 : decode cX12_shader 10 = .ok (.sipush 412, 3) := by decide +kernel
theorem dX12_shader_13 : decode cX12_shader 13 = .ok (.invokevirtual 232, 3) := by decide +kernel
theorem dX12_shader_16 : decode cX12_shader 16 = .ok (.aload_n 0, 1) := by decide +kernel
theorem dX12_shader_17 : decode cX12_shader 17 = .ok (.iconst 0, 1) := by decide +kernel
theorem dX12_shader_18 : decode cX12_shader 18 = .ok (.putfield 235, 3) := by decide +kernel
theorem dX12_shader_21 : decode cX12_shader 21 = .ok (.aload_n 0, 1) := by decide +kernel
theorem dX12_shader_22 : decode cX12_shader 22 = .ok (.iconst 0, 1) := by decide +kernel
theorem dX12_shader_23 : decode cX12_shader 23 = .ok (.putfield 238, 3) := by decide +kernel
theorem dX12_shader_26 : decode cX12_shader 26 = .ok (.aload_n 0, 1) := by decide +kernel
theorem dX12_shader_27 : decode cX12_shader 27 = .ok (.getfield 57, 3) := by decide +kernel
theorem dX12_shader_30 : decode cX12_shader 30 = .ok (.ifCond .ne 26, 3) := by decide +kernel
theorem dX12_shader_33 : decode cX12_shader 33 = .ok (.aload_n 0, 1) := by decide +kernel
theorem dX12_shader_34 : decode cX12_shader 34 = .ok (.getfield 43, 3) := by decide +kernel
theorem dX12_shader_37 : decode cX12_shader 37 = .ok (.aload_n 0, 1) := by decide +kernel
theorem dX12_shader_38 : decode cX12_shader 38 = .ok (.getfield 54, 3) := by decide +kernel
theorem dX12_shader_41 : decode cX12_shader 41 = .ok (.iaload, 1) := by decide +kernel
theorem dX12_shader_42 : decode cX12_shader 42 = .ok (.ifCond .eq 14, 3) := by decide +kernel
theorem dX12_shader_45 : decode cX12_shader 45 = .ok (.aload_n 0, 1) := by decide +kernel
theorem dX12_shader_46 : decode cX12_shader 46 = .ok (.invokevirtual 311, 3) := by decide +kernel
theorem dX12_shader_49 : decode cX12_shader 49 = .ok (.aload_n 0, 1) := by decide +kernel
theorem dX12_shader_50 : decode cX12_shader 50 = .ok (.invokevirtual 314, 3) := by decide +kernel
theorem dX12_shader_53 : decode cX12_shader 53 = .ok (.goto (-27), 3) := by decide +kernel
theorem dX12_shader_56 : decode cX12_shader 56 = .ok (.aload_n 0, 1) := by decide +kernel
theorem dX12_shader_57 : decode cX12_shader 57 = .ok (.getfield 238, 3) := by decide +kernel
theorem dX12_shader_60 : decode cX12_shader 60 = .ok (.ifCond .le 8, 3) := by decide +kernel
theorem dX12_shader_63 : decode cX12_shader 63 = .ok (.aload_n 0, 1) := by decide +kernel
theorem dX12_shader_64 : decode cX12_shader 64 = .ok (.iconst 1, 1) := by decide +kernel
theorem dX12_shader_65 : decode cX12_shader 65 = .ok (.invokevirtual 66, 3) := by decide +kernel
theorem dX12_shader_68 : decode cX12_shader 68 = .ok (.aload_n 0, 1) := by decide +kernel
theorem dX12_shader_69 : decode cX12_shader 69 = .ok (.getfield 126, 3) := by decide +kernel
theorem dX12_shader_72 : decode cX12_shader 72 = .ok (.sipush 417, 3) := by decide +kernel
theorem dX12_shader_75 : decode cX12_shader 75 = .ok (.aload_n 0, 1) := by decide +kernel
theorem dX12_shader_76 : decode cX12_shader 76 = .ok (.getfield 235, 3) := by decide +kernel
theorem dX12_shader_79 : decode cX12_shader 79 = .ok (.iastore, 1) := by decide +kernel
theorem dX12_shader_80 : decode cX12_shader 80 = .ok (.aload_n 0, 1) := by decide +kernel
theorem dX12_shader_81 : decode cX12_shader 81 = .ok (.getfield 57, 3) := by decide +kernel
theorem dX12_shader_84 : decode cX12_shader 84 = .ok (.ifCond .ne 7, 3) := by decide +kernel
theorem dX12_shader_87 : decode cX12_shader 87 = .ok (.aload_n 0, 1) := by decide +kernel
theorem dX12_shader_88 : decode cX12_shader 88 = .ok (.invokevirtual 317, 3) := by decide +kernel
theorem dX12_shader_91 : decode cX12_shader 91 = .ok (.aload_n 0, 1) := by decide +kernel
theorem dX12_shader_92 : decode cX12_shader 92 = .ok (.getfield 57, 3) := by decide +kernel
theorem dX12_shader_95 : decode cX12_shader 95 = .ok (.ifCond .le 8, 3) := by decide +kernel
theorem dX12_shader_98 : decode cX12_shader 98 = .ok (.aload_n 0, 1) := by decide +kernel
theorem dX12_shader_99 : decode cX12_shader 99 = .ok (.getfield 57, 3) := by decide +kernel
theorem dX12_shader_102 : decode cX12_shader 102 = .ok (.ireturn, 1) := by decide +kernel
theorem dX12_shader_103 : decode cX12_shader 103 = .ok (.iconst 0, 1) := by decide +kernel
theorem dX12_shader_104 : decode cX12_shader 104 = .ok (.istore_n 1, 1) := by decide +kernel
theorem dX12_shader_105 : decode cX12_shader 105 = .ok (.iload_n 1, 1) := by decide +kernel
theorem dX12_shader_106 : decode cX12_shader 106 = .ok (.sipush 412, 3) := by decide +kernel
theorem dX12_shader_109 : decode cX12_shader 109 = .ok (.if_icmp .ge 25, 3) := by decide +kernel
theorem dX12_shader_112 : decode cX12_shader 112 = .ok (.aload_n 0, 1) := by decide +kernel
theorem dX12_shader_113 : decode cX12_shader 113 = .ok (.getfield 126, 3) := by decide +kernel
theorem dX12_shader_116 : decode cX12_shader 116 = .ok (.iload_n 1, 1) := by decide +kernel
theorem dX12_shader_117 : decode cX12_shader 117 = .ok (.aload_n 0, 1) := by decide +kernel
theorem dX12_shader_118 : decode cX12_shader 118 = .ok (.getfield 126, 3) := by decide +kernel
theorem dX12_shader_121 : decode cX12_shader 121 = .ok (.sipush 412, 3) := by decide +kernel
theorem dX12_shader_124 : decode cX12_shader 124 = .ok (.iload_n 1, 1) := by decide +kernel
theorem dX12_shader_125 : decode cX12_shader 125 = .ok (.iadd, 1) := by decide +kernel
theorem dX12_shader_126 : decode cX12_shader 126 = .ok (.iaload, 1) := by decide +kernel
theorem dX12_shader_127 : decode cX12_shader 127 = .ok (.iastore, 1) := by decide +kernel
theorem dX12_shader_128 : decode cX12_shader 128 = .ok (.iinc 1 1, 3) := by decide +kernel
theorem dX12_shader_131 : decode cX12_shader 131 = .ok (.goto (-26), 3) := by decide +kernel
theorem dX12_shader_134 : decode cX12_shader 134 = .ok (.iconst 0, 1) := by decide +kernel
theorem dX12_shader_135 : decode cX12_shader 135 = .ok (.istore_n 1, 1) := by decide +kernel
theorem dX12_shader_136 : decode cX12_shader 136 = .ok (.iload_n 1, 1) := by decide +kernel
theorem dX12_shader_137 : decode cX12_shader 137 = .ok (.bipush 12, 2) := by decide +kernel
theorem dX12_shader_139 : decode cX12_shader 139 = .ok (.aload_n 0, 1) := by decide +kernel
theorem dX12_shader_140 : decode cX12_shader 140 = .ok (.getfield 126, 3) := by decide +kernel
theorem dX12_shader_143 : decode cX12_shader 143 = .ok (.iconst 0, 1) := by decide +kernel
theorem dX12_shader_144 : decode cX12_shader 144 = .ok (.iaload, 1) := by decide +kernel
theorem dX12_shader_145 : decode cX12_shader 145 = .ok (.imul, 1) := by decide +kernel
theorem dX12_shader_146 : decode cX12_shader 146 = .ok (.if_icmp .ge 25, 3) := by decide +kernel
theorem dX12_shader_149 : decode cX12_shader 149 = .ok (.aload_n 0, 1) := by decide +kernel
theorem dX12_shader_150 : decode cX12_shader 150 = .ok (.getfield 129, 3) := by decide +kernel
theorem dX12_shader_153 : decode cX12_shader 153 = .ok (.iload_n 1, 1) := by decide +kernel
theorem dX12_shader_154 : decode cX12_shader 154 = .ok (.aload_n 0, 1) := by decide +kernel
theorem dX12_shader_155 : decode cX12_shader 155 = .ok (.getfield 129, 3) := by decide +kernel
theorem dX12_shader_158 : decode cX12_shader 158 = .ok (.sipush 2520, 3) := by decide +kernel
theorem dX12_shader_161 : decode cX12_shader 161 = .ok (.iload_n 1, 1) := by decide +kernel
theorem dX12_shader_162 : decode cX12_shader 162 = .ok (.iadd, 1) := by decide +kernel
theorem dX12_shader_163 : decode cX12_shader 163 = .ok (.iaload, 1) := by decide +kernel
theorem dX12_shader_164 : decode cX12_shader 164 = .ok (.iastore, 1) := by decide +kernel
theorem dX12_shader_165 : decode cX12_shader 165 = .ok (.iinc 1 1, 3) := by decide +kernel
theorem dX12_shader_168 : decode cX12_shader 168 = .ok (.goto (-32), 3) := by decide +kernel
theorem dX12_shader_171 : decode cX12_shader 171 = .ok (.iconst 0, 1) := by decide +kernel
theorem dX12_shader_172 : decode cX12_shader 172 = .ok (.istore_n 1, 1) := by decide +kernel
theorem dX12_shader_173 : decode cX12_shader 173 = .ok (.iload_n 1, 1) := by decide +kernel
theorem dX12_shader_174 : decode cX12_shader 174 = .ok (.aload_n 0, 1) := by decide +kernel
theorem dX12_shader_175 : decode cX12_shader 175 = .ok (.invokevirtual 320, 3) := by decide +kernel
theorem dX12_shader_178 : decode cX12_shader 178 = .ok (.if_icmp .ge 82, 3) := by decide +kernel
theorem dX12_shader_181 : decode cX12_shader 181 = .ok (.aload_n 0, 1) := by decide +kernel
theorem dX12_shader_182 : decode cX12_shader 182 = .ok (.getfield 162, 3) := by decide +kernel
theorem dX12_shader_185 : decode cX12_shader 185 = .ok (.iconst 2, 1) := by decide +kernel
theorem dX12_shader_186 : decode cX12_shader 186 = .ok (.iload_n 1, 1) := by decide +kernel
theorem dX12_shader_187 : decode cX12_shader 187 = .ok (.imul, 1) := by decide +kernel
theorem dX12_shader_188 : decode cX12_shader 188 = .ok (.aload_n 0, 1) := by decide +kernel
theorem dX12_shader_189 : decode cX12_shader 189 = .ok (.getfield 126, 3) := by decide +kernel
theorem dX12_shader_192 : decode cX12_shader 192 = .ok (.bipush 10, 2) := by decide +kernel
theorem dX12_shader_194 : decode cX12_shader 194 = .ok (.iconst 3, 1) := by decide +kernel
theorem dX12_shader_195 : decode cX12_shader 195 = .ok (.iload_n 1, 1) := by decide +kernel
theorem dX12_shader_196 : decode cX12_shader 196 = .ok (.imul, 1) := by decide +kernel
theorem dX12_shader_197 : decode cX12_shader 197 = .ok (.iadd, 1) := by decide +kernel
theorem dX12_shader_198 : decode cX12_shader 198 = .ok (.iaload, 1) := by decide +kernel
theorem dX12_shader_199 : decode cX12_shader 199 = .ok (.iastore, 1) := by decide +kernel
theorem dX12_shader_200 : decode cX12_shader 200 = .ok (.aload_n 0, 1) := by decide +kernel
theorem dX12_shader_201 : decode cX12_shader 201 = .ok (.getfield 162, 3) := by decide +kernel
theorem dX12_shader_204 : decode cX12_shader 204 = .ok (.iconst 2, 1) := by decide +kernel
theorem dX12_shader_205 : decode cX12_shader 205 = .ok (.iload_n 1, 1) := by decide +kernel
theorem dX12_shader_206 : decode cX12_shader 206 = .ok (.imul, 1) := by decide +kernel
theorem dX12_shader_207 : decode cX12_shader 207 = .ok (.iconst 1, 1) := by decide +kernel
theorem dX12_shader_208 : decode cX12_shader 208 = .ok (.iadd, 1) := by decide +kernel
theorem dX12_shader_209 : decode cX12_shader 209 = .ok (.aload_n 0, 1) := by decide +kernel
theorem dX12_shader_210 : decode cX12_shader 210 = .ok (.getfield 126, 3) := by decide +kernel
theorem dX12_shader_213 : decode cX12_shader 213 = .ok (.bipush 10, 2) := by decide +kernel
theorem dX12_shader_215 : decode cX12_shader 215 = .ok (.iconst 3, 1) := by decide +kernel
theorem dX12_shader_216 : decode cX12_shader 216 = .ok (.iload_n 1, 1) := by decide +kernel
theorem dX12_shader_217 : decode cX12_shader 217 = .ok (.imul, 1) := by decide +kernel
theorem dX12_shader_218 : decode cX12_shader 218 = .ok (.iadd, 1) := by decide +kernel
theorem dX12_shader_219 : decode cX12_shader 219 = .ok (.iconst 1, 1) := by decide +kernel
theorem dX12_shader_220 : decode cX12_shader 220 = .ok (.iadd, 1) := by decide +kernel
theorem dX12_shader_221 : decode cX12_shader 221 = .ok (.iaload, 1) := by decide +kernel
theorem dX12_shader_222 : decode cX12_shader 222 = .ok (.iastore, 1) := by decide +kernel
theorem dX12_shader_223 : decode cX12_shader 223 = .ok (.iconst 0, 1) := by decide +kernel
theorem dX12_shader_224 : decode cX12_shader 224 = .ok (.istore_n 2, 1) := by decide +kernel
theorem dX12_shader_225 : decode cX12_shader 225 = .ok (.iload_n 2, 1) := by decide +kernel
theorem dX12_shader_226 : decode cX12_shader 226 = .ok (.iconst 4, 1) := by decide +kernel
theorem dX12_shader_227 : decode cX12_shader 227 = .ok (.if_icmp .ge 27, 3) := by decide +kernel
theorem dX12_shader_230 : decode cX12_shader 230 = .ok (.aload_n 0, 1) := by decide +kernel
theorem dX12_shader_231 : decode cX12_shader 231 = .ok (.getfield 165, 3) := by decide +kernel
theorem dX12_shader_234 : decode cX12_shader 234 = .ok (.iconst 4, 1) := by decide +kernel
theorem dX12_shader_235 : decode cX12_shader 235 = .ok (.iload_n 1, 1) := by decide +kernel
theorem dX12_shader_236 : decode cX12_shader 236 = .ok (.imul, 1) := by decide +kernel
theorem dX12_shader_237 : decode cX12_shader 237 = .ok (.iload_n 2, 1) := by decide +kernel
theorem dX12_shader_238 : decode cX12_shader 238 = .ok (.iadd, 1) := by decide +kernel
theorem dX12_shader_239 : decode cX12_shader 239 = .ok (.aload_n 0, 1) := by decide +kernel
theorem dX12_shader_240 : decode cX12_shader 240 = .ok (.getfield 162, 3) := by decide +kernel
theorem dX12_shader_243 : decode cX12_shader 243 = .ok (.iconst 2, 1) := by decide +kernel
theorem dX12_shader_244 : decode cX12_shader 244 = .ok (.iload_n 1, 1) := by decide +kernel
theorem dX12_shader_245 : decode cX12_shader 245 = .ok (.imul, 1) := by decide +kernel
theorem dX12_shader_246 : decode cX12_shader 246 = .ok (.iaload, 1) := by decide +kernel
theorem dX12_shader_247 : decode cX12_shader 247 = .ok (.iastore, 1) := by decide +kernel
theorem dX12_shader_248 : decode cX12_shader 248 = .ok (.iinc 2 1, 3) := by decide +kernel
theorem dX12_shader_251 : decode cX12_shader 251 = .ok (.goto (-26), 3) := by decide +kernel
theorem dX12_shader_254 : decode cX12_shader 254 = .ok (.iinc 1 1, 3) := by decide +kernel
theorem dX12_shader_257 : decode cX12_shader 257 = .ok (.goto (-84), 3) := by decide +kernel
theorem dX12_shader_260 : decode cX12_shader 260 = .ok (.iconst 0, 1) := by decide +kernel
theorem dX12_shader_261 : decode cX12_shader 261 = .ok (.ireturn, 1) := by decide +kernel
theorem dX12_bad_0 : decode cX12_bad 0 = .ok (.aload_n 0, 1) := by decide +kernel
theorem dX12_bad_1 : decode cX12_bad 1 = .ok (.getfield 57, 3) := by decide +kernel
theorem dX12_bad_4 : decode cX12_bad 4 = .ok (.ifCond .ne 13, 3) := by decide +kernel
theorem dX12_bad_7 : decode cX12_bad 7 = .ok (.aload_n 0, 1) := by decide +kernel
theorem dX12_bad_8 : decode cX12_bad 8 = .ok (.iconst 5, 1) := by decide +kernel
theorem dX12_bad_9 : decode cX12_bad 9 = .ok (.bipush 16, 2) := by decide +kernel
theorem dX12_bad_11 : decode cX12_bad 11 = .ok (.iload_n 1, 1) := by decide +kernel
theorem dX12_bad_12 : decode cX12_bad 12 = .ok (.imul, 1) := by decide +kernel
theorem dX12_bad_13 : decode cX12_bad 13 = .ok (.iadd, 1) := by decide +kernel
theorem dX12_bad_14 : decode cX12_bad 14 = .ok (.putfield 57, 3) := by decide +kernel
theorem dX12_bad_17 : decode cX12_bad 17 = .ok (.return_, 1) := by decide +kernel
theorem dX12_new1_0 : decode cX12_new1 0 = .ok (.sipush 448, 3) := by decide +kernel
theorem dX12_new1_3 : decode cX12_new1 3 = .ok (.iconst 4, 1) := by decide +kernel
theorem dX12_new1_4 : decode cX12_new1 4 = .ok (.iload_n 1, 1) := by decide +kernel
theorem dX12_new1_5 : decode cX12_new1 5 = .ok (.imul, 1) := by decide +kernel
theorem dX12_new1_6 : decode cX12_new1 6 = .ok (.iadd, 1) := by decide +kernel
theorem dX12_new1_7 : decode cX12_new1 7 = .ok (.ireturn, 1) := by decide +kernel
theorem dX12_made_0 : decode cX12_made 0 = .ok (.aload_n 0, 1) := by decide +kernel
theorem dX12_made_1 : decode cX12_made 1 = .ok (.getfield 126, 3) := by decide +kernel
theorem dX12_made_4 : decode cX12_made 4 = .ok (.sipush 420, 3) := by decide +kernel
theorem dX12_made_7 : decode cX12_made 7 = .ok (.iaload, 1) := by decide +kernel
theorem dX12_made_8 : decode cX12_made 8 = .ok (.istore 6, 2) := by decide +kernel
theorem dX12_made_10 : decode cX12_made 10 = .ok (.iconst 0, 1) := by decide +kernel
theorem dX12_made_11 : decode cX12_made 11 = .ok (.istore 7, 2) := by decide +kernel
theorem dX12_made_13 : decode cX12_made 13 = .ok (.iload 7, 2) := by decide +kernel
theorem dX12_made_15 : decode cX12_made 15 = .ok (.iload 6, 2) := by decide +kernel
theorem dX12_made_17 : decode cX12_made 17 = .ok (.if_icmp .ge 71, 3) := by decide +kernel
theorem dX12_made_20 : decode cX12_made 20 = .ok (.aload_n 0, 1) := by decide +kernel
theorem dX12_made_21 : decode cX12_made 21 = .ok (.iload 7, 2) := by decide +kernel
theorem dX12_made_23 : decode cX12_made 23 = .ok (.invokevirtual 323, 3) := by decide +kernel
theorem dX12_made_26 : decode cX12_made 26 = .ok (.istore 8, 2) := by decide +kernel
theorem dX12_made_28 : decode cX12_made 28 = .ok (.aload_n 0, 1) := by decide +kernel
theorem dX12_made_29 : decode cX12_made 29 = .ok (.getfield 126, 3) := by decide +kernel
theorem dX12_made_32 : decode cX12_made 32 = .ok (.iload 8, 2) := by decide +kernel
theorem dX12_made_34 : decode cX12_made 34 = .ok (.iaload, 1) := by decide +kernel
theorem dX12_made_35 : decode cX12_made 35 = .ok (.iload_n 1, 1) := by decide +kernel
theorem dX12_made_36 : decode cX12_made 36 = .ok (.if_icmp .ne 46, 3) := by decide +kernel
theorem dX12_made_39 : decode cX12_made 39 = .ok (.aload_n 0, 1) := by decide +kernel
theorem dX12_made_40 : decode cX12_made 40 = .ok (.getfield 126, 3) := by decide +kernel
theorem dX12_made_43 : decode cX12_made 43 = .ok (.iload 8, 2) := by decide +kernel
theorem dX12_made_45 : decode cX12_made 45 = .ok (.iconst 1, 1) := by decide +kernel
theorem dX12_made_46 : decode cX12_made 46 = .ok (.iadd, 1) := by decide +kernel
theorem dX12_made_47 : decode cX12_made 47 = .ok (.iaload, 1) := by decide +kernel
theorem dX12_made_48 : decode cX12_made 48 = .ok (.iload_n 2, 1) := by decide +kernel
theorem dX12_made_49 : decode cX12_made 49 = .ok (.if_icmp .ne 33, 3) := by decide +kernel
theorem dX12_made_52 : decode cX12_made 52 = .ok (.aload_n 0, 1) := by decide +kernel
theorem dX12_made_53 : decode cX12_made 53 = .ok (.getfield 126, 3) := by decide +kernel
theorem dX12_made_56 : decode cX12_made 56 = .ok (.iload 8, 2) := by decide +kernel
theorem dX12_made_58 : decode cX12_made 58 = .ok (.iconst 2, 1) := by decide +kernel
theorem dX12_made_59 : decode cX12_made 59 = .ok (.iadd, 1) := by decide +kernel
theorem dX12_made_60 : decode cX12_made 60 = .ok (.iaload, 1) := by decide +kernel
theorem dX12_made_61 : decode cX12_made 61 = .ok (.iload_n 3, 1) := by decide +kernel
theorem dX12_made_62 : decode cX12_made 62 = .ok (.if_icmp .ne 20, 3) := by decide +kernel
theorem dX12_made_65 : decode cX12_made 65 = .ok (.aload_n 0, 1) := by decide +kernel
theorem dX12_made_66 : decode cX12_made 66 = .ok (.getfield 126, 3) := by decide +kernel
theorem dX12_made_69 : decode cX12_made 69 = .ok (.iload 8, 2) := by decide +kernel
theorem dX12_made_71 : decode cX12_made 71 = .ok (.iconst 3, 1) := by decide +kernel
theorem dX12_made_72 : decode cX12_made 72 = .ok (.iadd, 1) := by decide +kernel
theorem dX12_made_73 : decode cX12_made 73 = .ok (.iaload, 1) := by decide +kernel
theorem dX12_made_74 : decode cX12_made 74 = .ok (.iload 4, 2) := by decide +kernel
theorem dX12_made_76 : decode cX12_made 76 = .ok (.if_icmp .ne 6, 3) := by decide +kernel
theorem dX12_made_79 : decode cX12_made 79 = .ok (.iload 7, 2) := by decide +kernel
theorem dX12_made_81 : decode cX12_made 81 = .ok (.ireturn, 1) := by decide +kernel
theorem dX12_made_82 : decode cX12_made 82 = .ok (.iinc 7 1, 3) := by decide +kernel
theorem dX12_made_85 : decode cX12_made 85 = .ok (.goto (-72), 3) := by decide +kernel
theorem dX12_made_88 : decode cX12_made 88 = .ok (.iload 6, 2) := by decide +kernel
theorem dX12_made_90 : decode cX12_made 90 = .ok (.bipush 64, 2) := by decide +kernel
theorem dX12_made_92 : decode cX12_made 92 = .ok (.if_icmp .ne 11, 3) := by decide +kernel
theorem dX12_made_95 : decode cX12_made 95 = .ok (.aload_n 0, 1) := by decide +kernel
theorem dX12_made_96 : decode cX12_made 96 = .ok (.iload 5, 2) := by decide +kernel
theorem dX12_made_98 : decode cX12_made 98 = .ok (.invokevirtual 326, 3) := by decide +kernel
theorem dX12_made_101 : decode cX12_made 101 = .ok (.iconst 0, 1) := by decide +kernel
theorem dX12_made_102 : decode cX12_made 102 = .ok (.ireturn, 1) := by decide +kernel
theorem dX12_made_103 : decode cX12_made 103 = .ok (.aload_n 0, 1) := by decide +kernel
theorem dX12_made_104 : decode cX12_made 104 = .ok (.iload 6, 2) := by decide +kernel
theorem dX12_made_106 : decode cX12_made 106 = .ok (.invokevirtual 323, 3) := by decide +kernel
theorem dX12_made_109 : decode cX12_made 109 = .ok (.istore 7, 2) := by decide +kernel
theorem dX12_made_111 : decode cX12_made 111 = .ok (.aload_n 0, 1) := by decide +kernel
theorem dX12_made_112 : decode cX12_made 112 = .ok (.getfield 126, 3) := by decide +kernel
theorem dX12_made_115 : decode cX12_made 115 = .ok (.iload 7, 2) := by decide +kernel
theorem dX12_made_117 : decode cX12_made 117 = .ok (.iload_n 1, 1) := by decide +kernel
theorem dX12_made_118 : decode cX12_made 118 = .ok (.iastore, 1) := by decide +kernel
theorem dX12_made_119 : decode cX12_made 119 = .ok (.aload_n 0, 1) := by decide +kernel
theorem dX12_made_120 : decode cX12_made 120 = .ok (.getfield 126, 3) := by decide +kernel
theorem dX12_made_123 : decode cX12_made 123 = .ok (.iload 7, 2) := by decide +kernel
theorem dX12_made_125 : decode cX12_made 125 = .ok (.iconst 1, 1) := by decide +kernel
theorem dX12_made_126 : decode cX12_made 126 = .ok (.iadd, 1) := by decide +kernel
theorem dX12_made_127 : decode cX12_made 127 = .ok (.iload_n 2, 1) := by decide +kernel
theorem dX12_made_128 : decode cX12_made 128 = .ok (.iastore, 1) := by decide +kernel
theorem dX12_made_129 : decode cX12_made 129 = .ok (.aload_n 0, 1) := by decide +kernel
theorem dX12_made_130 : decode cX12_made 130 = .ok (.getfield 126, 3) := by decide +kernel
theorem dX12_made_133 : decode cX12_made 133 = .ok (.iload 7, 2) := by decide +kernel
theorem dX12_made_135 : decode cX12_made 135 = .ok (.iconst 2, 1) := by decide +kernel
theorem dX12_made_136 : decode cX12_made 136 = .ok (.iadd, 1) := by decide +kernel
theorem dX12_made_137 : decode cX12_made 137 = .ok (.iload_n 3, 1) := by decide +kernel
theorem dX12_made_138 : decode cX12_made 138 = .ok (.iastore, 1) := by decide +kernel
theorem dX12_made_139 : decode cX12_made 139 = .ok (.aload_n 0, 1) := by decide +kernel
theorem dX12_made_140 : decode cX12_made 140 = .ok (.getfield 126, 3) := by decide +kernel
theorem dX12_made_143 : decode cX12_made 143 = .ok (.iload 7, 2) := by decide +kernel
theorem dX12_made_145 : decode cX12_made 145 = .ok (.iconst 3, 1) := by decide +kernel
theorem dX12_made_146 : decode cX12_made 146 = .ok (.iadd, 1) := by decide +kernel
theorem dX12_made_147 : decode cX12_made 147 = .ok (.iload 4, 2) := by decide +kernel
theorem dX12_made_149 : decode cX12_made 149 = .ok (.iastore, 1) := by decide +kernel
theorem dX12_made_150 : decode cX12_made 150 = .ok (.aload_n 0, 1) := by decide +kernel
theorem dX12_made_151 : decode cX12_made 151 = .ok (.getfield 126, 3) := by decide +kernel
theorem dX12_made_154 : decode cX12_made 154 = .ok (.sipush 420, 3) := by decide +kernel
theorem dX12_made_157 : decode cX12_made 157 = .ok (.dup2, 1) := by decide +kernel
theorem dX12_made_158 : decode cX12_made 158 = .ok (.iaload, 1) := by decide +kernel
theorem dX12_made_159 : decode cX12_made 159 = .ok (.iconst 1, 1) := by decide +kernel
theorem dX12_made_160 : decode cX12_made 160 = .ok (.iadd, 1) := by decide +kernel
theorem dX12_made_161 : decode cX12_made 161 = .ok (.iastore, 1) := by decide +kernel
theorem dX12_made_162 : decode cX12_made 162 = .ok (.iload 6, 2) := by decide +kernel
theorem dX12_made_164 : decode cX12_made 164 = .ok (.ireturn, 1) := by decide +kernel
theorem dX12_argValue_0 : decode cX12_argValue 0 = .ok (.aload_n 0, 1) := by decide +kernel
theorem dX12_argValue_1 : decode cX12_argValue 1 = .ok (.getfield 129, 3) := by decide +kernel
theorem dX12_argValue_4 : decode cX12_argValue 4 = .ok (.iload_n 1, 1) := by decide +kernel
theorem dX12_argValue_5 : decode cX12_argValue 5 = .ok (.iaload, 1) := by decide +kernel
theorem dX12_argValue_6 : decode cX12_argValue 6 = .ok (.ifCond .ge 19, 3) := by decide +kernel
theorem dX12_argValue_9 : decode cX12_argValue 9 = .ok (.aload_n 0, 1) := by decide +kernel
theorem dX12_argValue_10 : decode cX12_argValue 10 = .ok (.getfield 147, 3) := by decide +kernel
theorem dX12_argValue_13 : decode cX12_argValue 13 = .ok (.iconst (-1), 1) := by decide +kernel
theorem dX12_argValue_14 : decode cX12_argValue 14 = .ok (.aload_n 0, 1) := by decide +kernel
theorem dX12_argValue_15 : decode cX12_argValue 15 = .ok (.getfield 129, 3) := by decide +kernel
theorem dX12_argValue_18 : decode cX12_argValue 18 = .ok (.iload_n 1, 1) := by decide +kernel
theorem dX12_argValue_19 : decode cX12_argValue 19 = .ok (.iaload, 1) := by decide +kernel
theorem dX12_argValue_20 : decode cX12_argValue 20 = .ok (.isub, 1) := by decide +kernel
theorem dX12_argValue_21 : decode cX12_argValue 21 = .ok (.iaload, 1) := by decide +kernel
theorem dX12_argValue_22 : decode cX12_argValue 22 = .ok (.goto 24, 3) := by decide +kernel
theorem dX12_argValue_25 : decode cX12_argValue 25 = .ok (.aload_n 0, 1) := by decide +kernel
theorem dX12_argValue_26 : decode cX12_argValue 26 = .ok (.iconst 1, 1) := by decide +kernel
theorem dX12_argValue_27 : decode cX12_argValue 27 = .ok (.aload_n 0, 1) := by decide +kernel
theorem dX12_argValue_28 : decode cX12_argValue 28 = .ok (.getfield 129, 3) := by decide +kernel
theorem dX12_argValue_31 : decode cX12_argValue 31 = .ok (.iload_n 1, 1) := by decide +kernel
theorem dX12_argValue_32 : decode cX12_argValue 32 = .ok (.iaload, 1) := by decide +kernel
theorem dX12_argValue_33 : decode cX12_argValue 33 = .ok (.iconst (-1), 1) := by decide +kernel
theorem dX12_argValue_34 : decode cX12_argValue 34 = .ok (.iconst (-1), 1) := by decide +kernel
theorem dX12_argValue_35 : decode cX12_argValue 35 = .ok (.aload_n 0, 1) := by decide +kernel
theorem dX12_argValue_36 : decode cX12_argValue 36 = .ok (.getfield 129, 3) := by decide +kernel
theorem dX12_argValue_39 : decode cX12_argValue 39 = .ok (.iload_n 1, 1) := by decide +kernel
theorem dX12_argValue_40 : decode cX12_argValue 40 = .ok (.iconst 1, 1) := by decide +kernel
theorem dX12_argValue_41 : decode cX12_argValue 41 = .ok (.iadd, 1) := by decide +kernel
theorem dX12_argValue_42 : decode cX12_argValue 42 = .ok (.iaload, 1) := by decide +kernel
theorem dX12_argValue_43 : decode cX12_argValue 43 = .ok (.invokevirtual 329, 3) := by decide +kernel
theorem dX12_argValue_46 : decode cX12_argValue 46 = .ok (.ireturn, 1) := by decide +kernel
theorem dX12_goesEitherWay_0 : decode cX12_goesEitherWay 0 = .ok (.iload_n 0, 1) := by decide +kernel
theorem dX12_goesEitherWay_1 : decode cX12_goesEitherWay 1 = .ok (.iconst 2, 1) := by decide +kernel
theorem dX12_goesEitherWay_2 : decode cX12_goesEitherWay 2 = .ok (.if_icmp .eq 31, 3) := by decide +kernel
theorem dX12_goesEitherWay_5 : decode cX12_goesEitherWay 5 = .ok (.iload_n 0, 1) := by decide +kernel
theorem dX12_goesEitherWay_6 : decode cX12_goesEitherWay 6 = .ok (.iconst 4, 1) := by decide +kernel
theorem dX12_goesEitherWay_7 : decode cX12_goesEitherWay 7 = .ok (.if_icmp .eq 26, 3) := by decide +kernel
theorem dX12_goesEitherWay_10 : decode cX12_goesEitherWay 10 = .ok (.iload_n 0, 1) := by decide +kernel
theorem dX12_goesEitherWay_11 : decode cX12_goesEitherWay 11 = .ok (.iconst 5, 1) := by decide +kernel
theorem dX12_goesEitherWay_12 : decode cX12_goesEitherWay 12 = .ok (.if_icmp .eq 21, 3) := by decide +kernel
theorem dX12_goesEitherWay_15 : decode cX12_goesEitherWay 15 = .ok (.iload_n 0, 1) := by decide +kernel
theorem dX12_goesEitherWay_16 : decode cX12_goesEitherWay 16 = .ok (.bipush 6, 2) := by decide +kernel
theorem dX12_goesEitherWay_18 : decode cX12_goesEitherWay 18 = .ok (.if_icmp .eq 15, 3) := by decide +kernel
theorem dX12_goesEitherWay_21 : decode cX12_goesEitherWay 21 = .ok (.iload_n 0, 1) := by decide +kernel
theorem dX12_goesEitherWay_22 : decode cX12_goesEitherWay 22 = .ok (.bipush 9, 2) := by decide +kernel
theorem dX12_goesEitherWay_24 : decode cX12_goesEitherWay 24 = .ok (.if_icmp .lt 13, 3) := by decide +kernel
theorem dX12_goesEitherWay_27 : decode cX12_goesEitherWay 27 = .ok (.iload_n 0, 1) := by decide +kernel
theorem dX12_goesEitherWay_28 : decode cX12_goesEitherWay 28 = .ok (.bipush 11, 2) := by decide +kernel
theorem dX12_goesEitherWay_30 : decode cX12_goesEitherWay 30 = .ok (.if_icmp .gt 7, 3) := by decide +kernel
theorem dX12_goesEitherWay_33 : decode cX12_goesEitherWay 33 = .ok (.iconst 1, 1) := by decide +kernel
theorem dX12_goesEitherWay_34 : decode cX12_goesEitherWay 34 = .ok (.goto 4, 3) := by decide +kernel
theorem dX12_goesEitherWay_37 : decode cX12_goesEitherWay 37 = .ok (.iconst 0, 1) := by decide +kernel
theorem dX12_goesEitherWay_38 : decode cX12_goesEitherWay 38 = .ok (.ireturn, 1) := by decide +kernel
theorem dX12_opValue_0 : decode cX12_opValue 0 = .ok (.aload_n 0, 1) := by decide +kernel
theorem dX12_opValue_1 : decode cX12_opValue 1 = .ok (.getfield 129, 3) := by decide +kernel
theorem dX12_opValue_4 : decode cX12_opValue 4 = .ok (.iload_n 1, 1) := by decide +kernel
theorem dX12_opValue_5 : decode cX12_opValue 5 = .ok (.iconst 2, 1) := by decide +kernel
theorem dX12_opValue_6 : decode cX12_opValue 6 = .ok (.iadd, 1) := by decide +kernel
theorem dX12_opValue_7 : decode cX12_opValue 7 = .ok (.iaload, 1) := by decide +kernel
theorem dX12_opValue_8 : decode cX12_opValue 8 = .ok (.istore_n 2, 1) := by decide +kernel
theorem dX12_opValue_9 : decode cX12_opValue 9 = .ok (.iload_n 2, 1) := by decide +kernel
theorem dX12_opValue_10 : decode cX12_opValue 10 = .ok (.invokestatic 276, 3) := by decide +kernel
theorem dX12_opValue_13 : decode cX12_opValue 13 = .ok (.istore_n 3, 1) := by decide +kernel
theorem dX12_opValue_14 : decode cX12_opValue 14 = .ok (.aload_n 0, 1) := by decide +kernel
theorem dX12_opValue_15 : decode cX12_opValue 15 = .ok (.iload_n 1, 1) := by decide +kernel
theorem dX12_opValue_16 : decode cX12_opValue 16 = .ok (.iconst 5, 1) := by decide +kernel
theorem dX12_opValue_17 : decode cX12_opValue 17 = .ok (.iadd, 1) := by decide +kernel
theorem dX12_opValue_18 : decode cX12_opValue 18 = .ok (.invokevirtual 333, 3) := by decide +kernel
theorem dX12_opValue_21 : decode cX12_opValue 21 = .ok (.istore 4, 2) := by decide +kernel
theorem dX12_opValue_23 : decode cX12_opValue 23 = .ok (.iload_n 3, 1) := by decide +kernel
theorem dX12_opValue_24 : decode cX12_opValue 24 = .ok (.iconst 1, 1) := by decide +kernel
theorem dX12_opValue_25 : decode cX12_opValue 25 = .ok (.if_icmp .le 21, 3) := by decide +kernel
theorem dX12_opValue_28 : decode cX12_opValue 28 = .ok (.aload_n 0, 1) := by decide +kernel
theorem dX12_opValue_29 : decode cX12_opValue 29 = .ok (.getfield 57, 3) := by decide +kernel
theorem dX12_opValue_32 : decode cX12_opValue 32 = .ok (.ifCond .ne 14, 3) := by decide +kernel
theorem dX12_opValue_35 : decode cX12_opValue 35 = .ok (.aload_n 0, 1) := by decide +kernel
theorem dX12_opValue_36 : decode cX12_opValue 36 = .ok (.iload_n 1, 1) := by decide +kernel
theorem dX12_opValue_37 : decode cX12_opValue 37 = .ok (.bipush 7, 2) := by decide +kernel
theorem dX12_opValue_39 : decode cX12_opValue 39 = .ok (.iadd, 1) := by decide +kernel
theorem dX12_opValue_40 : decode cX12_opValue 40 = .ok (.invokevirtual 333, 3) := by decide +kernel
theorem dX12_opValue_43 : decode cX12_opValue 43 = .ok (.goto 4, 3) := by decide +kernel
theorem dX12_opValue_46 : decode cX12_opValue 46 = .ok (.iconst (-1), 1) := by decide +kernel
theorem dX12_opValue_47 : decode cX12_opValue 47 = .ok (.istore 5, 2) := by decide +kernel
theorem dX12_opValue_49 : decode cX12_opValue 49 = .ok (.iload_n 3, 1) := by decide +kernel
theorem dX12_opValue_50 : decode cX12_opValue 50 = .ok (.iconst 2, 1) := by decide +kernel
theorem dX12_opValue_51 : decode cX12_opValue 51 = .ok (.if_icmp .le 21, 3) := by decide +kernel
theorem dX12_opValue_54 : decode cX12_opValue 54 = .ok (.aload_n 0, 1) := by decide +kernel
theorem dX12_opValue_55 : decode cX12_opValue 55 = .ok (.getfield 57, 3) := by decide +kernel
theorem dX12_opValue_58 : decode cX12_opValue 58 = .ok (.ifCond .ne 14, 3) := by decide +kernel
theorem dX12_opValue_61 : decode cX12_opValue 61 = .ok (.aload_n 0, 1) := by decide +kernel
theorem dX12_opValue_62 : decode cX12_opValue 62 = .ok (.iload_n 1, 1) := by decide +kernel
theorem dX12_opValue_63 : decode cX12_opValue 63 = .ok (.bipush 9, 2) := by decide +kernel
theorem dX12_opValue_65 : decode cX12_opValue 65 = .ok (.iadd, 1) := by decide +kernel
theorem dX12_opValue_66 : decode cX12_opValue 66 = .ok (.invokevirtual 333, 3) := by decide +kernel
theorem dX12_opValue_69 : decode cX12_opValue 69 = .ok (.goto 4, 3) := by decide +kernel
theorem dX12_opValue_72 : decode cX12_opValue 72 = .ok (.iconst (-1), 1) := by decide +kernel
theorem dX12_opValue_73 : decode cX12_opValue 73 = .ok (.istore 6, 2) := by decide +kernel
theorem dX12_opValue_75 : decode cX12_opValue 75 = .ok (.aload_n 0, 1) := by decide +kernel
theorem dX12_opValue_76 : decode cX12_opValue 76 = .ok (.getfield 57, 3) := by decide +kernel
theorem dX12_opValue_79 : decode cX12_opValue 79 = .ok (.ifCond .le 5, 3) := by decide +kernel
theorem dX12_opValue_82 : decode cX12_opValue 82 = .ok (.iconst 0, 1) := by decide +kernel
theorem dX12_opValue_83 : decode cX12_opValue 83 = .ok (.ireturn, 1) := by decide +kernel
theorem dX12_opValue_84 : decode cX12_opValue 84 = .ok (.iload_n 2, 1) := by decide +kernel
theorem dX12_opValue_85 : decode cX12_opValue 85 = .ok (.bipush 14, 2) := by decide +kernel
theorem dX12_opValue_87 : decode cX12_opValue 87 = .ok (.if_icmp .eq 16, 3) := by decide +kernel
theorem dX12_opValue_90 : decode cX12_opValue 90 = .ok (.iload_n 2, 1) := by decide +kernel
theorem dX12_opValue_91 : decode cX12_opValue 91 = .ok (.bipush 13, 2) := by decide +kernel
theorem dX12_opValue_93 : decode cX12_opValue 93 = .ok (.if_icmp .ne 24, 3) := by decide +kernel
theorem dX12_opValue_96 : decode cX12_opValue 96 = .ok (.iload 5, 2) := by decide +kernel
theorem dX12_opValue_98 : decode cX12_opValue 98 = .ok (.iload 6, 2) := by decide +kernel
theorem dX12_opValue_100 : decode cX12_opValue 100 = .ok (.if_icmp .ne 17, 3) := by decide +kernel
theorem dX12_opValue_103 : decode cX12_opValue 103 = .ok (.iload_n 2, 1) := by decide +kernel
theorem dX12_opValue_104 : decode cX12_opValue 104 = .ok (.bipush 14, 2) := by decide +kernel
theorem dX12_opValue_106 : decode cX12_opValue 106 = .ok (.if_icmp .ne 8, 3) := by decide +kernel
theorem dX12_opValue_109 : decode cX12_opValue 109 = .ok (.iload 4, 2) := by decide +kernel
theorem dX12_opValue_111 : decode cX12_opValue 111 = .ok (.goto 5, 3) := by decide +kernel
theorem dX12_opValue_114 : decode cX12_opValue 114 = .ok (.iload 5, 2) := by decide +kernel
theorem dX12_opValue_116 : decode cX12_opValue 116 = .ok (.ireturn, 1) := by decide +kernel
theorem dX12_opValue_117 : decode cX12_opValue 117 = .ok (.iload_n 2, 1) := by decide +kernel
theorem dX12_opValue_118 : decode cX12_opValue 118 = .ok (.invokestatic 336, 3) := by decide +kernel
theorem dX12_opValue_121 : decode cX12_opValue 121 = .ok (.ifCond .eq 14, 3) := by decide +kernel
theorem dX12_opValue_124 : decode cX12_opValue 124 = .ok (.iload 5, 2) := by decide +kernel
theorem dX12_opValue_126 : decode cX12_opValue 126 = .ok (.iload 4, 2) := by decide +kernel
theorem dX12_opValue_128 : decode cX12_opValue 128 = .ok (.if_icmp .ge 7, 3) := by decide +kernel
theorem dX12_opValue_131 : decode cX12_opValue 131 = .ok (.iconst 1, 1) := by decide +kernel
theorem dX12_opValue_132 : decode cX12_opValue 132 = .ok (.goto 4, 3) := by decide +kernel
theorem dX12_opValue_135 : decode cX12_opValue 135 = .ok (.iconst 0, 1) := by decide +kernel
theorem dX12_opValue_136 : decode cX12_opValue 136 = .ok (.istore 7, 2) := by decide +kernel
theorem dX12_opValue_138 : decode cX12_opValue 138 = .ok (.aload_n 0, 1) := by decide +kernel
theorem dX12_opValue_139 : decode cX12_opValue 139 = .ok (.iload_n 2, 1) := by decide +kernel
theorem dX12_opValue_140 : decode cX12_opValue 140 = .ok (.iload 7, 2) := by decide +kernel
theorem dX12_opValue_142 : decode cX12_opValue 142 = .ok (.ifCond .eq 8, 3) := by decide +kernel
theorem dX12_opValue_145 : decode cX12_opValue 145 = .ok (.iload 5, 2) := by decide +kernel
theorem dX12_opValue_147 : decode cX12_opValue 147 = .ok (.goto 5, 3) := by decide +kernel
theorem dX12_opValue_150 : decode cX12_opValue 150 = .ok (.iload 4, 2) := by decide +kernel
theorem dX12_opValue_152 : decode cX12_opValue 152 = .ok (.iload 7, 2) := by decide +kernel
theorem dX12_opValue_154 : decode cX12_opValue 154 = .ok (.ifCond .eq 8, 3) := by decide +kernel
theorem dX12_opValue_157 : decode cX12_opValue 157 = .ok (.iload 4, 2) := by decide +kernel
theorem dX12_opValue_159 : decode cX12_opValue 159 = .ok (.goto 5, 3) := by decide +kernel
theorem dX12_opValue_162 : decode cX12_opValue 162 = .ok (.iload 5, 2) := by decide +kernel
theorem dX12_opValue_164 : decode cX12_opValue 164 = .ok (.iload 6, 2) := by decide +kernel
theorem dX12_opValue_166 : decode cX12_opValue 166 = .ok (.aload_n 0, 1) := by decide +kernel
theorem dX12_opValue_167 : decode cX12_opValue 167 = .ok (.getfield 129, 3) := by decide +kernel
theorem dX12_opValue_170 : decode cX12_opValue 170 = .ok (.iload_n 1, 1) := by decide +kernel
theorem dX12_opValue_171 : decode cX12_opValue 171 = .ok (.iconst 4, 1) := by decide +kernel
theorem dX12_opValue_172 : decode cX12_opValue 172 = .ok (.iadd, 1) := by decide +kernel
theorem dX12_opValue_173 : decode cX12_opValue 173 = .ok (.iaload, 1) := by decide +kernel
theorem dX12_opValue_174 : decode cX12_opValue 174 = .ok (.invokevirtual 329, 3) := by decide +kernel
theorem dX12_opValue_177 : decode cX12_opValue 177 = .ok (.ireturn, 1) := by decide +kernel
theorem dX12_isUniformRead_0 : decode cX12_isUniformRead 0 = .ok (.iconst 0, 1) := by decide +kernel
theorem dX12_isUniformRead_1 : decode cX12_isUniformRead 1 = .ok (.istore_n 2, 1) := by decide +kernel
theorem dX12_isUniformRead_2 : decode cX12_isUniformRead 2 = .ok (.iload_n 2, 1) := by decide +kernel
theorem dX12_isUniformRead_3 : decode cX12_isUniformRead 3 = .ok (.iload_n 1, 1) := by decide +kernel
theorem dX12_isUniformRead_4 : decode cX12_isUniformRead 4 = .ok (.if_icmp .gt 130, 3) := by decide +kernel
theorem dX12_isUniformRead_7 : decode cX12_isUniformRead 7 = .ok (.aload_n 0, 1) := by decide +kernel
theorem dX12_isUniformRead_8 : decode cX12_isUniformRead 8 = .ok (.iload_n 2, 1) := by decide +kernel
theorem dX12_isUniformRead_9 : decode cX12_isUniformRead 9 = .ok (.invokevirtual 323, 3) := by decide +kernel
theorem dX12_isUniformRead_12 : decode cX12_isUniformRead 12 = .ok (.istore_n 3, 1) := by decide +kernel
theorem dX12_isUniformRead_13 : decode cX12_isUniformRead 13 = .ok (.aload_n 0, 1) := by decide +kernel
theorem dX12_isUniformRead_14 : decode cX12_isUniformRead 14 = .ok (.getfield 126, 3) := by decide +kernel
theorem dX12_isUniformRead_17 : decode cX12_isUniformRead 17 = .ok (.iload_n 3, 1) := by decide +kernel
theorem dX12_isUniformRead_18 : decode cX12_isUniformRead 18 = .ok (.iaload, 1) := by decide +kernel
theorem dX12_isUniformRead_19 : decode cX12_isUniformRead 19 = .ok (.ifCond .gt 28, 3) := by decide +kernel
theorem dX12_isUniformRead_22 : decode cX12_isUniformRead 22 = .ok (.aload_n 0, 1) := by decide +kernel
theorem dX12_isUniformRead_23 : decode cX12_isUniformRead 23 = .ok (.getfield 126, 3) := by decide +kernel
theorem dX12_isUniformRead_26 : decode cX12_isUniformRead 26 = .ok (.sipush 422, 3) := by decide +kernel
theorem dX12_isUniformRead_29 : decode cX12_isUniformRead 29 = .ok (.iconst 3, 1) := by decide +kernel
theorem dX12_isUniformRead_30 : decode cX12_isUniformRead 30 = .ok (.aload_n 0, 1) := by decide +kernel
theorem dX12_isUniformRead_31 : decode cX12_isUniformRead 31 = .ok (.getfield 126, 3) := by decide +kernel
theorem dX12_isUniformRead_34 : decode cX12_isUniformRead 34 = .ok (.iload_n 3, 1) := by decide +kernel
theorem dX12_isUniformRead_35 : decode cX12_isUniformRead 35 = .ok (.iconst 1, 1) := by decide +kernel
theorem dX12_isUniformRead_36 : decode cX12_isUniformRead 36 = .ok (.iadd, 1) := by decide +kernel
theorem dX12_isUniformRead_37 : decode cX12_isUniformRead 37 = .ok (.iaload, 1) := by decide +kernel
theorem dX12_isUniformRead_38 : decode cX12_isUniformRead 38 = .ok (.imul, 1) := by decide +kernel
theorem dX12_isUniformRead_39 : decode cX12_isUniformRead 39 = .ok (.iadd, 1) := by decide +kernel
theorem dX12_isUniformRead_40 : decode cX12_isUniformRead 40 = .ok (.iconst 2, 1) := by decide +kernel
theorem dX12_isUniformRead_41 : decode cX12_isUniformRead 41 = .ok (.iadd, 1) := by decide +kernel
theorem dX12_isUniformRead_42 : decode cX12_isUniformRead 42 = .ok (.iaload, 1) := by decide +kernel
theorem dX12_isUniformRead_43 : decode cX12_isUniformRead 43 = .ok (.iconst 1, 1) := by decide +kernel
theorem dX12_isUniformRead_44 : decode cX12_isUniformRead 44 = .ok (.if_icmp .ne 7, 3) := by decide +kernel
theorem dX12_isUniformRead_47 : decode cX12_isUniformRead 47 = .ok (.iconst 1, 1) := by decide +kernel
theorem dX12_isUniformRead_48 : decode cX12_isUniformRead 48 = .ok (.goto 4, 3) := by decide +kernel
theorem dX12_isUniformRead_51 : decode cX12_isUniformRead 51 = .ok (.iconst 0, 1) := by decide +kernel
theorem dX12_isUniformRead_52 : decode cX12_isUniformRead 52 = .ok (.istore 4, 2) := by decide +kernel
theorem dX12_isUniformRead_54 : decode cX12_isUniformRead 54 = .ok (.iconst 1, 1) := by decide +kernel
theorem dX12_isUniformRead_55 : decode cX12_isUniformRead 55 = .ok (.istore 5, 2) := by decide +kernel
theorem dX12_isUniformRead_57 : decode cX12_isUniformRead 57 = .ok (.iload 5, 2) := by decide +kernel
theorem dX12_isUniformRead_59 : decode cX12_isUniformRead 59 = .ok (.iconst 4, 1) := by decide +kernel
theorem dX12_isUniformRead_60 : decode cX12_isUniformRead 60 = .ok (.if_icmp .ge 60, 3) := by decide +kernel
theorem dX12_isUniformRead_63 : decode cX12_isUniformRead 63 = .ok (.aload_n 0, 1) := by decide +kernel
theorem dX12_isUniformRead_64 : decode cX12_isUniformRead 64 = .ok (.getfield 126, 3) := by decide +kernel
theorem dX12_isUniformRead_67 : decode cX12_isUniformRead 67 = .ok (.iload_n 3, 1) := by decide +kernel
theorem dX12_isUniformRead_68 : decode cX12_isUniformRead 68 = .ok (.iaload, 1) := by decide +kernel
theorem dX12_isUniformRead_69 : decode cX12_isUniformRead 69 = .ok (.iconst 1, 1) := by decide +kernel
theorem dX12_isUniformRead_70 : decode cX12_isUniformRead 70 = .ok (.if_icmp .le 50, 3) := by decide +kernel
theorem dX12_isUniformRead_73 : decode cX12_isUniformRead 73 = .ok (.iload 4, 2) := by decide +kernel
theorem dX12_isUniformRead_75 : decode cX12_isUniformRead 75 = .ok (.ifCond .eq 36, 3) := by decide +kernel
theorem dX12_isUniformRead_78 : decode cX12_isUniformRead 78 = .ok (.aload_n 0, 1) := by decide +kernel
theorem dX12_isUniformRead_79 : decode cX12_isUniformRead 79 = .ok (.getfield 126, 3) := by decide +kernel
theorem dX12_isUniformRead_82 : decode cX12_isUniformRead 82 = .ok (.iload_n 3, 1) := by decide +kernel
theorem dX12_isUniformRead_83 : decode cX12_isUniformRead 83 = .ok (.iload 5, 2) := by decide +kernel
theorem dX12_isUniformRead_85 : decode cX12_isUniformRead 85 = .ok (.iadd, 1) := by decide +kernel
theorem dX12_isUniformRead_86 : decode cX12_isUniformRead 86 = .ok (.iaload, 1) := by decide +kernel
theorem dX12_isUniformRead_87 : decode cX12_isUniformRead 87 = .ok (.ifCond .lt 20, 3) := by decide +kernel
theorem dX12_isUniformRead_90 : decode cX12_isUniformRead 90 = .ok (.aload_n 0, 1) := by decide +kernel
theorem dX12_isUniformRead_91 : decode cX12_isUniformRead 91 = .ok (.getfield 181, 3) := by decide +kernel
theorem dX12_isUniformRead_94 : decode cX12_isUniformRead 94 = .ok (.aload_n 0, 1) := by decide +kernel
theorem dX12_isUniformRead_95 : decode cX12_isUniformRead 95 = .ok (.getfield 126, 3) := by decide +kernel
theorem dX12_isUniformRead_98 : decode cX12_isUniformRead 98 = .ok (.iload_n 3, 1) := by decide +kernel
theorem dX12_isUniformRead_99 : decode cX12_isUniformRead 99 = .ok (.iload 5, 2) := by decide +kernel
theorem dX12_isUniformRead_101 : decode cX12_isUniformRead 101 = .ok (.iadd, 1) := by decide +kernel
theorem dX12_isUniformRead_102 : decode cX12_isUniformRead 102 = .ok (.iaload, 1) := by decide +kernel
theorem dX12_isUniformRead_103 : decode cX12_isUniformRead 103 = .ok (.baload, 1) := by decide +kernel
theorem dX12_isUniformRead_104 : decode cX12_isUniformRead 104 = .ok (.ifCond .eq 7, 3) := by decide +kernel
theorem dX12_isUniformRead_107 : decode cX12_isUniformRead 107 = .ok (.iconst 1, 1) := by decide +kernel
theorem dX12_isUniformRead_108 : decode cX12_isUniformRead 108 = .ok (.goto 4, 3) := by decide +kernel
theorem dX12_isUniformRead_111 : decode cX12_isUniformRead 111 = .ok (.iconst 0, 1) := by decide +kernel
theorem dX12_isUniformRead_112 : decode cX12_isUniformRead 112 = .ok (.istore 4, 2) := by decide +kernel
theorem dX12_isUniformRead_114 : decode cX12_isUniformRead 114 = .ok (.iinc 5 1, 3) := by decide +kernel
theorem dX12_isUniformRead_117 : decode cX12_isUniformRead 117 = .ok (.goto (-60), 3) := by decide +kernel
theorem dX12_isUniformRead_120 : decode cX12_isUniformRead 120 = .ok (.aload_n 0, 1) := by decide +kernel
theorem dX12_isUniformRead_121 : decode cX12_isUniformRead 121 = .ok (.getfield 181, 3) := by decide +kernel
theorem dX12_isUniformRead_124 : decode cX12_isUniformRead 124 = .ok (.iload_n 2, 1) := by decide +kernel
theorem dX12_isUniformRead_125 : decode cX12_isUniformRead 125 = .ok (.iload 4, 2) := by decide +kernel
theorem dX12_isUniformRead_127 : decode cX12_isUniformRead 127 = .ok (.bastore, 1) := by decide +kernel
theorem dX12_isUniformRead_128 : decode cX12_isUniformRead 128 = .ok (.iinc 2 1, 3) := by decide +kernel
theorem dX12_isUniformRead_131 : decode cX12_isUniformRead 131 = .ok (.goto (-129), 3) := by decide +kernel
theorem dX12_isUniformRead_134 : decode cX12_isUniformRead 134 = .ok (.aload_n 0, 1) := by decide +kernel
theorem dX12_isUniformRead_135 : decode cX12_isUniformRead 135 = .ok (.getfield 181, 3) := by decide +kernel
theorem dX12_isUniformRead_138 : decode cX12_isUniformRead 138 = .ok (.iload_n 1, 1) := by decide +kernel
theorem dX12_isUniformRead_139 : decode cX12_isUniformRead 139 = .ok (.baload, 1) := by decide +kernel
theorem dX12_isUniformRead_140 : decode cX12_isUniformRead 140 = .ok (.ireturn, 1) := by decide +kernel
theorem dX12_closes_0 : decode cX12_closes 0 = .ok (.bipush 20, 2) := by decide +kernel
theorem dX12_closes_2 : decode cX12_closes 2 = .ok (.aload_n 0, 1) := by decide +kernel
theorem dX12_closes_3 : decode cX12_closes 3 = .ok (.getfield 129, 3) := by decide +kernel
theorem dX12_closes_6 : decode cX12_closes 6 = .ok (.iload_n 1, 1) := by decide +kernel
theorem dX12_closes_7 : decode cX12_closes 7 = .ok (.bipush 11, 2) := by decide +kernel
theorem dX12_closes_9 : decode cX12_closes 9 = .ok (.iadd, 1) := by decide +kernel
theorem dX12_closes_10 : decode cX12_closes 10 = .ok (.iaload, 1) := by decide +kernel
theorem dX12_closes_11 : decode cX12_closes 11 = .ok (.imul, 1) := by decide +kernel
theorem dX12_closes_12 : decode cX12_closes 12 = .ok (.istore_n 2, 1) := by decide +kernel
theorem dX12_closes_13 : decode cX12_closes 13 = .ok (.aload_n 0, 1) := by decide +kernel
theorem dX12_closes_14 : decode cX12_closes 14 = .ok (.getfield 129, 3) := by decide +kernel
theorem dX12_closes_17 : decode cX12_closes 17 = .ok (.iload_n 1, 1) := by decide +kernel
theorem dX12_closes_18 : decode cX12_closes 18 = .ok (.iconst 1, 1) := by decide +kernel
theorem dX12_closes_19 : decode cX12_closes 19 = .ok (.iadd, 1) := by decide +kernel
theorem dX12_closes_20 : decode cX12_closes 20 = .ok (.iaload, 1) := by decide +kernel
theorem dX12_closes_21 : decode cX12_closes 21 = .ok (.iconst 2, 1) := by decide +kernel
theorem dX12_closes_22 : decode cX12_closes 22 = .ok (.if_icmp .ne 7, 3) := by decide +kernel
theorem dX12_closes_25 : decode cX12_closes 25 = .ok (.iconst 1, 1) := by decide +kernel
theorem dX12_closes_26 : decode cX12_closes 26 = .ok (.goto 4, 3) := by decide +kernel
theorem dX12_closes_29 : decode cX12_closes 29 = .ok (.iconst 0, 1) := by decide +kernel
theorem dX12_closes_30 : decode cX12_closes 30 = .ok (.istore_n 3, 1) := by decide +kernel
theorem dX12_closes_31 : decode cX12_closes 31 = .ok (.bipush 12, 2) := by decide +kernel
theorem dX12_closes_33 : decode cX12_closes 33 = .ok (.sipush 210, 3) := by decide +kernel
theorem dX12_closes_36 : decode cX12_closes 36 = .ok (.aload_n 0, 1) := by decide +kernel
theorem dX12_closes_37 : decode cX12_closes 37 = .ok (.getfield 129, 3) := by decide +kernel
theorem dX12_closes_40 : decode cX12_closes 40 = .ok (.iload_n 1, 1) := by decide +kernel
theorem dX12_closes_41 : decode cX12_closes 41 = .ok (.bipush 7, 2) := by decide +kernel
theorem dX12_closes_43 : decode cX12_closes 43 = .ok (.iadd, 1) := by decide +kernel
theorem dX12_closes_44 : decode cX12_closes 44 = .ok (.iaload, 1) := by decide +kernel
theorem dX12_closes_45 : decode cX12_closes 45 = .ok (.iadd, 1) := by decide +kernel
theorem dX12_closes_46 : decode cX12_closes 46 = .ok (.imul, 1) := by decide +kernel
theorem dX12_closes_47 : decode cX12_closes 47 = .ok (.istore 4, 2) := by decide +kernel
theorem dX12_closes_49 : decode cX12_closes 49 = .ok (.iconst 0, 1) := by decide +kernel
theorem dX12_closes_50 : decode cX12_closes 50 = .ok (.istore 5, 2) := by decide +kernel
theorem dX12_closes_52 : decode cX12_closes 52 = .ok (.iload 5, 2) := by decide +kernel
theorem dX12_closes_54 : decode cX12_closes 54 = .ok (.aload_n 0, 1) := by decide +kernel
theorem dX12_closes_55 : decode cX12_closes 55 = .ok (.getfield 129, 3) := by decide +kernel
theorem dX12_closes_58 : decode cX12_closes 58 = .ok (.iload 4, 2) := by decide +kernel
theorem dX12_closes_60 : decode cX12_closes 60 = .ok (.iconst 1, 1) := by decide +kernel
theorem dX12_closes_61 : decode cX12_closes 61 = .ok (.iadd, 1) := by decide +kernel
theorem dX12_closes_62 : decode cX12_closes 62 = .ok (.iaload, 1) := by decide +kernel
theorem dX12_closes_63 : decode cX12_closes 63 = .ok (.if_icmp .ge 117, 3) := by decide +kernel
theorem dX12_closes_66 : decode cX12_closes 66 = .ok (.aload_n 0, 1) := by decide +kernel
theorem dX12_closes_67 : decode cX12_closes 67 = .ok (.getfield 57, 3) := by decide +kernel
theorem dX12_closes_70 : decode cX12_closes 70 = .ok (.ifCond .ne 110, 3) := by decide +kernel
theorem dX12_closes_73 : decode cX12_closes 73 = .ok (.iload_n 3, 1) := by decide +kernel
theorem dX12_closes_74 : decode cX12_closes 74 = .ok (.ifCond .eq 15, 3) := by decide +kernel
theorem dX12_closes_77 : decode cX12_closes 77 = .ok (.aload_n 0, 1) := by decide +kernel
theorem dX12_closes_78 : decode cX12_closes 78 = .ok (.getfield 153, 3) := by decide +kernel
theorem dX12_closes_81 : decode cX12_closes 81 = .ok (.iload_n 2, 1) := by decide +kernel
theorem dX12_closes_82 : decode cX12_closes 82 = .ok (.iload 5, 2) := by decide +kernel
theorem dX12_closes_84 : decode cX12_closes 84 = .ok (.iadd, 1) := by decide +kernel
theorem dX12_closes_85 : decode cX12_closes 85 = .ok (.iaload, 1) := by decide +kernel
theorem dX12_closes_86 : decode cX12_closes 86 = .ok (.goto 10, 3) := by decide +kernel
theorem dX12_closes_89 : decode cX12_closes 89 = .ok (.aload_n 0, 1) := by decide +kernel
theorem dX12_closes_90 : decode cX12_closes 90 = .ok (.getfield 147, 3) := by decide +kernel
theorem dX12_closes_93 : decode cX12_closes 93 = .ok (.iload 5, 2) := by decide +kernel
theorem dX12_closes_95 : decode cX12_closes 95 = .ok (.iaload, 1) := by decide +kernel
theorem dX12_closes_96 : decode cX12_closes 96 = .ok (.istore 6, 2) := by decide +kernel
theorem dX12_closes_98 : decode cX12_closes 98 = .ok (.iload_n 3, 1) := by decide +kernel
theorem dX12_closes_99 : decode cX12_closes 99 = .ok (.ifCond .eq 13, 3) := by decide +kernel
theorem dX12_closes_102 : decode cX12_closes 102 = .ok (.aload_n 0, 1) := by decide +kernel
theorem dX12_closes_103 : decode cX12_closes 103 = .ok (.getfield 147, 3) := by decide +kernel
theorem dX12_closes_106 : decode cX12_closes 106 = .ok (.iload 5, 2) := by decide +kernel
theorem dX12_closes_108 : decode cX12_closes 108 = .ok (.iaload, 1) := by decide +kernel
theorem dX12_closes_109 : decode cX12_closes 109 = .ok (.goto 12, 3) := by decide +kernel
theorem dX12_closes_112 : decode cX12_closes 112 = .ok (.aload_n 0, 1) := by decide +kernel
theorem dX12_closes_113 : decode cX12_closes 113 = .ok (.getfield 150, 3) := by decide +kernel
theorem dX12_closes_116 : decode cX12_closes 116 = .ok (.iload_n 2, 1) := by decide +kernel
theorem dX12_closes_117 : decode cX12_closes 117 = .ok (.iload 5, 2) := by decide +kernel
theorem dX12_closes_119 : decode cX12_closes 119 = .ok (.iadd, 1) := by decide +kernel
theorem dX12_closes_120 : decode cX12_closes 120 = .ok (.iaload, 1) := by decide +kernel
theorem dX12_closes_121 : decode cX12_closes 121 = .ok (.istore 7, 2) := by decide +kernel
theorem dX12_closes_123 : decode cX12_closes 123 = .ok (.aload_n 0, 1) := by decide +kernel
theorem dX12_closes_124 : decode cX12_closes 124 = .ok (.getfield 147, 3) := by decide +kernel
theorem dX12_closes_127 : decode cX12_closes 127 = .ok (.iload 5, 2) := by decide +kernel
theorem dX12_closes_129 : decode cX12_closes 129 = .ok (.iload 6, 2) := by decide +kernel
theorem dX12_closes_131 : decode cX12_closes 131 = .ok (.iload 7, 2) := by decide +kernel
theorem dX12_closes_133 : decode cX12_closes 133 = .ok (.if_icmp .ne 8, 3) := by decide +kernel
theorem dX12_closes_136 : decode cX12_closes 136 = .ok (.iload 6, 2) := by decide +kernel
theorem dX12_closes_138 : decode cX12_closes 138 = .ok (.goto 35, 3) := by decide +kernel
theorem dX12_closes_141 : decode cX12_closes 141 = .ok (.aload_n 0, 1) := by decide +kernel
theorem dX12_closes_142 : decode cX12_closes 142 = .ok (.bipush 13, 2) := by decide +kernel
theorem dX12_closes_144 : decode cX12_closes 144 = .ok (.aload_n 0, 1) := by decide +kernel
theorem dX12_closes_145 : decode cX12_closes 145 = .ok (.getfield 156, 3) := by decide +kernel
theorem dX12_closes_148 : decode cX12_closes 148 = .ok (.aload_n 0, 1) := by decide +kernel
theorem dX12_closes_149 : decode cX12_closes 149 = .ok (.getfield 129, 3) := by decide +kernel
theorem dX12_closes_152 : decode cX12_closes 152 = .ok (.iload_n 1, 1) := by decide +kernel
theorem dX12_closes_153 : decode cX12_closes 153 = .ok (.bipush 11, 2) := by decide +kernel
theorem dX12_closes_155 : decode cX12_closes 155 = .ok (.iadd, 1) := by decide +kernel
theorem dX12_closes_156 : decode cX12_closes 156 = .ok (.iaload, 1) := by decide +kernel
theorem dX12_closes_157 : decode cX12_closes 157 = .ok (.iaload, 1) := by decide +kernel
theorem dX12_closes_158 : decode cX12_closes 158 = .ok (.iload 6, 2) := by decide +kernel
theorem dX12_closes_160 : decode cX12_closes 160 = .ok (.iload 7, 2) := by decide +kernel
theorem dX12_closes_162 : decode cX12_closes 162 = .ok (.aload_n 0, 1) := by decide +kernel
theorem dX12_closes_163 : decode cX12_closes 163 = .ok (.getfield 129, 3) := by decide +kernel
theorem dX12_closes_166 : decode cX12_closes 166 = .ok (.iload_n 1, 1) := by decide +kernel
theorem dX12_closes_167 : decode cX12_closes 167 = .ok (.iconst 3, 1) := by decide +kernel
theorem dX12_closes_168 : decode cX12_closes 168 = .ok (.iadd, 1) := by decide +kernel
theorem dX12_closes_169 : decode cX12_closes 169 = .ok (.iaload, 1) := by decide +kernel
theorem dX12_closes_170 : decode cX12_closes 170 = .ok (.invokevirtual 329, 3) := by decide +kernel
theorem dX12_closes_173 : decode cX12_closes 173 = .ok (.iastore, 1) := by decide +kernel
theorem dX12_closes_174 : decode cX12_closes 174 = .ok (.iinc 5 1, 3) := by decide +kernel
theorem dX12_closes_177 : decode cX12_closes 177 = .ok (.goto (-125), 3) := by decide +kernel
theorem dX12_closes_180 : decode cX12_closes 180 = .ok (.return_, 1) := by decide +kernel
theorem dX12_works_0 : decode cX12_works 0 = .ok (.iconst 0, 1) := by decide +kernel
theorem dX12_works_1 : decode cX12_works 1 = .ok (.istore_n 1, 1) := by decide +kernel
theorem dX12_works_2 : decode cX12_works 2 = .ok (.iload_n 1, 1) := by decide +kernel
theorem dX12_works_3 : decode cX12_works 3 = .ok (.aload_n 0, 1) := by decide +kernel
theorem dX12_works_4 : decode cX12_works 4 = .ok (.getfield 126, 3) := by decide +kernel
theorem dX12_works_7 : decode cX12_works 7 = .ok (.sipush 413, 3) := by decide +kernel
theorem dX12_works_10 : decode cX12_works 10 = .ok (.iaload, 1) := by decide +kernel
theorem dX12_works_11 : decode cX12_works 11 = .ok (.if_icmp .ge 19, 3) := by decide +kernel
theorem dX12_works_14 : decode cX12_works 14 = .ok (.aload_n 0, 1) := by decide +kernel
theorem dX12_works_15 : decode cX12_works 15 = .ok (.iconst 0, 1) := by decide +kernel
theorem dX12_works_16 : decode cX12_works 16 = .ok (.iload_n 1, 1) := by decide +kernel
theorem dX12_works_17 : decode cX12_works 17 = .ok (.iconst (-1), 1) := by decide +kernel
theorem dX12_works_18 : decode cX12_works 18 = .ok (.iconst (-1), 1) := by decide +kernel
theorem dX12_works_19 : decode cX12_works 19 = .ok (.iconst 0, 1) := by decide +kernel
theorem dX12_works_20 : decode cX12_works 20 = .ok (.invokevirtual 329, 3) := by decide +kernel
theorem dX12_works_23 : decode cX12_works 23 = .ok (.istore_n 2, 1) := by decide +kernel
theorem dX12_works_24 : decode cX12_works 24 = .ok (.iinc 1 1, 3) := by decide +kernel
theorem dX12_works_27 : decode cX12_works 27 = .ok (.goto (-25), 3) := by decide +kernel
theorem dX12_works_30 : decode cX12_works 30 = .ok (.iconst 0, 1) := by decide +kernel
theorem dX12_works_31 : decode cX12_works 31 = .ok (.istore_n 1, 1) := by decide +kernel
theorem dX12_works_32 : decode cX12_works 32 = .ok (.iconst 0, 1) := by decide +kernel
theorem dX12_works_33 : decode cX12_works 33 = .ok (.istore_n 2, 1) := by decide +kernel
theorem dX12_works_34 : decode cX12_works 34 = .ok (.iload_n 2, 1) := by decide +kernel
theorem dX12_works_35 : decode cX12_works 35 = .ok (.aload_n 0, 1) := by decide +kernel
theorem dX12_works_36 : decode cX12_works 36 = .ok (.getfield 126, 3) := by decide +kernel
theorem dX12_works_39 : decode cX12_works 39 = .ok (.sipush 412, 3) := by decide +kernel
theorem dX12_works_42 : decode cX12_works 42 = .ok (.iaload, 1) := by decide +kernel
theorem dX12_works_43 : decode cX12_works 43 = .ok (.if_icmp .ge 425, 3) := by decide +kernel
theorem dX12_works_46 : decode cX12_works 46 = .ok (.aload_n 0, 1) := by decide +kernel
theorem dX12_works_47 : decode cX12_works 47 = .ok (.getfield 57, 3) := by decide +kernel
theorem dX12_works_50 : decode cX12_works 50 = .ok (.ifCond .ne 418, 3) := by decide +kernel
theorem dX12_works_53 : decode cX12_works 53 = .ok (.bipush 12, 2) := by decide +kernel
theorem dX12_works_55 : decode cX12_works 55 = .ok (.sipush 210, 3) := by decide +kernel
theorem dX12_works_58 : decode cX12_works 58 = .ok (.iload_n 2, 1) := by decide +kernel
theorem dX12_works_59 : decode cX12_works 59 = .ok (.iadd, 1) := by decide +kernel
theorem dX12_works_60 : decode cX12_works 60 = .ok (.imul, 1) := by decide +kernel
theorem dX12_works_61 : decode cX12_works 61 = .ok (.istore_n 3, 1) := by decide +kernel
theorem dX12_works_62 : decode cX12_works 62 = .ok (.aload_n 0, 1) := by decide +kernel
theorem dX12_works_63 : decode cX12_works 63 = .ok (.getfield 129, 3) := by decide +kernel
theorem dX12_works_66 : decode cX12_works 66 = .ok (.iload_n 3, 1) := by decide +kernel
theorem dX12_works_67 : decode cX12_works 67 = .ok (.iaload, 1) := by decide +kernel
theorem dX12_works_68 : decode cX12_works 68 = .ok (.istore 4, 2) := by decide +kernel
theorem dX12_works_70 : decode cX12_works 70 = .ok (.aload_n 0, 1) := by decide +kernel
theorem dX12_works_71 : decode cX12_works 71 = .ok (.getfield 129, 3) := by decide +kernel
theorem dX12_works_74 : decode cX12_works 74 = .ok (.iload_n 3, 1) := by decide +kernel
theorem dX12_works_75 : decode cX12_works 75 = .ok (.bipush 11, 2) := by decide +kernel
theorem dX12_works_77 : decode cX12_works 77 = .ok (.iadd, 1) := by decide +kernel
theorem dX12_works_78 : decode cX12_works 78 = .ok (.iaload, 1) := by decide +kernel
theorem dX12_works_79 : decode cX12_works 79 = .ok (.istore 5, 2) := by decide +kernel
theorem dX12_works_81 : decode cX12_works 81 = .ok (.iinc 2 1, 3) := by decide +kernel
theorem dX12_works_84 : decode cX12_works 84 = .ok (.iload_n 1, 1) := by decide +kernel
theorem dX12_works_85 : decode cX12_works 85 = .ok (.iload 4, 2) := by decide +kernel
theorem dX12_works_87 : decode cX12_works 87 = .ok (.ifCond .eq 21, 3) := by decide +kernel
theorem dX12_works_90 : decode cX12_works 90 = .ok (.iload 4, 2) := by decide +kernel
theorem dX12_works_92 : decode cX12_works 92 = .ok (.iconst 1, 1) := by decide +kernel
theorem dX12_works_93 : decode cX12_works 93 = .ok (.if_icmp .eq 15, 3) := by decide +kernel
theorem dX12_works_96 : decode cX12_works 96 = .ok (.iload 4, 2) := by decide +kernel
theorem dX12_works_98 : decode cX12_works 98 = .ok (.iconst 3, 1) := by decide +kernel
theorem dX12_works_99 : decode cX12_works 99 = .ok (.if_icmp .eq 9, 3) := by decide +kernel
theorem dX12_works_102 : decode cX12_works 102 = .ok (.iload 4, 2) := by decide +kernel
theorem dX12_works_104 : decode cX12_works 104 = .ok (.iconst 5, 1) := by decide +kernel
theorem dX12_works_105 : decode cX12_works 105 = .ok (.if_icmp .ne 7, 3) := by decide +kernel
theorem dX12_works_108 : decode cX12_works 108 = .ok (.iconst 1, 1) := by decide +kernel
theorem dX12_works_109 : decode cX12_works 109 = .ok (.goto 4, 3) := by decide +kernel
theorem dX12_works_112 : decode cX12_works 112 = .ok (.iconst 0, 1) := by decide +kernel
theorem dX12_works_113 : decode cX12_works 113 = .ok (.iadd, 1) := by decide +kernel
theorem dX12_works_114 : decode cX12_works 114 = .ok (.istore_n 1, 1) := by decide +kernel
theorem dX12_works_115 : decode cX12_works 115 = .ok (.iload_n 1, 1) := by decide +kernel
theorem dX12_works_116 : decode cX12_works 116 = .ok (.sipush 200, 3) := by decide +kernel
theorem dX12_works_119 : decode cX12_works 119 = .ok (.if_icmp .gt 22, 3) := by decide +kernel
theorem dX12_works_122 : decode cX12_works 122 = .ok (.iload 4, 2) := by decide +kernel
theorem dX12_works_124 : decode cX12_works 124 = .ok (.iconst 5, 1) := by decide +kernel
theorem dX12_works_125 : decode cX12_works 125 = .ok (.if_icmp .ne 31, 3) := by decide +kernel
theorem dX12_works_128 : decode cX12_works 128 = .ok (.aload_n 0, 1) := by decide +kernel
theorem dX12_works_129 : decode cX12_works 129 = .ok (.getfield 126, 3) := by decide +kernel
theorem dX12_works_132 : decode cX12_works 132 = .ok (.sipush 421, 3) := by decide +kernel
theorem dX12_works_135 : decode cX12_works 135 = .ok (.iaload, 1) := by decide +kernel
theorem dX12_works_136 : decode cX12_works 136 = .ok (.bipush 8, 2) := by decide +kernel
theorem dX12_works_138 : decode cX12_works 138 = .ok (.if_icmp .ne 18, 3) := by decide +kernel
theorem dX12_works_141 : decode cX12_works 141 = .ok (.aload_n 0, 1) := by decide +kernel
theorem dX12_works_142 : decode cX12_works 142 = .ok (.aload_n 0, 1) := by decide +kernel
theorem dX12_works_143 : decode cX12_works 143 = .ok (.getfield 129, 3) := by decide +kernel
theorem dX12_works_146 : decode cX12_works 146 = .ok (.iload_n 3, 1) := by decide +kernel
theorem dX12_works_147 : decode cX12_works 147 = .ok (.iconst 3, 1) := by decide +kernel
theorem dX12_works_148 : decode cX12_works 148 = .ok (.iadd, 1) := by decide +kernel
theorem dX12_works_149 : decode cX12_works 149 = .ok (.iaload, 1) := by decide +kernel
theorem dX12_works_150 : decode cX12_works 150 = .ok (.invokevirtual 326, 3) := by decide +kernel
theorem dX12_works_153 : decode cX12_works 153 = .ok (.goto 312, 3) := by decide +kernel
theorem dX12_works_156 : decode cX12_works 156 = .ok (.iload 4, 2) := by decide +kernel
theorem dX12_works_158 : decode cX12_works 158 = .ok (.bipush 6, 2) := by decide +kernel
theorem dX12_works_160 : decode cX12_works 160 = .ok (.if_icmp .ne 27, 3) := by decide +kernel
theorem dX12_works_163 : decode cX12_works 163 = .ok (.aload_n 0, 1) := by decide +kernel
theorem dX12_works_164 : decode cX12_works 164 = .ok (.getfield 147, 3) := by decide +kernel
theorem dX12_works_167 : decode cX12_works 167 = .ok (.aload_n 0, 1) := by decide +kernel
theorem dX12_works_168 : decode cX12_works 168 = .ok (.getfield 129, 3) := by decide +kernel
theorem dX12_works_171 : decode cX12_works 171 = .ok (.iload_n 3, 1) := by decide +kernel
theorem dX12_works_172 : decode cX12_works 172 = .ok (.iconst 1, 1) := by decide +kernel
theorem dX12_works_173 : decode cX12_works 173 = .ok (.iadd, 1) := by decide +kernel
theorem dX12_works_174 : decode cX12_works 174 = .ok (.iaload, 1) := by decide +kernel
theorem dX12_works_175 : decode cX12_works 175 = .ok (.aload_n 0, 1) := by decide +kernel
theorem dX12_works_176 : decode cX12_works 176 = .ok (.getfield 129, 3) := by decide +kernel
theorem dX12_works_179 : decode cX12_works 179 = .ok (.iload_n 3, 1) := by decide +kernel
theorem dX12_works_180 : decode cX12_works 180 = .ok (.iconst 2, 1) := by decide +kernel
theorem dX12_works_181 : decode cX12_works 181 = .ok (.iadd, 1) := by decide +kernel
theorem dX12_works_182 : decode cX12_works 182 = .ok (.iaload, 1) := by decide +kernel
theorem dX12_works_183 : decode cX12_works 183 = .ok (.iastore, 1) := by decide +kernel
theorem dX12_works_184 : decode cX12_works 184 = .ok (.goto 281, 3) := by decide +kernel
theorem dX12_works_187 : decode cX12_works 187 = .ok (.iload 4, 2) := by decide +kernel
theorem dX12_works_189 : decode cX12_works 189 = .ok (.ifCond .ne 24, 3) := by decide +kernel
theorem dX12_works_192 : decode cX12_works 192 = .ok (.aload_n 0, 1) := by decide +kernel
theorem dX12_works_193 : decode cX12_works 193 = .ok (.getfield 147, 3) := by decide +kernel
theorem dX12_works_196 : decode cX12_works 196 = .ok (.aload_n 0, 1) := by decide +kernel
theorem dX12_works_197 : decode cX12_works 197 = .ok (.getfield 129, 3) := by decide +kernel
theorem dX12_works_200 : decode cX12_works 200 = .ok (.iload_n 3, 1) := by decide +kernel
theorem dX12_works_201 : decode cX12_works 201 = .ok (.iconst 1, 1) := by decide +kernel
theorem dX12_works_202 : decode cX12_works 202 = .ok (.iadd, 1) := by decide +kernel
theorem dX12_works_203 : decode cX12_works 203 = .ok (.iaload, 1) := by decide +kernel
theorem dX12_works_204 : decode cX12_works 204 = .ok (.aload_n 0, 1) := by decide +kernel
theorem dX12_works_205 : decode cX12_works 205 = .ok (.iload_n 3, 1) := by decide +kernel
theorem dX12_works_206 : decode cX12_works 206 = .ok (.invokevirtual 339, 3) := by decide +kernel
theorem dX12_works_209 : decode cX12_works 209 = .ok (.iastore, 1) := by decide +kernel
theorem dX12_works_210 : decode cX12_works 210 = .ok (.goto 255, 3) := by decide +kernel
theorem dX12_works_213 : decode cX12_works 213 = .ok (.iload 4, 2) := by decide +kernel
theorem dX12_works_215 : decode cX12_works 215 = .ok (.iconst 5, 1) := by decide +kernel
theorem dX12_works_216 : decode cX12_works 216 = .ok (.if_icmp .ne 42, 3) := by decide +kernel
theorem dX12_works_219 : decode cX12_works 219 = .ok (.aload_n 0, 1) := by decide +kernel
theorem dX12_works_220 : decode cX12_works 220 = .ok (.getfield 126, 3) := by decide +kernel
theorem dX12_works_223 : decode cX12_works 223 = .ok (.sipush 440, 3) := by decide +kernel
theorem dX12_works_226 : decode cX12_works 226 = .ok (.aload_n 0, 1) := by decide +kernel
theorem dX12_works_227 : decode cX12_works 227 = .ok (.getfield 126, 3) := by decide +kernel
theorem dX12_works_230 : decode cX12_works 230 = .ok (.sipush 421, 3) := by decide +kernel
theorem dX12_works_233 : decode cX12_works 233 = .ok (.iaload, 1) := by decide +kernel
theorem dX12_works_234 : decode cX12_works 234 = .ok (.iadd, 1) := by decide +kernel
theorem dX12_works_235 : decode cX12_works 235 = .ok (.aload_n 0, 1) := by decide +kernel
theorem dX12_works_236 : decode cX12_works 236 = .ok (.iload_n 3, 1) := by decide +kernel
theorem dX12_works_237 : decode cX12_works 237 = .ok (.iconst 5, 1) := by decide +kernel
theorem dX12_works_238 : decode cX12_works 238 = .ok (.iadd, 1) := by decide +kernel
theorem dX12_works_239 : decode cX12_works 239 = .ok (.invokevirtual 333, 3) := by decide +kernel
theorem dX12_works_242 : decode cX12_works 242 = .ok (.iastore, 1) := by decide +kernel
theorem dX12_works_243 : decode cX12_works 243 = .ok (.aload_n 0, 1) := by decide +kernel
theorem dX12_works_244 : decode cX12_works 244 = .ok (.getfield 126, 3) := by decide +kernel
theorem dX12_works_247 : decode cX12_works 247 = .ok (.sipush 421, 3) := by decide +kernel
theorem dX12_works_250 : decode cX12_works 250 = .ok (.dup2, 1) := by decide +kernel
theorem dX12_works_251 : decode cX12_works 251 = .ok (.iaload, 1) := by decide +kernel
theorem dX12_works_252 : decode cX12_works 252 = .ok (.iconst 1, 1) := by decide +kernel
theorem dX12_works_253 : decode cX12_works 253 = .ok (.iadd, 1) := by decide +kernel
theorem dX12_works_254 : decode cX12_works 254 = .ok (.iastore, 1) := by decide +kernel
theorem dX12_works_255 : decode cX12_works 255 = .ok (.goto 210, 3) := by decide +kernel
theorem dX12_works_258 : decode cX12_works 258 = .ok (.iload 4, 2) := by decide +kernel
theorem dX12_works_260 : decode cX12_works 260 = .ok (.iconst 1, 1) := by decide +kernel
theorem dX12_works_261 : decode cX12_works 261 = .ok (.if_icmp .ne 80, 3) := by decide +kernel
theorem dX12_works_264 : decode cX12_works 264 = .ok (.aload_n 0, 1) := by decide +kernel
theorem dX12_works_265 : decode cX12_works 265 = .ok (.getfield 156, 3) := by decide +kernel
theorem dX12_works_268 : decode cX12_works 268 = .ok (.iload 5, 2) := by decide +kernel
theorem dX12_works_270 : decode cX12_works 270 = .ok (.aload_n 0, 1) := by decide +kernel
theorem dX12_works_271 : decode cX12_works 271 = .ok (.iload_n 3, 1) := by decide +kernel
theorem dX12_works_272 : decode cX12_works 272 = .ok (.iconst 5, 1) := by decide +kernel
theorem dX12_works_273 : decode cX12_works 273 = .ok (.iadd, 1) := by decide +kernel
theorem dX12_works_274 : decode cX12_works 274 = .ok (.invokevirtual 333, 3) := by decide +kernel
theorem dX12_works_277 : decode cX12_works 277 = .ok (.iastore, 1) := by decide +kernel
theorem dX12_works_278 : decode cX12_works 278 = .ok (.aload_n 0, 1) := by decide +kernel
theorem dX12_works_279 : decode cX12_works 279 = .ok (.aload_n 0, 1) := by decide +kernel
theorem dX12_works_280 : decode cX12_works 280 = .ok (.getfield 156, 3) := by decide +kernel
theorem dX12_works_283 : decode cX12_works 283 = .ok (.iload 5, 2) := by decide +kernel
theorem dX12_works_285 : decode cX12_works 285 = .ok (.iaload, 1) := by decide +kernel
theorem dX12_works_286 : decode cX12_works 286 = .ok (.invokevirtual 342, 3) := by decide +kernel
theorem dX12_works_289 : decode cX12_works 289 = .ok (.istore 6, 2) := by decide +kernel
theorem dX12_works_291 : decode cX12_works 291 = .ok (.aload_n 0, 1) := by decide +kernel
theorem dX12_works_292 : decode cX12_works 292 = .ok (.getfield 126, 3) := by decide +kernel
theorem dX12_works_295 : decode cX12_works 295 = .ok (.sipush 704, 3) := by decide +kernel
theorem dX12_works_298 : decode cX12_works 298 = .ok (.aload_n 0, 1) := by decide +kernel
theorem dX12_works_299 : decode cX12_works 299 = .ok (.getfield 129, 3) := by decide +kernel
theorem dX12_works_302 : decode cX12_works 302 = .ok (.iload_n 3, 1) := by decide +kernel
theorem dX12_works_303 : decode cX12_works 303 = .ok (.iconst 2, 1) := by decide +kernel
theorem dX12_works_304 : decode cX12_works 304 = .ok (.iadd, 1) := by decide +kernel
theorem dX12_works_305 : decode cX12_works 305 = .ok (.iaload, 1) := by decide +kernel
theorem dX12_works_306 : decode cX12_works 306 = .ok (.iadd, 1) := by decide +kernel
theorem dX12_works_307 : decode cX12_works 307 = .ok (.dup2, 1) := by decide +kernel
theorem dX12_works_308 : decode cX12_works 308 = .ok (.iaload, 1) := by decide +kernel
theorem dX12_works_309 : decode cX12_works 309 = .ok (.iload 6, 2) := by decide +kernel
theorem dX12_works_311 : decode cX12_works 311 = .ok (.ifCond .eq 7, 3) := by decide +kernel
theorem dX12_works_314 : decode cX12_works 314 = .ok (.iconst 0, 1) := by decide +kernel
theorem dX12_works_315 : decode cX12_works 315 = .ok (.goto 4, 3) := by decide +kernel
theorem dX12_works_318 : decode cX12_works 318 = .ok (.iconst 1, 1) := by decide +kernel
theorem dX12_works_319 : decode cX12_works 319 = .ok (.ior, 1) := by decide +kernel
theorem dX12_works_320 : decode cX12_works 320 = .ok (.iastore, 1) := by decide +kernel
theorem dX12_works_321 : decode cX12_works 321 = .ok (.aload_n 0, 1) := by decide +kernel
theorem dX12_works_322 : decode cX12_works 322 = .ok (.getfield 147, 3) := by decide +kernel
theorem dX12_works_325 : decode cX12_works 325 = .ok (.aload_n 0, 1) := by decide +kernel
theorem dX12_works_326 : decode cX12_works 326 = .ok (.getfield 150, 3) := by decide +kernel
theorem dX12_works_329 : decode cX12_works 329 = .ok (.iconst 0, 1) := by decide +kernel
theorem dX12_works_330 : decode cX12_works 330 = .ok (.bipush 20, 2) := by decide +kernel
theorem dX12_works_332 : decode cX12_works 332 = .ok (.iload 5, 2) := by decide +kernel
theorem dX12_works_334 : decode cX12_works 334 = .ok (.imul, 1) := by decide +kernel
theorem dX12_works_335 : decode cX12_works 335 = .ok (.invokestatic 345, 3) := by decide +kernel
theorem dX12_works_338 : decode cX12_works 338 = .ok (.goto 127, 3) := by decide +kernel
theorem dX12_works_341 : decode cX12_works 341 = .ok (.iload 4, 2) := by decide +kernel
theorem dX12_works_343 : decode cX12_works 343 = .ok (.iconst 2, 1) := by decide +kernel
theorem dX12_works_344 : decode cX12_works 344 = .ok (.if_icmp .ne 40, 3) := by decide +kernel
theorem dX12_works_347 : decode cX12_works 347 = .ok (.aload_n 0, 1) := by decide +kernel
theorem dX12_works_348 : decode cX12_works 348 = .ok (.getfield 147, 3) := by decide +kernel
theorem dX12_works_351 : decode cX12_works 351 = .ok (.aload_n 0, 1) := by decide +kernel
theorem dX12_works_352 : decode cX12_works 352 = .ok (.getfield 153, 3) := by decide +kernel
theorem dX12_works_355 : decode cX12_works 355 = .ok (.iconst 0, 1) := by decide +kernel
theorem dX12_works_356 : decode cX12_works 356 = .ok (.bipush 20, 2) := by decide +kernel
theorem dX12_works_358 : decode cX12_works 358 = .ok (.iload 5, 2) := by decide +kernel
theorem dX12_works_360 : decode cX12_works 360 = .ok (.imul, 1) := by decide +kernel
theorem dX12_works_361 : decode cX12_works 361 = .ok (.invokestatic 345, 3) := by decide +kernel
theorem dX12_works_364 : decode cX12_works 364 = .ok (.aload_n 0, 1) := by decide +kernel
theorem dX12_works_365 : decode cX12_works 365 = .ok (.getfield 150, 3) := by decide +kernel
theorem dX12_works_368 : decode cX12_works 368 = .ok (.aload_n 0, 1) := by decide +kernel
theorem dX12_works_369 : decode cX12_works 369 = .ok (.getfield 147, 3) := by decide +kernel
theorem dX12_works_372 : decode cX12_works 372 = .ok (.bipush 20, 2) := by decide +kernel
theorem dX12_works_374 : decode cX12_works 374 = .ok (.iload 5, 2) := by decide +kernel
theorem dX12_works_376 : decode cX12_works 376 = .ok (.imul, 1) := by decide +kernel
theorem dX12_works_377 : decode cX12_works 377 = .ok (.iconst 0, 1) := by decide +kernel
theorem dX12_works_378 : decode cX12_works 378 = .ok (.invokestatic 345, 3) := by decide +kernel
theorem dX12_works_381 : decode cX12_works 381 = .ok (.goto 84, 3) := by decide +kernel
theorem dX12_works_384 : decode cX12_works 384 = .ok (.iload 4, 2) := by decide +kernel
theorem dX12_works_386 : decode cX12_works 386 = .ok (.iconst 3, 1) := by decide +kernel
theorem dX12_works_387 : decode cX12_works 387 = .ok (.if_icmp .ne 21, 3) := by decide +kernel
theorem dX12_works_390 : decode cX12_works 390 = .ok (.aload_n 0, 1) := by decide +kernel
theorem dX12_works_391 : decode cX12_works 391 = .ok (.getfield 159, 3) := by decide +kernel
theorem dX12_works_394 : decode cX12_works 394 = .ok (.iload 5, 2) := by decide +kernel
theorem dX12_works_396 : decode cX12_works 396 = .ok (.aload_n 0, 1) := by decide +kernel
theorem dX12_works_397 : decode cX12_works 397 = .ok (.getfield 129, 3) := by decide +kernel
theorem dX12_works_400 : decode cX12_works 400 = .ok (.iload_n 3, 1) := by decide +kernel
theorem dX12_works_401 : decode cX12_works 401 = .ok (.iconst 1, 1) := by decide +kernel
theorem dX12_works_402 : decode cX12_works 402 = .ok (.iadd, 1) := by decide +kernel
theorem dX12_works_403 : decode cX12_works 403 = .ok (.iaload, 1) := by decide +kernel
theorem dX12_works_404 : decode cX12_works 404 = .ok (.iastore, 1) := by decide +kernel
theorem dX12_works_405 : decode cX12_works 405 = .ok (.goto 60, 3) := by decide +kernel
theorem dX12_works_408 : decode cX12_works 408 = .ok (.aload_n 0, 1) := by decide +kernel
theorem dX12_works_409 : decode cX12_works 409 = .ok (.getfield 129, 3) := by decide +kernel
theorem dX12_works_412 : decode cX12_works 412 = .ok (.iload_n 3, 1) := by decide +kernel
theorem dX12_works_413 : decode cX12_works 413 = .ok (.iconst 1, 1) := by decide +kernel
theorem dX12_works_414 : decode cX12_works 414 = .ok (.iadd, 1) := by decide +kernel
theorem dX12_works_415 : decode cX12_works 415 = .ok (.iaload, 1) := by decide +kernel
theorem dX12_works_416 : decode cX12_works 416 = .ok (.iconst 1, 1) := by decide +kernel
theorem dX12_works_417 : decode cX12_works 417 = .ok (.if_icmp .eq 11, 3) := by decide +kernel
theorem dX12_works_420 : decode cX12_works 420 = .ok (.aload_n 0, 1) := by decide +kernel
theorem dX12_works_421 : decode cX12_works 421 = .ok (.iload_n 3, 1) := by decide +kernel
theorem dX12_works_422 : decode cX12_works 422 = .ok (.invokevirtual 349, 3) := by decide +kernel
theorem dX12_works_425 : decode cX12_works 425 = .ok (.goto 40, 3) := by decide +kernel
theorem dX12_works_428 : decode cX12_works 428 = .ok (.aload_n 0, 1) := by decide +kernel
theorem dX12_works_429 : decode cX12_works 429 = .ok (.getfield 159, 3) := by decide +kernel
theorem dX12_works_432 : decode cX12_works 432 = .ok (.iload 5, 2) := by decide +kernel
theorem dX12_works_434 : decode cX12_works 434 = .ok (.dup2, 1) := by decide +kernel
theorem dX12_works_435 : decode cX12_works 435 = .ok (.iaload, 1) := by decide +kernel
theorem dX12_works_436 : decode cX12_works 436 = .ok (.iconst 1, 1) := by decide +kernel
theorem dX12_works_437 : decode cX12_works 437 = .ok (.isub, 1) := by decide +kernel
theorem dX12_works_438 : decode cX12_works 438 = .ok (.iastore, 1) := by decide +kernel
theorem dX12_works_439 : decode cX12_works 439 = .ok (.aload_n 0, 1) := by decide +kernel
theorem dX12_works_440 : decode cX12_works 440 = .ok (.getfield 159, 3) := by decide +kernel
theorem dX12_works_443 : decode cX12_works 443 = .ok (.iload 5, 2) := by decide +kernel
theorem dX12_works_445 : decode cX12_works 445 = .ok (.iaload, 1) := by decide +kernel
theorem dX12_works_446 : decode cX12_works 446 = .ok (.ifCond .le 17, 3) := by decide +kernel
theorem dX12_works_449 : decode cX12_works 449 = .ok (.aload_n 0, 1) := by decide +kernel
theorem dX12_works_450 : decode cX12_works 450 = .ok (.getfield 129, 3) := by decide +kernel
theorem dX12_works_453 : decode cX12_works 453 = .ok (.iload_n 3, 1) := by decide +kernel
theorem dX12_works_454 : decode cX12_works 454 = .ok (.bipush 7, 2) := by decide +kernel
theorem dX12_works_456 : decode cX12_works 456 = .ok (.iadd, 1) := by decide +kernel
theorem dX12_works_457 : decode cX12_works 457 = .ok (.iaload, 1) := by decide +kernel
theorem dX12_works_458 : decode cX12_works 458 = .ok (.iconst 1, 1) := by decide +kernel
theorem dX12_works_459 : decode cX12_works 459 = .ok (.iadd, 1) := by decide +kernel
theorem dX12_works_460 : decode cX12_works 460 = .ok (.goto 4, 3) := by decide +kernel
theorem dX12_works_463 : decode cX12_works 463 = .ok (.iload_n 2, 1) := by decide +kernel
theorem dX12_works_464 : decode cX12_works 464 = .ok (.istore_n 2, 1) := by decide +kernel
theorem dX12_works_465 : decode cX12_works 465 = .ok (.goto (-431), 3) := by decide +kernel
theorem dX12_works_468 : decode cX12_works 468 = .ok (.return_, 1) := by decide +kernel
theorem dX12_moves_0 : decode cX12_moves 0 = .ok (.iconst 0, 1) := by decide +kernel
theorem dX12_moves_1 : decode cX12_moves 1 = .ok (.istore 4, 2) := by decide +kernel
theorem dX12_moves_3 : decode cX12_moves 3 = .ok (.iload 4, 2) := by decide +kernel
theorem dX12_moves_5 : decode cX12_moves 5 = .ok (.bipush 20, 2) := by decide +kernel
theorem dX12_moves_7 : decode cX12_moves 7 = .ok (.if_icmp .ge 21, 3) := by decide +kernel
theorem dX12_moves_10 : decode cX12_moves 10 = .ok (.aload_n 1, 1) := by decide +kernel
theorem dX12_moves_11 : decode cX12_moves 11 = .ok (.iload_n 3, 1) := by decide +kernel
theorem dX12_moves_12 : decode cX12_moves 12 = .ok (.iload 4, 2) := by decide +kernel
theorem dX12_moves_14 : decode cX12_moves 14 = .ok (.iadd, 1) := by decide +kernel
theorem dX12_moves_15 : decode cX12_moves 15 = .ok (.aload_n 0, 1) := by decide +kernel
theorem dX12_moves_16 : decode cX12_moves 16 = .ok (.iload_n 2, 1) := by decide +kernel
theorem dX12_moves_17 : decode cX12_moves 17 = .ok (.iload 4, 2) := by decide +kernel
theorem dX12_moves_19 : decode cX12_moves 19 = .ok (.iadd, 1) := by decide +kernel
theorem dX12_moves_20 : decode cX12_moves 20 = .ok (.iaload, 1) := by decide +kernel
theorem dX12_moves_21 : decode cX12_moves 21 = .ok (.iastore, 1) := by decide +kernel
theorem dX12_moves_22 : decode cX12_moves 22 = .ok (.iinc 4 1, 3) := by decide +kernel
theorem dX12_moves_25 : decode cX12_moves 25 = .ok (.goto (-22), 3) := by decide +kernel
theorem dX12_moves_28 : decode cX12_moves 28 = .ok (.return_, 1) := by decide +kernel
theorem dX12_inputs_0 : decode cX12_inputs 0 = .ok (.aload_n 0, 1) := by decide +kernel
theorem dX12_inputs_1 : decode cX12_inputs 1 = .ok (.getfield 126, 3) := by decide +kernel
theorem dX12_inputs_4 : decode cX12_inputs 4 = .ok (.iconst 1, 1) := by decide +kernel
theorem dX12_inputs_5 : decode cX12_inputs 5 = .ok (.iaload, 1) := by decide +kernel
theorem dX12_inputs_6 : decode cX12_inputs 6 = .ok (.ireturn, 1) := by decide +kernel
theorem dX12_values_0 : decode cX12_values 0 = .ok (.aload_n 0, 1) := by decide +kernel
theorem dX12_values_1 : decode cX12_values 1 = .ok (.getfield 126, 3) := by decide +kernel
theorem dX12_values_4 : decode cX12_values 4 = .ok (.bipush 8, 2) := by decide +kernel
theorem dX12_values_6 : decode cX12_values 6 = .ok (.iaload, 1) := by decide +kernel
theorem dX12_values_7 : decode cX12_values 7 = .ok (.ireturn, 1) := by decide +kernel
theorem dX12_howOf_0 : decode cX12_howOf 0 = .ok (.aload_n 0, 1) := by decide +kernel
theorem dX12_howOf_1 : decode cX12_howOf 1 = .ok (.getfield 126, 3) := by decide +kernel
theorem dX12_howOf_4 : decode cX12_howOf 4 = .ok (.bipush 36, 2) := by decide +kernel
theorem dX12_howOf_6 : decode cX12_howOf 6 = .ok (.iconst 4, 1) := by decide +kernel
theorem dX12_howOf_7 : decode cX12_howOf 7 = .ok (.iload_n 1, 1) := by decide +kernel
theorem dX12_howOf_8 : decode cX12_howOf 8 = .ok (.imul, 1) := by decide +kernel
theorem dX12_howOf_9 : decode cX12_howOf 9 = .ok (.iadd, 1) := by decide +kernel
theorem dX12_howOf_10 : decode cX12_howOf 10 = .ok (.iaload, 1) := by decide +kernel
theorem dX12_howOf_11 : decode cX12_howOf 11 = .ok (.ireturn, 1) := by decide +kernel
theorem dX12_argOf_0 : decode cX12_argOf 0 = .ok (.aload_n 0, 1) := by decide +kernel
theorem dX12_argOf_1 : decode cX12_argOf 1 = .ok (.getfield 126, 3) := by decide +kernel
theorem dX12_argOf_4 : decode cX12_argOf 4 = .ok (.bipush 36, 2) := by decide +kernel
theorem dX12_argOf_6 : decode cX12_argOf 6 = .ok (.iconst 4, 1) := by decide +kernel
theorem dX12_argOf_7 : decode cX12_argOf 7 = .ok (.iload_n 1, 1) := by decide +kernel
theorem dX12_argOf_8 : decode cX12_argOf 8 = .ok (.imul, 1) := by decide +kernel
theorem dX12_argOf_9 : decode cX12_argOf 9 = .ok (.iadd, 1) := by decide +kernel
theorem dX12_argOf_10 : decode cX12_argOf 10 = .ok (.iconst 1, 1) := by decide +kernel
theorem dX12_argOf_11 : decode cX12_argOf 11 = .ok (.iadd, 1) := by decide +kernel
theorem dX12_argOf_12 : decode cX12_argOf 12 = .ok (.iload_n 2, 1) := by decide +kernel
theorem dX12_argOf_13 : decode cX12_argOf 13 = .ok (.iadd, 1) := by decide +kernel
theorem dX12_argOf_14 : decode cX12_argOf 14 = .ok (.iaload, 1) := by decide +kernel
theorem dX12_argOf_15 : decode cX12_argOf 15 = .ok (.ireturn, 1) := by decide +kernel
theorem dX12_isInput_0 : decode cX12_isInput 0 = .ok (.iload_n 1, 1) := by decide +kernel
theorem dX12_isInput_1 : decode cX12_isInput 1 = .ok (.ifCond .lt 15, 3) := by decide +kernel
theorem dX12_isInput_4 : decode cX12_isInput 4 = .ok (.iload_n 1, 1) := by decide +kernel
theorem dX12_isInput_5 : decode cX12_isInput 5 = .ok (.aload_n 0, 1) := by decide +kernel
theorem dX12_isInput_6 : decode cX12_isInput 6 = .ok (.invokevirtual 320, 3) := by decide +kernel
theorem dX12_isInput_9 : decode cX12_isInput 9 = .ok (.if_icmp .ge 7, 3) := by decide +kernel
theorem dX12_isInput_12 : decode cX12_isInput 12 = .ok (.iconst 1, 1) := by decide +kernel
theorem dX12_isInput_13 : decode cX12_isInput 13 = .ok (.goto 4, 3) := by decide +kernel
theorem dX12_isInput_16 : decode cX12_isInput 16 = .ok (.iconst 0, 1) := by decide +kernel
theorem dX12_isInput_17 : decode cX12_isInput 17 = .ok (.ireturn, 1) := by decide +kernel
theorem dX12_isValue_0 : decode cX12_isValue 0 = .ok (.iload_n 1, 1) := by decide +kernel
theorem dX12_isValue_1 : decode cX12_isValue 1 = .ok (.ifCond .lt 15, 3) := by decide +kernel
theorem dX12_isValue_4 : decode cX12_isValue 4 = .ok (.iload_n 1, 1) := by decide +kernel
theorem dX12_isValue_5 : decode cX12_isValue 5 = .ok (.aload_n 0, 1) := by decide +kernel
theorem dX12_isValue_6 : decode cX12_isValue 6 = .ok (.invokevirtual 352, 3) := by decide +kernel
theorem dX12_isValue_9 : decode cX12_isValue 9 = .ok (.if_icmp .ge 7, 3) := by decide +kernel
theorem dX12_isValue_12 : decode cX12_isValue 12 = .ok (.iconst 1, 1) := by decide +kernel
theorem dX12_isValue_13 : decode cX12_isValue 13 = .ok (.goto 4, 3) := by decide +kernel
theorem dX12_isValue_16 : decode cX12_isValue 16 = .ok (.iconst 0, 1) := by decide +kernel
theorem dX12_isValue_17 : decode cX12_isValue 17 = .ok (.ireturn, 1) := by decide +kernel
theorem dX12_isLane_0 : decode cX12_isLane 0 = .ok (.iload_n 0, 1) := by decide +kernel
theorem dX12_isLane_1 : decode cX12_isLane 1 = .ok (.iconst 0, 1) := by decide +kernel
theorem dX12_isLane_2 : decode cX12_isLane 2 = .ok (.iconst 3, 1) := by decide +kernel
theorem dX12_isLane_3 : decode cX12_isLane 3 = .ok (.invokestatic 355, 3) := by decide +kernel
theorem dX12_isLane_6 : decode cX12_isLane 6 = .ok (.ireturn, 1) := by decide +kernel
theorem dX12_isRange_0 : decode cX12_isRange 0 = .ok (.iload_n 0, 1) := by decide +kernel
theorem dX12_isRange_1 : decode cX12_isRange 1 = .ok (.iconst 0, 1) := by decide +kernel
theorem dX12_isRange_2 : decode cX12_isRange 2 = .ok (.sipush 999, 3) := by decide +kernel
theorem dX12_isRange_5 : decode cX12_isRange 5 = .ok (.invokestatic 355, 3) := by decide +kernel
theorem dX12_isRange_8 : decode cX12_isRange 8 = .ok (.ifCond .eq 18, 3) := by decide +kernel
theorem dX12_isRange_11 : decode cX12_isRange 11 = .ok (.iload_n 1, 1) := by decide +kernel
theorem dX12_isRange_12 : decode cX12_isRange 12 = .ok (.iload_n 0, 1) := by decide +kernel
theorem dX12_isRange_13 : decode cX12_isRange 13 = .ok (.sipush 999, 3) := by decide +kernel
theorem dX12_isRange_16 : decode cX12_isRange 16 = .ok (.invokestatic 355, 3) := by decide +kernel
theorem dX12_isRange_19 : decode cX12_isRange 19 = .ok (.ifCond .eq 7, 3) := by decide +kernel
theorem dX12_isRange_22 : decode cX12_isRange 22 = .ok (.iconst 1, 1) := by decide +kernel
theorem dX12_isRange_23 : decode cX12_isRange 23 = .ok (.goto 4, 3) := by decide +kernel
theorem dX12_isRange_26 : decode cX12_isRange 26 = .ok (.iconst 0, 1) := by decide +kernel
theorem dX12_isRange_27 : decode cX12_isRange 27 = .ok (.ireturn, 1) := by decide +kernel
theorem dX12_set_0 : decode cX12_set 0 = .ok (.aload_n 0, 1) := by decide +kernel
theorem dX12_set_1 : decode cX12_set 1 = .ok (.iconst 0, 1) := by decide +kernel
theorem dX12_set_2 : decode cX12_set 2 = .ok (.putfield 1, 3) := by decide +kernel
theorem dX12_set_5 : decode cX12_set 5 = .ok (.aload_n 0, 1) := by decide +kernel
theorem dX12_set_6 : decode cX12_set 6 = .ok (.iload_n 1, 1) := by decide +kernel
theorem dX12_set_7 : decode cX12_set 7 = .ok (.invokevirtual 359, 3) := by decide +kernel
theorem dX12_set_10 : decode cX12_set 10 = .ok (.ifCond .eq 35, 3) := by decide +kernel
theorem dX12_set_13 : decode cX12_set 13 = .ok (.iload_n 2, 1) := by decide +kernel
theorem dX12_set_14 : decode cX12_set 14 = .ok (.invokestatic 362, 3) := by decide +kernel
theorem dX12_set_17 : decode cX12_set 17 = .ok (.ifCond .eq 28, 3) := by decide +kernel
theorem dX12_set_20 : decode cX12_set 20 = .ok (.iload_n 3, 1) := by decide +kernel
theorem dX12_set_21 : decode cX12_set 21 = .ok (.aload_n 0, 1) := by decide +kernel
theorem dX12_set_22 : decode cX12_set 22 = .ok (.getfield 162, 3) := by decide +kernel
theorem dX12_set_25 : decode cX12_set 25 = .ok (.iconst 2, 1) := by decide +kernel
theorem dX12_set_26 : decode cX12_set 26 = .ok (.iload_n 1, 1) := by decide +kernel
theorem dX12_set_27 : decode cX12_set 27 = .ok (.imul, 1) := by decide +kernel
theorem dX12_set_28 : decode cX12_set 28 = .ok (.iaload, 1) := by decide +kernel
theorem dX12_set_29 : decode cX12_set 29 = .ok (.aload_n 0, 1) := by decide +kernel
theorem dX12_set_30 : decode cX12_set 30 = .ok (.getfield 162, 3) := by decide +kernel
theorem dX12_set_33 : decode cX12_set 33 = .ok (.iconst 2, 1) := by decide +kernel
theorem dX12_set_34 : decode cX12_set 34 = .ok (.iload_n 1, 1) := by decide +kernel
theorem dX12_set_35 : decode cX12_set 35 = .ok (.imul, 1) := by decide +kernel
theorem dX12_set_36 : decode cX12_set 36 = .ok (.iconst 1, 1) := by decide +kernel
theorem dX12_set_37 : decode cX12_set 37 = .ok (.iadd, 1) := by decide +kernel
theorem dX12_set_38 : decode cX12_set 38 = .ok (.iaload, 1) := by decide +kernel
theorem dX12_set_39 : decode cX12_set 39 = .ok (.invokestatic 355, 3) := by decide +kernel
theorem dX12_set_42 : decode cX12_set 42 = .ok (.ifCond .ne 5, 3) := by decide +kernel
theorem dX12_set_45 : decode cX12_set 45 = .ok (.iconst (-1), 1) := by decide +kernel
theorem dX12_set_46 : decode cX12_set 46 = .ok (.ireturn, 1) := by decide +kernel
theorem dX12_set_47 : decode cX12_set 47 = .ok (.aload_n 0, 1) := by decide +kernel
theorem dX12_set_48 : decode cX12_set 48 = .ok (.getfield 165, 3) := by decide +kernel
theorem dX12_set_51 : decode cX12_set 51 = .ok (.iconst 4, 1) := by decide +kernel
theorem dX12_set_52 : decode cX12_set 52 = .ok (.iload_n 1, 1) := by decide +kernel
theorem dX12_set_53 : decode cX12_set 53 = .ok (.imul, 1) := by decide +kernel
theorem dX12_set_54 : decode cX12_set 54 = .ok (.iload_n 2, 1) := by decide +kernel
theorem dX12_set_55 : decode cX12_set 55 = .ok (.iadd, 1) := by decide +kernel
theorem dX12_set_56 : decode cX12_set 56 = .ok (.iaload, 1) := by decide +kernel
theorem dX12_set_57 : decode cX12_set 57 = .ok (.istore 4, 2) := by decide +kernel
theorem dX12_set_59 : decode cX12_set 59 = .ok (.iconst 0, 1) := by decide +kernel
theorem dX12_set_60 : decode cX12_set 60 = .ok (.istore 5, 2) := by decide +kernel
theorem dX12_set_62 : decode cX12_set 62 = .ok (.iload 5, 2) := by decide +kernel
theorem dX12_set_64 : decode cX12_set 64 = .ok (.iconst 4, 1) := by decide +kernel
theorem dX12_set_65 : decode cX12_set 65 = .ok (.if_icmp .ge 70, 3) := by decide +kernel
theorem dX12_set_68 : decode cX12_set 68 = .ok (.iload 5, 2) := by decide +kernel
theorem dX12_set_70 : decode cX12_set 70 = .ok (.iload_n 2, 1) := by decide +kernel
theorem dX12_set_71 : decode cX12_set 71 = .ok (.if_icmp .eq 20, 3) := by decide +kernel
theorem dX12_set_74 : decode cX12_set 74 = .ok (.aload_n 0, 1) := by decide +kernel
theorem dX12_set_75 : decode cX12_set 75 = .ok (.getfield 126, 3) := by decide +kernel
theorem dX12_set_78 : decode cX12_set 78 = .ok (.bipush 10, 2) := by decide +kernel
theorem dX12_set_80 : decode cX12_set 80 = .ok (.iconst 3, 1) := by decide +kernel
theorem dX12_set_81 : decode cX12_set 81 = .ok (.iload_n 1, 1) := by decide +kernel
theorem dX12_set_82 : decode cX12_set 82 = .ok (.imul, 1) := by decide +kernel
theorem dX12_set_83 : decode cX12_set 83 = .ok (.iadd, 1) := by decide +kernel
theorem dX12_set_84 : decode cX12_set 84 = .ok (.iconst 2, 1) := by decide +kernel
theorem dX12_set_85 : decode cX12_set 85 = .ok (.iadd, 1) := by decide +kernel
theorem dX12_set_86 : decode cX12_set 86 = .ok (.iaload, 1) := by decide +kernel
theorem dX12_set_87 : decode cX12_set 87 = .ok (.iconst 1, 1) := by decide +kernel
theorem dX12_set_88 : decode cX12_set 88 = .ok (.if_icmp .ne 7, 3) := by decide +kernel
theorem dX12_set_91 : decode cX12_set 91 = .ok (.iconst 1, 1) := by decide +kernel
theorem dX12_set_92 : decode cX12_set 92 = .ok (.goto 4, 3) := by decide +kernel
theorem dX12_set_95 : decode cX12_set 95 = .ok (.iconst 0, 1) := by decide +kernel
theorem dX12_set_96 : decode cX12_set 96 = .ok (.istore 6, 2) := by decide +kernel
theorem dX12_set_98 : decode cX12_set 98 = .ok (.aload_n 0, 1) := by decide +kernel
theorem dX12_set_99 : decode cX12_set 99 = .ok (.getfield 165, 3) := by decide +kernel
theorem dX12_set_102 : decode cX12_set 102 = .ok (.iconst 4, 1) := by decide +kernel
theorem dX12_set_103 : decode cX12_set 103 = .ok (.iload_n 1, 1) := by decide +kernel
theorem dX12_set_104 : decode cX12_set 104 = .ok (.imul, 1) := by decide +kernel
theorem dX12_set_105 : decode cX12_set 105 = .ok (.iload 5, 2) := by decide +kernel
theorem dX12_set_107 : decode cX12_set 107 = .ok (.iadd, 1) := by decide +kernel
theorem dX12_set_108 : decode cX12_set 108 = .ok (.iload 6, 2) := by decide +kernel
theorem dX12_set_110 : decode cX12_set 110 = .ok (.ifCond .eq 7, 3) := by decide +kernel
theorem dX12_set_113 : decode cX12_set 113 = .ok (.iload_n 3, 1) := by decide +kernel
theorem dX12_set_114 : decode cX12_set 114 = .ok (.goto 14, 3) := by decide +kernel
theorem dX12_set_117 : decode cX12_set 117 = .ok (.aload_n 0, 1) := by decide +kernel
theorem dX12_set_118 : decode cX12_set 118 = .ok (.getfield 165, 3) := by decide +kernel
theorem dX12_set_121 : decode cX12_set 121 = .ok (.iconst 4, 1) := by decide +kernel
theorem dX12_set_122 : decode cX12_set 122 = .ok (.iload_n 1, 1) := by decide +kernel
theorem dX12_set_123 : decode cX12_set 123 = .ok (.imul, 1) := by decide +kernel
theorem dX12_set_124 : decode cX12_set 124 = .ok (.iload 5, 2) := by decide +kernel
theorem dX12_set_126 : decode cX12_set 126 = .ok (.iadd, 1) := by decide +kernel
theorem dX12_set_127 : decode cX12_set 127 = .ok (.iaload, 1) := by decide +kernel
theorem dX12_set_128 : decode cX12_set 128 = .ok (.iastore, 1) := by decide +kernel
theorem dX12_set_129 : decode cX12_set 129 = .ok (.iinc 5 1, 3) := by decide +kernel
theorem dX12_set_132 : decode cX12_set 132 = .ok (.goto (-70), 3) := by decide +kernel
theorem dX12_set_135 : decode cX12_set 135 = .ok (.iload 4, 2) := by decide +kernel
theorem dX12_set_137 : decode cX12_set 137 = .ok (.ireturn, 1) := by decide +kernel
theorem dX12_cell_0 : decode cX12_cell 0 = .ok (.aload_n 0, 1) := by decide +kernel
theorem dX12_cell_1 : decode cX12_cell 1 = .ok (.iconst 0, 1) := by decide +kernel
theorem dX12_cell_2 : decode cX12_cell 2 = .ok (.putfield 1, 3) := by decide +kernel
theorem dX12_cell_5 : decode cX12_cell 5 = .ok (.iload_n 1, 1) := by decide +kernel
theorem dX12_cell_6 : decode cX12_cell 6 = .ok (.iconst 0, 1) := by decide +kernel
theorem dX12_cell_7 : decode cX12_cell 7 = .ok (.bipush 15, 2) := by decide +kernel
theorem dX12_cell_9 : decode cX12_cell 9 = .ok (.invokestatic 355, 3) := by decide +kernel
theorem dX12_cell_12 : decode cX12_cell 12 = .ok (.ifCond .eq 14, 3) := by decide +kernel
theorem dX12_cell_15 : decode cX12_cell 15 = .ok (.iload_n 2, 1) := by decide +kernel
theorem dX12_cell_16 : decode cX12_cell 16 = .ok (.iconst 0, 1) := by decide +kernel
theorem dX12_cell_17 : decode cX12_cell 17 = .ok (.sipush 999, 3) := by decide +kernel
theorem dX12_cell_20 : decode cX12_cell 20 = .ok (.invokestatic 355, 3) := by decide +kernel
theorem dX12_cell_23 : decode cX12_cell 23 = .ok (.ifCond .ne 5, 3) := by decide +kernel
theorem dX12_cell_26 : decode cX12_cell 26 = .ok (.iconst (-1), 1) := by decide +kernel
theorem dX12_cell_27 : decode cX12_cell 27 = .ok (.ireturn, 1) := by decide +kernel
theorem dX12_cell_28 : decode cX12_cell 28 = .ok (.aload_n 0, 1) := by decide +kernel
theorem dX12_cell_29 : decode cX12_cell 29 = .ok (.getfield 168, 3) := by decide +kernel
theorem dX12_cell_32 : decode cX12_cell 32 = .ok (.iload_n 1, 1) := by decide +kernel
theorem dX12_cell_33 : decode cX12_cell 33 = .ok (.iaload, 1) := by decide +kernel
theorem dX12_cell_34 : decode cX12_cell 34 = .ok (.istore_n 3, 1) := by decide +kernel
theorem dX12_cell_35 : decode cX12_cell 35 = .ok (.aload_n 0, 1) := by decide +kernel
theorem dX12_cell_36 : decode cX12_cell 36 = .ok (.getfield 168, 3) := by decide +kernel
theorem dX12_cell_39 : decode cX12_cell 39 = .ok (.iload_n 1, 1) := by decide +kernel
theorem dX12_cell_40 : decode cX12_cell 40 = .ok (.iload_n 2, 1) := by decide +kernel
theorem dX12_cell_41 : decode cX12_cell 41 = .ok (.iastore, 1) := by decide +kernel
theorem dX12_cell_42 : decode cX12_cell 42 = .ok (.iload_n 3, 1) := by decide +kernel
theorem dX12_cell_43 : decode cX12_cell 43 = .ok (.ireturn, 1) := by decide +kernel
theorem dX12_rule_0 : decode cX12_rule 0 = .ok (.aload_n 0, 1) := by decide +kernel
theorem dX12_rule_1 : decode cX12_rule 1 = .ok (.iconst 0, 1) := by decide +kernel
theorem dX12_rule_2 : decode cX12_rule 2 = .ok (.putfield 1, 3) := by decide +kernel
theorem dX12_rule_5 : decode cX12_rule 5 = .ok (.iload_n 1, 1) := by decide +kernel
theorem dX12_rule_6 : decode cX12_rule 6 = .ok (.iconst 0, 1) := by decide +kernel
theorem dX12_rule_7 : decode cX12_rule 7 = .ok (.iconst 3, 1) := by decide +kernel
theorem dX12_rule_8 : decode cX12_rule 8 = .ok (.invokestatic 355, 3) := by decide +kernel
theorem dX12_rule_11 : decode cX12_rule 11 = .ok (.ifCond .ne 5, 3) := by decide +kernel
theorem dX12_rule_14 : decode cX12_rule 14 = .ok (.iconst (-1), 1) := by decide +kernel
theorem dX12_rule_15 : decode cX12_rule 15 = .ok (.ireturn, 1) := by decide +kernel
theorem dX12_rule_16 : decode cX12_rule 16 = .ok (.aload_n 0, 1) := by decide +kernel
theorem dX12_rule_17 : decode cX12_rule 17 = .ok (.getfield 365, 3) := by decide +kernel
theorem dX12_rule_20 : decode cX12_rule 20 = .ok (.istore_n 2, 1) := by decide +kernel
theorem dX12_rule_21 : decode cX12_rule 21 = .ok (.aload_n 0, 1) := by decide +kernel
theorem dX12_rule_22 : decode cX12_rule 22 = .ok (.iload_n 1, 1) := by decide +kernel
theorem dX12_rule_23 : decode cX12_rule 23 = .ok (.putfield 365, 3) := by decide +kernel
theorem dX12_rule_26 : decode cX12_rule 26 = .ok (.iload_n 2, 1) := by decide +kernel
theorem dX12_rule_27 : decode cX12_rule 27 = .ok (.ireturn, 1) := by decide +kernel
theorem dX12_narrow_0 : decode cX12_narrow 0 = .ok (.aload_n 0, 1) := by decide +kernel
theorem dX12_narrow_1 : decode cX12_narrow 1 = .ok (.iconst 0, 1) := by decide +kernel
theorem dX12_narrow_2 : decode cX12_narrow 2 = .ok (.putfield 1, 3) := by decide +kernel
theorem dX12_narrow_5 : decode cX12_narrow 5 = .ok (.aload_n 0, 1) := by decide +kernel
theorem dX12_narrow_6 : decode cX12_narrow 6 = .ok (.iload_n 1, 1) := by decide +kernel
theorem dX12_narrow_7 : decode cX12_narrow 7 = .ok (.invokevirtual 359, 3) := by decide +kernel
theorem dX12_narrow_10 : decode cX12_narrow 10 = .ok (.ifCond .eq 15, 3) := by decide +kernel
theorem dX12_narrow_13 : decode cX12_narrow 13 = .ok (.iload_n 2, 1) := by decide +kernel
theorem dX12_narrow_14 : decode cX12_narrow 14 = .ok (.iload_n 3, 1) := by decide +kernel
theorem dX12_narrow_15 : decode cX12_narrow 15 = .ok (.invokestatic 368, 3) := by decide +kernel
theorem dX12_narrow_18 : decode cX12_narrow 18 = .ok (.ifCond .eq 7, 3) := by decide +kernel
theorem dX12_narrow_21 : decode cX12_narrow 21 = .ok (.iconst 1, 1) := by decide +kernel
theorem dX12_narrow_22 : decode cX12_narrow 22 = .ok (.goto 4, 3) := by decide +kernel
theorem dX12_narrow_25 : decode cX12_narrow 25 = .ok (.iconst 0, 1) := by decide +kernel
theorem dX12_narrow_26 : decode cX12_narrow 26 = .ok (.istore 4, 2) := by decide +kernel
theorem dX12_narrow_28 : decode cX12_narrow 28 = .ok (.iconst 0, 1) := by decide +kernel
theorem dX12_narrow_29 : decode cX12_narrow 29 = .ok (.istore 5, 2) := by decide +kernel
theorem dX12_narrow_31 : decode cX12_narrow 31 = .ok (.iload 4, 2) := by decide +kernel
theorem dX12_narrow_33 : decode cX12_narrow 33 = .ok (.ifCond .eq 33, 3) := by decide +kernel
theorem dX12_narrow_36 : decode cX12_narrow 36 = .ok (.iload 5, 2) := by decide +kernel
theorem dX12_narrow_38 : decode cX12_narrow 38 = .ok (.iconst 4, 1) := by decide +kernel
theorem dX12_narrow_39 : decode cX12_narrow 39 = .ok (.if_icmp .ge 27, 3) := by decide +kernel
theorem dX12_narrow_42 : decode cX12_narrow 42 = .ok (.aload_n 0, 1) := by decide +kernel
theorem dX12_narrow_43 : decode cX12_narrow 43 = .ok (.getfield 165, 3) := by decide +kernel
theorem dX12_narrow_46 : decode cX12_narrow 46 = .ok (.iconst 4, 1) := by decide +kernel
theorem dX12_narrow_47 : decode cX12_narrow 47 = .ok (.iload_n 1, 1) := by decide +kernel
theorem dX12_narrow_48 : decode cX12_narrow 48 = .ok (.imul, 1) := by decide +kernel
theorem dX12_narrow_49 : decode cX12_narrow 49 = .ok (.iload 5, 2) := by decide +kernel
theorem dX12_narrow_51 : decode cX12_narrow 51 = .ok (.iadd, 1) := by decide +kernel
theorem dX12_narrow_52 : decode cX12_narrow 52 = .ok (.iaload, 1) := by decide +kernel
theorem dX12_narrow_53 : decode cX12_narrow 53 = .ok (.iload_n 2, 1) := by decide +kernel
theorem dX12_narrow_54 : decode cX12_narrow 54 = .ok (.iload_n 3, 1) := by decide +kernel
theorem dX12_narrow_55 : decode cX12_narrow 55 = .ok (.invokestatic 355, 3) := by decide +kernel
theorem dX12_narrow_58 : decode cX12_narrow 58 = .ok (.istore 4, 2) := by decide +kernel
theorem dX12_narrow_60 : decode cX12_narrow 60 = .ok (.iinc 5 1, 3) := by decide +kernel
theorem dX12_narrow_63 : decode cX12_narrow 63 = .ok (.goto (-32), 3) := by decide +kernel
theorem dX12_narrow_66 : decode cX12_narrow 66 = .ok (.iload 4, 2) := by decide +kernel
theorem dX12_narrow_68 : decode cX12_narrow 68 = .ok (.ifCond .eq 23, 3) := by decide +kernel
theorem dX12_narrow_71 : decode cX12_narrow 71 = .ok (.aload_n 0, 1) := by decide +kernel
theorem dX12_narrow_72 : decode cX12_narrow 72 = .ok (.getfield 162, 3) := by decide +kernel
theorem dX12_narrow_75 : decode cX12_narrow 75 = .ok (.iconst 2, 1) := by decide +kernel
theorem dX12_narrow_76 : decode cX12_narrow 76 = .ok (.iload_n 1, 1) := by decide +kernel
theorem dX12_narrow_77 : decode cX12_narrow 77 = .ok (.imul, 1) := by decide +kernel
theorem dX12_narrow_78 : decode cX12_narrow 78 = .ok (.iload_n 2, 1) := by decide +kernel
theorem dX12_narrow_79 : decode cX12_narrow 79 = .ok (.iastore, 1) := by decide +kernel
theorem dX12_narrow_80 : decode cX12_narrow 80 = .ok (.aload_n 0, 1) := by decide +kernel
theorem dX12_narrow_81 : decode cX12_narrow 81 = .ok (.getfield 162, 3) := by decide +kernel
theorem dX12_narrow_84 : decode cX12_narrow 84 = .ok (.iconst 2, 1) := by decide +kernel
theorem dX12_narrow_85 : decode cX12_narrow 85 = .ok (.iload_n 1, 1) := by decide +kernel
theorem dX12_narrow_86 : decode cX12_narrow 86 = .ok (.imul, 1) := by decide +kernel
theorem dX12_narrow_87 : decode cX12_narrow 87 = .ok (.iconst 1, 1) := by decide +kernel
theorem dX12_narrow_88 : decode cX12_narrow 88 = .ok (.iadd, 1) := by decide +kernel
theorem dX12_narrow_89 : decode cX12_narrow 89 = .ok (.iload_n 3, 1) := by decide +kernel
theorem dX12_narrow_90 : decode cX12_narrow 90 = .ok (.iastore, 1) := by decide +kernel
theorem dX12_narrow_91 : decode cX12_narrow 91 = .ok (.iload 4, 2) := by decide +kernel
theorem dX12_narrow_93 : decode cX12_narrow 93 = .ok (.ireturn, 1) := by decide +kernel
theorem dX12_input_0 : decode cX12_input 0 = .ok (.aload_n 0, 1) := by decide +kernel
theorem dX12_input_1 : decode cX12_input 1 = .ok (.iconst 0, 1) := by decide +kernel
theorem dX12_input_2 : decode cX12_input 2 = .ok (.putfield 1, 3) := by decide +kernel
theorem dX12_input_5 : decode cX12_input 5 = .ok (.aload_n 0, 1) := by decide +kernel
theorem dX12_input_6 : decode cX12_input 6 = .ok (.iload_n 1, 1) := by decide +kernel
theorem dX12_input_7 : decode cX12_input 7 = .ok (.invokevirtual 359, 3) := by decide +kernel
theorem dX12_input_10 : decode cX12_input 10 = .ok (.ifCond .eq 13, 3) := by decide +kernel
theorem dX12_input_13 : decode cX12_input 13 = .ok (.iload_n 2, 1) := by decide +kernel
theorem dX12_input_14 : decode cX12_input 14 = .ok (.iconst 0, 1) := by decide +kernel
theorem dX12_input_15 : decode cX12_input 15 = .ok (.bipush 7, 2) := by decide +kernel
theorem dX12_input_17 : decode cX12_input 17 = .ok (.invokestatic 355, 3) := by decide +kernel
theorem dX12_input_20 : decode cX12_input 20 = .ok (.ifCond .ne 5, 3) := by decide +kernel
theorem dX12_input_23 : decode cX12_input 23 = .ok (.iconst (-1), 1) := by decide +kernel
theorem dX12_input_24 : decode cX12_input 24 = .ok (.ireturn, 1) := by decide +kernel
theorem dX12_input_25 : decode cX12_input 25 = .ok (.iload_n 2, 1) := by decide +kernel
theorem dX12_input_26 : decode cX12_input 26 = .ok (.ifCond .ne 7, 3) := by decide +kernel
theorem dX12_input_29 : decode cX12_input 29 = .ok (.iload_n 1, 1) := by decide +kernel
theorem dX12_input_30 : decode cX12_input 30 = .ok (.goto 56, 3) := by decide +kernel
theorem dX12_input_33 : decode cX12_input 33 = .ok (.iload_n 2, 1) := by decide +kernel
theorem dX12_input_34 : decode cX12_input 34 = .ok (.iconst 3, 1) := by decide +kernel
theorem dX12_input_35 : decode cX12_input 35 = .ok (.if_icmp .ge 18, 3) := by decide +kernel
theorem dX12_input_38 : decode cX12_input 38 = .ok (.aload_n 0, 1) := by decide +kernel
theorem dX12_input_39 : decode cX12_input 39 = .ok (.getfield 162, 3) := by decide +kernel
theorem dX12_input_42 : decode cX12_input 42 = .ok (.iconst 2, 1) := by decide +kernel
theorem dX12_input_43 : decode cX12_input 43 = .ok (.iload_n 1, 1) := by decide +kernel
theorem dX12_input_44 : decode cX12_input 44 = .ok (.imul, 1) := by decide +kernel
theorem dX12_input_45 : decode cX12_input 45 = .ok (.iload_n 2, 1) := by decide +kernel
theorem dX12_input_46 : decode cX12_input 46 = .ok (.iadd, 1) := by decide +kernel
theorem dX12_input_47 : decode cX12_input 47 = .ok (.iconst 1, 1) := by decide +kernel
theorem dX12_input_48 : decode cX12_input 48 = .ok (.isub, 1) := by decide +kernel
theorem dX12_input_49 : decode cX12_input 49 = .ok (.iaload, 1) := by decide +kernel
theorem dX12_input_50 : decode cX12_input 50 = .ok (.goto 36, 3) := by decide +kernel
theorem dX12_input_53 : decode cX12_input 53 = .ok (.iload_n 2, 1) := by decide +kernel
theorem dX12_input_54 : decode cX12_input 54 = .ok (.iconst 3, 1) := by decide +kernel
theorem dX12_input_55 : decode cX12_input 55 = .ok (.if_icmp .ne 19, 3) := by decide +kernel
theorem dX12_input_58 : decode cX12_input 58 = .ok (.aload_n 0, 1) := by decide +kernel
theorem dX12_input_59 : decode cX12_input 59 = .ok (.getfield 126, 3) := by decide +kernel
theorem dX12_input_62 : decode cX12_input 62 = .ok (.bipush 10, 2) := by decide +kernel
theorem dX12_input_64 : decode cX12_input 64 = .ok (.iconst 3, 1) := by decide +kernel
theorem dX12_input_65 : decode cX12_input 65 = .ok (.iload_n 1, 1) := by decide +kernel
theorem dX12_input_66 : decode cX12_input 66 = .ok (.imul, 1) := by decide +kernel
theorem dX12_input_67 : decode cX12_input 67 = .ok (.iadd, 1) := by decide +kernel
theorem dX12_input_68 : decode cX12_input 68 = .ok (.iconst 2, 1) := by decide +kernel
theorem dX12_input_69 : decode cX12_input 69 = .ok (.iadd, 1) := by decide +kernel
theorem dX12_input_70 : decode cX12_input 70 = .ok (.iaload, 1) := by decide +kernel
theorem dX12_input_71 : decode cX12_input 71 = .ok (.goto 15, 3) := by decide +kernel
theorem dX12_input_74 : decode cX12_input 74 = .ok (.aload_n 0, 1) := by decide +kernel
theorem dX12_input_75 : decode cX12_input 75 = .ok (.getfield 165, 3) := by decide +kernel
theorem dX12_input_78 : decode cX12_input 78 = .ok (.iconst 4, 1) := by decide +kernel
theorem dX12_input_79 : decode cX12_input 79 = .ok (.iload_n 1, 1) := by decide +kernel
theorem dX12_input_80 : decode cX12_input 80 = .ok (.imul, 1) := by decide +kernel
theorem dX12_input_81 : decode cX12_input 81 = .ok (.iload_n 2, 1) := by decide +kernel
theorem dX12_input_82 : decode cX12_input 82 = .ok (.iadd, 1) := by decide +kernel
theorem dX12_input_83 : decode cX12_input 83 = .ok (.iconst 4, 1) := by decide +kernel
theorem dX12_input_84 : decode cX12_input 84 = .ok (.isub, 1) := by decide +kernel
theorem dX12_input_85 : decode cX12_input 85 = .ok (.iaload, 1) := by decide +kernel
theorem dX12_input_86 : decode cX12_input 86 = .ok (.ireturn, 1) := by decide +kernel
theorem dX12_held_0 : decode cX12_held 0 = .ok (.lload_n 0, 1) := by decide +kernel
theorem dX12_held_1 : decode cX12_held 1 = .ok (.ldc2_w 372, 3) := by decide +kernel
theorem dX12_held_4 : decode cX12_held 4 = .ok (.lcmp, 1) := by decide +kernel
theorem dX12_held_5 : decode cX12_held 5 = .ok (.ifCond .ge 9, 3) := by decide +kernel
theorem dX12_held_8 : decode cX12_held 8 = .ok (.ldc_w 374, 3) := by decide +kernel
theorem dX12_held_11 : decode cX12_held 11 = .ok (.goto 19, 3) := by decide +kernel
theorem dX12_held_14 : decode cX12_held 14 = .ok (.lload_n 0, 1) := by decide +kernel
theorem dX12_held_15 : decode cX12_held 15 = .ok (.ldc2_w 375, 3) := by decide +kernel
theorem dX12_held_18 : decode cX12_held 18 = .ok (.lcmp, 1) := by decide +kernel
theorem dX12_held_19 : decode cX12_held 19 = .ok (.ifCond .le 9, 3) := by decide +kernel
theorem dX12_held_22 : decode cX12_held 22 = .ok (.ldc_w 377, 3) := by decide +kernel
theorem dX12_held_25 : decode cX12_held 25 = .ok (.goto 5, 3) := by decide +kernel
theorem dX12_held_28 : decode cX12_held 28 = .ok (.lload_n 0, 1) := by decide +kernel
theorem dX12_held_29 : decode cX12_held 29 = .ok (.l2i, 1) := by decide +kernel
theorem dX12_held_30 : decode cX12_held 30 = .ok (.ireturn, 1) := by decide +kernel
theorem dX12_lesser_0 : decode cX12_lesser 0 = .ok (.iload_n 0, 1) := by decide +kernel
theorem dX12_lesser_1 : decode cX12_lesser 1 = .ok (.iload_n 1, 1) := by decide +kernel
theorem dX12_lesser_2 : decode cX12_lesser 2 = .ok (.if_icmp .ge 7, 3) := by decide +kernel
theorem dX12_lesser_5 : decode cX12_lesser 5 = .ok (.iload_n 0, 1) := by decide +kernel
theorem dX12_lesser_6 : decode cX12_lesser 6 = .ok (.goto 4, 3) := by decide +kernel
theorem dX12_lesser_9 : decode cX12_lesser 9 = .ok (.iload_n 1, 1) := by decide +kernel
theorem dX12_lesser_10 : decode cX12_lesser 10 = .ok (.ireturn, 1) := by decide +kernel
theorem dX12_greater_0 : decode cX12_greater 0 = .ok (.iload_n 0, 1) := by decide +kernel
theorem dX12_greater_1 : decode cX12_greater 1 = .ok (.iload_n 1, 1) := by decide +kernel
theorem dX12_greater_2 : decode cX12_greater 2 = .ok (.if_icmp .le 7, 3) := by decide +kernel
theorem dX12_greater_5 : decode cX12_greater 5 = .ok (.iload_n 0, 1) := by decide +kernel
theorem dX12_greater_6 : decode cX12_greater 6 = .ok (.goto 4, 3) := by decide +kernel
theorem dX12_greater_9 : decode cX12_greater 9 = .ok (.iload_n 1, 1) := by decide +kernel
theorem dX12_greater_10 : decode cX12_greater 10 = .ok (.ireturn, 1) := by decide +kernel
theorem dX12_worked_0 : decode cX12_worked 0 = .ok (.iload_n 1, 1) := by decide +kernel
theorem dX12_worked_1 : decode cX12_worked 1 = .ok (.tableswitch 134 2 12 #[59, 68, 77, 86, 92, 98, 108, 119, 86, 92, 130], 59) := by decide +kernel
theorem dX12_worked_60 : decode cX12_worked 60 = .ok (.iload_n 2, 1) := by decide +kernel
theorem dX12_worked_61 : decode cX12_worked 61 = .ok (.i2l, 1) := by decide +kernel
theorem dX12_worked_62 : decode cX12_worked 62 = .ok (.iload_n 3, 1) := by decide +kernel
theorem dX12_worked_63 : decode cX12_worked 63 = .ok (.i2l, 1) := by decide +kernel
theorem dX12_worked_64 : decode cX12_worked 64 = .ok (.ladd, 1) := by decide +kernel
theorem dX12_worked_65 : decode cX12_worked 65 = .ok (.invokestatic 378, 3) := by decide +kernel
theorem dX12_worked_68 : decode cX12_worked 68 = .ok (.ireturn, 1) := by decide +kernel
theorem dX12_worked_69 : decode cX12_worked 69 = .ok (.iload_n 2, 1) := by decide +kernel
theorem dX12_worked_70 : decode cX12_worked 70 = .ok (.i2l, 1) := by decide +kernel
theorem dX12_worked_71 : decode cX12_worked 71 = .ok (.iload_n 3, 1) := by decide +kernel
theorem dX12_worked_72 : decode cX12_worked 72 = .ok (.i2l, 1) := by decide +kernel
theorem dX12_worked_73 : decode cX12_worked 73 = .ok (.lsub, 1) := by decide +kernel
theorem dX12_worked_74 : decode cX12_worked 74 = .ok (.invokestatic 378, 3) := by decide +kernel
theorem dX12_worked_77 : decode cX12_worked 77 = .ok (.ireturn, 1) := by decide +kernel
theorem dX12_worked_78 : decode cX12_worked 78 = .ok (.iload_n 2, 1) := by decide +kernel
theorem dX12_worked_79 : decode cX12_worked 79 = .ok (.i2l, 1) := by decide +kernel
theorem dX12_worked_80 : decode cX12_worked 80 = .ok (.iload_n 3, 1) := by decide +kernel
theorem dX12_worked_81 : decode cX12_worked 81 = .ok (.i2l, 1) := by decide +kernel
theorem dX12_worked_82 : decode cX12_worked 82 = .ok (.lmul, 1) := by decide +kernel
theorem dX12_worked_83 : decode cX12_worked 83 = .ok (.invokestatic 378, 3) := by decide +kernel
theorem dX12_worked_86 : decode cX12_worked 86 = .ok (.ireturn, 1) := by decide +kernel
theorem dX12_worked_87 : decode cX12_worked 87 = .ok (.iload_n 2, 1) := by decide +kernel
theorem dX12_worked_88 : decode cX12_worked 88 = .ok (.iload_n 3, 1) := by decide +kernel
theorem dX12_worked_89 : decode cX12_worked 89 = .ok (.invokestatic 382, 3) := by decide +kernel
theorem dX12_worked_92 : decode cX12_worked 92 = .ok (.ireturn, 1) := by decide +kernel
theorem dX12_worked_93 : decode cX12_worked 93 = .ok (.iload_n 2, 1) := by decide +kernel
theorem dX12_worked_94 : decode cX12_worked 94 = .ok (.iload_n 3, 1) := by decide +kernel
theorem dX12_worked_95 : decode cX12_worked 95 = .ok (.invokestatic 385, 3) := by decide +kernel
theorem dX12_worked_98 : decode cX12_worked 98 = .ok (.ireturn, 1) := by decide +kernel
theorem dX12_worked_99 : decode cX12_worked 99 = .ok (.aload_n 0, 1) := by decide +kernel
theorem dX12_worked_100 : decode cX12_worked 100 = .ok (.getfield 168, 3) := by decide +kernel
theorem dX12_worked_103 : decode cX12_worked 103 = .ok (.iload_n 2, 1) := by decide +kernel
theorem dX12_worked_104 : decode cX12_worked 104 = .ok (.bipush 15, 2) := by decide +kernel
theorem dX12_worked_106 : decode cX12_worked 106 = .ok (.iand, 1) := by decide +kernel
theorem dX12_worked_107 : decode cX12_worked 107 = .ok (.iaload, 1) := by decide +kernel
theorem dX12_worked_108 : decode cX12_worked 108 = .ok (.ireturn, 1) := by decide +kernel
theorem dX12_worked_109 : decode cX12_worked 109 = .ok (.iload_n 2, 1) := by decide +kernel
theorem dX12_worked_110 : decode cX12_worked 110 = .ok (.iload_n 3, 1) := by decide +kernel
theorem dX12_worked_111 : decode cX12_worked 111 = .ok (.if_icmp .ge 7, 3) := by decide +kernel
theorem dX12_worked_114 : decode cX12_worked 114 = .ok (.iconst 1, 1) := by decide +kernel
theorem dX12_worked_115 : decode cX12_worked 115 = .ok (.goto 4, 3) := by decide +kernel
theorem dX12_worked_118 : decode cX12_worked 118 = .ok (.iconst 0, 1) := by decide +kernel
theorem dX12_worked_119 : decode cX12_worked 119 = .ok (.ireturn, 1) := by decide +kernel
theorem dX12_worked_120 : decode cX12_worked 120 = .ok (.iload_n 2, 1) := by decide +kernel
theorem dX12_worked_121 : decode cX12_worked 121 = .ok (.iload_n 3, 1) := by decide +kernel
theorem dX12_worked_122 : decode cX12_worked 122 = .ok (.if_icmp .ne 7, 3) := by decide +kernel
theorem dX12_worked_125 : decode cX12_worked 125 = .ok (.iconst 1, 1) := by decide +kernel
theorem dX12_worked_126 : decode cX12_worked 126 = .ok (.goto 4, 3) := by decide +kernel
theorem dX12_worked_129 : decode cX12_worked 129 = .ok (.iconst 0, 1) := by decide +kernel
theorem dX12_worked_130 : decode cX12_worked 130 = .ok (.ireturn, 1) := by decide +kernel
theorem dX12_worked_131 : decode cX12_worked 131 = .ok (.iconst 1, 1) := by decide +kernel
theorem dX12_worked_132 : decode cX12_worked 132 = .ok (.iload_n 2, 1) := by decide +kernel
theorem dX12_worked_133 : decode cX12_worked 133 = .ok (.isub, 1) := by decide +kernel
theorem dX12_worked_134 : decode cX12_worked 134 = .ok (.ireturn, 1) := by decide +kernel
theorem dX12_worked_135 : decode cX12_worked 135 = .ok (.iload_n 2, 1) := by decide +kernel
theorem dX12_worked_136 : decode cX12_worked 136 = .ok (.iconst 1, 1) := by decide +kernel
theorem dX12_worked_137 : decode cX12_worked 137 = .ok (.if_icmp .ne 7, 3) := by decide +kernel
theorem dX12_worked_140 : decode cX12_worked 140 = .ok (.iload_n 3, 1) := by decide +kernel
theorem dX12_worked_141 : decode cX12_worked 141 = .ok (.goto 5, 3) := by decide +kernel
theorem dX12_worked_144 : decode cX12_worked 144 = .ok (.iload 4, 2) := by decide +kernel
theorem dX12_worked_146 : decode cX12_worked 146 = .ok (.ireturn, 1) := by decide +kernel
theorem dX12_numberOf_0 : decode cX12_numberOf 0 = .ok (.aload_n 0, 1) := by decide +kernel
theorem dX12_numberOf_1 : decode cX12_numberOf 1 = .ok (.iload_n 1, 1) := by decide +kernel
theorem dX12_numberOf_2 : decode cX12_numberOf 2 = .ok (.iload_n 2, 1) := by decide +kernel
theorem dX12_numberOf_3 : decode cX12_numberOf 3 = .ok (.invokevirtual 388, 3) := by decide +kernel
theorem dX12_numberOf_6 : decode cX12_numberOf 6 = .ok (.ifCond .ge 7, 3) := by decide +kernel
theorem dX12_numberOf_9 : decode cX12_numberOf 9 = .ok (.iconst 0, 1) := by decide +kernel
theorem dX12_numberOf_10 : decode cX12_numberOf 10 = .ok (.goto 14, 3) := by decide +kernel
theorem dX12_numberOf_13 : decode cX12_numberOf 13 = .ok (.aload_n 0, 1) := by decide +kernel
theorem dX12_numberOf_14 : decode cX12_numberOf 14 = .ok (.getfield 184, 3) := by decide +kernel
theorem dX12_numberOf_17 : decode cX12_numberOf 17 = .ok (.aload_n 0, 1) := by decide +kernel
theorem dX12_numberOf_18 : decode cX12_numberOf 18 = .ok (.iload_n 1, 1) := by decide +kernel
theorem dX12_numberOf_19 : decode cX12_numberOf 19 = .ok (.iload_n 2, 1) := by decide +kernel
theorem dX12_numberOf_20 : decode cX12_numberOf 20 = .ok (.invokevirtual 388, 3) := by decide +kernel
theorem dX12_numberOf_23 : decode cX12_numberOf 23 = .ok (.iaload, 1) := by decide +kernel
theorem dX12_numberOf_24 : decode cX12_numberOf 24 = .ok (.ireturn, 1) := by decide +kernel
theorem dX12_numbersIn_0 : decode cX12_numbersIn 0 = .ok (.iconst 0, 1) := by decide +kernel
theorem dX12_numbersIn_1 : decode cX12_numbersIn 1 = .ok (.istore_n 2, 1) := by decide +kernel
theorem dX12_numbersIn_2 : decode cX12_numbersIn 2 = .ok (.iload_n 2, 1) := by decide +kernel
theorem dX12_numbersIn_3 : decode cX12_numbersIn 3 = .ok (.aload_n 0, 1) := by decide +kernel
theorem dX12_numbersIn_4 : decode cX12_numbersIn 4 = .ok (.invokevirtual 352, 3) := by decide +kernel
theorem dX12_numbersIn_7 : decode cX12_numbersIn 7 = .ok (.if_icmp .ge 86, 3) := by decide +kernel
theorem dX12_numbersIn_10 : decode cX12_numbersIn 10 = .ok (.aload_n 0, 1) := by decide +kernel
theorem dX12_numbersIn_11 : decode cX12_numbersIn 11 = .ok (.iload_n 2, 1) := by decide +kernel
theorem dX12_numbersIn_12 : decode cX12_numbersIn 12 = .ok (.invokevirtual 391, 3) := by decide +kernel
theorem dX12_numbersIn_15 : decode cX12_numbersIn 15 = .ok (.istore_n 3, 1) := by decide +kernel
theorem dX12_numbersIn_16 : decode cX12_numbersIn 16 = .ok (.iload_n 3, 1) := by decide +kernel
theorem dX12_numbersIn_17 : decode cX12_numbersIn 17 = .ok (.iconst 2, 1) := by decide +kernel
theorem dX12_numbersIn_18 : decode cX12_numbersIn 18 = .ok (.if_icmp .ge 40, 3) := by decide +kernel
theorem dX12_numbersIn_21 : decode cX12_numbersIn 21 = .ok (.aload_n 0, 1) := by decide +kernel
theorem dX12_numbersIn_22 : decode cX12_numbersIn 22 = .ok (.getfield 184, 3) := by decide +kernel
theorem dX12_numbersIn_25 : decode cX12_numbersIn 25 = .ok (.iload_n 2, 1) := by decide +kernel
theorem dX12_numbersIn_26 : decode cX12_numbersIn 26 = .ok (.iload_n 3, 1) := by decide +kernel
theorem dX12_numbersIn_27 : decode cX12_numbersIn 27 = .ok (.ifCond .ne 21, 3) := by decide +kernel
theorem dX12_numbersIn_30 : decode cX12_numbersIn 30 = .ok (.aload_n 0, 1) := by decide +kernel
theorem dX12_numbersIn_31 : decode cX12_numbersIn 31 = .ok (.getfield 165, 3) := by decide +kernel
theorem dX12_numbersIn_34 : decode cX12_numbersIn 34 = .ok (.iconst 4, 1) := by decide +kernel
theorem dX12_numbersIn_35 : decode cX12_numbersIn 35 = .ok (.aload_n 0, 1) := by decide +kernel
theorem dX12_numbersIn_36 : decode cX12_numbersIn 36 = .ok (.iload_n 2, 1) := by decide +kernel
theorem dX12_numbersIn_37 : decode cX12_numbersIn 37 = .ok (.iconst 0, 1) := by decide +kernel
theorem dX12_numbersIn_38 : decode cX12_numbersIn 38 = .ok (.invokevirtual 388, 3) := by decide +kernel
theorem dX12_numbersIn_41 : decode cX12_numbersIn 41 = .ok (.imul, 1) := by decide +kernel
theorem dX12_numbersIn_42 : decode cX12_numbersIn 42 = .ok (.iload_n 1, 1) := by decide +kernel
theorem dX12_numbersIn_43 : decode cX12_numbersIn 43 = .ok (.iadd, 1) := by decide +kernel
theorem dX12_numbersIn_44 : decode cX12_numbersIn 44 = .ok (.iaload, 1) := by decide +kernel
theorem dX12_numbersIn_45 : decode cX12_numbersIn 45 = .ok (.goto 9, 3) := by decide +kernel
theorem dX12_numbersIn_48 : decode cX12_numbersIn 48 = .ok (.aload_n 0, 1) := by decide +kernel
theorem dX12_numbersIn_49 : decode cX12_numbersIn 49 = .ok (.iload_n 2, 1) := by decide +kernel
theorem dX12_numbersIn_50 : decode cX12_numbersIn 50 = .ok (.iconst 0, 1) := by decide +kernel
theorem dX12_numbersIn_51 : decode cX12_numbersIn 51 = .ok (.invokevirtual 388, 3) := by decide +kernel
theorem dX12_numbersIn_54 : decode cX12_numbersIn 54 = .ok (.iastore, 1) := by decide +kernel
theorem dX12_numbersIn_55 : decode cX12_numbersIn 55 = .ok (.goto 32, 3) := by decide +kernel
theorem dX12_numbersIn_58 : decode cX12_numbersIn 58 = .ok (.aload_n 0, 1) := by decide +kernel
theorem dX12_numbersIn_59 : decode cX12_numbersIn 59 = .ok (.getfield 184, 3) := by decide +kernel
theorem dX12_numbersIn_62 : decode cX12_numbersIn 62 = .ok (.iload_n 2, 1) := by decide +kernel
theorem dX12_numbersIn_63 : decode cX12_numbersIn 63 = .ok (.aload_n 0, 1) := by decide +kernel
theorem dX12_numbersIn_64 : decode cX12_numbersIn 64 = .ok (.iload_n 3, 1) := by decide +kernel
theorem dX12_numbersIn_65 : decode cX12_numbersIn 65 = .ok (.aload_n 0, 1) := by decide +kernel
theorem dX12_numbersIn_66 : decode cX12_numbersIn 66 = .ok (.iload_n 2, 1) := by decide +kernel
theorem dX12_numbersIn_67 : decode cX12_numbersIn 67 = .ok (.iconst 0, 1) := by decide +kernel
theorem dX12_numbersIn_68 : decode cX12_numbersIn 68 = .ok (.invokevirtual 394, 3) := by decide +kernel
theorem dX12_numbersIn_71 : decode cX12_numbersIn 71 = .ok (.aload_n 0, 1) := by decide +kernel
theorem dX12_numbersIn_72 : decode cX12_numbersIn 72 = .ok (.iload_n 2, 1) := by decide +kernel
theorem dX12_numbersIn_73 : decode cX12_numbersIn 73 = .ok (.iconst 1, 1) := by decide +kernel
theorem dX12_numbersIn_74 : decode cX12_numbersIn 74 = .ok (.invokevirtual 394, 3) := by decide +kernel
theorem dX12_numbersIn_77 : decode cX12_numbersIn 77 = .ok (.aload_n 0, 1) := by decide +kernel
theorem dX12_numbersIn_78 : decode cX12_numbersIn 78 = .ok (.iload_n 2, 1) := by decide +kernel
theorem dX12_numbersIn_79 : decode cX12_numbersIn 79 = .ok (.iconst 2, 1) := by decide +kernel
theorem dX12_numbersIn_80 : decode cX12_numbersIn 80 = .ok (.invokevirtual 394, 3) := by decide +kernel
theorem dX12_numbersIn_83 : decode cX12_numbersIn 83 = .ok (.invokevirtual 397, 3) := by decide +kernel
theorem dX12_numbersIn_86 : decode cX12_numbersIn 86 = .ok (.iastore, 1) := by decide +kernel
theorem dX12_numbersIn_87 : decode cX12_numbersIn 87 = .ok (.iinc 2 1, 3) := by decide +kernel
theorem dX12_numbersIn_90 : decode cX12_numbersIn 90 = .ok (.goto (-88), 3) := by decide +kernel
theorem dX12_numbersIn_93 : decode cX12_numbersIn 93 = .ok (.return_, 1) := by decide +kernel
theorem dX12_rangeIs_0 : decode cX12_rangeIs 0 = .ok (.aload_n 0, 1) := by decide +kernel
theorem dX12_rangeIs_1 : decode cX12_rangeIs 1 = .ok (.getfield 171, 3) := by decide +kernel
theorem dX12_rangeIs_4 : decode cX12_rangeIs 4 = .ok (.iload_n 1, 1) := by decide +kernel
theorem dX12_rangeIs_5 : decode cX12_rangeIs 5 = .ok (.iload_n 2, 1) := by decide +kernel
theorem dX12_rangeIs_6 : decode cX12_rangeIs 6 = .ok (.iastore, 1) := by decide +kernel
theorem dX12_rangeIs_7 : decode cX12_rangeIs 7 = .ok (.aload_n 0, 1) := by decide +kernel
theorem dX12_rangeIs_8 : decode cX12_rangeIs 8 = .ok (.getfield 174, 3) := by decide +kernel
theorem dX12_rangeIs_11 : decode cX12_rangeIs 11 = .ok (.iload_n 1, 1) := by decide +kernel
theorem dX12_rangeIs_12 : decode cX12_rangeIs 12 = .ok (.iload_n 3, 1) := by decide +kernel
theorem dX12_rangeIs_13 : decode cX12_rangeIs 13 = .ok (.iastore, 1) := by decide +kernel
theorem dX12_rangeIs_14 : decode cX12_rangeIs 14 = .ok (.return_, 1) := by decide +kernel
theorem dX12_lowOf_0 : decode cX12_lowOf 0 = .ok (.aload_n 0, 1) := by decide +kernel
theorem dX12_lowOf_1 : decode cX12_lowOf 1 = .ok (.iload_n 1, 1) := by decide +kernel
theorem dX12_lowOf_2 : decode cX12_lowOf 2 = .ok (.iload_n 2, 1) := by decide +kernel
theorem dX12_lowOf_3 : decode cX12_lowOf 3 = .ok (.invokevirtual 388, 3) := by decide +kernel
theorem dX12_lowOf_6 : decode cX12_lowOf 6 = .ok (.ifCond .ge 7, 3) := by decide +kernel
theorem dX12_lowOf_9 : decode cX12_lowOf 9 = .ok (.iconst 0, 1) := by decide +kernel
theorem dX12_lowOf_10 : decode cX12_lowOf 10 = .ok (.goto 14, 3) := by decide +kernel
theorem dX12_lowOf_13 : decode cX12_lowOf 13 = .ok (.aload_n 0, 1) := by decide +kernel
theorem dX12_lowOf_14 : decode cX12_lowOf 14 = .ok (.getfield 171, 3) := by decide +kernel
theorem dX12_lowOf_17 : decode cX12_lowOf 17 = .ok (.aload_n 0, 1) := by decide +kernel
theorem dX12_lowOf_18 : decode cX12_lowOf 18 = .ok (.iload_n 1, 1) := by decide +kernel
theorem dX12_lowOf_19 : decode cX12_lowOf 19 = .ok (.iload_n 2, 1) := by decide +kernel
theorem dX12_lowOf_20 : decode cX12_lowOf 20 = .ok (.invokevirtual 388, 3) := by decide +kernel
theorem dX12_lowOf_23 : decode cX12_lowOf 23 = .ok (.iaload, 1) := by decide +kernel
theorem dX12_lowOf_24 : decode cX12_lowOf 24 = .ok (.ireturn, 1) := by decide +kernel
theorem dX12_highOf_0 : decode cX12_highOf 0 = .ok (.aload_n 0, 1) := by decide +kernel
theorem dX12_highOf_1 : decode cX12_highOf 1 = .ok (.iload_n 1, 1) := by decide +kernel
theorem dX12_highOf_2 : decode cX12_highOf 2 = .ok (.iload_n 2, 1) := by decide +kernel
theorem dX12_highOf_3 : decode cX12_highOf 3 = .ok (.invokevirtual 388, 3) := by decide +kernel
theorem dX12_highOf_6 : decode cX12_highOf 6 = .ok (.ifCond .ge 7, 3) := by decide +kernel
theorem dX12_highOf_9 : decode cX12_highOf 9 = .ok (.iconst 0, 1) := by decide +kernel
theorem dX12_highOf_10 : decode cX12_highOf 10 = .ok (.goto 14, 3) := by decide +kernel
theorem dX12_highOf_13 : decode cX12_highOf 13 = .ok (.aload_n 0, 1) := by decide +kernel
theorem dX12_highOf_14 : decode cX12_highOf 14 = .ok (.getfield 174, 3) := by decide +kernel
theorem dX12_highOf_17 : decode cX12_highOf 17 = .ok (.aload_n 0, 1) := by decide +kernel
theorem dX12_highOf_18 : decode cX12_highOf 18 = .ok (.iload_n 1, 1) := by decide +kernel
theorem dX12_highOf_19 : decode cX12_highOf 19 = .ok (.iload_n 2, 1) := by decide +kernel
theorem dX12_highOf_20 : decode cX12_highOf 20 = .ok (.invokevirtual 388, 3) := by decide +kernel
theorem dX12_highOf_23 : decode cX12_highOf 23 = .ok (.iaload, 1) := by decide +kernel
theorem dX12_highOf_24 : decode cX12_highOf 24 = .ok (.ireturn, 1) := by decide +kernel
theorem dX12_timesRange_0 : decode cX12_timesRange 0 = .ok (.ldc_w 377, 3) := by decide +kernel
theorem dX12_timesRange_3 : decode cX12_timesRange 3 = .ok (.istore_n 2, 1) := by decide +kernel
theorem dX12_timesRange_4 : decode cX12_timesRange 4 = .ok (.ldc_w 374, 3) := by decide +kernel
theorem dX12_timesRange_7 : decode cX12_timesRange 7 = .ok (.istore_n 3, 1) := by decide +kernel
theorem dX12_timesRange_8 : decode cX12_timesRange 8 = .ok (.iconst 0, 1) := by decide +kernel
theorem dX12_timesRange_9 : decode cX12_timesRange 9 = .ok (.istore 4, 2) := by decide +kernel
theorem dX12_timesRange_11 : decode cX12_timesRange 11 = .ok (.iload 4, 2) := by decide +kernel
theorem dX12_timesRange_13 : decode cX12_timesRange 13 = .ok (.iconst 4, 1) := by decide +kernel
theorem dX12_timesRange_14 : decode cX12_timesRange 14 = .ok (.if_icmp .ge 82, 3) := by decide +kernel
theorem dX12_timesRange_17 : decode cX12_timesRange 17 = .ok (.iload 4, 2) := by decide +kernel
theorem dX12_timesRange_19 : decode cX12_timesRange 19 = .ok (.iconst 2, 1) := by decide +kernel
theorem dX12_timesRange_20 : decode cX12_timesRange 20 = .ok (.if_icmp .ge 12, 3) := by decide +kernel
theorem dX12_timesRange_23 : decode cX12_timesRange 23 = .ok (.aload_n 0, 1) := by decide +kernel
theorem dX12_timesRange_24 : decode cX12_timesRange 24 = .ok (.iload_n 1, 1) := by decide +kernel
theorem dX12_timesRange_25 : decode cX12_timesRange 25 = .ok (.iconst 0, 1) := by decide +kernel
theorem dX12_timesRange_26 : decode cX12_timesRange 26 = .ok (.invokevirtual 401, 3) := by decide +kernel
theorem dX12_timesRange_29 : decode cX12_timesRange 29 = .ok (.goto 9, 3) := by decide +kernel
theorem dX12_timesRange_32 : decode cX12_timesRange 32 = .ok (.aload_n 0, 1) := by decide +kernel
theorem dX12_timesRange_33 : decode cX12_timesRange 33 = .ok (.iload_n 1, 1) := by decide +kernel
theorem dX12_timesRange_34 : decode cX12_timesRange 34 = .ok (.iconst 0, 1) := by decide +kernel
theorem dX12_timesRange_35 : decode cX12_timesRange 35 = .ok (.invokevirtual 404, 3) := by decide +kernel
theorem dX12_timesRange_38 : decode cX12_timesRange 38 = .ok (.istore 5, 2) := by decide +kernel
theorem dX12_timesRange_40 : decode cX12_timesRange 40 = .ok (.iload 4, 2) := by decide +kernel
theorem dX12_timesRange_42 : decode cX12_timesRange 42 = .ok (.iconst 2, 1) := by decide +kernel
theorem dX12_timesRange_43 : decode cX12_timesRange 43 = .ok (.irem, 1) := by decide +kernel
theorem dX12_timesRange_44 : decode cX12_timesRange 44 = .ok (.ifCond .ne 12, 3) := by decide +kernel
theorem dX12_timesRange_47 : decode cX12_timesRange 47 = .ok (.aload_n 0, 1) := by decide +kernel
theorem dX12_timesRange_48 : decode cX12_timesRange 48 = .ok (.iload_n 1, 1) := by decide +kernel
theorem dX12_timesRange_49 : decode cX12_timesRange 49 = .ok (.iconst 1, 1) := by decide +kernel
theorem dX12_timesRange_50 : decode cX12_timesRange 50 = .ok (.invokevirtual 401, 3) := by decide +kernel
theorem dX12_timesRange_53 : decode cX12_timesRange 53 = .ok (.goto 9, 3) := by decide +kernel
theorem dX12_timesRange_56 : decode cX12_timesRange 56 = .ok (.aload_n 0, 1) := by decide +kernel
theorem dX12_timesRange_57 : decode cX12_timesRange 57 = .ok (.iload_n 1, 1) := by decide +kernel
theorem dX12_timesRange_58 : decode cX12_timesRange 58 = .ok (.iconst 1, 1) := by decide +kernel
theorem dX12_timesRange_59 : decode cX12_timesRange 59 = .ok (.invokevirtual 404, 3) := by decide +kernel
theorem dX12_timesRange_62 : decode cX12_timesRange 62 = .ok (.istore 6, 2) := by decide +kernel
theorem dX12_timesRange_64 : decode cX12_timesRange 64 = .ok (.iload 5, 2) := by decide +kernel
theorem dX12_timesRange_66 : decode cX12_timesRange 66 = .ok (.i2l, 1) := by decide +kernel
theorem dX12_timesRange_67 : decode cX12_timesRange 67 = .ok (.iload 6, 2) := by decide +kernel
theorem dX12_timesRange_69 : decode cX12_timesRange 69 = .ok (.i2l, 1) := by decide +kernel
theorem dX12_timesRange_70 : decode cX12_timesRange 70 = .ok (.lmul, 1) := by decide +kernel
theorem dX12_timesRange_71 : decode cX12_timesRange 71 = .ok (.invokestatic 378, 3) := by decide +kernel
theorem dX12_timesRange_74 : decode cX12_timesRange 74 = .ok (.istore 7, 2) := by decide +kernel
theorem dX12_timesRange_76 : decode cX12_timesRange 76 = .ok (.iload_n 2, 1) := by decide +kernel
theorem dX12_timesRange_77 : decode cX12_timesRange 77 = .ok (.iload 7, 2) := by decide +kernel
theorem dX12_timesRange_79 : decode cX12_timesRange 79 = .ok (.invokestatic 382, 3) := by decide +kernel
theorem dX12_timesRange_82 : decode cX12_timesRange 82 = .ok (.istore_n 2, 1) := by decide +kernel
theorem dX12_timesRange_83 : decode cX12_timesRange 83 = .ok (.iload_n 3, 1) := by decide +kernel
theorem dX12_timesRange_84 : decode cX12_timesRange 84 = .ok (.iload 7, 2) := by decide +kernel
theorem dX12_timesRange_86 : decode cX12_timesRange 86 = .ok (.invokestatic 385, 3) := by decide +kernel
theorem dX12_timesRange_89 : decode cX12_timesRange 89 = .ok (.istore_n 3, 1) := by decide +kernel
theorem dX12_timesRange_90 : decode cX12_timesRange 90 = .ok (.iinc 4 1, 3) := by decide +kernel
theorem dX12_timesRange_93 : decode cX12_timesRange 93 = .ok (.goto (-82), 3) := by decide +kernel
theorem dX12_timesRange_96 : decode cX12_timesRange 96 = .ok (.aload_n 0, 1) := by decide +kernel
theorem dX12_timesRange_97 : decode cX12_timesRange 97 = .ok (.iload_n 1, 1) := by decide +kernel
theorem dX12_timesRange_98 : decode cX12_timesRange 98 = .ok (.iload_n 2, 1) := by decide +kernel
theorem dX12_timesRange_99 : decode cX12_timesRange 99 = .ok (.iload_n 3, 1) := by decide +kernel
theorem dX12_timesRange_100 : decode cX12_timesRange 100 = .ok (.invokevirtual 407, 3) := by decide +kernel
theorem dX12_timesRange_103 : decode cX12_timesRange 103 = .ok (.return_, 1) := by decide +kernel
theorem dX12_pickRange_0 : decode cX12_pickRange 0 = .ok (.aload_n 0, 1) := by decide +kernel
theorem dX12_pickRange_1 : decode cX12_pickRange 1 = .ok (.iload_n 1, 1) := by decide +kernel
theorem dX12_pickRange_2 : decode cX12_pickRange 2 = .ok (.iconst 0, 1) := by decide +kernel
theorem dX12_pickRange_3 : decode cX12_pickRange 3 = .ok (.invokevirtual 404, 3) := by decide +kernel
theorem dX12_pickRange_6 : decode cX12_pickRange 6 = .ok (.iconst 1, 1) := by decide +kernel
theorem dX12_pickRange_7 : decode cX12_pickRange 7 = .ok (.if_icmp .ne 7, 3) := by decide +kernel
theorem dX12_pickRange_10 : decode cX12_pickRange 10 = .ok (.iconst 1, 1) := by decide +kernel
theorem dX12_pickRange_11 : decode cX12_pickRange 11 = .ok (.goto 4, 3) := by decide +kernel
theorem dX12_pickRange_14 : decode cX12_pickRange 14 = .ok (.iconst 0, 1) := by decide +kernel
theorem dX12_pickRange_15 : decode cX12_pickRange 15 = .ok (.istore_n 2, 1) := by decide +kernel
theorem dX12_pickRange_16 : decode cX12_pickRange 16 = .ok (.aload_n 0, 1) := by decide +kernel
theorem dX12_pickRange_17 : decode cX12_pickRange 17 = .ok (.iload_n 1, 1) := by decide +kernel
theorem dX12_pickRange_18 : decode cX12_pickRange 18 = .ok (.iconst 0, 1) := by decide +kernel
theorem dX12_pickRange_19 : decode cX12_pickRange 19 = .ok (.invokevirtual 401, 3) := by decide +kernel
theorem dX12_pickRange_22 : decode cX12_pickRange 22 = .ok (.ifCond .ne 7, 3) := by decide +kernel
theorem dX12_pickRange_25 : decode cX12_pickRange 25 = .ok (.iconst 1, 1) := by decide +kernel
theorem dX12_pickRange_26 : decode cX12_pickRange 26 = .ok (.goto 4, 3) := by decide +kernel
theorem dX12_pickRange_29 : decode cX12_pickRange 29 = .ok (.iconst 0, 1) := by decide +kernel
theorem dX12_pickRange_30 : decode cX12_pickRange 30 = .ok (.istore_n 3, 1) := by decide +kernel
theorem dX12_pickRange_31 : decode cX12_pickRange 31 = .ok (.iload_n 2, 1) := by decide +kernel
theorem dX12_pickRange_32 : decode cX12_pickRange 32 = .ok (.ifCond .eq 25, 3) := by decide +kernel
theorem dX12_pickRange_35 : decode cX12_pickRange 35 = .ok (.iload_n 3, 1) := by decide +kernel
theorem dX12_pickRange_36 : decode cX12_pickRange 36 = .ok (.ifCond .eq 21, 3) := by decide +kernel
theorem dX12_pickRange_39 : decode cX12_pickRange 39 = .ok (.aload_n 0, 1) := by decide +kernel
theorem dX12_pickRange_40 : decode cX12_pickRange 40 = .ok (.iload_n 1, 1) := by decide +kernel
theorem dX12_pickRange_41 : decode cX12_pickRange 41 = .ok (.iconst 1, 1) := by decide +kernel
theorem dX12_pickRange_42 : decode cX12_pickRange 42 = .ok (.invokevirtual 401, 3) := by decide +kernel
theorem dX12_pickRange_45 : decode cX12_pickRange 45 = .ok (.aload_n 0, 1) := by decide +kernel
theorem dX12_pickRange_46 : decode cX12_pickRange 46 = .ok (.iload_n 1, 1) := by decide +kernel
theorem dX12_pickRange_47 : decode cX12_pickRange 47 = .ok (.iconst 2, 1) := by decide +kernel
theorem dX12_pickRange_48 : decode cX12_pickRange 48 = .ok (.invokevirtual 401, 3) := by decide +kernel
theorem dX12_pickRange_51 : decode cX12_pickRange 51 = .ok (.invokestatic 382, 3) := by decide +kernel
theorem dX12_pickRange_54 : decode cX12_pickRange 54 = .ok (.goto 22, 3) := by decide +kernel
theorem dX12_pickRange_57 : decode cX12_pickRange 57 = .ok (.iload_n 2, 1) := by decide +kernel
theorem dX12_pickRange_58 : decode cX12_pickRange 58 = .ok (.ifCond .eq 12, 3) := by decide +kernel
theorem dX12_pickRange_61 : decode cX12_pickRange 61 = .ok (.aload_n 0, 1) := by decide +kernel
theorem dX12_pickRange_62 : decode cX12_pickRange 62 = .ok (.iload_n 1, 1) := by decide +kernel
theorem dX12_pickRange_63 : decode cX12_pickRange 63 = .ok (.iconst 1, 1) := by decide +kernel
theorem dX12_pickRange_64 : decode cX12_pickRange 64 = .ok (.invokevirtual 401, 3) := by decide +kernel
theorem dX12_pickRange_67 : decode cX12_pickRange 67 = .ok (.goto 9, 3) := by decide +kernel
theorem dX12_pickRange_70 : decode cX12_pickRange 70 = .ok (.aload_n 0, 1) := by decide +kernel
theorem dX12_pickRange_71 : decode cX12_pickRange 71 = .ok (.iload_n 1, 1) := by decide +kernel
theorem dX12_pickRange_72 : decode cX12_pickRange 72 = .ok (.iconst 2, 1) := by decide +kernel
theorem dX12_pickRange_73 : decode cX12_pickRange 73 = .ok (.invokevirtual 401, 3) := by decide +kernel
theorem dX12_pickRange_76 : decode cX12_pickRange 76 = .ok (.istore 4, 2) := by decide +kernel
theorem dX12_pickRange_78 : decode cX12_pickRange 78 = .ok (.iload_n 2, 1) := by decide +kernel
theorem dX12_pickRange_79 : decode cX12_pickRange 79 = .ok (.ifCond .eq 25, 3) := by decide +kernel
theorem dX12_pickRange_82 : decode cX12_pickRange 82 = .ok (.iload_n 3, 1) := by decide +kernel
theorem dX12_pickRange_83 : decode cX12_pickRange 83 = .ok (.ifCond .eq 21, 3) := by decide +kernel
theorem dX12_pickRange_86 : decode cX12_pickRange 86 = .ok (.aload_n 0, 1) := by decide +kernel
theorem dX12_pickRange_87 : decode cX12_pickRange 87 = .ok (.iload_n 1, 1) := by decide +kernel
theorem dX12_pickRange_88 : decode cX12_pickRange 88 = .ok (.iconst 1, 1) := by decide +kernel
theorem dX12_pickRange_89 : decode cX12_pickRange 89 = .ok (.invokevirtual 404, 3) := by decide +kernel
theorem dX12_pickRange_92 : decode cX12_pickRange 92 = .ok (.aload_n 0, 1) := by decide +kernel
theorem dX12_pickRange_93 : decode cX12_pickRange 93 = .ok (.iload_n 1, 1) := by decide +kernel
theorem dX12_pickRange_94 : decode cX12_pickRange 94 = .ok (.iconst 2, 1) := by decide +kernel
theorem dX12_pickRange_95 : decode cX12_pickRange 95 = .ok (.invokevirtual 404, 3) := by decide +kernel
theorem dX12_pickRange_98 : decode cX12_pickRange 98 = .ok (.invokestatic 385, 3) := by decide +kernel
theorem dX12_pickRange_101 : decode cX12_pickRange 101 = .ok (.goto 22, 3) := by decide +kernel
theorem dX12_pickRange_104 : decode cX12_pickRange 104 = .ok (.iload_n 2, 1) := by decide +kernel
theorem dX12_pickRange_105 : decode cX12_pickRange 105 = .ok (.ifCond .eq 12, 3) := by decide +kernel
theorem dX12_pickRange_108 : decode cX12_pickRange 108 = .ok (.aload_n 0, 1) := by decide +kernel
theorem dX12_pickRange_109 : decode cX12_pickRange 109 = .ok (.iload_n 1, 1) := by decide +kernel
theorem dX12_pickRange_110 : decode cX12_pickRange 110 = .ok (.iconst 1, 1) := by decide +kernel
theorem dX12_pickRange_111 : decode cX12_pickRange 111 = .ok (.invokevirtual 404, 3) := by decide +kernel
theorem dX12_pickRange_114 : decode cX12_pickRange 114 = .ok (.goto 9, 3) := by decide +kernel
theorem dX12_pickRange_117 : decode cX12_pickRange 117 = .ok (.aload_n 0, 1) := by decide +kernel
theorem dX12_pickRange_118 : decode cX12_pickRange 118 = .ok (.iload_n 1, 1) := by decide +kernel
theorem dX12_pickRange_119 : decode cX12_pickRange 119 = .ok (.iconst 2, 1) := by decide +kernel
theorem dX12_pickRange_120 : decode cX12_pickRange 120 = .ok (.invokevirtual 404, 3) := by decide +kernel
theorem dX12_pickRange_123 : decode cX12_pickRange 123 = .ok (.istore 5, 2) := by decide +kernel
theorem dX12_pickRange_125 : decode cX12_pickRange 125 = .ok (.aload_n 0, 1) := by decide +kernel
theorem dX12_pickRange_126 : decode cX12_pickRange 126 = .ok (.iload_n 1, 1) := by decide +kernel
theorem dX12_pickRange_127 : decode cX12_pickRange 127 = .ok (.iload 4, 2) := by decide +kernel
theorem dX12_pickRange_129 : decode cX12_pickRange 129 = .ok (.iload 5, 2) := by decide +kernel
theorem dX12_pickRange_131 : decode cX12_pickRange 131 = .ok (.invokevirtual 407, 3) := by decide +kernel
theorem dX12_pickRange_134 : decode cX12_pickRange 134 = .ok (.return_, 1) := by decide +kernel
theorem dX12_rangeOf_0 : decode cX12_rangeOf 0 = .ok (.aload_n 0, 1) := by decide +kernel
theorem dX12_rangeOf_1 : decode cX12_rangeOf 1 = .ok (.iload_n 1, 1) := by decide +kernel
theorem dX12_rangeOf_2 : decode cX12_rangeOf 2 = .ok (.iconst 0, 1) := by decide +kernel
theorem dX12_rangeOf_3 : decode cX12_rangeOf 3 = .ok (.invokevirtual 401, 3) := by decide +kernel
theorem dX12_rangeOf_6 : decode cX12_rangeOf 6 = .ok (.istore_n 2, 1) := by decide +kernel
theorem dX12_rangeOf_7 : decode cX12_rangeOf 7 = .ok (.aload_n 0, 1) := by decide +kernel
theorem dX12_rangeOf_8 : decode cX12_rangeOf 8 = .ok (.iload_n 1, 1) := by decide +kernel
theorem dX12_rangeOf_9 : decode cX12_rangeOf 9 = .ok (.iconst 1, 1) := by decide +kernel
theorem dX12_rangeOf_10 : decode cX12_rangeOf 10 = .ok (.invokevirtual 401, 3) := by decide +kernel
theorem dX12_rangeOf_13 : decode cX12_rangeOf 13 = .ok (.istore_n 3, 1) := by decide +kernel
theorem dX12_rangeOf_14 : decode cX12_rangeOf 14 = .ok (.aload_n 0, 1) := by decide +kernel
theorem dX12_rangeOf_15 : decode cX12_rangeOf 15 = .ok (.iload_n 1, 1) := by decide +kernel
theorem dX12_rangeOf_16 : decode cX12_rangeOf 16 = .ok (.iconst 0, 1) := by decide +kernel
theorem dX12_rangeOf_17 : decode cX12_rangeOf 17 = .ok (.invokevirtual 404, 3) := by decide +kernel
theorem dX12_rangeOf_20 : decode cX12_rangeOf 20 = .ok (.istore 4, 2) := by decide +kernel
theorem dX12_rangeOf_22 : decode cX12_rangeOf 22 = .ok (.aload_n 0, 1) := by decide +kernel
theorem dX12_rangeOf_23 : decode cX12_rangeOf 23 = .ok (.iload_n 1, 1) := by decide +kernel
theorem dX12_rangeOf_24 : decode cX12_rangeOf 24 = .ok (.iconst 1, 1) := by decide +kernel
theorem dX12_rangeOf_25 : decode cX12_rangeOf 25 = .ok (.invokevirtual 404, 3) := by decide +kernel
theorem dX12_rangeOf_28 : decode cX12_rangeOf 28 = .ok (.istore 5, 2) := by decide +kernel
theorem dX12_rangeOf_30 : decode cX12_rangeOf 30 = .ok (.iload_n 2, 1) := by decide +kernel
theorem dX12_rangeOf_31 : decode cX12_rangeOf 31 = .ok (.iload 4, 2) := by decide +kernel
theorem dX12_rangeOf_33 : decode cX12_rangeOf 33 = .ok (.if_icmp .ne 18, 3) := by decide +kernel
theorem dX12_rangeOf_36 : decode cX12_rangeOf 36 = .ok (.iload_n 3, 1) := by decide +kernel
theorem dX12_rangeOf_37 : decode cX12_rangeOf 37 = .ok (.iload 5, 2) := by decide +kernel
theorem dX12_rangeOf_39 : decode cX12_rangeOf 39 = .ok (.if_icmp .ne 12, 3) := by decide +kernel
theorem dX12_rangeOf_42 : decode cX12_rangeOf 42 = .ok (.iload_n 2, 1) := by decide +kernel
theorem dX12_rangeOf_43 : decode cX12_rangeOf 43 = .ok (.iload_n 3, 1) := by decide +kernel
theorem dX12_rangeOf_44 : decode cX12_rangeOf 44 = .ok (.if_icmp .ne 7, 3) := by decide +kernel
theorem dX12_rangeOf_47 : decode cX12_rangeOf 47 = .ok (.iconst 1, 1) := by decide +kernel
theorem dX12_rangeOf_48 : decode cX12_rangeOf 48 = .ok (.goto 4, 3) := by decide +kernel
theorem dX12_rangeOf_51 : decode cX12_rangeOf 51 = .ok (.iconst 0, 1) := by decide +kernel
theorem dX12_rangeOf_52 : decode cX12_rangeOf 52 = .ok (.istore 6, 2) := by decide +kernel
theorem dX12_rangeOf_54 : decode cX12_rangeOf 54 = .ok (.aload_n 0, 1) := by decide +kernel
theorem dX12_rangeOf_55 : decode cX12_rangeOf 55 = .ok (.iload_n 1, 1) := by decide +kernel
theorem dX12_rangeOf_56 : decode cX12_rangeOf 56 = .ok (.invokevirtual 391, 3) := by decide +kernel
theorem dX12_rangeOf_59 : decode cX12_rangeOf 59 = .ok (.tableswitch 249 2 12 #[57, 83, 109, 117, 137, 157, 169, 199, 117, 137, 234], 57) := by decide +kernel
theorem dX12_rangeOf_116 : decode cX12_rangeOf 116 = .ok (.aload_n 0, 1) := by decide +kernel
theorem dX12_rangeOf_117 : decode cX12_rangeOf 117 = .ok (.iload_n 1, 1) := by decide +kernel
theorem dX12_rangeOf_118 : decode cX12_rangeOf 118 = .ok (.iload_n 2, 1) := by decide +kernel
theorem dX12_rangeOf_119 : decode cX12_rangeOf 119 = .ok (.i2l, 1) := by decide +kernel
theorem dX12_rangeOf_120 : decode cX12_rangeOf 120 = .ok (.iload_n 3, 1) := by decide +kernel
theorem dX12_rangeOf_121 : decode cX12_rangeOf 121 = .ok (.i2l, 1) := by decide +kernel
theorem dX12_rangeOf_122 : decode cX12_rangeOf 122 = .ok (.ladd, 1) := by decide +kernel
theorem dX12_rangeOf_123 : decode cX12_rangeOf 123 = .ok (.invokestatic 378, 3) := by decide +kernel
theorem dX12_rangeOf_126 : decode cX12_rangeOf 126 = .ok (.iload 4, 2) := by decide +kernel
theorem dX12_rangeOf_128 : decode cX12_rangeOf 128 = .ok (.i2l, 1) := by decide +kernel
theorem dX12_rangeOf_129 : decode cX12_rangeOf 129 = .ok (.iload 5, 2) := by decide +kernel
theorem dX12_rangeOf_131 : decode cX12_rangeOf 131 = .ok (.i2l, 1) := by decide +kernel
theorem dX12_rangeOf_132 : decode cX12_rangeOf 132 = .ok (.ladd, 1) := by decide +kernel
theorem dX12_rangeOf_133 : decode cX12_rangeOf 133 = .ok (.invokestatic 378, 3) := by decide +kernel
theorem dX12_rangeOf_136 : decode cX12_rangeOf 136 = .ok (.invokevirtual 407, 3) := by decide +kernel
theorem dX12_rangeOf_139 : decode cX12_rangeOf 139 = .ok (.goto 174, 3) := by decide +kernel
theorem dX12_rangeOf_142 : decode cX12_rangeOf 142 = .ok (.aload_n 0, 1) := by decide +kernel
theorem dX12_rangeOf_143 : decode cX12_rangeOf 143 = .ok (.iload_n 1, 1) := by decide +kernel
theorem dX12_rangeOf_144 : decode cX12_rangeOf 144 = .ok (.iload_n 2, 1) := by decide +kernel
theorem dX12_rangeOf_145 : decode cX12_rangeOf 145 = .ok (.i2l, 1) := by decide +kernel
theorem dX12_rangeOf_146 : decode cX12_rangeOf 146 = .ok (.iload 5, 2) := by decide +kernel
theorem dX12_rangeOf_148 : decode cX12_rangeOf 148 = .ok (.i2l, 1) := by decide +kernel
theorem dX12_rangeOf_149 : decode cX12_rangeOf 149 = .ok (.lsub, 1) := by decide +kernel
theorem dX12_rangeOf_150 : decode cX12_rangeOf 150 = .ok (.invokestatic 378, 3) := by decide +kernel
theorem dX12_rangeOf_153 : decode cX12_rangeOf 153 = .ok (.iload 4, 2) := by decide +kernel
theorem dX12_rangeOf_155 : decode cX12_rangeOf 155 = .ok (.i2l, 1) := by decide +kernel
theorem dX12_rangeOf_156 : decode cX12_rangeOf 156 = .ok (.iload_n 3, 1) := by decide +kernel
theorem dX12_rangeOf_157 : decode cX12_rangeOf 157 = .ok (.i2l, 1) := by decide +kernel
theorem dX12_rangeOf_158 : decode cX12_rangeOf 158 = .ok (.lsub, 1) := by decide +kernel
theorem dX12_rangeOf_159 : decode cX12_rangeOf 159 = .ok (.invokestatic 378, 3) := by decide +kernel
theorem dX12_rangeOf_162 : decode cX12_rangeOf 162 = .ok (.invokevirtual 407, 3) := by decide +kernel
theorem dX12_rangeOf_165 : decode cX12_rangeOf 165 = .ok (.goto 148, 3) := by decide +kernel
theorem dX12_rangeOf_168 : decode cX12_rangeOf 168 = .ok (.aload_n 0, 1) := by decide +kernel
theorem dX12_rangeOf_169 : decode cX12_rangeOf 169 = .ok (.iload_n 1, 1) := by decide +kernel
theorem dX12_rangeOf_170 : decode cX12_rangeOf 170 = .ok (.invokevirtual 410, 3) := by decide +kernel
theorem dX12_rangeOf_173 : decode cX12_rangeOf 173 = .ok (.goto 140, 3) := by decide +kernel
theorem dX12_rangeOf_176 : decode cX12_rangeOf 176 = .ok (.aload_n 0, 1) := by decide +kernel
theorem dX12_rangeOf_177 : decode cX12_rangeOf 177 = .ok (.iload_n 1, 1) := by decide +kernel
theorem dX12_rangeOf_178 : decode cX12_rangeOf 178 = .ok (.iload_n 2, 1) := by decide +kernel
theorem dX12_rangeOf_179 : decode cX12_rangeOf 179 = .ok (.iload_n 3, 1) := by decide +kernel
theorem dX12_rangeOf_180 : decode cX12_rangeOf 180 = .ok (.invokestatic 382, 3) := by decide +kernel
theorem dX12_rangeOf_183 : decode cX12_rangeOf 183 = .ok (.iload 4, 2) := by decide +kernel
theorem dX12_rangeOf_185 : decode cX12_rangeOf 185 = .ok (.iload 5, 2) := by decide +kernel
theorem dX12_rangeOf_187 : decode cX12_rangeOf 187 = .ok (.invokestatic 382, 3) := by decide +kernel
theorem dX12_rangeOf_190 : decode cX12_rangeOf 190 = .ok (.invokevirtual 407, 3) := by decide +kernel
theorem dX12_rangeOf_193 : decode cX12_rangeOf 193 = .ok (.goto 120, 3) := by decide +kernel
theorem dX12_rangeOf_196 : decode cX12_rangeOf 196 = .ok (.aload_n 0, 1) := by decide +kernel
theorem dX12_rangeOf_197 : decode cX12_rangeOf 197 = .ok (.iload_n 1, 1) := by decide +kernel
theorem dX12_rangeOf_198 : decode cX12_rangeOf 198 = .ok (.iload_n 2, 1) := by decide +kernel
theorem dX12_rangeOf_199 : decode cX12_rangeOf 199 = .ok (.iload_n 3, 1) := by decide +kernel
theorem dX12_rangeOf_200 : decode cX12_rangeOf 200 = .ok (.invokestatic 385, 3) := by decide +kernel
theorem dX12_rangeOf_203 : decode cX12_rangeOf 203 = .ok (.iload 4, 2) := by decide +kernel
theorem dX12_rangeOf_205 : decode cX12_rangeOf 205 = .ok (.iload 5, 2) := by decide +kernel
theorem dX12_rangeOf_207 : decode cX12_rangeOf 207 = .ok (.invokestatic 385, 3) := by decide +kernel
theorem dX12_rangeOf_210 : decode cX12_rangeOf 210 = .ok (.invokevirtual 407, 3) := by decide +kernel
theorem dX12_rangeOf_213 : decode cX12_rangeOf 213 = .ok (.goto 100, 3) := by decide +kernel
theorem dX12_rangeOf_216 : decode cX12_rangeOf 216 = .ok (.aload_n 0, 1) := by decide +kernel
theorem dX12_rangeOf_217 : decode cX12_rangeOf 217 = .ok (.iload_n 1, 1) := by decide +kernel
theorem dX12_rangeOf_218 : decode cX12_rangeOf 218 = .ok (.iconst 0, 1) := by decide +kernel
theorem dX12_rangeOf_219 : decode cX12_rangeOf 219 = .ok (.sipush 999, 3) := by decide +kernel
theorem dX12_rangeOf_222 : decode cX12_rangeOf 222 = .ok (.invokevirtual 407, 3) := by decide +kernel
theorem dX12_rangeOf_225 : decode cX12_rangeOf 225 = .ok (.goto 88, 3) := by decide +kernel
theorem dX12_rangeOf_228 : decode cX12_rangeOf 228 = .ok (.aload_n 0, 1) := by decide +kernel
theorem dX12_rangeOf_229 : decode cX12_rangeOf 229 = .ok (.iload_n 1, 1) := by decide +kernel
theorem dX12_rangeOf_230 : decode cX12_rangeOf 230 = .ok (.iload 4, 2) := by decide +kernel
theorem dX12_rangeOf_232 : decode cX12_rangeOf 232 = .ok (.iload_n 3, 1) := by decide +kernel
theorem dX12_rangeOf_233 : decode cX12_rangeOf 233 = .ok (.if_icmp .ge 7, 3) := by decide +kernel
theorem dX12_rangeOf_236 : decode cX12_rangeOf 236 = .ok (.iconst 1, 1) := by decide +kernel
theorem dX12_rangeOf_237 : decode cX12_rangeOf 237 = .ok (.goto 4, 3) := by decide +kernel
theorem dX12_rangeOf_240 : decode cX12_rangeOf 240 = .ok (.iconst 0, 1) := by decide +kernel
theorem dX12_rangeOf_241 : decode cX12_rangeOf 241 = .ok (.iload_n 2, 1) := by decide +kernel
theorem dX12_rangeOf_242 : decode cX12_rangeOf 242 = .ok (.iload 5, 2) := by decide +kernel
theorem dX12_rangeOf_244 : decode cX12_rangeOf 244 = .ok (.if_icmp .lt 7, 3) := by decide +kernel
theorem dX12_rangeOf_247 : decode cX12_rangeOf 247 = .ok (.iconst 0, 1) := by decide +kernel
theorem dX12_rangeOf_248 : decode cX12_rangeOf 248 = .ok (.goto 4, 3) := by decide +kernel
theorem dX12_rangeOf_251 : decode cX12_rangeOf 251 = .ok (.iconst 1, 1) := by decide +kernel
theorem dX12_rangeOf_252 : decode cX12_rangeOf 252 = .ok (.invokevirtual 407, 3) := by decide +kernel
theorem dX12_rangeOf_255 : decode cX12_rangeOf 255 = .ok (.goto 58, 3) := by decide +kernel
theorem dX12_rangeOf_258 : decode cX12_rangeOf 258 = .ok (.aload_n 0, 1) := by decide +kernel
theorem dX12_rangeOf_259 : decode cX12_rangeOf 259 = .ok (.iload_n 1, 1) := by decide +kernel
theorem dX12_rangeOf_260 : decode cX12_rangeOf 260 = .ok (.iload 6, 2) := by decide +kernel
theorem dX12_rangeOf_262 : decode cX12_rangeOf 262 = .ok (.ifCond .eq 7, 3) := by decide +kernel
theorem dX12_rangeOf_265 : decode cX12_rangeOf 265 = .ok (.iconst 1, 1) := by decide +kernel
theorem dX12_rangeOf_266 : decode cX12_rangeOf 266 = .ok (.goto 4, 3) := by decide +kernel
theorem dX12_rangeOf_269 : decode cX12_rangeOf 269 = .ok (.iconst 0, 1) := by decide +kernel
theorem dX12_rangeOf_270 : decode cX12_rangeOf 270 = .ok (.iload 4, 2) := by decide +kernel
theorem dX12_rangeOf_272 : decode cX12_rangeOf 272 = .ok (.iload_n 3, 1) := by decide +kernel
theorem dX12_rangeOf_273 : decode cX12_rangeOf 273 = .ok (.if_icmp .lt 9, 3) := by decide +kernel
theorem dX12_rangeOf_276 : decode cX12_rangeOf 276 = .ok (.iload 5, 2) := by decide +kernel
theorem dX12_rangeOf_278 : decode cX12_rangeOf 278 = .ok (.iload_n 2, 1) := by decide +kernel
theorem dX12_rangeOf_279 : decode cX12_rangeOf 279 = .ok (.if_icmp .ge 7, 3) := by decide +kernel
theorem dX12_rangeOf_282 : decode cX12_rangeOf 282 = .ok (.iconst 0, 1) := by decide +kernel
theorem dX12_rangeOf_283 : decode cX12_rangeOf 283 = .ok (.goto 4, 3) := by decide +kernel
theorem dX12_rangeOf_286 : decode cX12_rangeOf 286 = .ok (.iconst 1, 1) := by decide +kernel
theorem dX12_rangeOf_287 : decode cX12_rangeOf 287 = .ok (.invokevirtual 407, 3) := by decide +kernel
theorem dX12_rangeOf_290 : decode cX12_rangeOf 290 = .ok (.goto 23, 3) := by decide +kernel
theorem dX12_rangeOf_293 : decode cX12_rangeOf 293 = .ok (.aload_n 0, 1) := by decide +kernel
theorem dX12_rangeOf_294 : decode cX12_rangeOf 294 = .ok (.iload_n 1, 1) := by decide +kernel
theorem dX12_rangeOf_295 : decode cX12_rangeOf 295 = .ok (.iconst 1, 1) := by decide +kernel
theorem dX12_rangeOf_296 : decode cX12_rangeOf 296 = .ok (.iload 4, 2) := by decide +kernel
theorem dX12_rangeOf_298 : decode cX12_rangeOf 298 = .ok (.isub, 1) := by decide +kernel
theorem dX12_rangeOf_299 : decode cX12_rangeOf 299 = .ok (.iconst 1, 1) := by decide +kernel
theorem dX12_rangeOf_300 : decode cX12_rangeOf 300 = .ok (.iload_n 2, 1) := by decide +kernel
theorem dX12_rangeOf_301 : decode cX12_rangeOf 301 = .ok (.isub, 1) := by decide +kernel
theorem dX12_rangeOf_302 : decode cX12_rangeOf 302 = .ok (.invokevirtual 407, 3) := by decide +kernel
theorem dX12_rangeOf_305 : decode cX12_rangeOf 305 = .ok (.goto 8, 3) := by decide +kernel
theorem dX12_rangeOf_308 : decode cX12_rangeOf 308 = .ok (.aload_n 0, 1) := by decide +kernel
theorem dX12_rangeOf_309 : decode cX12_rangeOf 309 = .ok (.iload_n 1, 1) := by decide +kernel
theorem dX12_rangeOf_310 : decode cX12_rangeOf 310 = .ok (.invokevirtual 413, 3) := by decide +kernel
theorem dX12_rangeOf_313 : decode cX12_rangeOf 313 = .ok (.return_, 1) := by decide +kernel
theorem dX12_rangesWith_0 : decode cX12_rangesWith 0 = .ok (.iconst 0, 1) := by decide +kernel
theorem dX12_rangesWith_1 : decode cX12_rangesWith 1 = .ok (.istore 4, 2) := by decide +kernel
theorem dX12_rangesWith_3 : decode cX12_rangesWith 3 = .ok (.iload 4, 2) := by decide +kernel
theorem dX12_rangesWith_5 : decode cX12_rangesWith 5 = .ok (.aload_n 0, 1) := by decide +kernel
theorem dX12_rangesWith_6 : decode cX12_rangesWith 6 = .ok (.invokevirtual 352, 3) := by decide +kernel
theorem dX12_rangesWith_9 : decode cX12_rangesWith 9 = .ok (.if_icmp .ge 241, 3) := by decide +kernel
theorem dX12_rangesWith_12 : decode cX12_rangesWith 12 = .ok (.aload_n 0, 1) := by decide +kernel
theorem dX12_rangesWith_13 : decode cX12_rangesWith 13 = .ok (.iload 4, 2) := by decide +kernel
theorem dX12_rangesWith_15 : decode cX12_rangesWith 15 = .ok (.invokevirtual 391, 3) := by decide +kernel
theorem dX12_rangesWith_18 : decode cX12_rangesWith 18 = .ok (.istore 5, 2) := by decide +kernel
theorem dX12_rangesWith_20 : decode cX12_rangesWith 20 = .ok (.aload_n 0, 1) := by decide +kernel
theorem dX12_rangesWith_21 : decode cX12_rangesWith 21 = .ok (.iload 4, 2) := by decide +kernel
theorem dX12_rangesWith_23 : decode cX12_rangesWith 23 = .ok (.iconst 0, 1) := by decide +kernel
theorem dX12_rangesWith_24 : decode cX12_rangesWith 24 = .ok (.invokevirtual 388, 3) := by decide +kernel
theorem dX12_rangesWith_27 : decode cX12_rangesWith 27 = .ok (.istore 6, 2) := by decide +kernel
theorem dX12_rangesWith_29 : decode cX12_rangesWith 29 = .ok (.iload 5, 2) := by decide +kernel
theorem dX12_rangesWith_31 : decode cX12_rangesWith 31 = .ok (.ifCond .ne 52, 3) := by decide +kernel
theorem dX12_rangesWith_34 : decode cX12_rangesWith 34 = .ok (.aload_n 0, 1) := by decide +kernel
theorem dX12_rangesWith_35 : decode cX12_rangesWith 35 = .ok (.iload 4, 2) := by decide +kernel
theorem dX12_rangesWith_37 : decode cX12_rangesWith 37 = .ok (.iload 6, 2) := by decide +kernel
theorem dX12_rangesWith_39 : decode cX12_rangesWith 39 = .ok (.iload_n 1, 1) := by decide +kernel
theorem dX12_rangesWith_40 : decode cX12_rangesWith 40 = .ok (.if_icmp .ne 7, 3) := by decide +kernel
theorem dX12_rangesWith_43 : decode cX12_rangesWith 43 = .ok (.iload_n 2, 1) := by decide +kernel
theorem dX12_rangesWith_44 : decode cX12_rangesWith 44 = .ok (.goto 12, 3) := by decide +kernel
theorem dX12_rangesWith_47 : decode cX12_rangesWith 47 = .ok (.aload_n 0, 1) := by decide +kernel
theorem dX12_rangesWith_48 : decode cX12_rangesWith 48 = .ok (.getfield 162, 3) := by decide +kernel
theorem dX12_rangesWith_51 : decode cX12_rangesWith 51 = .ok (.iconst 2, 1) := by decide +kernel
theorem dX12_rangesWith_52 : decode cX12_rangesWith 52 = .ok (.iload 6, 2) := by decide +kernel
theorem dX12_rangesWith_54 : decode cX12_rangesWith 54 = .ok (.imul, 1) := by decide +kernel
theorem dX12_rangesWith_55 : decode cX12_rangesWith 55 = .ok (.iaload, 1) := by decide +kernel
theorem dX12_rangesWith_56 : decode cX12_rangesWith 56 = .ok (.iload 6, 2) := by decide +kernel
theorem dX12_rangesWith_58 : decode cX12_rangesWith 58 = .ok (.iload_n 1, 1) := by decide +kernel
theorem dX12_rangesWith_59 : decode cX12_rangesWith 59 = .ok (.if_icmp .ne 7, 3) := by decide +kernel
theorem dX12_rangesWith_62 : decode cX12_rangesWith 62 = .ok (.iload_n 3, 1) := by decide +kernel
theorem dX12_rangesWith_63 : decode cX12_rangesWith 63 = .ok (.goto 14, 3) := by decide +kernel
theorem dX12_rangesWith_66 : decode cX12_rangesWith 66 = .ok (.aload_n 0, 1) := by decide +kernel
theorem dX12_rangesWith_67 : decode cX12_rangesWith 67 = .ok (.getfield 162, 3) := by decide +kernel
theorem dX12_rangesWith_70 : decode cX12_rangesWith 70 = .ok (.iconst 2, 1) := by decide +kernel
theorem dX12_rangesWith_71 : decode cX12_rangesWith 71 = .ok (.iload 6, 2) := by decide +kernel
theorem dX12_rangesWith_73 : decode cX12_rangesWith 73 = .ok (.imul, 1) := by decide +kernel
theorem dX12_rangesWith_74 : decode cX12_rangesWith 74 = .ok (.iconst 1, 1) := by decide +kernel
theorem dX12_rangesWith_75 : decode cX12_rangesWith 75 = .ok (.iadd, 1) := by decide +kernel
theorem dX12_rangesWith_76 : decode cX12_rangesWith 76 = .ok (.iaload, 1) := by decide +kernel
theorem dX12_rangesWith_77 : decode cX12_rangesWith 77 = .ok (.invokevirtual 407, 3) := by decide +kernel
theorem dX12_rangesWith_80 : decode cX12_rangesWith 80 = .ok (.goto 19, 3) := by decide +kernel
theorem dX12_rangesWith_83 : decode cX12_rangesWith 83 = .ok (.iload 5, 2) := by decide +kernel
theorem dX12_rangesWith_85 : decode cX12_rangesWith 85 = .ok (.iconst 1, 1) := by decide +kernel
theorem dX12_rangesWith_86 : decode cX12_rangesWith 86 = .ok (.if_icmp .ne 13, 3) := by decide +kernel
theorem dX12_rangesWith_89 : decode cX12_rangesWith 89 = .ok (.aload_n 0, 1) := by decide +kernel
theorem dX12_rangesWith_90 : decode cX12_rangesWith 90 = .ok (.iload 4, 2) := by decide +kernel
theorem dX12_rangesWith_92 : decode cX12_rangesWith 92 = .ok (.iload 6, 2) := by decide +kernel
theorem dX12_rangesWith_94 : decode cX12_rangesWith 94 = .ok (.iload 6, 2) := by decide +kernel
theorem dX12_rangesWith_96 : decode cX12_rangesWith 96 = .ok (.invokevirtual 407, 3) := by decide +kernel
theorem dX12_rangesWith_99 : decode cX12_rangesWith 99 = .ok (.aload_n 0, 1) := by decide +kernel
theorem dX12_rangesWith_100 : decode cX12_rangesWith 100 = .ok (.getfield 177, 3) := by decide +kernel
theorem dX12_rangesWith_103 : decode cX12_rangesWith 103 = .ok (.iload 4, 2) := by decide +kernel
theorem dX12_rangesWith_105 : decode cX12_rangesWith 105 = .ok (.iload 5, 2) := by decide +kernel
theorem dX12_rangesWith_107 : decode cX12_rangesWith 107 = .ok (.bipush 13, 2) := by decide +kernel
theorem dX12_rangesWith_109 : decode cX12_rangesWith 109 = .ok (.if_icmp .ne 18, 3) := by decide +kernel
theorem dX12_rangesWith_112 : decode cX12_rangesWith 112 = .ok (.aload_n 0, 1) := by decide +kernel
theorem dX12_rangesWith_113 : decode cX12_rangesWith 113 = .ok (.getfield 177, 3) := by decide +kernel
theorem dX12_rangesWith_116 : decode cX12_rangesWith 116 = .ok (.aload_n 0, 1) := by decide +kernel
theorem dX12_rangesWith_117 : decode cX12_rangesWith 117 = .ok (.iload 4, 2) := by decide +kernel
theorem dX12_rangesWith_119 : decode cX12_rangesWith 119 = .ok (.iconst 1, 1) := by decide +kernel
theorem dX12_rangesWith_120 : decode cX12_rangesWith 120 = .ok (.invokevirtual 388, 3) := by decide +kernel
theorem dX12_rangesWith_123 : decode cX12_rangesWith 123 = .ok (.baload, 1) := by decide +kernel
theorem dX12_rangesWith_124 : decode cX12_rangesWith 124 = .ok (.goto 8, 3) := by decide +kernel
theorem dX12_rangesWith_127 : decode cX12_rangesWith 127 = .ok (.iload 5, 2) := by decide +kernel
theorem dX12_rangesWith_129 : decode cX12_rangesWith 129 = .ok (.invokestatic 269, 3) := by decide +kernel
theorem dX12_rangesWith_132 : decode cX12_rangesWith 132 = .ok (.bastore, 1) := by decide +kernel
theorem dX12_rangesWith_133 : decode cX12_rangesWith 133 = .ok (.iload 5, 2) := by decide +kernel
theorem dX12_rangesWith_135 : decode cX12_rangesWith 135 = .ok (.ifCond .gt 21, 3) := by decide +kernel
theorem dX12_rangesWith_138 : decode cX12_rangesWith 138 = .ok (.aload_n 0, 1) := by decide +kernel
theorem dX12_rangesWith_139 : decode cX12_rangesWith 139 = .ok (.getfield 126, 3) := by decide +kernel
theorem dX12_rangesWith_142 : decode cX12_rangesWith 142 = .ok (.bipush 10, 2) := by decide +kernel
theorem dX12_rangesWith_144 : decode cX12_rangesWith 144 = .ok (.iconst 3, 1) := by decide +kernel
theorem dX12_rangesWith_145 : decode cX12_rangesWith 145 = .ok (.iload 6, 2) := by decide +kernel
theorem dX12_rangesWith_147 : decode cX12_rangesWith 147 = .ok (.imul, 1) := by decide +kernel
theorem dX12_rangesWith_148 : decode cX12_rangesWith 148 = .ok (.iadd, 1) := by decide +kernel
theorem dX12_rangesWith_149 : decode cX12_rangesWith 149 = .ok (.iconst 2, 1) := by decide +kernel
theorem dX12_rangesWith_150 : decode cX12_rangesWith 150 = .ok (.iadd, 1) := by decide +kernel
theorem dX12_rangesWith_151 : decode cX12_rangesWith 151 = .ok (.iaload, 1) := by decide +kernel
theorem dX12_rangesWith_152 : decode cX12_rangesWith 152 = .ok (.iconst 1, 1) := by decide +kernel
theorem dX12_rangesWith_153 : decode cX12_rangesWith 153 = .ok (.if_icmp .ne 7, 3) := by decide +kernel
theorem dX12_rangesWith_156 : decode cX12_rangesWith 156 = .ok (.iconst 1, 1) := by decide +kernel
theorem dX12_rangesWith_157 : decode cX12_rangesWith 157 = .ok (.goto 4, 3) := by decide +kernel
theorem dX12_rangesWith_160 : decode cX12_rangesWith 160 = .ok (.iconst 0, 1) := by decide +kernel
theorem dX12_rangesWith_161 : decode cX12_rangesWith 161 = .ok (.istore 7, 2) := by decide +kernel
theorem dX12_rangesWith_163 : decode cX12_rangesWith 163 = .ok (.iconst 0, 1) := by decide +kernel
theorem dX12_rangesWith_164 : decode cX12_rangesWith 164 = .ok (.istore 8, 2) := by decide +kernel
theorem dX12_rangesWith_166 : decode cX12_rangesWith 166 = .ok (.iload 8, 2) := by decide +kernel
theorem dX12_rangesWith_168 : decode cX12_rangesWith 168 = .ok (.iconst 3, 1) := by decide +kernel
theorem dX12_rangesWith_169 : decode cX12_rangesWith 169 = .ok (.if_icmp .ge 54, 3) := by decide +kernel
theorem dX12_rangesWith_172 : decode cX12_rangesWith 172 = .ok (.iload 5, 2) := by decide +kernel
theorem dX12_rangesWith_174 : decode cX12_rangesWith 174 = .ok (.iconst 2, 1) := by decide +kernel
theorem dX12_rangesWith_175 : decode cX12_rangesWith 175 = .ok (.if_icmp .lt 48, 3) := by decide +kernel
theorem dX12_rangesWith_178 : decode cX12_rangesWith 178 = .ok (.iload 7, 2) := by decide +kernel
theorem dX12_rangesWith_180 : decode cX12_rangesWith 180 = .ok (.ifCond .eq 34, 3) := by decide +kernel
theorem dX12_rangesWith_183 : decode cX12_rangesWith 183 = .ok (.aload_n 0, 1) := by decide +kernel
theorem dX12_rangesWith_184 : decode cX12_rangesWith 184 = .ok (.iload 4, 2) := by decide +kernel
theorem dX12_rangesWith_186 : decode cX12_rangesWith 186 = .ok (.iload 8, 2) := by decide +kernel
theorem dX12_rangesWith_188 : decode cX12_rangesWith 188 = .ok (.invokevirtual 388, 3) := by decide +kernel
theorem dX12_rangesWith_191 : decode cX12_rangesWith 191 = .ok (.ifCond .lt 19, 3) := by decide +kernel
theorem dX12_rangesWith_194 : decode cX12_rangesWith 194 = .ok (.aload_n 0, 1) := by decide +kernel
theorem dX12_rangesWith_195 : decode cX12_rangesWith 195 = .ok (.getfield 181, 3) := by decide +kernel
theorem dX12_rangesWith_198 : decode cX12_rangesWith 198 = .ok (.aload_n 0, 1) := by decide +kernel
theorem dX12_rangesWith_199 : decode cX12_rangesWith 199 = .ok (.iload 4, 2) := by decide +kernel
theorem dX12_rangesWith_201 : decode cX12_rangesWith 201 = .ok (.iload 8, 2) := by decide +kernel
theorem dX12_rangesWith_203 : decode cX12_rangesWith 203 = .ok (.invokevirtual 388, 3) := by decide +kernel
theorem dX12_rangesWith_206 : decode cX12_rangesWith 206 = .ok (.baload, 1) := by decide +kernel
theorem dX12_rangesWith_207 : decode cX12_rangesWith 207 = .ok (.ifCond .eq 7, 3) := by decide +kernel
theorem dX12_rangesWith_210 : decode cX12_rangesWith 210 = .ok (.iconst 1, 1) := by decide +kernel
theorem dX12_rangesWith_211 : decode cX12_rangesWith 211 = .ok (.goto 4, 3) := by decide +kernel
theorem dX12_rangesWith_214 : decode cX12_rangesWith 214 = .ok (.iconst 0, 1) := by decide +kernel
theorem dX12_rangesWith_215 : decode cX12_rangesWith 215 = .ok (.istore 7, 2) := by decide +kernel
theorem dX12_rangesWith_217 : decode cX12_rangesWith 217 = .ok (.iinc 8 1, 3) := by decide +kernel
