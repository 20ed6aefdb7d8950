theorem dX11_init_87 : decode cX11_init 87 = .ok (.invokespecial 59, 3) := by decide +kernel
theorem dX11_init_90 : decode cX11_init 90 = .ok (.putfield 62, 3) := by decide +kernel
theorem dX11_init_93 : decode cX11_init 93 = .ok (.aload_n 0, 1) := by decide +kernel
theorem dX11_init_94 : decode cX11_init 94 = .ok (.new 66, 3) := by decide +kernel
theorem dX11_init_97 : decode cX11_init 97 = .ok (.dup, 1) := by decide +kernel
theorem dX11_init_98 : decode cX11_init 98 = .ok (.aload_n 0, 1) := by decide +kernel
theorem dX11_init_99 : decode cX11_init 99 = .ok (.getfield 37, 3) := by decide +kernel
theorem dX11_init_102 : decode cX11_init 102 = .ok (.aload_n 0, 1) := by decide +kernel
theorem dX11_init_103 : decode cX11_init 103 = .ok (.getfield 62, 3) := by decide +kernel
theorem dX11_init_106 : decode cX11_init 106 = .ok (.invokespecial 68, 3) := by decide +kernel
theorem dX11_init_109 : decode cX11_init 109 = .ok (.putfield 71, 3) := by decide +kernel
theorem dX11_init_112 : decode cX11_init 112 = .ok (.aload_n 0, 1) := by decide +kernel
theorem dX11_init_113 : decode cX11_init 113 = .ok (.new 75, 3) := by decide +kernel
theorem dX11_init_116 : decode cX11_init 116 = .ok (.dup, 1) := by decide +kernel
theorem dX11_init_117 : decode cX11_init 117 = .ok (.aload_n 0, 1) := by decide +kernel
theorem dX11_init_118 : decode cX11_init 118 = .ok (.getfield 37, 3) := by decide +kernel
theorem dX11_init_121 : decode cX11_init 121 = .ok (.aload_n 0, 1) := by decide +kernel
theorem dX11_init_122 : decode cX11_init 122 = .ok (.getfield 62, 3) := by decide +kernel
theorem dX11_init_125 : decode cX11_init 125 = .ok (.aload_n 0, 1) := by decide +kernel
theorem dX11_init_126 : decode cX11_init 126 = .ok (.getfield 71, 3) := by decide +kernel
theorem dX11_init_129 : decode cX11_init 129 = .ok (.invokespecial 77, 3) := by decide +kernel
theorem dX11_init_132 : decode cX11_init 132 = .ok (.putfield 80, 3) := by decide +kernel
theorem dX11_init_135 : decode cX11_init 135 = .ok (.aload_n 0, 1) := by decide +kernel
theorem dX11_init_136 : decode cX11_init 136 = .ok (.new 57, 3) := by decide +kernel
theorem dX11_init_139 : decode cX11_init 139 = .ok (.dup, 1) := by decide +kernel
theorem dX11_init_140 : decode cX11_init 140 = .ok (.aload_n 0, 1) := by decide +kernel
theorem dX11_init_141 : decode cX11_init 141 = .ok (.getfield 37, 3) := by decide +kernel
theorem dX11_init_144 : decode cX11_init 144 = .ok (.invokespecial 59, 3) := by decide +kernel
theorem dX11_init_147 : decode cX11_init 147 = .ok (.putfield 84, 3) := by decide +kernel
theorem dX11_init_150 : decode cX11_init 150 = .ok (.aload_n 0, 1) := by decide +kernel
theorem dX11_init_151 : decode cX11_init 151 = .ok (.new 66, 3) := by decide +kernel
theorem dX11_init_154 : decode cX11_init 154 = .ok (.dup, 1) := by decide +kernel
theorem dX11_init_155 : decode cX11_init 155 = .ok (.aload_n 0, 1) := by decide +kernel
theorem dX11_init_156 : decode cX11_init 156 = .ok (.getfield 37, 3) := by decide +kernel
theorem dX11_init_159 : decode cX11_init 159 = .ok (.aload_n 0, 1) := by decide +kernel
theorem dX11_init_160 : decode cX11_init 160 = .ok (.getfield 84, 3) := by decide +kernel
theorem dX11_init_163 : decode cX11_init 163 = .ok (.invokespecial 68, 3) := by decide +kernel
theorem dX11_init_166 : decode cX11_init 166 = .ok (.putfield 87, 3) := by decide +kernel
theorem dX11_init_169 : decode cX11_init 169 = .ok (.aload_n 0, 1) := by decide +kernel
theorem dX11_init_170 : decode cX11_init 170 = .ok (.new 75, 3) := by decide +kernel
theorem dX11_init_173 : decode cX11_init 173 = .ok (.dup, 1) := by decide +kernel
theorem dX11_init_174 : decode cX11_init 174 = .ok (.aload_n 0, 1) := by decide +kernel
theorem dX11_init_175 : decode cX11_init 175 = .ok (.getfield 37, 3) := by decide +kernel
theorem dX11_init_178 : decode cX11_init 178 = .ok (.aload_n 0, 1) := by decide +kernel
theorem dX11_init_179 : decode cX11_init 179 = .ok (.getfield 84, 3) := by decide +kernel
theorem dX11_init_182 : decode cX11_init 182 = .ok (.aload_n 0, 1) := by decide +kernel
theorem dX11_init_183 : decode cX11_init 183 = .ok (.getfield 87, 3) := by decide +kernel
theorem dX11_init_186 : decode cX11_init 186 = .ok (.invokespecial 77, 3) := by decide +kernel
theorem dX11_init_189 : decode cX11_init 189 = .ok (.putfield 90, 3) := by decide +kernel
theorem dX11_init_192 : decode cX11_init 192 = .ok (.aload_n 0, 1) := by decide +kernel
theorem dX11_init_193 : decode cX11_init 193 = .ok (.new 93, 3) := by decide +kernel
theorem dX11_init_196 : decode cX11_init 196 = .ok (.dup, 1) := by decide +kernel
theorem dX11_init_197 : decode cX11_init 197 = .ok (.aload_n 0, 1) := by decide +kernel
theorem dX11_init_198 : decode cX11_init 198 = .ok (.getfield 37, 3) := by decide +kernel
theorem dX11_init_201 : decode cX11_init 201 = .ok (.aload_n 0, 1) := by decide +kernel
theorem dX11_init_202 : decode cX11_init 202 = .ok (.getfield 62, 3) := by decide +kernel
theorem dX11_init_205 : decode cX11_init 205 = .ok (.aload_n 0, 1) := by decide +kernel
theorem dX11_init_206 : decode cX11_init 206 = .ok (.getfield 71, 3) := by decide +kernel
theorem dX11_init_209 : decode cX11_init 209 = .ok (.invokespecial 95, 3) := by decide +kernel
theorem dX11_init_212 : decode cX11_init 212 = .ok (.putfield 96, 3) := by decide +kernel
theorem dX11_init_215 : decode cX11_init 215 = .ok (.aload_n 0, 1) := by decide +kernel
theorem dX11_init_216 : decode cX11_init 216 = .ok (.new 100, 3) := by decide +kernel
theorem dX11_init_219 : decode cX11_init 219 = .ok (.dup, 1) := by decide +kernel
theorem dX11_init_220 : decode cX11_init 220 = .ok (.invokespecial 102, 3) := by decide +kernel
theorem dX11_init_223 : decode cX11_init 223 = .ok (.putfield 103, 3) := by decide +kernel
theorem dX11_init_226 : decode cX11_init 226 = .ok (.aload_n 0, 1) := by decide +kernel
theorem dX11_init_227 : decode cX11_init 227 = .ok (.iconst 0, 1) := by decide +kernel
theorem dX11_init_228 : decode cX11_init 228 = .ok (.putfield 107, 3) := by decide +kernel
theorem dX11_init_231 : decode cX11_init 231 = .ok (.aload_n 0, 1) := by decide +kernel
theorem dX11_init_232 : decode cX11_init 232 = .ok (.bipush (-2), 2) := by decide +kernel
theorem dX11_init_234 : decode cX11_init 234 = .ok (.putfield 111, 3) := by decide +kernel
theorem dX11_init_237 : decode cX11_init 237 = .ok (.return_, 1) := by decide +kernel
theorem dX11_feed_0 : decode cX11_feed 0 = .ok (.aload_n 0, 1) := by decide +kernel
theorem dX11_feed_1 : decode cX11_feed 1 = .ok (.lload_n 1, 1) := by decide +kernel
theorem dX11_feed_2 : decode cX11_feed 2 = .ok (.invokevirtual 114, 3) := by decide +kernel
theorem dX11_feed_5 : decode cX11_feed 5 = .ok (.aload_n 0, 1) := by decide +kernel
theorem dX11_feed_6 : decode cX11_feed 6 = .ok (.lload_n 3, 1) := by decide +kernel
theorem dX11_feed_7 : decode cX11_feed 7 = .ok (.invokevirtual 114, 3) := by decide +kernel
theorem dX11_feed_10 : decode cX11_feed 10 = .ok (.aload_n 0, 1) := by decide +kernel
theorem dX11_feed_11 : decode cX11_feed 11 = .ok (.lload 5, 2) := by decide +kernel
theorem dX11_feed_13 : decode cX11_feed 13 = .ok (.invokevirtual 114, 3) := by decide +kernel
theorem dX11_feed_16 : decode cX11_feed 16 = .ok (.aload_n 0, 1) := by decide +kernel
theorem dX11_feed_17 : decode cX11_feed 17 = .ok (.getfield 14, 3) := by decide +kernel
theorem dX11_feed_20 : decode cX11_feed 20 = .ok (.getfield 118, 3) := by decide +kernel
theorem dX11_feed_23 : decode cX11_feed 23 = .ok (.ireturn, 1) := by decide +kernel
theorem dX11_feedEight_0 : decode cX11_feedEight 0 = .ok (.bipush 56, 2) := by decide +kernel
theorem dX11_feedEight_2 : decode cX11_feedEight 2 = .ok (.istore_n 3, 1) := by decide +kernel
theorem dX11_feedEight_3 : decode cX11_feedEight 3 = .ok (.iload_n 3, 1) := by decide +kernel
theorem dX11_feedEight_4 : decode cX11_feedEight 4 = .ok (.ifCond .lt 24, 3) := by decide +kernel
theorem dX11_feedEight_7 : decode cX11_feedEight 7 = .ok (.aload_n 0, 1) := by decide +kernel
theorem dX11_feedEight_8 : decode cX11_feedEight 8 = .ok (.getfield 14, 3) := by decide +kernel
theorem dX11_feedEight_11 : decode cX11_feedEight 11 = .ok (.lload_n 1, 1) := by decide +kernel
theorem dX11_feedEight_12 : decode cX11_feedEight 12 = .ok (.iload_n 3, 1) := by decide +kernel
theorem dX11_feedEight_13 : decode cX11_feedEight 13 = .ok (.lushr, 1) := by decide +kernel
theorem dX11_feedEight_14 : decode cX11_feedEight 14 = .ok (.l2i, 1) := by decide +kernel
theorem dX11_feedEight_15 : decode cX11_feedEight 15 = .ok (.sipush 255, 3) := by decide +kernel
theorem dX11_feedEight_18 : decode cX11_feedEight 18 = .ok (.iand, 1) := by decide +kernel
theorem dX11_feedEight_19 : decode cX11_feedEight 19 = .ok (.invokevirtual 121, 3) := by decide +kernel
theorem dX11_feedEight_22 : decode cX11_feedEight 22 = .ok (.iinc 3 (-8), 3) := by decide +kernel
theorem dX11_feedEight_25 : decode cX11_feedEight 25 = .ok (.goto (-22), 3) := by decide +kernel
theorem dX11_feedEight_28 : decode cX11_feedEight 28 = .ok (.return_, 1) := by decide +kernel
theorem dX11_shader_0 : decode cX11_shader 0 = .ok (.aload_n 0, 1) := by decide +kernel
theorem dX11_shader_1 : decode cX11_shader 1 = .ok (.getfield 23, 3) := by decide +kernel
theorem dX11_shader_4 : decode cX11_shader 4 = .ok (.invokevirtual 125, 3) := by decide +kernel
theorem dX11_shader_7 : decode cX11_shader 7 = .ok (.istore_n 1, 1) := by decide +kernel
theorem dX11_shader_8 : decode cX11_shader 8 = .ok (.aload_n 0, 1) := by decide +kernel
theorem dX11_shader_9 : decode cX11_shader 9 = .ok (.getfield 14, 3) := by decide +kernel
theorem dX11_shader_12 : decode cX11_shader 12 = .ok (.invokevirtual 129, 3) := by decide +kernel
theorem dX11_shader_15 : decode cX11_shader 15 = .ok (.iload_n 1, 1) := by decide +kernel
theorem dX11_shader_16 : decode cX11_shader 16 = .ok (.ifCond .ne 18, 3) := by decide +kernel
theorem dX11_shader_19 : decode cX11_shader 19 = .ok (.aload_n 0, 1) := by decide +kernel
theorem dX11_shader_20 : decode cX11_shader 20 = .ok (.getfield 30, 3) := by decide +kernel
theorem dX11_shader_23 : decode cX11_shader 23 = .ok (.aload_n 0, 1) := by decide +kernel
theorem dX11_shader_24 : decode cX11_shader 24 = .ok (.getfield 23, 3) := by decide +kernel
theorem dX11_shader_27 : decode cX11_shader 27 = .ok (.getfield 132, 3) := by decide +kernel
theorem dX11_shader_30 : decode cX11_shader 30 = .ok (.invokevirtual 133, 3) := by decide +kernel
theorem dX11_shader_33 : decode cX11_shader 33 = .ok (.istore_n 1, 1) := by decide +kernel
theorem dX11_shader_34 : decode cX11_shader 34 = .ok (.iload_n 1, 1) := by decide +kernel
theorem dX11_shader_35 : decode cX11_shader 35 = .ok (.ifCond .ne 56, 3) := by decide +kernel
theorem dX11_shader_38 : decode cX11_shader 38 = .ok (.aload_n 0, 1) := by decide +kernel
theorem dX11_shader_39 : decode cX11_shader 39 = .ok (.getfield 103, 3) := by decide +kernel
theorem dX11_shader_42 : decode cX11_shader 42 = .ok (.astore_n 2, 1) := by decide +kernel
theorem dX11_shader_43 : decode cX11_shader 43 = .ok (.aload_n 0, 1) := by decide +kernel
theorem dX11_shader_44 : decode cX11_shader 44 = .ok (.aload_n 0, 1) := by decide +kernel
theorem dX11_shader_45 : decode cX11_shader 45 = .ok (.getfield 23, 3) := by decide +kernel
theorem dX11_shader_48 : decode cX11_shader 48 = .ok (.getfield 132, 3) := by decide +kernel
theorem dX11_shader_51 : decode cX11_shader 51 = .ok (.putfield 103, 3) := by decide +kernel
theorem dX11_shader_54 : decode cX11_shader 54 = .ok (.aload_n 0, 1) := by decide +kernel
theorem dX11_shader_55 : decode cX11_shader 55 = .ok (.getfield 23, 3) := by decide +kernel
theorem dX11_shader_58 : decode cX11_shader 58 = .ok (.aload_n 2, 1) := by decide +kernel
theorem dX11_shader_59 : decode cX11_shader 59 = .ok (.putfield 132, 3) := by decide +kernel
theorem dX11_shader_62 : decode cX11_shader 62 = .ok (.aload_n 0, 1) := by decide +kernel
theorem dX11_shader_63 : decode cX11_shader 63 = .ok (.getfield 37, 3) := by decide +kernel
theorem dX11_shader_66 : decode cX11_shader 66 = .ok (.aload_n 0, 1) := by decide +kernel
theorem dX11_shader_67 : decode cX11_shader 67 = .ok (.getfield 30, 3) := by decide +kernel
theorem dX11_shader_70 : decode cX11_shader 70 = .ok (.getfield 137, 3) := by decide +kernel
theorem dX11_shader_73 : decode cX11_shader 73 = .ok (.invokevirtual 138, 3) := by decide +kernel
theorem dX11_shader_76 : decode cX11_shader 76 = .ok (.aload_n 0, 1) := by decide +kernel
theorem dX11_shader_77 : decode cX11_shader 77 = .ok (.getfield 44, 3) := by decide +kernel
theorem dX11_shader_80 : decode cX11_shader 80 = .ok (.aload_n 0, 1) := by decide +kernel
theorem dX11_shader_81 : decode cX11_shader 81 = .ok (.getfield 103, 3) := by decide +kernel
theorem dX11_shader_84 : decode cX11_shader 84 = .ok (.invokevirtual 141, 3) := by decide +kernel
theorem dX11_shader_87 : decode cX11_shader 87 = .ok (.aload_n 0, 1) := by decide +kernel
theorem dX11_shader_88 : decode cX11_shader 88 = .ok (.invokevirtual 145, 3) := by decide +kernel
theorem dX11_shader_91 : decode cX11_shader 91 = .ok (.iload_n 1, 1) := by decide +kernel
theorem dX11_shader_92 : decode cX11_shader 92 = .ok (.ireturn, 1) := by decide +kernel
theorem dX11_refresh_0 : decode cX11_refresh 0 = .ok (.aload_n 0, 1) := by decide +kernel
theorem dX11_refresh_1 : decode cX11_refresh 1 = .ok (.getfield 62, 3) := by decide +kernel
theorem dX11_refresh_4 : decode cX11_refresh 4 = .ok (.aload_n 0, 1) := by decide +kernel
theorem dX11_refresh_5 : decode cX11_refresh 5 = .ok (.getfield 44, 3) := by decide +kernel
theorem dX11_refresh_8 : decode cX11_refresh 8 = .ok (.getfield 148, 3) := by decide +kernel
theorem dX11_refresh_11 : decode cX11_refresh 11 = .ok (.aload_n 0, 1) := by decide +kernel
theorem dX11_refresh_12 : decode cX11_refresh 12 = .ok (.getfield 44, 3) := by decide +kernel
theorem dX11_refresh_15 : decode cX11_refresh 15 = .ok (.getfield 152, 3) := by decide +kernel
theorem dX11_refresh_18 : decode cX11_refresh 18 = .ok (.invokevirtual 155, 3) := by decide +kernel
theorem dX11_refresh_21 : decode cX11_refresh 21 = .ok (.aload_n 0, 1) := by decide +kernel
theorem dX11_refresh_22 : decode cX11_refresh 22 = .ok (.getfield 71, 3) := by decide +kernel
theorem dX11_refresh_25 : decode cX11_refresh 25 = .ok (.iconst (-1), 1) := by decide +kernel
theorem dX11_refresh_26 : decode cX11_refresh 26 = .ok (.invokevirtual 159, 3) := by decide +kernel
theorem dX11_refresh_29 : decode cX11_refresh 29 = .ok (.aload_n 0, 1) := by decide +kernel
theorem dX11_refresh_30 : decode cX11_refresh 30 = .ok (.getfield 80, 3) := by decide +kernel
theorem dX11_refresh_33 : decode cX11_refresh 33 = .ok (.aload_n 0, 1) := by decide +kernel
theorem dX11_refresh_34 : decode cX11_refresh 34 = .ok (.getfield 107, 3) := by decide +kernel
theorem dX11_refresh_37 : decode cX11_refresh 37 = .ok (.invokevirtual 161, 3) := by decide +kernel
theorem dX11_refresh_40 : decode cX11_refresh 40 = .ok (.aload_n 0, 1) := by decide +kernel
theorem dX11_refresh_41 : decode cX11_refresh 41 = .ok (.getfield 80, 3) := by decide +kernel
theorem dX11_refresh_44 : decode cX11_refresh 44 = .ok (.aload_n 0, 1) := by decide +kernel
theorem dX11_refresh_45 : decode cX11_refresh 45 = .ok (.getfield 103, 3) := by decide +kernel
theorem dX11_refresh_48 : decode cX11_refresh 48 = .ok (.getfield 164, 3) := by decide +kernel
theorem dX11_refresh_51 : decode cX11_refresh 51 = .ok (.aload_n 0, 1) := by decide +kernel
theorem dX11_refresh_52 : decode cX11_refresh 52 = .ok (.getfield 103, 3) := by decide +kernel
theorem dX11_refresh_55 : decode cX11_refresh 55 = .ok (.getfield 167, 3) := by decide +kernel
theorem dX11_refresh_58 : decode cX11_refresh 58 = .ok (.invokevirtual 170, 3) := by decide +kernel
theorem dX11_refresh_61 : decode cX11_refresh 61 = .ok (.aload_n 0, 1) := by decide +kernel
theorem dX11_refresh_62 : decode cX11_refresh 62 = .ok (.bipush (-2), 2) := by decide +kernel
theorem dX11_refresh_64 : decode cX11_refresh 64 = .ok (.putfield 111, 3) := by decide +kernel
theorem dX11_refresh_67 : decode cX11_refresh 67 = .ok (.return_, 1) := by decide +kernel
theorem dX11_set_0 : decode cX11_set 0 = .ok (.aload_n 0, 1) := by decide +kernel
theorem dX11_set_1 : decode cX11_set 1 = .ok (.iload_n 1, 1) := by decide +kernel
theorem dX11_set_2 : decode cX11_set 2 = .ok (.invokevirtual 174, 3) := by decide +kernel
theorem dX11_set_5 : decode cX11_set 5 = .ok (.ifCond .eq 36, 3) := by decide +kernel
theorem dX11_set_8 : decode cX11_set 8 = .ok (.iload_n 2, 1) := by decide +kernel
theorem dX11_set_9 : decode cX11_set 9 = .ok (.invokestatic 178, 3) := by decide +kernel
theorem dX11_set_12 : decode cX11_set 12 = .ok (.ifCond .eq 29, 3) := by decide +kernel
theorem dX11_set_15 : decode cX11_set 15 = .ok (.iload_n 3, 1) := by decide +kernel
theorem dX11_set_16 : decode cX11_set 16 = .ok (.aload_n 0, 1) := by decide +kernel
theorem dX11_set_17 : decode cX11_set 17 = .ok (.getfield 44, 3) := by decide +kernel
theorem dX11_set_20 : decode cX11_set 20 = .ok (.getfield 148, 3) := by decide +kernel
theorem dX11_set_23 : decode cX11_set 23 = .ok (.iload_n 1, 1) := by decide +kernel
theorem dX11_set_24 : decode cX11_set 24 = .ok (.iaload, 1) := by decide +kernel
theorem dX11_set_25 : decode cX11_set 25 = .ok (.if_icmp .lt 16, 3) := by decide +kernel
theorem dX11_set_28 : decode cX11_set 28 = .ok (.iload_n 3, 1) := by decide +kernel
theorem dX11_set_29 : decode cX11_set 29 = .ok (.aload_n 0, 1) := by decide +kernel
theorem dX11_set_30 : decode cX11_set 30 = .ok (.getfield 44, 3) := by decide +kernel
theorem dX11_set_33 : decode cX11_set 33 = .ok (.getfield 152, 3) := by decide +kernel
theorem dX11_set_36 : decode cX11_set 36 = .ok (.iload_n 1, 1) := by decide +kernel
theorem dX11_set_37 : decode cX11_set 37 = .ok (.iaload, 1) := by decide +kernel
theorem dX11_set_38 : decode cX11_set 38 = .ok (.if_icmp .le 5, 3) := by decide +kernel
theorem dX11_set_41 : decode cX11_set 41 = .ok (.iconst (-1), 1) := by decide +kernel
theorem dX11_set_42 : decode cX11_set 42 = .ok (.ireturn, 1) := by decide +kernel
theorem dX11_set_43 : decode cX11_set 43 = .ok (.aload_n 0, 1) := by decide +kernel
theorem dX11_set_44 : decode cX11_set 44 = .ok (.getfield 44, 3) := by decide +kernel
theorem dX11_set_47 : decode cX11_set 47 = .ok (.getfield 181, 3) := by decide +kernel
theorem dX11_set_50 : decode cX11_set 50 = .ok (.iconst 4, 1) := by decide +kernel
theorem dX11_set_51 : decode cX11_set 51 = .ok (.iload_n 1, 1) := by decide +kernel
theorem dX11_set_52 : decode cX11_set 52 = .ok (.imul, 1) := by decide +kernel
theorem dX11_set_53 : decode cX11_set 53 = .ok (.iload_n 2, 1) := by decide +kernel
theorem dX11_set_54 : decode cX11_set 54 = .ok (.iadd, 1) := by decide +kernel
theorem dX11_set_55 : decode cX11_set 55 = .ok (.iaload, 1) := by decide +kernel
theorem dX11_set_56 : decode cX11_set 56 = .ok (.istore 4, 2) := by decide +kernel
theorem dX11_set_58 : decode cX11_set 58 = .ok (.iconst 0, 1) := by decide +kernel
theorem dX11_set_59 : decode cX11_set 59 = .ok (.istore 5, 2) := by decide +kernel
theorem dX11_set_61 : decode cX11_set 61 = .ok (.iload 5, 2) := by decide +kernel
theorem dX11_set_63 : decode cX11_set 63 = .ok (.iconst 4, 1) := by decide +kernel
theorem dX11_set_64 : decode cX11_set 64 = .ok (.if_icmp .ge 42, 3) := by decide +kernel
theorem dX11_set_67 : decode cX11_set 67 = .ok (.iload 5, 2) := by decide +kernel
theorem dX11_set_69 : decode cX11_set 69 = .ok (.iload_n 2, 1) := by decide +kernel
theorem dX11_set_70 : decode cX11_set 70 = .ok (.if_icmp .eq 15, 3) := by decide +kernel
theorem dX11_set_73 : decode cX11_set 73 = .ok (.aload_n 0, 1) := by decide +kernel
theorem dX11_set_74 : decode cX11_set 74 = .ok (.getfield 103, 3) := by decide +kernel
theorem dX11_set_77 : decode cX11_set 77 = .ok (.getfield 184, 3) := by decide +kernel
theorem dX11_set_80 : decode cX11_set 80 = .ok (.iload_n 1, 1) := by decide +kernel
theorem dX11_set_81 : decode cX11_set 81 = .ok (.baload, 1) := by decide +kernel
theorem dX11_set_82 : decode cX11_set 82 = .ok (.ifCond .eq 18, 3) := by decide +kernel
theorem dX11_set_85 : decode cX11_set 85 = .ok (.aload_n 0, 1) := by decide +kernel
theorem dX11_set_86 : decode cX11_set 86 = .ok (.getfield 44, 3) := by decide +kernel
theorem dX11_set_89 : decode cX11_set 89 = .ok (.getfield 181, 3) := by decide +kernel
theorem dX11_set_92 : decode cX11_set 92 = .ok (.iconst 4, 1) := by decide +kernel
theorem dX11_set_93 : decode cX11_set 93 = .ok (.iload_n 1, 1) := by decide +kernel
theorem dX11_set_94 : decode cX11_set 94 = .ok (.imul, 1) := by decide +kernel
theorem dX11_set_95 : decode cX11_set 95 = .ok (.iload 5, 2) := by decide +kernel
theorem dX11_set_97 : decode cX11_set 97 = .ok (.iadd, 1) := by decide +kernel
theorem dX11_set_98 : decode cX11_set 98 = .ok (.iload_n 3, 1) := by decide +kernel
theorem dX11_set_99 : decode cX11_set 99 = .ok (.iastore, 1) := by decide +kernel
theorem dX11_set_100 : decode cX11_set 100 = .ok (.iinc 5 1, 3) := by decide +kernel
theorem dX11_set_103 : decode cX11_set 103 = .ok (.goto (-42), 3) := by decide +kernel
theorem dX11_set_106 : decode cX11_set 106 = .ok (.iload 4, 2) := by decide +kernel
theorem dX11_set_108 : decode cX11_set 108 = .ok (.ireturn, 1) := by decide +kernel
theorem dX11_cell_0 : decode cX11_cell 0 = .ok (.iload_n 1, 1) := by decide +kernel
theorem dX11_cell_1 : decode cX11_cell 1 = .ok (.ifCond .lt 20, 3) := by decide +kernel
theorem dX11_cell_4 : decode cX11_cell 4 = .ok (.iload_n 1, 1) := by decide +kernel
theorem dX11_cell_5 : decode cX11_cell 5 = .ok (.bipush 16, 2) := by decide +kernel
theorem dX11_cell_7 : decode cX11_cell 7 = .ok (.if_icmp .ge 14, 3) := by decide +kernel
theorem dX11_cell_10 : decode cX11_cell 10 = .ok (.iload_n 2, 1) := by decide +kernel
theorem dX11_cell_11 : decode cX11_cell 11 = .ok (.ifCond .lt 10, 3) := by decide +kernel
theorem dX11_cell_14 : decode cX11_cell 14 = .ok (.iload_n 2, 1) := by decide +kernel
theorem dX11_cell_15 : decode cX11_cell 15 = .ok (.sipush 999, 3) := by decide +kernel
theorem dX11_cell_18 : decode cX11_cell 18 = .ok (.if_icmp .le 5, 3) := by decide +kernel
theorem dX11_cell_21 : decode cX11_cell 21 = .ok (.iconst (-1), 1) := by decide +kernel
theorem dX11_cell_22 : decode cX11_cell 22 = .ok (.ireturn, 1) := by decide +kernel
theorem dX11_cell_23 : decode cX11_cell 23 = .ok (.aload_n 0, 1) := by decide +kernel
theorem dX11_cell_24 : decode cX11_cell 24 = .ok (.getfield 44, 3) := by decide +kernel
theorem dX11_cell_27 : decode cX11_cell 27 = .ok (.getfield 188, 3) := by decide +kernel
theorem dX11_cell_30 : decode cX11_cell 30 = .ok (.iload_n 1, 1) := by decide +kernel
theorem dX11_cell_31 : decode cX11_cell 31 = .ok (.iaload, 1) := by decide +kernel
theorem dX11_cell_32 : decode cX11_cell 32 = .ok (.istore_n 3, 1) := by decide +kernel
theorem dX11_cell_33 : decode cX11_cell 33 = .ok (.aload_n 0, 1) := by decide +kernel
theorem dX11_cell_34 : decode cX11_cell 34 = .ok (.getfield 44, 3) := by decide +kernel
theorem dX11_cell_37 : decode cX11_cell 37 = .ok (.getfield 188, 3) := by decide +kernel
theorem dX11_cell_40 : decode cX11_cell 40 = .ok (.iload_n 1, 1) := by decide +kernel
theorem dX11_cell_41 : decode cX11_cell 41 = .ok (.iload_n 2, 1) := by decide +kernel
theorem dX11_cell_42 : decode cX11_cell 42 = .ok (.iastore, 1) := by decide +kernel
theorem dX11_cell_43 : decode cX11_cell 43 = .ok (.iload_n 3, 1) := by decide +kernel
theorem dX11_cell_44 : decode cX11_cell 44 = .ok (.ireturn, 1) := by decide +kernel
theorem dX11_rule_0 : decode cX11_rule 0 = .ok (.iload_n 1, 1) := by decide +kernel
theorem dX11_rule_1 : decode cX11_rule 1 = .ok (.ifCond .lt 8, 3) := by decide +kernel
theorem dX11_rule_4 : decode cX11_rule 4 = .ok (.iload_n 1, 1) := by decide +kernel
theorem dX11_rule_5 : decode cX11_rule 5 = .ok (.iconst 4, 1) := by decide +kernel
theorem dX11_rule_6 : decode cX11_rule 6 = .ok (.if_icmp .lt 5, 3) := by decide +kernel
theorem dX11_rule_9 : decode cX11_rule 9 = .ok (.iconst (-1), 1) := by decide +kernel
theorem dX11_rule_10 : decode cX11_rule 10 = .ok (.ireturn, 1) := by decide +kernel
theorem dX11_rule_11 : decode cX11_rule 11 = .ok (.aload_n 0, 1) := by decide +kernel
theorem dX11_rule_12 : decode cX11_rule 12 = .ok (.getfield 107, 3) := by decide +kernel
theorem dX11_rule_15 : decode cX11_rule 15 = .ok (.istore_n 2, 1) := by decide +kernel
theorem dX11_rule_16 : decode cX11_rule 16 = .ok (.aload_n 0, 1) := by decide +kernel
theorem dX11_rule_17 : decode cX11_rule 17 = .ok (.iload_n 1, 1) := by decide +kernel
theorem dX11_rule_18 : decode cX11_rule 18 = .ok (.putfield 107, 3) := by decide +kernel
theorem dX11_rule_21 : decode cX11_rule 21 = .ok (.aload_n 0, 1) := by decide +kernel
theorem dX11_rule_22 : decode cX11_rule 22 = .ok (.invokevirtual 145, 3) := by decide +kernel
theorem dX11_rule_25 : decode cX11_rule 25 = .ok (.iload_n 2, 1) := by decide +kernel
theorem dX11_rule_26 : decode cX11_rule 26 = .ok (.ireturn, 1) := by decide +kernel
theorem dX11_narrow_0 : decode cX11_narrow 0 = .ok (.aload_n 0, 1) := by decide +kernel
theorem dX11_narrow_1 : decode cX11_narrow 1 = .ok (.iload_n 1, 1) := by decide +kernel
theorem dX11_narrow_2 : decode cX11_narrow 2 = .ok (.invokevirtual 174, 3) := by decide +kernel
theorem dX11_narrow_5 : decode cX11_narrow 5 = .ok (.ifCond .eq 24, 3) := by decide +kernel
theorem dX11_narrow_8 : decode cX11_narrow 8 = .ok (.iload_n 2, 1) := by decide +kernel
theorem dX11_narrow_9 : decode cX11_narrow 9 = .ok (.iload_n 3, 1) := by decide +kernel
theorem dX11_narrow_10 : decode cX11_narrow 10 = .ok (.invokestatic 191, 3) := by decide +kernel
theorem dX11_narrow_13 : decode cX11_narrow 13 = .ok (.ifCond .eq 16, 3) := by decide +kernel
theorem dX11_narrow_16 : decode cX11_narrow 16 = .ok (.aload_n 0, 1) := by decide +kernel
theorem dX11_narrow_17 : decode cX11_narrow 17 = .ok (.getfield 44, 3) := by decide +kernel
theorem dX11_narrow_20 : decode cX11_narrow 20 = .ok (.iload_n 1, 1) := by decide +kernel
theorem dX11_narrow_21 : decode cX11_narrow 21 = .ok (.iload_n 2, 1) := by decide +kernel
theorem dX11_narrow_22 : decode cX11_narrow 22 = .ok (.iload_n 3, 1) := by decide +kernel
theorem dX11_narrow_23 : decode cX11_narrow 23 = .ok (.invokevirtual 195, 3) := by decide +kernel
theorem dX11_narrow_26 : decode cX11_narrow 26 = .ok (.ifCond .ne 5, 3) := by decide +kernel
theorem dX11_narrow_29 : decode cX11_narrow 29 = .ok (.iconst 0, 1) := by decide +kernel
theorem dX11_narrow_30 : decode cX11_narrow 30 = .ok (.ireturn, 1) := by decide +kernel
theorem dX11_narrow_31 : decode cX11_narrow 31 = .ok (.aload_n 0, 1) := by decide +kernel
theorem dX11_narrow_32 : decode cX11_narrow 32 = .ok (.getfield 44, 3) := by decide +kernel
theorem dX11_narrow_35 : decode cX11_narrow 35 = .ok (.getfield 148, 3) := by decide +kernel
theorem dX11_narrow_38 : decode cX11_narrow 38 = .ok (.iload_n 1, 1) := by decide +kernel
theorem dX11_narrow_39 : decode cX11_narrow 39 = .ok (.iload_n 2, 1) := by decide +kernel
theorem dX11_narrow_40 : decode cX11_narrow 40 = .ok (.iastore, 1) := by decide +kernel
theorem dX11_narrow_41 : decode cX11_narrow 41 = .ok (.aload_n 0, 1) := by decide +kernel
theorem dX11_narrow_42 : decode cX11_narrow 42 = .ok (.getfield 44, 3) := by decide +kernel
theorem dX11_narrow_45 : decode cX11_narrow 45 = .ok (.getfield 152, 3) := by decide +kernel
theorem dX11_narrow_48 : decode cX11_narrow 48 = .ok (.iload_n 1, 1) := by decide +kernel
theorem dX11_narrow_49 : decode cX11_narrow 49 = .ok (.iload_n 3, 1) := by decide +kernel
theorem dX11_narrow_50 : decode cX11_narrow 50 = .ok (.iastore, 1) := by decide +kernel
theorem dX11_narrow_51 : decode cX11_narrow 51 = .ok (.aload_n 0, 1) := by decide +kernel
theorem dX11_narrow_52 : decode cX11_narrow 52 = .ok (.invokevirtual 145, 3) := by decide +kernel
theorem dX11_narrow_55 : decode cX11_narrow 55 = .ok (.iconst 1, 1) := by decide +kernel
theorem dX11_narrow_56 : decode cX11_narrow 56 = .ok (.ireturn, 1) := by decide +kernel
theorem dX11_input_0 : decode cX11_input 0 = .ok (.aload_n 0, 1) := by decide +kernel
theorem dX11_input_1 : decode cX11_input 1 = .ok (.iload_n 1, 1) := by decide +kernel
theorem dX11_input_2 : decode cX11_input 2 = .ok (.invokevirtual 174, 3) := by decide +kernel
theorem dX11_input_5 : decode cX11_input 5 = .ok (.ifCond .ne 5, 3) := by decide +kernel
theorem dX11_input_8 : decode cX11_input 8 = .ok (.iconst (-1), 1) := by decide +kernel
theorem dX11_input_9 : decode cX11_input 9 = .ok (.ireturn, 1) := by decide +kernel
theorem dX11_input_10 : decode cX11_input 10 = .ok (.iload_n 2, 1) := by decide +kernel
theorem dX11_input_11 : decode cX11_input 11 = .ok (.tableswitch 101 0 7 #[45, 47, 57, 67, 85, 85, 85, 85], 45) := by decide +kernel
theorem dX11_input_56 : decode cX11_input 56 = .ok (.iload_n 1, 1) := by decide +kernel
theorem dX11_input_57 : decode cX11_input 57 = .ok (.ireturn, 1) := by decide +kernel
theorem dX11_input_58 : decode cX11_input 58 = .ok (.aload_n 0, 1) := by decide +kernel
theorem dX11_input_59 : decode cX11_input 59 = .ok (.getfield 44, 3) := by decide +kernel
theorem dX11_input_62 : decode cX11_input 62 = .ok (.getfield 148, 3) := by decide +kernel
theorem dX11_input_65 : decode cX11_input 65 = .ok (.iload_n 1, 1) := by decide +kernel
theorem dX11_input_66 : decode cX11_input 66 = .ok (.iaload, 1) := by decide +kernel
theorem dX11_input_67 : decode cX11_input 67 = .ok (.ireturn, 1) := by decide +kernel
theorem dX11_input_68 : decode cX11_input 68 = .ok (.aload_n 0, 1) := by decide +kernel
theorem dX11_input_69 : decode cX11_input 69 = .ok (.getfield 44, 3) := by decide +kernel
theorem dX11_input_72 : decode cX11_input 72 = .ok (.getfield 152, 3) := by decide +kernel
theorem dX11_input_75 : decode cX11_input 75 = .ok (.iload_n 1, 1) := by decide +kernel
theorem dX11_input_76 : decode cX11_input 76 = .ok (.iaload, 1) := by decide +kernel
theorem dX11_input_77 : decode cX11_input 77 = .ok (.ireturn, 1) := by decide +kernel
theorem dX11_input_78 : decode cX11_input 78 = .ok (.aload_n 0, 1) := by decide +kernel
theorem dX11_input_79 : decode cX11_input 79 = .ok (.getfield 103, 3) := by decide +kernel
theorem dX11_input_82 : decode cX11_input 82 = .ok (.getfield 184, 3) := by decide +kernel
theorem dX11_input_85 : decode cX11_input 85 = .ok (.iload_n 1, 1) := by decide +kernel
theorem dX11_input_86 : decode cX11_input 86 = .ok (.baload, 1) := by decide +kernel
theorem dX11_input_87 : decode cX11_input 87 = .ok (.ifCond .eq 7, 3) := by decide +kernel
theorem dX11_input_90 : decode cX11_input 90 = .ok (.iconst 1, 1) := by decide +kernel
theorem dX11_input_91 : decode cX11_input 91 = .ok (.goto 4, 3) := by decide +kernel
theorem dX11_input_94 : decode cX11_input 94 = .ok (.iconst 0, 1) := by decide +kernel
theorem dX11_input_95 : decode cX11_input 95 = .ok (.ireturn, 1) := by decide +kernel
theorem dX11_input_96 : decode cX11_input 96 = .ok (.aload_n 0, 1) := by decide +kernel
theorem dX11_input_97 : decode cX11_input 97 = .ok (.getfield 44, 3) := by decide +kernel
theorem dX11_input_100 : decode cX11_input 100 = .ok (.getfield 181, 3) := by decide +kernel
theorem dX11_input_103 : decode cX11_input 103 = .ok (.iconst 4, 1) := by decide +kernel
theorem dX11_input_104 : decode cX11_input 104 = .ok (.iload_n 1, 1) := by decide +kernel
theorem dX11_input_105 : decode cX11_input 105 = .ok (.imul, 1) := by decide +kernel
theorem dX11_input_106 : decode cX11_input 106 = .ok (.iload_n 2, 1) := by decide +kernel
theorem dX11_input_107 : decode cX11_input 107 = .ok (.iadd, 1) := by decide +kernel
theorem dX11_input_108 : decode cX11_input 108 = .ok (.iconst 4, 1) := by decide +kernel
theorem dX11_input_109 : decode cX11_input 109 = .ok (.isub, 1) := by decide +kernel
theorem dX11_input_110 : decode cX11_input 110 = .ok (.iaload, 1) := by decide +kernel
theorem dX11_input_111 : decode cX11_input 111 = .ok (.ireturn, 1) := by decide +kernel
theorem dX11_input_112 : decode cX11_input 112 = .ok (.iconst (-1), 1) := by decide +kernel
theorem dX11_input_113 : decode cX11_input 113 = .ok (.ireturn, 1) := by decide +kernel
theorem dX11_value_0 : decode cX11_value 0 = .ok (.aload_n 0, 1) := by decide +kernel
theorem dX11_value_1 : decode cX11_value 1 = .ok (.iload_n 1, 1) := by decide +kernel
theorem dX11_value_2 : decode cX11_value 2 = .ok (.invokevirtual 199, 3) := by decide +kernel
theorem dX11_value_5 : decode cX11_value 5 = .ok (.ifCond .ne 6, 3) := by decide +kernel
theorem dX11_value_8 : decode cX11_value 8 = .ok (.bipush (-2), 2) := by decide +kernel
theorem dX11_value_10 : decode cX11_value 10 = .ok (.ireturn, 1) := by decide +kernel
theorem dX11_value_11 : decode cX11_value 11 = .ok (.iload_n 2, 1) := by decide +kernel
theorem dX11_value_12 : decode cX11_value 12 = .ok (.tableswitch 186 0 10 #[60, 70, 70, 70, 86, 104, 122, 139, 156, 166, 176], 60) := by decide +kernel
theorem dX11_value_72 : decode cX11_value 72 = .ok (.aload_n 0, 1) := by decide +kernel
theorem dX11_value_73 : decode cX11_value 73 = .ok (.getfield 37, 3) := by decide +kernel
theorem dX11_value_76 : decode cX11_value 76 = .ok (.getfield 202, 3) := by decide +kernel
theorem dX11_value_79 : decode cX11_value 79 = .ok (.iload_n 1, 1) := by decide +kernel
theorem dX11_value_80 : decode cX11_value 80 = .ok (.iaload, 1) := by decide +kernel
theorem dX11_value_81 : decode cX11_value 81 = .ok (.ireturn, 1) := by decide +kernel
theorem dX11_value_82 : decode cX11_value 82 = .ok (.aload_n 0, 1) := by decide +kernel
theorem dX11_value_83 : decode cX11_value 83 = .ok (.getfield 37, 3) := by decide +kernel
theorem dX11_value_86 : decode cX11_value 86 = .ok (.getfield 205, 3) := by decide +kernel
theorem dX11_value_89 : decode cX11_value 89 = .ok (.iconst 3, 1) := by decide +kernel
theorem dX11_value_90 : decode cX11_value 90 = .ok (.iload_n 1, 1) := by decide +kernel
theorem dX11_value_91 : decode cX11_value 91 = .ok (.imul, 1) := by decide +kernel
theorem dX11_value_92 : decode cX11_value 92 = .ok (.iload_n 2, 1) := by decide +kernel
theorem dX11_value_93 : decode cX11_value 93 = .ok (.iadd, 1) := by decide +kernel
theorem dX11_value_94 : decode cX11_value 94 = .ok (.iconst 1, 1) := by decide +kernel
theorem dX11_value_95 : decode cX11_value 95 = .ok (.isub, 1) := by decide +kernel
theorem dX11_value_96 : decode cX11_value 96 = .ok (.iaload, 1) := by decide +kernel
theorem dX11_value_97 : decode cX11_value 97 = .ok (.ireturn, 1) := by decide +kernel
theorem dX11_value_98 : decode cX11_value 98 = .ok (.aload_n 0, 1) := by decide +kernel
theorem dX11_value_99 : decode cX11_value 99 = .ok (.getfield 37, 3) := by decide +kernel
theorem dX11_value_102 : decode cX11_value 102 = .ok (.getfield 208, 3) := by decide +kernel
theorem dX11_value_105 : decode cX11_value 105 = .ok (.iload_n 1, 1) := by decide +kernel
theorem dX11_value_106 : decode cX11_value 106 = .ok (.baload, 1) := by decide +kernel
theorem dX11_value_107 : decode cX11_value 107 = .ok (.ifCond .eq 7, 3) := by decide +kernel
theorem dX11_value_110 : decode cX11_value 110 = .ok (.iconst 1, 1) := by decide +kernel
theorem dX11_value_111 : decode cX11_value 111 = .ok (.goto 4, 3) := by decide +kernel
theorem dX11_value_114 : decode cX11_value 114 = .ok (.iconst 0, 1) := by decide +kernel
theorem dX11_value_115 : decode cX11_value 115 = .ok (.ireturn, 1) := by decide +kernel
theorem dX11_value_116 : decode cX11_value 116 = .ok (.aload_n 0, 1) := by decide +kernel
theorem dX11_value_117 : decode cX11_value 117 = .ok (.getfield 37, 3) := by decide +kernel
theorem dX11_value_120 : decode cX11_value 120 = .ok (.getfield 211, 3) := by decide +kernel
theorem dX11_value_123 : decode cX11_value 123 = .ok (.iload_n 1, 1) := by decide +kernel
theorem dX11_value_124 : decode cX11_value 124 = .ok (.baload, 1) := by decide +kernel
theorem dX11_value_125 : decode cX11_value 125 = .ok (.ifCond .eq 7, 3) := by decide +kernel
theorem dX11_value_128 : decode cX11_value 128 = .ok (.iconst 1, 1) := by decide +kernel
theorem dX11_value_129 : decode cX11_value 129 = .ok (.goto 4, 3) := by decide +kernel
theorem dX11_value_132 : decode cX11_value 132 = .ok (.iconst 0, 1) := by decide +kernel
theorem dX11_value_133 : decode cX11_value 133 = .ok (.ireturn, 1) := by decide +kernel
theorem dX11_value_134 : decode cX11_value 134 = .ok (.aload_n 0, 1) := by decide +kernel
theorem dX11_value_135 : decode cX11_value 135 = .ok (.getfield 62, 3) := by decide +kernel
theorem dX11_value_138 : decode cX11_value 138 = .ok (.iload_n 1, 1) := by decide +kernel
theorem dX11_value_139 : decode cX11_value 139 = .ok (.invokevirtual 214, 3) := by decide +kernel
theorem dX11_value_142 : decode cX11_value 142 = .ok (.ifCond .eq 7, 3) := by decide +kernel
theorem dX11_value_145 : decode cX11_value 145 = .ok (.iconst 1, 1) := by decide +kernel
theorem dX11_value_146 : decode cX11_value 146 = .ok (.goto 4, 3) := by decide +kernel
theorem dX11_value_149 : decode cX11_value 149 = .ok (.iconst 0, 1) := by decide +kernel
theorem dX11_value_150 : decode cX11_value 150 = .ok (.ireturn, 1) := by decide +kernel
theorem dX11_value_151 : decode cX11_value 151 = .ok (.aload_n 0, 1) := by decide +kernel
theorem dX11_value_152 : decode cX11_value 152 = .ok (.getfield 71, 3) := by decide +kernel
theorem dX11_value_155 : decode cX11_value 155 = .ok (.iload_n 1, 1) := by decide +kernel
theorem dX11_value_156 : decode cX11_value 156 = .ok (.invokevirtual 217, 3) := by decide +kernel
theorem dX11_value_159 : decode cX11_value 159 = .ok (.ifCond .eq 7, 3) := by decide +kernel
theorem dX11_value_162 : decode cX11_value 162 = .ok (.iconst 1, 1) := by decide +kernel
theorem dX11_value_163 : decode cX11_value 163 = .ok (.goto 4, 3) := by decide +kernel
theorem dX11_value_166 : decode cX11_value 166 = .ok (.iconst 0, 1) := by decide +kernel
theorem dX11_value_167 : decode cX11_value 167 = .ok (.ireturn, 1) := by decide +kernel
theorem dX11_value_168 : decode cX11_value 168 = .ok (.aload_n 0, 1) := by decide +kernel
theorem dX11_value_169 : decode cX11_value 169 = .ok (.getfield 71, 3) := by decide +kernel
theorem dX11_value_172 : decode cX11_value 172 = .ok (.getfield 220, 3) := by decide +kernel
theorem dX11_value_175 : decode cX11_value 175 = .ok (.iload_n 1, 1) := by decide +kernel
theorem dX11_value_176 : decode cX11_value 176 = .ok (.iaload, 1) := by decide +kernel
theorem dX11_value_177 : decode cX11_value 177 = .ok (.ireturn, 1) := by decide +kernel
theorem dX11_value_178 : decode cX11_value 178 = .ok (.aload_n 0, 1) := by decide +kernel
theorem dX11_value_179 : decode cX11_value 179 = .ok (.getfield 71, 3) := by decide +kernel
theorem dX11_value_182 : decode cX11_value 182 = .ok (.getfield 223, 3) := by decide +kernel
theorem dX11_value_185 : decode cX11_value 185 = .ok (.iload_n 1, 1) := by decide +kernel
theorem dX11_value_186 : decode cX11_value 186 = .ok (.iaload, 1) := by decide +kernel
theorem dX11_value_187 : decode cX11_value 187 = .ok (.ireturn, 1) := by decide +kernel
theorem dX11_value_188 : decode cX11_value 188 = .ok (.aload_n 0, 1) := by decide +kernel
theorem dX11_value_189 : decode cX11_value 189 = .ok (.getfield 62, 3) := by decide +kernel
theorem dX11_value_192 : decode cX11_value 192 = .ok (.getfield 226, 3) := by decide +kernel
theorem dX11_value_195 : decode cX11_value 195 = .ok (.iload_n 1, 1) := by decide +kernel
theorem dX11_value_196 : decode cX11_value 196 = .ok (.iaload, 1) := by decide +kernel
theorem dX11_value_197 : decode cX11_value 197 = .ok (.ireturn, 1) := by decide +kernel
theorem dX11_value_198 : decode cX11_value 198 = .ok (.bipush (-2), 2) := by decide +kernel
theorem dX11_value_200 : decode cX11_value 200 = .ok (.ireturn, 1) := by decide +kernel
theorem dX11_range_0 : decode cX11_range 0 = .ok (.aload_n 0, 1) := by decide +kernel
theorem dX11_range_1 : decode cX11_range 1 = .ok (.iload_n 1, 1) := by decide +kernel
theorem dX11_range_2 : decode cX11_range 2 = .ok (.invokevirtual 199, 3) := by decide +kernel
theorem dX11_range_5 : decode cX11_range 5 = .ok (.ifCond .eq 12, 3) := by decide +kernel
theorem dX11_range_8 : decode cX11_range 8 = .ok (.iload_n 2, 1) := by decide +kernel
theorem dX11_range_9 : decode cX11_range 9 = .ok (.ifCond .lt 8, 3) := by decide +kernel
theorem dX11_range_12 : decode cX11_range 12 = .ok (.iload_n 2, 1) := by decide +kernel
theorem dX11_range_13 : decode cX11_range 13 = .ok (.iconst 1, 1) := by decide +kernel
theorem dX11_range_14 : decode cX11_range 14 = .ok (.if_icmp .le 6, 3) := by decide +kernel
theorem dX11_range_17 : decode cX11_range 17 = .ok (.ldc 229, 2) := by decide +kernel
theorem dX11_range_19 : decode cX11_range 19 = .ok (.ireturn, 1) := by decide +kernel
theorem dX11_range_20 : decode cX11_range 20 = .ok (.iload_n 2, 1) := by decide +kernel
theorem dX11_range_21 : decode cX11_range 21 = .ok (.ifCond .ne 15, 3) := by decide +kernel
theorem dX11_range_24 : decode cX11_range 24 = .ok (.aload_n 0, 1) := by decide +kernel
theorem dX11_range_25 : decode cX11_range 25 = .ok (.getfield 62, 3) := by decide +kernel
theorem dX11_range_28 : decode cX11_range 28 = .ok (.getfield 230, 3) := by decide +kernel
theorem dX11_range_31 : decode cX11_range 31 = .ok (.iload_n 1, 1) := by decide +kernel
theorem dX11_range_32 : decode cX11_range 32 = .ok (.iaload, 1) := by decide +kernel
theorem dX11_range_33 : decode cX11_range 33 = .ok (.goto 12, 3) := by decide +kernel
theorem dX11_range_36 : decode cX11_range 36 = .ok (.aload_n 0, 1) := by decide +kernel
theorem dX11_range_37 : decode cX11_range 37 = .ok (.getfield 62, 3) := by decide +kernel
theorem dX11_range_40 : decode cX11_range 40 = .ok (.getfield 233, 3) := by decide +kernel
theorem dX11_range_43 : decode cX11_range 43 = .ok (.iload_n 1, 1) := by decide +kernel
theorem dX11_range_44 : decode cX11_range 44 = .ok (.iaload, 1) := by decide +kernel
theorem dX11_range_45 : decode cX11_range 45 = .ok (.ireturn, 1) := by decide +kernel
theorem dX11_is_0 : decode cX11_is 0 = .ok (.aload_n 0, 1) := by decide +kernel
theorem dX11_is_1 : decode cX11_is 1 = .ok (.iload_n 1, 1) := by decide +kernel
theorem dX11_is_2 : decode cX11_is 2 = .ok (.invokevirtual 199, 3) := by decide +kernel
theorem dX11_is_5 : decode cX11_is 5 = .ok (.ifCond .eq 26, 3) := by decide +kernel
theorem dX11_is_8 : decode cX11_is 8 = .ok (.iload_n 2, 1) := by decide +kernel
theorem dX11_is_9 : decode cX11_is 9 = .ok (.invokestatic 178, 3) := by decide +kernel
theorem dX11_is_12 : decode cX11_is 12 = .ok (.ifCond .eq 19, 3) := by decide +kernel
theorem dX11_is_15 : decode cX11_is 15 = .ok (.aload_n 0, 1) := by decide +kernel
theorem dX11_is_16 : decode cX11_is 16 = .ok (.getfield 53, 3) := by decide +kernel
theorem dX11_is_19 : decode cX11_is 19 = .ok (.aload_n 0, 1) := by decide +kernel
theorem dX11_is_20 : decode cX11_is 20 = .ok (.getfield 37, 3) := by decide +kernel
theorem dX11_is_23 : decode cX11_is 23 = .ok (.iload_n 2, 1) := by decide +kernel
theorem dX11_is_24 : decode cX11_is 24 = .ok (.iload_n 1, 1) := by decide +kernel
theorem dX11_is_25 : decode cX11_is 25 = .ok (.invokevirtual 236, 3) := by decide +kernel
theorem dX11_is_28 : decode cX11_is 28 = .ok (.goto 5, 3) := by decide +kernel
theorem dX11_is_31 : decode cX11_is 31 = .ok (.ldc 229, 2) := by decide +kernel
theorem dX11_is_33 : decode cX11_is 33 = .ok (.ireturn, 1) := by decide +kernel
theorem dX11_differs_0 : decode cX11_differs 0 = .ok (.aload_n 0, 1) := by decide +kernel
theorem dX11_differs_1 : decode cX11_differs 1 = .ok (.iload_n 1, 1) := by decide +kernel
theorem dX11_differs_2 : decode cX11_differs 2 = .ok (.invokevirtual 199, 3) := by decide +kernel
theorem dX11_differs_5 : decode cX11_differs 5 = .ok (.ifCond .ne 5, 3) := by decide +kernel
theorem dX11_differs_8 : decode cX11_differs 8 = .ok (.iconst (-1), 1) := by decide +kernel
theorem dX11_differs_9 : decode cX11_differs 9 = .ok (.ireturn, 1) := by decide +kernel
theorem dX11_differs_10 : decode cX11_differs 10 = .ok (.aload_n 0, 1) := by decide +kernel
theorem dX11_differs_11 : decode cX11_differs 11 = .ok (.getfield 53, 3) := by decide +kernel
theorem dX11_differs_14 : decode cX11_differs 14 = .ok (.aload_n 0, 1) := by decide +kernel
theorem dX11_differs_15 : decode cX11_differs 15 = .ok (.getfield 37, 3) := by decide +kernel
theorem dX11_differs_18 : decode cX11_differs 18 = .ok (.iconst 0, 1) := by decide +kernel
theorem dX11_differs_19 : decode cX11_differs 19 = .ok (.iload_n 1, 1) := by decide +kernel
theorem dX11_differs_20 : decode cX11_differs 20 = .ok (.invokevirtual 236, 3) := by decide +kernel
theorem dX11_differs_23 : decode cX11_differs 23 = .ok (.istore_n 2, 1) := by decide +kernel
theorem dX11_differs_24 : decode cX11_differs 24 = .ok (.iconst 0, 1) := by decide +kernel
theorem dX11_differs_25 : decode cX11_differs 25 = .ok (.istore_n 3, 1) := by decide +kernel
theorem dX11_differs_26 : decode cX11_differs 26 = .ok (.iconst 1, 1) := by decide +kernel
theorem dX11_differs_27 : decode cX11_differs 27 = .ok (.istore 4, 2) := by decide +kernel
theorem dX11_differs_29 : decode cX11_differs 29 = .ok (.iload 4, 2) := by decide +kernel
theorem dX11_differs_31 : decode cX11_differs 31 = .ok (.iconst 4, 1) := by decide +kernel
theorem dX11_differs_32 : decode cX11_differs 32 = .ok (.if_icmp .ge 34, 3) := by decide +kernel
theorem dX11_differs_35 : decode cX11_differs 35 = .ok (.aload_n 0, 1) := by decide +kernel
theorem dX11_differs_36 : decode cX11_differs 36 = .ok (.getfield 53, 3) := by decide +kernel
theorem dX11_differs_39 : decode cX11_differs 39 = .ok (.aload_n 0, 1) := by decide +kernel
theorem dX11_differs_40 : decode cX11_differs 40 = .ok (.getfield 37, 3) := by decide +kernel
theorem dX11_differs_43 : decode cX11_differs 43 = .ok (.iload 4, 2) := by decide +kernel
theorem dX11_differs_45 : decode cX11_differs 45 = .ok (.iload_n 1, 1) := by decide +kernel
theorem dX11_differs_46 : decode cX11_differs 46 = .ok (.invokevirtual 236, 3) := by decide +kernel
theorem dX11_differs_49 : decode cX11_differs 49 = .ok (.iload_n 2, 1) := by decide +kernel
theorem dX11_differs_50 : decode cX11_differs 50 = .ok (.if_icmp .eq 10, 3) := by decide +kernel
theorem dX11_differs_53 : decode cX11_differs 53 = .ok (.iload_n 3, 1) := by decide +kernel
theorem dX11_differs_54 : decode cX11_differs 54 = .ok (.iconst 1, 1) := by decide +kernel
theorem dX11_differs_55 : decode cX11_differs 55 = .ok (.iload 4, 2) := by decide +kernel
theorem dX11_differs_57 : decode cX11_differs 57 = .ok (.ishl, 1) := by decide +kernel
theorem dX11_differs_58 : decode cX11_differs 58 = .ok (.ior, 1) := by decide +kernel
theorem dX11_differs_59 : decode cX11_differs 59 = .ok (.istore_n 3, 1) := by decide +kernel
theorem dX11_differs_60 : decode cX11_differs 60 = .ok (.iinc 4 1, 3) := by decide +kernel
theorem dX11_differs_63 : decode cX11_differs 63 = .ok (.goto (-34), 3) := by decide +kernel
theorem dX11_differs_66 : decode cX11_differs 66 = .ok (.iload_n 3, 1) := by decide +kernel
theorem dX11_differs_67 : decode cX11_differs 67 = .ok (.ireturn, 1) := by decide +kernel
theorem dX11_shown_0 : decode cX11_shown 0 = .ok (.aload_n 0, 1) := by decide +kernel
theorem dX11_shown_1 : decode cX11_shown 1 = .ok (.iload_n 1, 1) := by decide +kernel
theorem dX11_shown_2 : decode cX11_shown 2 = .ok (.invokevirtual 240, 3) := by decide +kernel
theorem dX11_shown_5 : decode cX11_shown 5 = .ok (.ifCond .eq 15, 3) := by decide +kernel
theorem dX11_shown_8 : decode cX11_shown 8 = .ok (.aload_n 0, 1) := by decide +kernel
theorem dX11_shown_9 : decode cX11_shown 9 = .ok (.getfield 37, 3) := by decide +kernel
theorem dX11_shown_12 : decode cX11_shown 12 = .ok (.getfield 243, 3) := by decide +kernel
theorem dX11_shown_15 : decode cX11_shown 15 = .ok (.iload_n 1, 1) := by decide +kernel
theorem dX11_shown_16 : decode cX11_shown 16 = .ok (.iaload, 1) := by decide +kernel
theorem dX11_shown_17 : decode cX11_shown 17 = .ok (.goto 4, 3) := by decide +kernel
theorem dX11_shown_20 : decode cX11_shown 20 = .ok (.iconst (-1), 1) := by decide +kernel
theorem dX11_shown_21 : decode cX11_shown 21 = .ok (.ireturn, 1) := by decide +kernel
theorem dX11_walked_0 : decode cX11_walked 0 = .ok (.iload_n 1, 1) := by decide +kernel
theorem dX11_walked_1 : decode cX11_walked 1 = .ok (.invokestatic 178, 3) := by decide +kernel
theorem dX11_walked_4 : decode cX11_walked 4 = .ok (.ifCond .eq 11, 3) := by decide +kernel
theorem dX11_walked_7 : decode cX11_walked 7 = .ok (.aload_n 0, 1) := by decide +kernel
theorem dX11_walked_8 : decode cX11_walked 8 = .ok (.iload_n 2, 1) := by decide +kernel
theorem dX11_walked_9 : decode cX11_walked 9 = .ok (.invokevirtual 240, 3) := by decide +kernel
theorem dX11_walked_12 : decode cX11_walked 12 = .ok (.ifCond .ne 11, 3) := by decide +kernel
theorem dX11_walked_15 : decode cX11_walked 15 = .ok (.new 246, 3) := by decide +kernel
theorem dX11_walked_18 : decode cX11_walked 18 = .ok (.dup, 1) := by decide +kernel
theorem dX11_walked_19 : decode cX11_walked 19 = .ok (.invokespecial 248, 3) := by decide +kernel
theorem dX11_walked_22 : decode cX11_walked 22 = .ok (.athrow, 1) := by decide +kernel
theorem dX11_walked_23 : decode cX11_walked 23 = .ok (.aload_n 0, 1) := by decide +kernel
theorem dX11_walked_24 : decode cX11_walked 24 = .ok (.getfield 53, 3) := by decide +kernel
theorem dX11_walked_27 : decode cX11_walked 27 = .ok (.aload_n 0, 1) := by decide +kernel
theorem dX11_walked_28 : decode cX11_walked 28 = .ok (.getfield 103, 3) := by decide +kernel
theorem dX11_walked_31 : decode cX11_walked 31 = .ok (.iload_n 1, 1) := by decide +kernel
theorem dX11_walked_32 : decode cX11_walked 32 = .ok (.iload_n 2, 1) := by decide +kernel
theorem dX11_walked_33 : decode cX11_walked 33 = .ok (.invokevirtual 249, 3) := by decide +kernel
theorem dX11_walked_36 : decode cX11_walked 36 = .ok (.ireturn, 1) := by decide +kernel
theorem dX11_ran_0 : decode cX11_ran 0 = .ok (.iload_n 1, 1) := by decide +kernel
theorem dX11_ran_1 : decode cX11_ran 1 = .ok (.invokestatic 178, 3) := by decide +kernel
theorem dX11_ran_4 : decode cX11_ran 4 = .ok (.ifCond .eq 11, 3) := by decide +kernel
theorem dX11_ran_7 : decode cX11_ran 7 = .ok (.aload_n 0, 1) := by decide +kernel
theorem dX11_ran_8 : decode cX11_ran 8 = .ok (.iload_n 2, 1) := by decide +kernel
theorem dX11_ran_9 : decode cX11_ran 9 = .ok (.invokevirtual 240, 3) := by decide +kernel
theorem dX11_ran_12 : decode cX11_ran 12 = .ok (.ifCond .ne 11, 3) := by decide +kernel
theorem dX11_ran_15 : decode cX11_ran 15 = .ok (.new 246, 3) := by decide +kernel
theorem dX11_ran_18 : decode cX11_ran 18 = .ok (.dup, 1) := by decide +kernel
theorem dX11_ran_19 : decode cX11_ran 19 = .ok (.invokespecial 248, 3) := by decide +kernel
theorem dX11_ran_22 : decode cX11_ran 22 = .ok (.athrow, 1) := by decide +kernel
theorem dX11_ran_23 : decode cX11_ran 23 = .ok (.aload_n 0, 1) := by decide +kernel
theorem dX11_ran_24 : decode cX11_ran 24 = .ok (.getfield 53, 3) := by decide +kernel
theorem dX11_ran_27 : decode cX11_ran 27 = .ok (.aload_n 0, 1) := by decide +kernel
theorem dX11_ran_28 : decode cX11_ran 28 = .ok (.getfield 80, 3) := by decide +kernel
theorem dX11_ran_31 : decode cX11_ran 31 = .ok (.iload_n 1, 1) := by decide +kernel
theorem dX11_ran_32 : decode cX11_ran 32 = .ok (.invokevirtual 253, 3) := by decide +kernel
theorem dX11_ran_35 : decode cX11_ran 35 = .ok (.aload_n 0, 1) := by decide +kernel
theorem dX11_ran_36 : decode cX11_ran 36 = .ok (.getfield 53, 3) := by decide +kernel
theorem dX11_ran_39 : decode cX11_ran 39 = .ok (.aload_n 0, 1) := by decide +kernel
theorem dX11_ran_40 : decode cX11_ran 40 = .ok (.getfield 80, 3) := by decide +kernel
theorem dX11_ran_43 : decode cX11_ran 43 = .ok (.aload_n 0, 1) := by decide +kernel
theorem dX11_ran_44 : decode cX11_ran 44 = .ok (.getfield 37, 3) := by decide +kernel
theorem dX11_ran_47 : decode cX11_ran 47 = .ok (.getfield 243, 3) := by decide +kernel
theorem dX11_ran_50 : decode cX11_ran 50 = .ok (.iload_n 2, 1) := by decide +kernel
theorem dX11_ran_51 : decode cX11_ran 51 = .ok (.iaload, 1) := by decide +kernel
theorem dX11_ran_52 : decode cX11_ran 52 = .ok (.invokevirtual 257, 3) := by decide +kernel
theorem dX11_ran_55 : decode cX11_ran 55 = .ok (.ireturn, 1) := by decide +kernel
theorem dX11_all_0 : decode cX11_all 0 = .ok (.lconst 0, 1) := by decide +kernel
theorem dX11_all_1 : decode cX11_all 1 = .ok (.lstore_n 2, 1) := by decide +kernel
theorem dX11_all_2 : decode cX11_all 2 = .ok (.iconst 0, 1) := by decide +kernel
theorem dX11_all_3 : decode cX11_all 3 = .ok (.istore 4, 2) := by decide +kernel
theorem dX11_all_5 : decode cX11_all 5 = .ok (.iload 4, 2) := by decide +kernel
theorem dX11_all_7 : decode cX11_all 7 = .ok (.aload_n 0, 1) := by decide +kernel
theorem dX11_all_8 : decode cX11_all 8 = .ok (.getfield 37, 3) := by decide +kernel
theorem dX11_all_11 : decode cX11_all 11 = .ok (.getfield 261, 3) := by decide +kernel
theorem dX11_all_14 : decode cX11_all 14 = .ok (.if_icmp .ge 26, 3) := by decide +kernel
theorem dX11_all_17 : decode cX11_all 17 = .ok (.aload_n 0, 1) := by decide +kernel
theorem dX11_all_18 : decode cX11_all 18 = .ok (.iload 4, 2) := by decide +kernel
theorem dX11_all_20 : decode cX11_all 20 = .ok (.iload_n 1, 1) := by decide +kernel
theorem dX11_all_21 : decode cX11_all 21 = .ok (.invokevirtual 264, 3) := by decide +kernel
theorem dX11_all_24 : decode cX11_all 24 = .ok (.ifCond .eq 10, 3) := by decide +kernel
theorem dX11_all_27 : decode cX11_all 27 = .ok (.lload_n 2, 1) := by decide +kernel
theorem dX11_all_28 : decode cX11_all 28 = .ok (.lconst 1, 1) := by decide +kernel
theorem dX11_all_29 : decode cX11_all 29 = .ok (.iload 4, 2) := by decide +kernel
theorem dX11_all_31 : decode cX11_all 31 = .ok (.lshl, 1) := by decide +kernel
theorem dX11_all_32 : decode cX11_all 32 = .ok (.lor, 1) := by decide +kernel
theorem dX11_all_33 : decode cX11_all 33 = .ok (.lstore_n 2, 1) := by decide +kernel
theorem dX11_all_34 : decode cX11_all 34 = .ok (.iinc 4 1, 3) := by decide +kernel
theorem dX11_all_37 : decode cX11_all 37 = .ok (.goto (-32), 3) := by decide +kernel
theorem dX11_all_40 : decode cX11_all 40 = .ok (.lload_n 2, 1) := by decide +kernel
theorem dX11_all_41 : decode cX11_all 41 = .ok (.lreturn, 1) := by decide +kernel
theorem dX11_belongs_0 : decode cX11_belongs 0 = .ok (.iload_n 2, 1) := by decide +kernel
theorem dX11_belongs_1 : decode cX11_belongs 1 = .ok (.tableswitch 119 0 6 #[43, 52, 62, 71, 80, 90, 99], 43) := by decide +kernel
theorem dX11_belongs_44 : decode cX11_belongs 44 = .ok (.aload_n 0, 1) := by decide +kernel
theorem dX11_belongs_45 : decode cX11_belongs 45 = .ok (.getfield 71, 3) := by decide +kernel
theorem dX11_belongs_48 : decode cX11_belongs 48 = .ok (.iload_n 1, 1) := by decide +kernel
theorem dX11_belongs_49 : decode cX11_belongs 49 = .ok (.invokevirtual 217, 3) := by decide +kernel
theorem dX11_belongs_52 : decode cX11_belongs 52 = .ok (.ireturn, 1) := by decide +kernel
theorem dX11_belongs_53 : decode cX11_belongs 53 = .ok (.aload_n 0, 1) := by decide +kernel
theorem dX11_belongs_54 : decode cX11_belongs 54 = .ok (.getfield 37, 3) := by decide +kernel
theorem dX11_belongs_57 : decode cX11_belongs 57 = .ok (.getfield 211, 3) := by decide +kernel
theorem dX11_belongs_60 : decode cX11_belongs 60 = .ok (.iload_n 1, 1) := by decide +kernel
theorem dX11_belongs_61 : decode cX11_belongs 61 = .ok (.baload, 1) := by decide +kernel
theorem dX11_belongs_62 : decode cX11_belongs 62 = .ok (.ireturn, 1) := by decide +kernel
theorem dX11_belongs_63 : decode cX11_belongs 63 = .ok (.aload_n 0, 1) := by decide +kernel
theorem dX11_belongs_64 : decode cX11_belongs 64 = .ok (.getfield 62, 3) := by decide +kernel
theorem dX11_belongs_67 : decode cX11_belongs 67 = .ok (.iload_n 1, 1) := by decide +kernel
theorem dX11_belongs_68 : decode cX11_belongs 68 = .ok (.invokevirtual 214, 3) := by decide +kernel
theorem dX11_belongs_71 : decode cX11_belongs 71 = .ok (.ireturn, 1) := by decide +kernel
theorem dX11_belongs_72 : decode cX11_belongs 72 = .ok (.aload_n 0, 1) := by decide +kernel
theorem dX11_belongs_73 : decode cX11_belongs 73 = .ok (.getfield 62, 3) := by decide +kernel
theorem dX11_belongs_76 : decode cX11_belongs 76 = .ok (.iload_n 1, 1) := by decide +kernel
theorem dX11_belongs_77 : decode cX11_belongs 77 = .ok (.invokevirtual 267, 3) := by decide +kernel
theorem dX11_belongs_80 : decode cX11_belongs 80 = .ok (.ireturn, 1) := by decide +kernel
theorem dX11_belongs_81 : decode cX11_belongs 81 = .ok (.aload_n 0, 1) := by decide +kernel
theorem dX11_belongs_82 : decode cX11_belongs 82 = .ok (.getfield 37, 3) := by decide +kernel
theorem dX11_belongs_85 : decode cX11_belongs 85 = .ok (.getfield 208, 3) := by decide +kernel
theorem dX11_belongs_88 : decode cX11_belongs 88 = .ok (.iload_n 1, 1) := by decide +kernel
theorem dX11_belongs_89 : decode cX11_belongs 89 = .ok (.baload, 1) := by decide +kernel
theorem dX11_belongs_90 : decode cX11_belongs 90 = .ok (.ireturn, 1) := by decide +kernel
theorem dX11_belongs_91 : decode cX11_belongs 91 = .ok (.aload_n 0, 1) := by decide +kernel
theorem dX11_belongs_92 : decode cX11_belongs 92 = .ok (.getfield 37, 3) := by decide +kernel
theorem dX11_belongs_95 : decode cX11_belongs 95 = .ok (.iload_n 1, 1) := by decide +kernel
theorem dX11_belongs_96 : decode cX11_belongs 96 = .ok (.invokevirtual 270, 3) := by decide +kernel
theorem dX11_belongs_99 : decode cX11_belongs 99 = .ok (.ireturn, 1) := by decide +kernel
theorem dX11_belongs_100 : decode cX11_belongs 100 = .ok (.aload_n 0, 1) := by decide +kernel
theorem dX11_belongs_101 : decode cX11_belongs 101 = .ok (.getfield 37, 3) := by decide +kernel
theorem dX11_belongs_104 : decode cX11_belongs 104 = .ok (.getfield 202, 3) := by decide +kernel
theorem dX11_belongs_107 : decode cX11_belongs 107 = .ok (.iload_n 1, 1) := by decide +kernel
theorem dX11_belongs_108 : decode cX11_belongs 108 = .ok (.iaload, 1) := by decide +kernel
theorem dX11_belongs_109 : decode cX11_belongs 109 = .ok (.bipush 7, 2) := by decide +kernel
theorem dX11_belongs_111 : decode cX11_belongs 111 = .ok (.if_icmp .ne 7, 3) := by decide +kernel
theorem dX11_belongs_114 : decode cX11_belongs 114 = .ok (.iconst 1, 1) := by decide +kernel
theorem dX11_belongs_115 : decode cX11_belongs 115 = .ok (.goto 4, 3) := by decide +kernel
theorem dX11_belongs_118 : decode cX11_belongs 118 = .ok (.iconst 0, 1) := by decide +kernel
theorem dX11_belongs_119 : decode cX11_belongs 119 = .ok (.ireturn, 1) := by decide +kernel
theorem dX11_belongs_120 : decode cX11_belongs 120 = .ok (.iconst 0, 1) := by decide +kernel
theorem dX11_belongs_121 : decode cX11_belongs 121 = .ok (.ireturn, 1) := by decide +kernel
theorem dX11_kin_0 : decode cX11_kin 0 = .ok (.aload_n 0, 1) := by decide +kernel
theorem dX11_kin_1 : decode cX11_kin 1 = .ok (.iload_n 1, 1) := by decide +kernel
theorem dX11_kin_2 : decode cX11_kin 2 = .ok (.invokevirtual 199, 3) := by decide +kernel
theorem dX11_kin_5 : decode cX11_kin 5 = .ok (.ifCond .eq 14, 3) := by decide +kernel
theorem dX11_kin_8 : decode cX11_kin 8 = .ok (.aload_n 0, 1) := by decide +kernel
theorem dX11_kin_9 : decode cX11_kin 9 = .ok (.getfield 71, 3) := by decide +kernel
theorem dX11_kin_12 : decode cX11_kin 12 = .ok (.iload_n 1, 1) := by decide +kernel
theorem dX11_kin_13 : decode cX11_kin 13 = .ok (.invokevirtual 217, 3) := by decide +kernel
theorem dX11_kin_16 : decode cX11_kin 16 = .ok (.ifCond .ne 5, 3) := by decide +kernel
theorem dX11_kin_19 : decode cX11_kin 19 = .ok (.lconst 0, 1) := by decide +kernel
theorem dX11_kin_20 : decode cX11_kin 20 = .ok (.lreturn, 1) := by decide +kernel
theorem dX11_kin_21 : decode cX11_kin 21 = .ok (.iload_n 2, 1) := by decide +kernel
theorem dX11_kin_22 : decode cX11_kin 22 = .ok (.tableswitch 70 0 3 #[30, 40, 50, 60], 30) := by decide +kernel
theorem dX11_kin_52 : decode cX11_kin 52 = .ok (.aload_n 0, 1) := by decide +kernel
theorem dX11_kin_53 : decode cX11_kin 53 = .ok (.getfield 71, 3) := by decide +kernel
theorem dX11_kin_56 : decode cX11_kin 56 = .ok (.getfield 271, 3) := by decide +kernel
theorem dX11_kin_59 : decode cX11_kin 59 = .ok (.iload_n 1, 1) := by decide +kernel
theorem dX11_kin_60 : decode cX11_kin 60 = .ok (.laload, 1) := by decide +kernel
theorem dX11_kin_61 : decode cX11_kin 61 = .ok (.lreturn, 1) := by decide +kernel
theorem dX11_kin_62 : decode cX11_kin 62 = .ok (.aload_n 0, 1) := by decide +kernel
theorem dX11_kin_63 : decode cX11_kin 63 = .ok (.getfield 71, 3) := by decide +kernel
theorem dX11_kin_66 : decode cX11_kin 66 = .ok (.getfield 275, 3) := by decide +kernel
theorem dX11_kin_69 : decode cX11_kin 69 = .ok (.iload_n 1, 1) := by decide +kernel
theorem dX11_kin_70 : decode cX11_kin 70 = .ok (.laload, 1) := by decide +kernel
theorem dX11_kin_71 : decode cX11_kin 71 = .ok (.lreturn, 1) := by decide +kernel
theorem dX11_kin_72 : decode cX11_kin 72 = .ok (.aload_n 0, 1) := by decide +kernel
theorem dX11_kin_73 : decode cX11_kin 73 = .ok (.getfield 71, 3) := by decide +kernel
theorem dX11_kin_76 : decode cX11_kin 76 = .ok (.getfield 278, 3) := by decide +kernel
theorem dX11_kin_79 : decode cX11_kin 79 = .ok (.iload_n 1, 1) := by decide +kernel
theorem dX11_kin_80 : decode cX11_kin 80 = .ok (.laload, 1) := by decide +kernel
theorem dX11_kin_81 : decode cX11_kin 81 = .ok (.lreturn, 1) := by decide +kernel
theorem dX11_kin_82 : decode cX11_kin 82 = .ok (.aload_n 0, 1) := by decide +kernel
theorem dX11_kin_83 : decode cX11_kin 83 = .ok (.getfield 71, 3) := by decide +kernel
theorem dX11_kin_86 : decode cX11_kin 86 = .ok (.getfield 281, 3) := by decide +kernel
theorem dX11_kin_89 : decode cX11_kin 89 = .ok (.iload_n 1, 1) := by decide +kernel
theorem dX11_kin_90 : decode cX11_kin 90 = .ok (.laload, 1) := by decide +kernel
theorem dX11_kin_91 : decode cX11_kin 91 = .ok (.lreturn, 1) := by decide +kernel
theorem dX11_kin_92 : decode cX11_kin 92 = .ok (.lconst 0, 1) := by decide +kernel
theorem dX11_kin_93 : decode cX11_kin 93 = .ok (.lreturn, 1) := by decide +kernel
theorem dX11_order_0 : decode cX11_order 0 = .ok (.aload_n 0, 1) := by decide +kernel
theorem dX11_order_1 : decode cX11_order 1 = .ok (.iload_n 1, 1) := by decide +kernel
theorem dX11_order_2 : decode cX11_order 2 = .ok (.invokevirtual 284, 3) := by decide +kernel
theorem dX11_order_5 : decode cX11_order 5 = .ok (.ifCond .eq 15, 3) := by decide +kernel
theorem dX11_order_8 : decode cX11_order 8 = .ok (.aload_n 0, 1) := by decide +kernel
theorem dX11_order_9 : decode cX11_order 9 = .ok (.getfield 80, 3) := by decide +kernel
theorem dX11_order_12 : decode cX11_order 12 = .ok (.getfield 287, 3) := by decide +kernel
theorem dX11_order_15 : decode cX11_order 15 = .ok (.iload_n 1, 1) := by decide +kernel
theorem dX11_order_16 : decode cX11_order 16 = .ok (.iaload, 1) := by decide +kernel
theorem dX11_order_17 : decode cX11_order 17 = .ok (.goto 4, 3) := by decide +kernel
theorem dX11_order_20 : decode cX11_order 20 = .ok (.iconst (-1), 1) := by decide +kernel
theorem dX11_order_21 : decode cX11_order 21 = .ok (.ireturn, 1) := by decide +kernel
theorem dX11_place_0 : decode cX11_place 0 = .ok (.aload_n 0, 1) := by decide +kernel
theorem dX11_place_1 : decode cX11_place 1 = .ok (.iload_n 1, 1) := by decide +kernel
theorem dX11_place_2 : decode cX11_place 2 = .ok (.invokevirtual 199, 3) := by decide +kernel
theorem dX11_place_5 : decode cX11_place 5 = .ok (.ifCond .eq 14, 3) := by decide +kernel
theorem dX11_place_8 : decode cX11_place 8 = .ok (.aload_n 0, 1) := by decide +kernel
theorem dX11_place_9 : decode cX11_place 9 = .ok (.getfield 71, 3) := by decide +kernel
theorem dX11_place_12 : decode cX11_place 12 = .ok (.iload_n 1, 1) := by decide +kernel
theorem dX11_place_13 : decode cX11_place 13 = .ok (.invokevirtual 217, 3) := by decide +kernel
theorem dX11_place_16 : decode cX11_place 16 = .ok (.ifCond .ne 5, 3) := by decide +kernel
theorem dX11_place_19 : decode cX11_place 19 = .ok (.iconst (-1), 1) := by decide +kernel
theorem dX11_place_20 : decode cX11_place 20 = .ok (.ireturn, 1) := by decide +kernel
theorem dX11_place_21 : decode cX11_place 21 = .ok (.iload_n 2, 1) := by decide +kernel
theorem dX11_place_22 : decode cX11_place 22 = .ok (.tableswitch 114 0 5 #[38, 48, 58, 68, 78, 91], 38) := by decide +kernel
theorem dX11_place_60 : decode cX11_place 60 = .ok (.aload_n 0, 1) := by decide +kernel
theorem dX11_place_61 : decode cX11_place 61 = .ok (.getfield 80, 3) := by decide +kernel
theorem dX11_place_64 : decode cX11_place 64 = .ok (.getfield 290, 3) := by decide +kernel
theorem dX11_place_67 : decode cX11_place 67 = .ok (.iload_n 1, 1) := by decide +kernel
theorem dX11_place_68 : decode cX11_place 68 = .ok (.iaload, 1) := by decide +kernel
theorem dX11_place_69 : decode cX11_place 69 = .ok (.ireturn, 1) := by decide +kernel
theorem dX11_place_70 : decode cX11_place 70 = .ok (.aload_n 0, 1) := by decide +kernel
theorem dX11_place_71 : decode cX11_place 71 = .ok (.getfield 80, 3) := by decide +kernel
theorem dX11_place_74 : decode cX11_place 74 = .ok (.getfield 293, 3) := by decide +kernel
theorem dX11_place_77 : decode cX11_place 77 = .ok (.iload_n 1, 1) := by decide +kernel
theorem dX11_place_78 : decode cX11_place 78 = .ok (.iaload, 1) := by decide +kernel
theorem dX11_place_79 : decode cX11_place 79 = .ok (.ireturn, 1) := by decide +kernel
theorem dX11_place_80 : decode cX11_place 80 = .ok (.aload_n 0, 1) := by decide +kernel
theorem dX11_place_81 : decode cX11_place 81 = .ok (.getfield 80, 3) := by decide +kernel
theorem dX11_place_84 : decode cX11_place 84 = .ok (.getfield 296, 3) := by decide +kernel
theorem dX11_place_87 : decode cX11_place 87 = .ok (.iload_n 1, 1) := by decide +kernel
theorem dX11_place_88 : decode cX11_place 88 = .ok (.iaload, 1) := by decide +kernel
theorem dX11_place_89 : decode cX11_place 89 = .ok (.ireturn, 1) := by decide +kernel
theorem dX11_place_90 : decode cX11_place 90 = .ok (.aload_n 0, 1) := by decide +kernel
theorem dX11_place_91 : decode cX11_place 91 = .ok (.getfield 80, 3) := by decide +kernel
theorem dX11_place_94 : decode cX11_place 94 = .ok (.getfield 299, 3) := by decide +kernel
theorem dX11_place_97 : decode cX11_place 97 = .ok (.iload_n 1, 1) := by decide +kernel
theorem dX11_place_98 : decode cX11_place 98 = .ok (.iaload, 1) := by decide +kernel
theorem dX11_place_99 : decode cX11_place 99 = .ok (.ireturn, 1) := by decide +kernel
theorem dX11_place_100 : decode cX11_place 100 = .ok (.aload_n 0, 1) := by decide +kernel
theorem dX11_place_101 : decode cX11_place 101 = .ok (.getfield 71, 3) := by decide +kernel
theorem dX11_place_104 : decode cX11_place 104 = .ok (.getfield 278, 3) := by decide +kernel
theorem dX11_place_107 : decode cX11_place 107 = .ok (.iload_n 1, 1) := by decide +kernel
theorem dX11_place_108 : decode cX11_place 108 = .ok (.laload, 1) := by decide +kernel
theorem dX11_place_109 : decode cX11_place 109 = .ok (.invokestatic 302, 3) := by decide +kernel
theorem dX11_place_112 : decode cX11_place 112 = .ok (.ireturn, 1) := by decide +kernel
theorem dX11_place_113 : decode cX11_place 113 = .ok (.aload_n 0, 1) := by decide +kernel
theorem dX11_place_114 : decode cX11_place 114 = .ok (.getfield 80, 3) := by decide +kernel
theorem dX11_place_117 : decode cX11_place 117 = .ok (.getfield 308, 3) := by decide +kernel
theorem dX11_place_120 : decode cX11_place 120 = .ok (.iconst 1, 1) := by decide +kernel
theorem dX11_place_121 : decode cX11_place 121 = .ok (.isub, 1) := by decide +kernel
theorem dX11_place_122 : decode cX11_place 122 = .ok (.aload_n 0, 1) := by decide +kernel
theorem dX11_place_123 : decode cX11_place 123 = .ok (.getfield 71, 3) := by decide +kernel
theorem dX11_place_126 : decode cX11_place 126 = .ok (.getfield 281, 3) := by decide +kernel
theorem dX11_place_129 : decode cX11_place 129 = .ok (.iload_n 1, 1) := by decide +kernel
theorem dX11_place_130 : decode cX11_place 130 = .ok (.laload, 1) := by decide +kernel
theorem dX11_place_131 : decode cX11_place 131 = .ok (.invokestatic 302, 3) := by decide +kernel
theorem dX11_place_134 : decode cX11_place 134 = .ok (.isub, 1) := by decide +kernel
theorem dX11_place_135 : decode cX11_place 135 = .ok (.ireturn, 1) := by decide +kernel
theorem dX11_place_136 : decode cX11_place 136 = .ok (.iconst (-1), 1) := by decide +kernel
theorem dX11_place_137 : decode cX11_place 137 = .ok (.ireturn, 1) := by decide +kernel
theorem dX11_pressure_0 : decode cX11_pressure 0 = .ok (.iload_n 1, 1) := by decide +kernel
theorem dX11_pressure_1 : decode cX11_pressure 1 = .ok (.ifCond .lt 20, 3) := by decide +kernel
theorem dX11_pressure_4 : decode cX11_pressure 4 = .ok (.iload_n 1, 1) := by decide +kernel
theorem dX11_pressure_5 : decode cX11_pressure 5 = .ok (.iconst 2, 1) := by decide +kernel
theorem dX11_pressure_6 : decode cX11_pressure 6 = .ok (.if_icmp .gt 15, 3) := by decide +kernel
theorem dX11_pressure_9 : decode cX11_pressure 9 = .ok (.aload_n 0, 1) := by decide +kernel
theorem dX11_pressure_10 : decode cX11_pressure 10 = .ok (.getfield 80, 3) := by decide +kernel
theorem dX11_pressure_13 : decode cX11_pressure 13 = .ok (.getfield 311, 3) := by decide +kernel
theorem dX11_pressure_16 : decode cX11_pressure 16 = .ok (.iload_n 1, 1) := by decide +kernel
theorem dX11_pressure_17 : decode cX11_pressure 17 = .ok (.iaload, 1) := by decide +kernel
theorem dX11_pressure_18 : decode cX11_pressure 18 = .ok (.goto 4, 3) := by decide +kernel
theorem dX11_pressure_21 : decode cX11_pressure 21 = .ok (.iconst (-1), 1) := by decide +kernel
theorem dX11_pressure_22 : decode cX11_pressure 22 = .ok (.ireturn, 1) := by decide +kernel
theorem dX11_at_0 : decode cX11_at 0 = .ok (.aload_n 0, 1) := by decide +kernel
theorem dX11_at_1 : decode cX11_at 1 = .ok (.iload_n 1, 1) := by decide +kernel
theorem dX11_at_2 : decode cX11_at 2 = .ok (.invokevirtual 284, 3) := by decide +kernel
theorem dX11_at_5 : decode cX11_at 5 = .ok (.ifCond .eq 16, 3) := by decide +kernel
theorem dX11_at_8 : decode cX11_at 8 = .ok (.iload_n 2, 1) := by decide +kernel
theorem dX11_at_9 : decode cX11_at 9 = .ok (.ifCond .lt 12, 3) := by decide +kernel
theorem dX11_at_12 : decode cX11_at 12 = .ok (.iload_n 2, 1) := by decide +kernel
theorem dX11_at_13 : decode cX11_at 13 = .ok (.iconst 2, 1) := by decide +kernel
theorem dX11_at_14 : decode cX11_at 14 = .ok (.if_icmp .gt 7, 3) := by decide +kernel
theorem dX11_at_17 : decode cX11_at 17 = .ok (.iconst 1, 1) := by decide +kernel
theorem dX11_at_18 : decode cX11_at 18 = .ok (.goto 4, 3) := by decide +kernel
theorem dX11_at_21 : decode cX11_at 21 = .ok (.iconst 0, 1) := by decide +kernel
theorem dX11_at_22 : decode cX11_at 22 = .ok (.istore_n 3, 1) := by decide +kernel
theorem dX11_at_23 : decode cX11_at 23 = .ok (.iload_n 3, 1) := by decide +kernel
theorem dX11_at_24 : decode cX11_at 24 = .ok (.ifCond .eq 20, 3) := by decide +kernel
theorem dX11_at_27 : decode cX11_at 27 = .ok (.aload_n 0, 1) := by decide +kernel
theorem dX11_at_28 : decode cX11_at 28 = .ok (.getfield 80, 3) := by decide +kernel
theorem dX11_at_31 : decode cX11_at 31 = .ok (.getfield 314, 3) := by decide +kernel
theorem dX11_at_34 : decode cX11_at 34 = .ok (.bipush 64, 2) := by decide +kernel
theorem dX11_at_36 : decode cX11_at 36 = .ok (.iload_n 2, 1) := by decide +kernel
theorem dX11_at_37 : decode cX11_at 37 = .ok (.imul, 1) := by decide +kernel
theorem dX11_at_38 : decode cX11_at 38 = .ok (.iload_n 1, 1) := by decide +kernel
theorem dX11_at_39 : decode cX11_at 39 = .ok (.iadd, 1) := by decide +kernel
theorem dX11_at_40 : decode cX11_at 40 = .ok (.iaload, 1) := by decide +kernel
theorem dX11_at_41 : decode cX11_at 41 = .ok (.goto 4, 3) := by decide +kernel
theorem dX11_at_44 : decode cX11_at 44 = .ok (.iconst (-1), 1) := by decide +kernel
theorem dX11_at_45 : decode cX11_at 45 = .ok (.ireturn, 1) := by decide +kernel
theorem dX11_used_0 : decode cX11_used 0 = .ok (.iload_n 1, 1) := by decide +kernel
theorem dX11_used_1 : decode cX11_used 1 = .ok (.ifCond .lt 20, 3) := by decide +kernel
theorem dX11_used_4 : decode cX11_used 4 = .ok (.iload_n 1, 1) := by decide +kernel
theorem dX11_used_5 : decode cX11_used 5 = .ok (.iconst 2, 1) := by decide +kernel
theorem dX11_used_6 : decode cX11_used 6 = .ok (.if_icmp .ge 15, 3) := by decide +kernel
theorem dX11_used_9 : decode cX11_used 9 = .ok (.aload_n 0, 1) := by decide +kernel
theorem dX11_used_10 : decode cX11_used 10 = .ok (.getfield 80, 3) := by decide +kernel
theorem dX11_used_13 : decode cX11_used 13 = .ok (.getfield 317, 3) := by decide +kernel
theorem dX11_used_16 : decode cX11_used 16 = .ok (.iload_n 1, 1) := by decide +kernel
theorem dX11_used_17 : decode cX11_used 17 = .ok (.iaload, 1) := by decide +kernel
theorem dX11_used_18 : decode cX11_used 18 = .ok (.goto 4, 3) := by decide +kernel
theorem dX11_used_21 : decode cX11_used 21 = .ok (.iconst (-1), 1) := by decide +kernel
theorem dX11_used_22 : decode cX11_used 22 = .ok (.ireturn, 1) := by decide +kernel
theorem dX11_clause_0 : decode cX11_clause 0 = .ok (.iload_n 1, 1) := by decide +kernel
theorem dX11_clause_1 : decode cX11_clause 1 = .ok (.ifCond .lt 14, 3) := by decide +kernel
theorem dX11_clause_4 : decode cX11_clause 4 = .ok (.iload_n 1, 1) := by decide +kernel
theorem dX11_clause_5 : decode cX11_clause 5 = .ok (.aload_n 0, 1) := by decide +kernel
theorem dX11_clause_6 : decode cX11_clause 6 = .ok (.getfield 80, 3) := by decide +kernel
theorem dX11_clause_9 : decode cX11_clause 9 = .ok (.getfield 320, 3) := by decide +kernel
theorem dX11_clause_12 : decode cX11_clause 12 = .ok (.if_icmp .lt 5, 3) := by decide +kernel
theorem dX11_clause_15 : decode cX11_clause 15 = .ok (.iconst (-1), 1) := by decide +kernel
theorem dX11_clause_16 : decode cX11_clause 16 = .ok (.ireturn, 1) := by decide +kernel
theorem dX11_clause_17 : decode cX11_clause 17 = .ok (.iload_n 2, 1) := by decide +kernel
theorem dX11_clause_18 : decode cX11_clause 18 = .ok (.tableswitch 96 0 3 #[30, 66, 76, 86], 30) := by decide +kernel
theorem dX11_clause_48 : decode cX11_clause 48 = .ok (.aload_n 0, 1) := by decide +kernel
theorem dX11_clause_49 : decode cX11_clause 49 = .ok (.getfield 37, 3) := by decide +kernel
theorem dX11_clause_52 : decode cX11_clause 52 = .ok (.getfield 202, 3) := by decide +kernel
theorem dX11_clause_55 : decode cX11_clause 55 = .ok (.aload_n 0, 1) := by decide +kernel
theorem dX11_clause_56 : decode cX11_clause 56 = .ok (.getfield 80, 3) := by decide +kernel
theorem dX11_clause_59 : decode cX11_clause 59 = .ok (.getfield 287, 3) := by decide +kernel
theorem dX11_clause_62 : decode cX11_clause 62 = .ok (.aload_n 0, 1) := by decide +kernel
theorem dX11_clause_63 : decode cX11_clause 63 = .ok (.getfield 80, 3) := by decide +kernel
theorem dX11_clause_66 : decode cX11_clause 66 = .ok (.getfield 323, 3) := by decide +kernel
theorem dX11_clause_69 : decode cX11_clause 69 = .ok (.iload_n 1, 1) := by decide +kernel
theorem dX11_clause_70 : decode cX11_clause 70 = .ok (.iaload, 1) := by decide +kernel
theorem dX11_clause_71 : decode cX11_clause 71 = .ok (.iaload, 1) := by decide +kernel
theorem dX11_clause_72 : decode cX11_clause 72 = .ok (.iaload, 1) := by decide +kernel
theorem dX11_clause_73 : decode cX11_clause 73 = .ok (.bipush 7, 2) := by decide +kernel
theorem dX11_clause_75 : decode cX11_clause 75 = .ok (.if_icmp .ne 7, 3) := by decide +kernel
theorem dX11_clause_78 : decode cX11_clause 78 = .ok (.iconst 1, 1) := by decide +kernel
theorem dX11_clause_79 : decode cX11_clause 79 = .ok (.goto 4, 3) := by decide +kernel
theorem dX11_clause_82 : decode cX11_clause 82 = .ok (.iconst 0, 1) := by decide +kernel
theorem dX11_clause_83 : decode cX11_clause 83 = .ok (.ireturn, 1) := by decide +kernel
theorem dX11_clause_84 : decode cX11_clause 84 = .ok (.aload_n 0, 1) := by decide +kernel
theorem dX11_clause_85 : decode cX11_clause 85 = .ok (.getfield 80, 3) := by decide +kernel
theorem dX11_clause_88 : decode cX11_clause 88 = .ok (.getfield 323, 3) := by decide +kernel
theorem dX11_clause_91 : decode cX11_clause 91 = .ok (.iload_n 1, 1) := by decide +kernel
theorem dX11_clause_92 : decode cX11_clause 92 = .ok (.iaload, 1) := by decide +kernel
theorem dX11_clause_93 : decode cX11_clause 93 = .ok (.ireturn, 1) := by decide +kernel
theorem dX11_clause_94 : decode cX11_clause 94 = .ok (.aload_n 0, 1) := by decide +kernel
theorem dX11_clause_95 : decode cX11_clause 95 = .ok (.getfield 80, 3) := by decide +kernel
theorem dX11_clause_98 : decode cX11_clause 98 = .ok (.getfield 326, 3) := by decide +kernel
theorem dX11_clause_101 : decode cX11_clause 101 = .ok (.iload_n 1, 1) := by decide +kernel
theorem dX11_clause_102 : decode cX11_clause 102 = .ok (.iaload, 1) := by decide +kernel
theorem dX11_clause_103 : decode cX11_clause 103 = .ok (.ireturn, 1) := by decide +kernel
theorem dX11_clause_104 : decode cX11_clause 104 = .ok (.aload_n 0, 1) := by decide +kernel
theorem dX11_clause_105 : decode cX11_clause 105 = .ok (.getfield 80, 3) := by decide +kernel
theorem dX11_clause_108 : decode cX11_clause 108 = .ok (.getfield 329, 3) := by decide +kernel
theorem dX11_clause_111 : decode cX11_clause 111 = .ok (.iload_n 1, 1) := by decide +kernel
theorem dX11_clause_112 : decode cX11_clause 112 = .ok (.iaload, 1) := by decide +kernel
theorem dX11_clause_113 : decode cX11_clause 113 = .ok (.ireturn, 1) := by decide +kernel
theorem dX11_clause_114 : decode cX11_clause 114 = .ok (.iconst (-1), 1) := by decide +kernel
theorem dX11_clause_115 : decode cX11_clause 115 = .ok (.ireturn, 1) := by decide +kernel
theorem dX11_by_0 : decode cX11_by 0 = .ok (.iload_n 1, 1) := by decide +kernel
theorem dX11_by_1 : decode cX11_by 1 = .ok (.ifCond .lt 17, 3) := by decide +kernel
theorem dX11_by_4 : decode cX11_by 4 = .ok (.iload_n 1, 1) := by decide +kernel
theorem dX11_by_5 : decode cX11_by 5 = .ok (.iconst 4, 1) := by decide +kernel
theorem dX11_by_6 : decode cX11_by 6 = .ok (.if_icmp .ge 12, 3) := by decide +kernel
theorem dX11_by_9 : decode cX11_by 9 = .ok (.iload_n 2, 1) := by decide +kernel
theorem dX11_by_10 : decode cX11_by 10 = .ok (.ifCond .lt 8, 3) := by decide +kernel
theorem dX11_by_13 : decode cX11_by 13 = .ok (.iload_n 2, 1) := by decide +kernel
theorem dX11_by_14 : decode cX11_by 14 = .ok (.iconst 4, 1) := by decide +kernel
theorem dX11_by_15 : decode cX11_by 15 = .ok (.if_icmp .le 5, 3) := by decide +kernel
theorem dX11_by_18 : decode cX11_by 18 = .ok (.iconst (-1), 1) := by decide +kernel
theorem dX11_by_19 : decode cX11_by 19 = .ok (.ireturn, 1) := by decide +kernel
theorem dX11_by_20 : decode cX11_by 20 = .ok (.aload_n 0, 1) := by decide +kernel
theorem dX11_by_21 : decode cX11_by 21 = .ok (.iconst (-1), 1) := by decide +kernel
theorem dX11_by_22 : decode cX11_by 22 = .ok (.iload_n 1, 1) := by decide +kernel
theorem dX11_by_23 : decode cX11_by 23 = .ok (.invokevirtual 332, 3) := by decide +kernel
theorem dX11_by_26 : decode cX11_by 26 = .ok (.aload_n 0, 1) := by decide +kernel
theorem dX11_by_27 : decode cX11_by 27 = .ok (.getfield 90, 3) := by decide +kernel
theorem dX11_by_30 : decode cX11_by 30 = .ok (.iload_n 2, 1) := by decide +kernel
theorem dX11_by_31 : decode cX11_by 31 = .ok (.invokestatic 335, 3) := by decide +kernel
theorem dX11_by_34 : decode cX11_by 34 = .ok (.ireturn, 1) := by decide +kernel
theorem dX11_alone_0 : decode cX11_alone 0 = .ok (.aload_n 0, 1) := by decide +kernel
theorem dX11_alone_1 : decode cX11_alone 1 = .ok (.iload_n 1, 1) := by decide +kernel
theorem dX11_alone_2 : decode cX11_alone 2 = .ok (.invokevirtual 240, 3) := by decide +kernel
theorem dX11_alone_5 : decode cX11_alone 5 = .ok (.ifCond .eq 12, 3) := by decide +kernel
theorem dX11_alone_8 : decode cX11_alone 8 = .ok (.iload_n 2, 1) := by decide +kernel
theorem dX11_alone_9 : decode cX11_alone 9 = .ok (.ifCond .lt 8, 3) := by decide +kernel
theorem dX11_alone_12 : decode cX11_alone 12 = .ok (.iload_n 2, 1) := by decide +kernel
theorem dX11_alone_13 : decode cX11_alone 13 = .ok (.iconst 5, 1) := by decide +kernel
theorem dX11_alone_14 : decode cX11_alone 14 = .ok (.if_icmp .le 5, 3) := by decide +kernel
theorem dX11_alone_17 : decode cX11_alone 17 = .ok (.iconst (-1), 1) := by decide +kernel
theorem dX11_alone_18 : decode cX11_alone 18 = .ok (.ireturn, 1) := by decide +kernel
theorem dX11_alone_19 : decode cX11_alone 19 = .ok (.aload_n 0, 1) := by decide +kernel
theorem dX11_alone_20 : decode cX11_alone 20 = .ok (.iload_n 1, 1) := by decide +kernel
theorem dX11_alone_21 : decode cX11_alone 21 = .ok (.aload_n 0, 1) := by decide +kernel
theorem dX11_alone_22 : decode cX11_alone 22 = .ok (.getfield 107, 3) := by decide +kernel
theorem dX11_alone_25 : decode cX11_alone 25 = .ok (.invokevirtual 332, 3) := by decide +kernel
theorem dX11_alone_28 : decode cX11_alone 28 = .ok (.aload_n 0, 1) := by decide +kernel
theorem dX11_alone_29 : decode cX11_alone 29 = .ok (.getfield 90, 3) := by decide +kernel
theorem dX11_alone_32 : decode cX11_alone 32 = .ok (.iload_n 2, 1) := by decide +kernel
theorem dX11_alone_33 : decode cX11_alone 33 = .ok (.invokestatic 335, 3) := by decide +kernel
theorem dX11_alone_36 : decode cX11_alone 36 = .ok (.ireturn, 1) := by decide +kernel
theorem dX11_narrowed_0 : decode cX11_narrowed 0 = .ok (.aload_n 0, 1) := by decide +kernel
theorem dX11_narrowed_1 : decode cX11_narrowed 1 = .ok (.iload_n 1, 1) := by decide +kernel
theorem dX11_narrowed_2 : decode cX11_narrowed 2 = .ok (.invokevirtual 174, 3) := by decide +kernel
theorem dX11_narrowed_5 : decode cX11_narrowed 5 = .ok (.ifCond .eq 23, 3) := by decide +kernel
theorem dX11_narrowed_8 : decode cX11_narrowed 8 = .ok (.iload_n 2, 1) := by decide +kernel
theorem dX11_narrowed_9 : decode cX11_narrowed 9 = .ok (.iload_n 3, 1) := by decide +kernel
theorem dX11_narrowed_10 : decode cX11_narrowed 10 = .ok (.invokestatic 191, 3) := by decide +kernel
theorem dX11_narrowed_13 : decode cX11_narrowed 13 = .ok (.ifCond .eq 15, 3) := by decide +kernel
theorem dX11_narrowed_16 : decode cX11_narrowed 16 = .ok (.iload 4, 2) := by decide +kernel
theorem dX11_narrowed_18 : decode cX11_narrowed 18 = .ok (.ifCond .lt 10, 3) := by decide +kernel
theorem dX11_narrowed_21 : decode cX11_narrowed 21 = .ok (.iload 4, 2) := by decide +kernel
theorem dX11_narrowed_23 : decode cX11_narrowed 23 = .ok (.bipush 7, 2) := by decide +kernel
theorem dX11_narrowed_25 : decode cX11_narrowed 25 = .ok (.if_icmp .le 5, 3) := by decide +kernel
theorem dX11_narrowed_28 : decode cX11_narrowed 28 = .ok (.iconst (-1), 1) := by decide +kernel
theorem dX11_narrowed_29 : decode cX11_narrowed 29 = .ok (.ireturn, 1) := by decide +kernel
theorem dX11_narrowed_30 : decode cX11_narrowed 30 = .ok (.aload_n 0, 1) := by decide +kernel
theorem dX11_narrowed_31 : decode cX11_narrowed 31 = .ok (.getfield 44, 3) := by decide +kernel
theorem dX11_narrowed_34 : decode cX11_narrowed 34 = .ok (.getfield 148, 3) := by decide +kernel
theorem dX11_narrowed_37 : decode cX11_narrowed 37 = .ok (.iload_n 1, 1) := by decide +kernel
theorem dX11_narrowed_38 : decode cX11_narrowed 38 = .ok (.iaload, 1) := by decide +kernel
theorem dX11_narrowed_39 : decode cX11_narrowed 39 = .ok (.istore 5, 2) := by decide +kernel
theorem dX11_narrowed_41 : decode cX11_narrowed 41 = .ok (.aload_n 0, 1) := by decide +kernel
theorem dX11_narrowed_42 : decode cX11_narrowed 42 = .ok (.getfield 44, 3) := by decide +kernel
theorem dX11_narrowed_45 : decode cX11_narrowed 45 = .ok (.getfield 152, 3) := by decide +kernel
theorem dX11_narrowed_48 : decode cX11_narrowed 48 = .ok (.iload_n 1, 1) := by decide +kernel
theorem dX11_narrowed_49 : decode cX11_narrowed 49 = .ok (.iaload, 1) := by decide +kernel
theorem dX11_narrowed_50 : decode cX11_narrowed 50 = .ok (.istore 6, 2) := by decide +kernel
theorem dX11_narrowed_52 : decode cX11_narrowed 52 = .ok (.aload_n 0, 1) := by decide +kernel
theorem dX11_narrowed_53 : decode cX11_narrowed 53 = .ok (.getfield 44, 3) := by decide +kernel
theorem dX11_narrowed_56 : decode cX11_narrowed 56 = .ok (.getfield 148, 3) := by decide +kernel
theorem dX11_narrowed_59 : decode cX11_narrowed 59 = .ok (.iload_n 1, 1) := by decide +kernel
theorem dX11_narrowed_60 : decode cX11_narrowed 60 = .ok (.iload_n 2, 1) := by decide +kernel
theorem dX11_narrowed_61 : decode cX11_narrowed 61 = .ok (.iastore, 1) := by decide +kernel
theorem dX11_narrowed_62 : decode cX11_narrowed 62 = .ok (.aload_n 0, 1) := by decide +kernel
theorem dX11_narrowed_63 : decode cX11_narrowed 63 = .ok (.getfield 44, 3) := by decide +kernel
theorem dX11_narrowed_66 : decode cX11_narrowed 66 = .ok (.getfield 152, 3) := by decide +kernel
theorem dX11_narrowed_69 : decode cX11_narrowed 69 = .ok (.iload_n 1, 1) := by decide +kernel
theorem dX11_narrowed_70 : decode cX11_narrowed 70 = .ok (.iload_n 3, 1) := by decide +kernel
theorem dX11_narrowed_71 : decode cX11_narrowed 71 = .ok (.iastore, 1) := by decide +kernel
theorem dX11_narrowed_72 : decode cX11_narrowed 72 = .ok (.aload_n 0, 1) := by decide +kernel
theorem dX11_narrowed_73 : decode cX11_narrowed 73 = .ok (.iconst (-1), 1) := by decide +kernel
theorem dX11_narrowed_74 : decode cX11_narrowed 74 = .ok (.aload_n 0, 1) := by decide +kernel
theorem dX11_narrowed_75 : decode cX11_narrowed 75 = .ok (.getfield 107, 3) := by decide +kernel
theorem dX11_narrowed_78 : decode cX11_narrowed 78 = .ok (.invokevirtual 332, 3) := by decide +kernel
theorem dX11_narrowed_81 : decode cX11_narrowed 81 = .ok (.aload_n 0, 1) := by decide +kernel
theorem dX11_narrowed_82 : decode cX11_narrowed 82 = .ok (.getfield 44, 3) := by decide +kernel
theorem dX11_narrowed_85 : decode cX11_narrowed 85 = .ok (.getfield 148, 3) := by decide +kernel
theorem dX11_narrowed_88 : decode cX11_narrowed 88 = .ok (.iload_n 1, 1) := by decide +kernel
theorem dX11_narrowed_89 : decode cX11_narrowed 89 = .ok (.iload 5, 2) := by decide +kernel
theorem dX11_narrowed_91 : decode cX11_narrowed 91 = .ok (.iastore, 1) := by decide +kernel
theorem dX11_narrowed_92 : decode cX11_narrowed 92 = .ok (.aload_n 0, 1) := by decide +kernel
theorem dX11_narrowed_93 : decode cX11_narrowed 93 = .ok (.getfield 44, 3) := by decide +kernel
theorem dX11_narrowed_96 : decode cX11_narrowed 96 = .ok (.getfield 152, 3) := by decide +kernel
theorem dX11_narrowed_99 : decode cX11_narrowed 99 = .ok (.iload_n 1, 1) := by decide +kernel
theorem dX11_narrowed_100 : decode cX11_narrowed 100 = .ok (.iload 6, 2) := by decide +kernel
theorem dX11_narrowed_102 : decode cX11_narrowed 102 = .ok (.iastore, 1) := by decide +kernel
theorem dX11_narrowed_103 : decode cX11_narrowed 103 = .ok (.iload 4, 2) := by decide +kernel
theorem dX11_narrowed_105 : decode cX11_narrowed 105 = .ok (.lookupswitch 43 #[(6, 27), (7, 35)], 27) := by decide +kernel
theorem dX11_narrowed_132 : decode cX11_narrowed 132 = .ok (.aload_n 0, 1) := by decide +kernel
theorem dX11_narrowed_133 : decode cX11_narrowed 133 = .ok (.getfield 84, 3) := by decide +kernel
theorem dX11_narrowed_136 : decode cX11_narrowed 136 = .ok (.invokevirtual 338, 3) := by decide +kernel
theorem dX11_narrowed_139 : decode cX11_narrowed 139 = .ok (.ireturn, 1) := by decide +kernel
theorem dX11_narrowed_140 : decode cX11_narrowed 140 = .ok (.aload_n 0, 1) := by decide +kernel
theorem dX11_narrowed_141 : decode cX11_narrowed 141 = .ok (.getfield 84, 3) := by decide +kernel
theorem dX11_narrowed_144 : decode cX11_narrowed 144 = .ok (.invokevirtual 341, 3) := by decide +kernel
theorem dX11_narrowed_147 : decode cX11_narrowed 147 = .ok (.ireturn, 1) := by decide +kernel
theorem dX11_narrowed_148 : decode cX11_narrowed 148 = .ok (.aload_n 0, 1) := by decide +kernel
theorem dX11_narrowed_149 : decode cX11_narrowed 149 = .ok (.getfield 90, 3) := by decide +kernel
theorem dX11_narrowed_152 : decode cX11_narrowed 152 = .ok (.iload 4, 2) := by decide +kernel
theorem dX11_narrowed_154 : decode cX11_narrowed 154 = .ok (.invokestatic 335, 3) := by decide +kernel
theorem dX11_narrowed_157 : decode cX11_narrowed 157 = .ok (.ireturn, 1) := by decide +kernel
theorem dX11_swapped_0 : decode cX11_swapped 0 = .ok (.aload_n 0, 1) := by decide +kernel
theorem dX11_swapped_1 : decode cX11_swapped 1 = .ok (.iload_n 1, 1) := by decide +kernel
theorem dX11_swapped_2 : decode cX11_swapped 2 = .ok (.invokevirtual 284, 3) := by decide +kernel
theorem dX11_swapped_5 : decode cX11_swapped 5 = .ok (.ifCond .eq 25, 3) := by decide +kernel
theorem dX11_swapped_8 : decode cX11_swapped 8 = .ok (.iload_n 1, 1) := by decide +kernel
theorem dX11_swapped_9 : decode cX11_swapped 9 = .ok (.aload_n 0, 1) := by decide +kernel
theorem dX11_swapped_10 : decode cX11_swapped 10 = .ok (.getfield 80, 3) := by decide +kernel
theorem dX11_swapped_13 : decode cX11_swapped 13 = .ok (.getfield 308, 3) := by decide +kernel
theorem dX11_swapped_16 : decode cX11_swapped 16 = .ok (.iconst 1, 1) := by decide +kernel
theorem dX11_swapped_17 : decode cX11_swapped 17 = .ok (.isub, 1) := by decide +kernel
theorem dX11_swapped_18 : decode cX11_swapped 18 = .ok (.if_icmp .ge 12, 3) := by decide +kernel
theorem dX11_swapped_21 : decode cX11_swapped 21 = .ok (.iload_n 2, 1) := by decide +kernel
theorem dX11_swapped_22 : decode cX11_swapped 22 = .ok (.ifCond .lt 8, 3) := by decide +kernel
theorem dX11_swapped_25 : decode cX11_swapped 25 = .ok (.iload_n 2, 1) := by decide +kernel
theorem dX11_swapped_26 : decode cX11_swapped 26 = .ok (.iconst 2, 1) := by decide +kernel
theorem dX11_swapped_27 : decode cX11_swapped 27 = .ok (.if_icmp .le 5, 3) := by decide +kernel
theorem dX11_swapped_30 : decode cX11_swapped 30 = .ok (.iconst (-1), 1) := by decide +kernel
theorem dX11_swapped_31 : decode cX11_swapped 31 = .ok (.ireturn, 1) := by decide +kernel
theorem dX11_swapped_32 : decode cX11_swapped 32 = .ok (.aload_n 0, 1) := by decide +kernel
theorem dX11_swapped_33 : decode cX11_swapped 33 = .ok (.getfield 80, 3) := by decide +kernel
theorem dX11_swapped_36 : decode cX11_swapped 36 = .ok (.getfield 287, 3) := by decide +kernel
theorem dX11_swapped_39 : decode cX11_swapped 39 = .ok (.iload_n 1, 1) := by decide +kernel
theorem dX11_swapped_40 : decode cX11_swapped 40 = .ok (.iaload, 1) := by decide +kernel
theorem dX11_swapped_41 : decode cX11_swapped 41 = .ok (.istore_n 3, 1) := by decide +kernel
theorem dX11_swapped_42 : decode cX11_swapped 42 = .ok (.aload_n 0, 1) := by decide +kernel
theorem dX11_swapped_43 : decode cX11_swapped 43 = .ok (.getfield 80, 3) := by decide +kernel
theorem dX11_swapped_46 : decode cX11_swapped 46 = .ok (.getfield 287, 3) := by decide +kernel
theorem dX11_swapped_49 : decode cX11_swapped 49 = .ok (.iload_n 1, 1) := by decide +kernel
theorem dX11_swapped_50 : decode cX11_swapped 50 = .ok (.iconst 1, 1) := by decide +kernel
theorem dX11_swapped_51 : decode cX11_swapped 51 = .ok (.iadd, 1) := by decide +kernel
theorem dX11_swapped_52 : decode cX11_swapped 52 = .ok (.iaload, 1) := by decide +kernel
theorem dX11_swapped_53 : decode cX11_swapped 53 = .ok (.istore 4, 2) := by decide +kernel
theorem dX11_swapped_55 : decode cX11_swapped 55 = .ok (.aload_n 0, 1) := by decide +kernel
theorem dX11_swapped_56 : decode cX11_swapped 56 = .ok (.getfield 71, 3) := by decide +kernel
theorem dX11_swapped_59 : decode cX11_swapped 59 = .ok (.getfield 271, 3) := by decide +kernel
theorem dX11_swapped_62 : decode cX11_swapped 62 = .ok (.iload 4, 2) := by decide +kernel
theorem dX11_swapped_64 : decode cX11_swapped 64 = .ok (.laload, 1) := by decide +kernel
theorem dX11_swapped_65 : decode cX11_swapped 65 = .ok (.iload_n 3, 1) := by decide +kernel
theorem dX11_swapped_66 : decode cX11_swapped 66 = .ok (.lushr, 1) := by decide +kernel
theorem dX11_swapped_67 : decode cX11_swapped 67 = .ok (.lconst 1, 1) := by decide +kernel
theorem dX11_swapped_68 : decode cX11_swapped 68 = .ok (.land, 1) := by decide +kernel
theorem dX11_swapped_69 : decode cX11_swapped 69 = .ok (.lconst 0, 1) := by decide +kernel
theorem dX11_swapped_70 : decode cX11_swapped 70 = .ok (.lcmp, 1) := by decide +kernel
theorem dX11_swapped_71 : decode cX11_swapped 71 = .ok (.ifCond .eq 5, 3) := by decide +kernel
theorem dX11_swapped_74 : decode cX11_swapped 74 = .ok (.iconst (-1), 1) := by decide +kernel
theorem dX11_swapped_75 : decode cX11_swapped 75 = .ok (.ireturn, 1) := by decide +kernel
theorem dX11_swapped_76 : decode cX11_swapped 76 = .ok (.aload_n 0, 1) := by decide +kernel
theorem dX11_swapped_77 : decode cX11_swapped 77 = .ok (.iconst (-1), 1) := by decide +kernel
theorem dX11_swapped_78 : decode cX11_swapped 78 = .ok (.aload_n 0, 1) := by decide +kernel
theorem dX11_swapped_79 : decode cX11_swapped 79 = .ok (.getfield 107, 3) := by decide +kernel
theorem dX11_swapped_82 : decode cX11_swapped 82 = .ok (.invokevirtual 332, 3) := by decide +kernel
theorem dX11_swapped_85 : decode cX11_swapped 85 = .ok (.aload_n 0, 1) := by decide +kernel
theorem dX11_swapped_86 : decode cX11_swapped 86 = .ok (.getfield 90, 3) := by decide +kernel
theorem dX11_swapped_89 : decode cX11_swapped 89 = .ok (.iload_n 1, 1) := by decide +kernel
theorem dX11_swapped_90 : decode cX11_swapped 90 = .ok (.iload 4, 2) := by decide +kernel
theorem dX11_swapped_92 : decode cX11_swapped 92 = .ok (.invokevirtual 344, 3) := by decide +kernel
theorem dX11_swapped_95 : decode cX11_swapped 95 = .ok (.aload_n 0, 1) := by decide +kernel
theorem dX11_swapped_96 : decode cX11_swapped 96 = .ok (.getfield 90, 3) := by decide +kernel
theorem dX11_swapped_99 : decode cX11_swapped 99 = .ok (.iload_n 1, 1) := by decide +kernel
theorem dX11_swapped_100 : decode cX11_swapped 100 = .ok (.iconst 1, 1) := by decide +kernel
theorem dX11_swapped_101 : decode cX11_swapped 101 = .ok (.iadd, 1) := by decide +kernel
theorem dX11_swapped_102 : decode cX11_swapped 102 = .ok (.iload_n 3, 1) := by decide +kernel
theorem dX11_swapped_103 : decode cX11_swapped 103 = .ok (.invokevirtual 344, 3) := by decide +kernel
theorem dX11_swapped_106 : decode cX11_swapped 106 = .ok (.aload_n 0, 1) := by decide +kernel
theorem dX11_swapped_107 : decode cX11_swapped 107 = .ok (.getfield 90, 3) := by decide +kernel
theorem dX11_swapped_110 : decode cX11_swapped 110 = .ok (.aload_n 0, 1) := by decide +kernel
theorem dX11_swapped_111 : decode cX11_swapped 111 = .ok (.getfield 103, 3) := by decide +kernel
theorem dX11_swapped_114 : decode cX11_swapped 114 = .ok (.getfield 164, 3) := by decide +kernel
theorem dX11_swapped_117 : decode cX11_swapped 117 = .ok (.aload_n 0, 1) := by decide +kernel
theorem dX11_swapped_118 : decode cX11_swapped 118 = .ok (.getfield 103, 3) := by decide +kernel
theorem dX11_swapped_121 : decode cX11_swapped 121 = .ok (.getfield 167, 3) := by decide +kernel
theorem dX11_swapped_124 : decode cX11_swapped 124 = .ok (.invokevirtual 170, 3) := by decide +kernel
theorem dX11_swapped_127 : decode cX11_swapped 127 = .ok (.aload_n 0, 1) := by decide +kernel
theorem dX11_swapped_128 : decode cX11_swapped 128 = .ok (.getfield 90, 3) := by decide +kernel
theorem dX11_swapped_131 : decode cX11_swapped 131 = .ok (.iload_n 2, 1) := by decide +kernel
theorem dX11_swapped_132 : decode cX11_swapped 132 = .ok (.invokestatic 335, 3) := by decide +kernel
theorem dX11_swapped_135 : decode cX11_swapped 135 = .ok (.ireturn, 1) := by decide +kernel
theorem dX11_imagine_0 : decode cX11_imagine 0 = .ok (.aload_n 0, 1) := by decide +kernel
theorem dX11_imagine_1 : decode cX11_imagine 1 = .ok (.getfield 84, 3) := by decide +kernel
theorem dX11_imagine_4 : decode cX11_imagine 4 = .ok (.aload_n 0, 1) := by decide +kernel
theorem dX11_imagine_5 : decode cX11_imagine 5 = .ok (.getfield 44, 3) := by decide +kernel
theorem dX11_imagine_8 : decode cX11_imagine 8 = .ok (.getfield 148, 3) := by decide +kernel
theorem dX11_imagine_11 : decode cX11_imagine 11 = .ok (.aload_n 0, 1) := by decide +kernel
theorem dX11_imagine_12 : decode cX11_imagine 12 = .ok (.getfield 44, 3) := by decide +kernel
theorem dX11_imagine_15 : decode cX11_imagine 15 = .ok (.getfield 152, 3) := by decide +kernel
theorem dX11_imagine_18 : decode cX11_imagine 18 = .ok (.invokevirtual 155, 3) := by decide +kernel
theorem dX11_imagine_21 : decode cX11_imagine 21 = .ok (.aload_n 0, 1) := by decide +kernel
theorem dX11_imagine_22 : decode cX11_imagine 22 = .ok (.getfield 87, 3) := by decide +kernel
theorem dX11_imagine_25 : decode cX11_imagine 25 = .ok (.iload_n 1, 1) := by decide +kernel
theorem dX11_imagine_26 : decode cX11_imagine 26 = .ok (.invokevirtual 159, 3) := by decide +kernel
theorem dX11_imagine_29 : decode cX11_imagine 29 = .ok (.aload_n 0, 1) := by decide +kernel
theorem dX11_imagine_30 : decode cX11_imagine 30 = .ok (.getfield 90, 3) := by decide +kernel
theorem dX11_imagine_33 : decode cX11_imagine 33 = .ok (.iload_n 2, 1) := by decide +kernel
theorem dX11_imagine_34 : decode cX11_imagine 34 = .ok (.invokevirtual 161, 3) := by decide +kernel
theorem dX11_imagine_37 : decode cX11_imagine 37 = .ok (.aload_n 0, 1) := by decide +kernel
theorem dX11_imagine_38 : decode cX11_imagine 38 = .ok (.getfield 90, 3) := by decide +kernel
theorem dX11_imagine_41 : decode cX11_imagine 41 = .ok (.aload_n 0, 1) := by decide +kernel
theorem dX11_imagine_42 : decode cX11_imagine 42 = .ok (.getfield 103, 3) := by decide +kernel
theorem dX11_imagine_45 : decode cX11_imagine 45 = .ok (.getfield 164, 3) := by decide +kernel
theorem dX11_imagine_48 : decode cX11_imagine 48 = .ok (.aload_n 0, 1) := by decide +kernel
theorem dX11_imagine_49 : decode cX11_imagine 49 = .ok (.getfield 103, 3) := by decide +kernel
theorem dX11_imagine_52 : decode cX11_imagine 52 = .ok (.getfield 167, 3) := by decide +kernel
theorem dX11_imagine_55 : decode cX11_imagine 55 = .ok (.invokevirtual 170, 3) := by decide +kernel
theorem dX11_imagine_58 : decode cX11_imagine 58 = .ok (.return_, 1) := by decide +kernel
theorem dX11_cost_0 : decode cX11_cost 0 = .ok (.iload_n 1, 1) := by decide +kernel
theorem dX11_cost_1 : decode cX11_cost 1 = .ok (.tableswitch 75 0 5 #[39, 46, 51, 56, 63, 70], 39) := by decide +kernel
theorem dX11_cost_40 : decode cX11_cost 40 = .ok (.aload_n 0, 1) := by decide +kernel
theorem dX11_cost_41 : decode cX11_cost 41 = .ok (.getfield 311, 3) := by decide +kernel
theorem dX11_cost_44 : decode cX11_cost 44 = .ok (.iconst 2, 1) := by decide +kernel
theorem dX11_cost_45 : decode cX11_cost 45 = .ok (.iaload, 1) := by decide +kernel
theorem dX11_cost_46 : decode cX11_cost 46 = .ok (.ireturn, 1) := by decide +kernel
theorem dX11_cost_47 : decode cX11_cost 47 = .ok (.aload_n 0, 1) := by decide +kernel
theorem dX11_cost_48 : decode cX11_cost 48 = .ok (.getfield 320, 3) := by decide +kernel
theorem dX11_cost_51 : decode cX11_cost 51 = .ok (.ireturn, 1) := by decide +kernel
theorem dX11_cost_52 : decode cX11_cost 52 = .ok (.aload_n 0, 1) := by decide +kernel
theorem dX11_cost_53 : decode cX11_cost 53 = .ok (.getfield 347, 3) := by decide +kernel
theorem dX11_cost_56 : decode cX11_cost 56 = .ok (.ireturn, 1) := by decide +kernel
theorem dX11_cost_57 : decode cX11_cost 57 = .ok (.aload_n 0, 1) := by decide +kernel
theorem dX11_cost_58 : decode cX11_cost 58 = .ok (.getfield 317, 3) := by decide +kernel
theorem dX11_cost_61 : decode cX11_cost 61 = .ok (.iconst 0, 1) := by decide +kernel
theorem dX11_cost_62 : decode cX11_cost 62 = .ok (.iaload, 1) := by decide +kernel
theorem dX11_cost_63 : decode cX11_cost 63 = .ok (.ireturn, 1) := by decide +kernel
theorem dX11_cost_64 : decode cX11_cost 64 = .ok (.aload_n 0, 1) := by decide +kernel
theorem dX11_cost_65 : decode cX11_cost 65 = .ok (.getfield 317, 3) := by decide +kernel
theorem dX11_cost_68 : decode cX11_cost 68 = .ok (.iconst 1, 1) := by decide +kernel
theorem dX11_cost_69 : decode cX11_cost 69 = .ok (.iaload, 1) := by decide +kernel
theorem dX11_cost_70 : decode cX11_cost 70 = .ok (.ireturn, 1) := by decide +kernel
theorem dX11_cost_71 : decode cX11_cost 71 = .ok (.aload_n 0, 1) := by decide +kernel
theorem dX11_cost_72 : decode cX11_cost 72 = .ok (.getfield 308, 3) := by decide +kernel
theorem dX11_cost_75 : decode cX11_cost 75 = .ok (.ireturn, 1) := by decide +kernel
theorem dX11_cost_76 : decode cX11_cost 76 = .ok (.iconst (-1), 1) := by decide +kernel
theorem dX11_cost_77 : decode cX11_cost 77 = .ok (.ireturn, 1) := by decide +kernel
theorem dX11_best_0 : decode cX11_best 0 = .ok (.aload_n 0, 1) := by decide +kernel
theorem dX11_best_1 : decode cX11_best 1 = .ok (.getfield 80, 3) := by decide +kernel
theorem dX11_best_4 : decode cX11_best 4 = .ok (.getfield 308, 3) := by decide +kernel
theorem dX11_best_7 : decode cX11_best 7 = .ok (.bipush 12, 2) := by decide +kernel
theorem dX11_best_9 : decode cX11_best 9 = .ok (.if_icmp .le 5, 3) := by decide +kernel
theorem dX11_best_12 : decode cX11_best 12 = .ok (.iconst (-1), 1) := by decide +kernel
theorem dX11_best_13 : decode cX11_best 13 = .ok (.ireturn, 1) := by decide +kernel
theorem dX11_best_14 : decode cX11_best 14 = .ok (.aload_n 0, 1) := by decide +kernel
theorem dX11_best_15 : decode cX11_best 15 = .ok (.getfield 111, 3) := by decide +kernel
theorem dX11_best_18 : decode cX11_best 18 = .ok (.bipush (-2), 2) := by decide +kernel
theorem dX11_best_20 : decode cX11_best 20 = .ok (.if_icmp .ne 14, 3) := by decide +kernel
theorem dX11_best_23 : decode cX11_best 23 = .ok (.aload_n 0, 1) := by decide +kernel
theorem dX11_best_24 : decode cX11_best 24 = .ok (.aload_n 0, 1) := by decide +kernel
theorem dX11_best_25 : decode cX11_best 25 = .ok (.getfield 96, 3) := by decide +kernel
theorem dX11_best_28 : decode cX11_best 28 = .ok (.invokevirtual 350, 3) := by decide +kernel
theorem dX11_best_31 : decode cX11_best 31 = .ok (.putfield 111, 3) := by decide +kernel
theorem dX11_best_34 : decode cX11_best 34 = .ok (.aload_n 0, 1) := by decide +kernel
theorem dX11_best_35 : decode cX11_best 35 = .ok (.getfield 111, 3) := by decide +kernel
theorem dX11_best_38 : decode cX11_best 38 = .ok (.ireturn, 1) := by decide +kernel
theorem dX11_parts_0 : decode cX11_parts 0 = .ok (.iload_n 1, 1) := by decide +kernel
theorem dX11_parts_1 : decode cX11_parts 1 = .ok (.ifCond .lt 14, 3) := by decide +kernel
theorem dX11_parts_4 : decode cX11_parts 4 = .ok (.iload_n 1, 1) := by decide +kernel
theorem dX11_parts_5 : decode cX11_parts 5 = .ok (.aload_n 0, 1) := by decide +kernel
theorem dX11_parts_6 : decode cX11_parts 6 = .ok (.getfield 103, 3) := by decide +kernel
theorem dX11_parts_9 : decode cX11_parts 9 = .ok (.getfield 352, 3) := by decide +kernel
theorem dX11_parts_12 : decode cX11_parts 12 = .ok (.if_icmp .lt 5, 3) := by decide +kernel
theorem dX11_parts_15 : decode cX11_parts 15 = .ok (.iconst (-1), 1) := by decide +kernel
theorem dX11_parts_16 : decode cX11_parts 16 = .ok (.ireturn, 1) := by decide +kernel
theorem dX11_parts_17 : decode cX11_parts 17 = .ok (.aload_n 0, 1) := by decide +kernel
theorem dX11_parts_18 : decode cX11_parts 18 = .ok (.getfield 37, 3) := by decide +kernel
theorem dX11_parts_21 : decode cX11_parts 21 = .ok (.getfield 355, 3) := by decide +kernel
theorem dX11_parts_24 : decode cX11_parts 24 = .ok (.iload_n 1, 1) := by decide +kernel
theorem dX11_parts_25 : decode cX11_parts 25 = .ok (.baload, 1) := by decide +kernel
theorem dX11_parts_26 : decode cX11_parts 26 = .ok (.ifCond .eq 7, 3) := by decide +kernel
theorem dX11_parts_29 : decode cX11_parts 29 = .ok (.iconst 1, 1) := by decide +kernel
theorem dX11_parts_30 : decode cX11_parts 30 = .ok (.goto 4, 3) := by decide +kernel
theorem dX11_parts_33 : decode cX11_parts 33 = .ok (.iconst 0, 1) := by decide +kernel
theorem dX11_parts_34 : decode cX11_parts 34 = .ok (.ireturn, 1) := by decide +kernel
theorem dX11_count_0 : decode cX11_count 0 = .ok (.iload_n 1, 1) := by decide +kernel
theorem dX11_count_1 : decode cX11_count 1 = .ok (.tableswitch 168 0 12 #[67, 75, 83, 91, 99, 107, 115, 123, 131, 139, 144, 152, 160], 67) := by decide +kernel
theorem dX11_count_68 : decode cX11_count 68 = .ok (.aload_n 0, 1) := by decide +kernel
theorem dX11_count_69 : decode cX11_count 69 = .ok (.getfield 37, 3) := by decide +kernel
theorem dX11_count_72 : decode cX11_count 72 = .ok (.getfield 261, 3) := by decide +kernel
theorem dX11_count_75 : decode cX11_count 75 = .ok (.ireturn, 1) := by decide +kernel
theorem dX11_count_76 : decode cX11_count 76 = .ok (.aload_n 0, 1) := by decide +kernel
theorem dX11_count_77 : decode cX11_count 77 = .ok (.getfield 103, 3) := by decide +kernel
theorem dX11_count_80 : decode cX11_count 80 = .ok (.getfield 358, 3) := by decide +kernel
theorem dX11_count_83 : decode cX11_count 83 = .ok (.ireturn, 1) := by decide +kernel
theorem dX11_count_84 : decode cX11_count 84 = .ok (.aload_n 0, 1) := by decide +kernel
theorem dX11_count_85 : decode cX11_count 85 = .ok (.getfield 37, 3) := by decide +kernel
theorem dX11_count_88 : decode cX11_count 88 = .ok (.getfield 361, 3) := by decide +kernel
theorem dX11_count_91 : decode cX11_count 91 = .ok (.ireturn, 1) := by decide +kernel
theorem dX11_count_92 : decode cX11_count 92 = .ok (.aload_n 0, 1) := by decide +kernel
theorem dX11_count_93 : decode cX11_count 93 = .ok (.getfield 80, 3) := by decide +kernel
theorem dX11_count_96 : decode cX11_count 96 = .ok (.getfield 308, 3) := by decide +kernel
theorem dX11_count_99 : decode cX11_count 99 = .ok (.ireturn, 1) := by decide +kernel
theorem dX11_count_100 : decode cX11_count 100 = .ok (.aload_n 0, 1) := by decide +kernel
theorem dX11_count_101 : decode cX11_count 101 = .ok (.getfield 62, 3) := by decide +kernel
theorem dX11_count_104 : decode cX11_count 104 = .ok (.invokevirtual 338, 3) := by decide +kernel
theorem dX11_count_107 : decode cX11_count 107 = .ok (.ireturn, 1) := by decide +kernel
theorem dX11_count_108 : decode cX11_count 108 = .ok (.aload_n 0, 1) := by decide +kernel
theorem dX11_count_109 : decode cX11_count 109 = .ok (.getfield 80, 3) := by decide +kernel
theorem dX11_count_112 : decode cX11_count 112 = .ok (.getfield 320, 3) := by decide +kernel
theorem dX11_count_115 : decode cX11_count 115 = .ok (.ireturn, 1) := by decide +kernel
theorem dX11_count_116 : decode cX11_count 116 = .ok (.aload_n 0, 1) := by decide +kernel
theorem dX11_count_117 : decode cX11_count 117 = .ok (.getfield 80, 3) := by decide +kernel
theorem dX11_count_120 : decode cX11_count 120 = .ok (.getfield 347, 3) := by decide +kernel
theorem dX11_count_123 : decode cX11_count 123 = .ok (.ireturn, 1) := by decide +kernel
theorem dX11_count_124 : decode cX11_count 124 = .ok (.aload_n 0, 1) := by decide +kernel
theorem dX11_count_125 : decode cX11_count 125 = .ok (.getfield 103, 3) := by decide +kernel
theorem dX11_count_128 : decode cX11_count 128 = .ok (.getfield 164, 3) := by decide +kernel
theorem dX11_count_131 : decode cX11_count 131 = .ok (.ireturn, 1) := by decide +kernel
theorem dX11_count_132 : decode cX11_count 132 = .ok (.aload_n 0, 1) := by decide +kernel
theorem dX11_count_133 : decode cX11_count 133 = .ok (.getfield 103, 3) := by decide +kernel
theorem dX11_count_136 : decode cX11_count 136 = .ok (.getfield 167, 3) := by decide +kernel
theorem dX11_count_139 : decode cX11_count 139 = .ok (.ireturn, 1) := by decide +kernel
theorem dX11_count_140 : decode cX11_count 140 = .ok (.aload_n 0, 1) := by decide +kernel
theorem dX11_count_141 : decode cX11_count 141 = .ok (.getfield 107, 3) := by decide +kernel
theorem dX11_count_144 : decode cX11_count 144 = .ok (.ireturn, 1) := by decide +kernel
theorem dX11_count_145 : decode cX11_count 145 = .ok (.aload_n 0, 1) := by decide +kernel
theorem dX11_count_146 : decode cX11_count 146 = .ok (.getfield 103, 3) := by decide +kernel
theorem dX11_count_149 : decode cX11_count 149 = .ok (.getfield 352, 3) := by decide +kernel
theorem dX11_count_152 : decode cX11_count 152 = .ok (.ireturn, 1) := by decide +kernel
theorem dX11_count_153 : decode cX11_count 153 = .ok (.aload_n 0, 1) := by decide +kernel
theorem dX11_count_154 : decode cX11_count 154 = .ok (.getfield 14, 3) := by decide +kernel
theorem dX11_count_157 : decode cX11_count 157 = .ok (.getfield 118, 3) := by decide +kernel
theorem dX11_count_160 : decode cX11_count 160 = .ok (.ireturn, 1) := by decide +kernel
theorem dX11_count_161 : decode cX11_count 161 = .ok (.aload_n 0, 1) := by decide +kernel
theorem dX11_count_162 : decode cX11_count 162 = .ok (.getfield 103, 3) := by decide +kernel
theorem dX11_count_165 : decode cX11_count 165 = .ok (.getfield 364, 3) := by decide +kernel
theorem dX11_count_168 : decode cX11_count 168 = .ok (.ireturn, 1) := by decide +kernel
theorem dX11_count_169 : decode cX11_count 169 = .ok (.iconst (-1), 1) := by decide +kernel
theorem dX11_count_170 : decode cX11_count 170 = .ok (.ireturn, 1) := by decide +kernel
theorem dX11_isInput_0 : decode cX11_isInput 0 = .ok (.iload_n 1, 1) := by decide +kernel
theorem dX11_isInput_1 : decode cX11_isInput 1 = .ok (.ifCond .lt 18, 3) := by decide +kernel
theorem dX11_isInput_4 : decode cX11_isInput 4 = .ok (.iload_n 1, 1) := by decide +kernel
theorem dX11_isInput_5 : decode cX11_isInput 5 = .ok (.aload_n 0, 1) := by decide +kernel
theorem dX11_isInput_6 : decode cX11_isInput 6 = .ok (.getfield 103, 3) := by decide +kernel
theorem dX11_isInput_9 : decode cX11_isInput 9 = .ok (.getfield 358, 3) := by decide +kernel
theorem dX11_isInput_12 : decode cX11_isInput 12 = .ok (.if_icmp .ge 7, 3) := by decide +kernel
theorem dX11_isInput_15 : decode cX11_isInput 15 = .ok (.iconst 1, 1) := by decide +kernel
theorem dX11_isInput_16 : decode cX11_isInput 16 = .ok (.goto 4, 3) := by decide +kernel
theorem dX11_isInput_19 : decode cX11_isInput 19 = .ok (.iconst 0, 1) := by decide +kernel
theorem dX11_isInput_20 : decode cX11_isInput 20 = .ok (.ireturn, 1) := by decide +kernel
theorem dX11_isValue_0 : decode cX11_isValue 0 = .ok (.iload_n 1, 1) := by decide +kernel
theorem dX11_isValue_1 : decode cX11_isValue 1 = .ok (.ifCond .lt 18, 3) := by decide +kernel
theorem dX11_isValue_4 : decode cX11_isValue 4 = .ok (.iload_n 1, 1) := by decide +kernel
theorem dX11_isValue_5 : decode cX11_isValue 5 = .ok (.aload_n 0, 1) := by decide +kernel
theorem dX11_isValue_6 : decode cX11_isValue 6 = .ok (.getfield 37, 3) := by decide +kernel
theorem dX11_isValue_9 : decode cX11_isValue 9 = .ok (.getfield 261, 3) := by decide +kernel
theorem dX11_isValue_12 : decode cX11_isValue 12 = .ok (.if_icmp .ge 7, 3) := by decide +kernel
theorem dX11_isValue_15 : decode cX11_isValue 15 = .ok (.iconst 1, 1) := by decide +kernel
theorem dX11_isValue_16 : decode cX11_isValue 16 = .ok (.goto 4, 3) := by decide +kernel
theorem dX11_isValue_19 : decode cX11_isValue 19 = .ok (.iconst 0, 1) := by decide +kernel
theorem dX11_isValue_20 : decode cX11_isValue 20 = .ok (.ireturn, 1) := by decide +kernel
theorem dX11_isShown_0 : decode cX11_isShown 0 = .ok (.iload_n 1, 1) := by decide +kernel
theorem dX11_isShown_1 : decode cX11_isShown 1 = .ok (.ifCond .lt 18, 3) := by decide +kernel
theorem dX11_isShown_4 : decode cX11_isShown 4 = .ok (.iload_n 1, 1) := by decide +kernel
theorem dX11_isShown_5 : decode cX11_isShown 5 = .ok (.aload_n 0, 1) := by decide +kernel
theorem dX11_isShown_6 : decode cX11_isShown 6 = .ok (.getfield 37, 3) := by decide +kernel
theorem dX11_isShown_9 : decode cX11_isShown 9 = .ok (.getfield 361, 3) := by decide +kernel
theorem dX11_isShown_12 : decode cX11_isShown 12 = .ok (.if_icmp .ge 7, 3) := by decide +kernel
theorem dX11_isShown_15 : decode cX11_isShown 15 = .ok (.iconst 1, 1) := by decide +kernel
theorem dX11_isShown_16 : decode cX11_isShown 16 = .ok (.goto 4, 3) := by decide +kernel
theorem dX11_isShown_19 : decode cX11_isShown 19 = .ok (.iconst 0, 1) := by decide +kernel
theorem dX11_isShown_20 : decode cX11_isShown 20 = .ok (.ireturn, 1) := by decide +kernel
theorem dX11_isPlace_0 : decode cX11_isPlace 0 = .ok (.iload_n 1, 1) := by decide +kernel
theorem dX11_isPlace_1 : decode cX11_isPlace 1 = .ok (.ifCond .lt 18, 3) := by decide +kernel
theorem dX11_isPlace_4 : decode cX11_isPlace 4 = .ok (.iload_n 1, 1) := by decide +kernel
theorem dX11_isPlace_5 : decode cX11_isPlace 5 = .ok (.aload_n 0, 1) := by decide +kernel
theorem dX11_isPlace_6 : decode cX11_isPlace 6 = .ok (.getfield 80, 3) := by decide +kernel
theorem dX11_isPlace_9 : decode cX11_isPlace 9 = .ok (.getfield 308, 3) := by decide +kernel
theorem dX11_isPlace_12 : decode cX11_isPlace 12 = .ok (.if_icmp .ge 7, 3) := by decide +kernel
theorem dX11_isPlace_15 : decode cX11_isPlace 15 = .ok (.iconst 1, 1) := by decide +kernel
theorem dX11_isPlace_16 : decode cX11_isPlace 16 = .ok (.goto 4, 3) := by decide +kernel
theorem dX11_isPlace_19 : decode cX11_isPlace 19 = .ok (.iconst 0, 1) := by decide +kernel
theorem dX11_isPlace_20 : decode cX11_isPlace 20 = .ok (.ireturn, 1) := by decide +kernel
theorem dX11_isLane_0 : decode cX11_isLane 0 = .ok (.iload_n 0, 1) := by decide +kernel
theorem dX11_isLane_1 : decode cX11_isLane 1 = .ok (.ifCond .lt 12, 3) := by decide +kernel
theorem dX11_isLane_4 : decode cX11_isLane 4 = .ok (.iload_n 0, 1) := by decide +kernel
theorem dX11_isLane_5 : decode cX11_isLane 5 = .ok (.iconst 4, 1) := by decide +kernel
theorem dX11_isLane_6 : decode cX11_isLane 6 = .ok (.if_icmp .ge 7, 3) := by decide +kernel
theorem dX11_isLane_9 : decode cX11_isLane 9 = .ok (.iconst 1, 1) := by decide +kernel
theorem dX11_isLane_10 : decode cX11_isLane 10 = .ok (.goto 4, 3) := by decide +kernel
theorem dX11_isLane_13 : decode cX11_isLane 13 = .ok (.iconst 0, 1) := by decide +kernel
theorem dX11_isLane_14 : decode cX11_isLane 14 = .ok (.ireturn, 1) := by decide +kernel
theorem dX11_isRange_0 : decode cX11_isRange 0 = .ok (.iload_n 0, 1) := by decide +kernel
theorem dX11_isRange_1 : decode cX11_isRange 1 = .ok (.ifCond .lt 19, 3) := by decide +kernel
theorem dX11_isRange_4 : decode cX11_isRange 4 = .ok (.iload_n 0, 1) := by decide +kernel
theorem dX11_isRange_5 : decode cX11_isRange 5 = .ok (.iload_n 1, 1) := by decide +kernel
theorem dX11_isRange_6 : decode cX11_isRange 6 = .ok (.if_icmp .gt 14, 3) := by decide +kernel
theorem dX11_isRange_9 : decode cX11_isRange 9 = .ok (.iload_n 1, 1) := by decide +kernel
theorem dX11_isRange_10 : decode cX11_isRange 10 = .ok (.sipush 999, 3) := by decide +kernel
theorem dX11_isRange_13 : decode cX11_isRange 13 = .ok (.if_icmp .gt 7, 3) := by decide +kernel
theorem dX11_isRange_16 : decode cX11_isRange 16 = .ok (.iconst 1, 1) := by decide +kernel
theorem dX11_isRange_17 : decode cX11_isRange 17 = .ok (.goto 4, 3) := by decide +kernel
theorem dX11_isRange_20 : decode cX11_isRange 20 = .ok (.iconst 0, 1) := by decide +kernel
theorem dX11_isRange_21 : decode cX11_isRange 21 = .ok (.ireturn, 1) := by decide +kernel
theorem dX11_argsOf_0 : decode cX11_argsOf 0 = .ok (.iload_n 0, 1) := by decide +kernel
theorem dX11_argsOf_1 : decode cX11_argsOf 1 = .ok (.tableswitch 81 0 14 #[75, 75, 81, 81, 81, 81, 81, 77, 81, 81, 81, 81, 77, 79, 77], 75) := by decide +kernel
theorem dX11_argsOf_76 : decode cX11_argsOf 76 = .ok (.iconst 0, 1) := by decide +kernel
theorem dX11_argsOf_77 : decode cX11_argsOf 77 = .ok (.ireturn, 1) := by decide +kernel
theorem dX11_argsOf_78 : decode cX11_argsOf 78 = .ok (.iconst 1, 1) := by decide +kernel
theorem dX11_argsOf_79 : decode cX11_argsOf 79 = .ok (.ireturn, 1) := by decide +kernel
theorem dX11_argsOf_80 : decode cX11_argsOf 80 = .ok (.iconst 3, 1) := by decide +kernel
theorem dX11_argsOf_81 : decode cX11_argsOf 81 = .ok (.ireturn, 1) := by decide +kernel
theorem dX11_argsOf_82 : decode cX11_argsOf 82 = .ok (.iconst 2, 1) := by decide +kernel
theorem dX11_argsOf_83 : decode cX11_argsOf 83 = .ok (.ireturn, 1) := by decide +kernel
theorem dX11_typeTaken_0 : decode cX11_typeTaken 0 = .ok (.iload_n 0, 1) := by decide +kernel
theorem dX11_typeTaken_1 : decode cX11_typeTaken 1 = .ok (.bipush 10, 2) := by decide +kernel
theorem dX11_typeTaken_3 : decode cX11_typeTaken 3 = .ok (.if_icmp .eq 15, 3) := by decide +kernel
theorem dX11_typeTaken_6 : decode cX11_typeTaken 6 = .ok (.iload_n 0, 1) := by decide +kernel
theorem dX11_typeTaken_7 : decode cX11_typeTaken 7 = .ok (.bipush 11, 2) := by decide +kernel
theorem dX11_typeTaken_9 : decode cX11_typeTaken 9 = .ok (.if_icmp .eq 9, 3) := by decide +kernel
theorem dX11_typeTaken_12 : decode cX11_typeTaken 12 = .ok (.iload_n 0, 1) := by decide +kernel
theorem dX11_typeTaken_13 : decode cX11_typeTaken 13 = .ok (.bipush 12, 2) := by decide +kernel
theorem dX11_typeTaken_15 : decode cX11_typeTaken 15 = .ok (.if_icmp .ne 7, 3) := by decide +kernel
theorem dX11_typeTaken_18 : decode cX11_typeTaken 18 = .ok (.iconst 1, 1) := by decide +kernel
theorem dX11_typeTaken_19 : decode cX11_typeTaken 19 = .ok (.goto 4, 3) := by decide +kernel
theorem dX11_typeTaken_22 : decode cX11_typeTaken 22 = .ok (.iconst 0, 1) := by decide +kernel
theorem dX11_typeTaken_23 : decode cX11_typeTaken 23 = .ok (.ireturn, 1) := by decide +kernel
theorem dX11_typeMade_0 : decode cX11_typeMade 0 = .ok (.iload_n 0, 1) := by decide +kernel
theorem dX11_typeMade_1 : decode cX11_typeMade 1 = .ok (.bipush 8, 2) := by decide +kernel
theorem dX11_typeMade_3 : decode cX11_typeMade 3 = .ok (.if_icmp .lt 13, 3) := by decide +kernel
theorem dX11_typeMade_6 : decode cX11_typeMade 6 = .ok (.iload_n 0, 1) := by decide +kernel
theorem dX11_typeMade_7 : decode cX11_typeMade 7 = .ok (.bipush 12, 2) := by decide +kernel
theorem dX11_typeMade_9 : decode cX11_typeMade 9 = .ok (.if_icmp .gt 7, 3) := by decide +kernel
theorem dX11_typeMade_12 : decode cX11_typeMade 12 = .ok (.iconst 1, 1) := by decide +kernel
theorem dX11_typeMade_13 : decode cX11_typeMade 13 = .ok (.goto 4, 3) := by decide +kernel
theorem dX11_typeMade_16 : decode cX11_typeMade 16 = .ok (.iconst 0, 1) := by decide +kernel
theorem dX11_typeMade_17 : decode cX11_typeMade 17 = .ok (.ireturn, 1) := by decide +kernel
theorem dX11_goesEitherWay_0 : decode cX11_goesEitherWay 0 = .ok (.iload_n 0, 1) := by decide +kernel
theorem dX11_goesEitherWay_1 : decode cX11_goesEitherWay 1 = .ok (.iconst 2, 1) := by decide +kernel
theorem dX11_goesEitherWay_2 : decode cX11_goesEitherWay 2 = .ok (.if_icmp .eq 37, 3) := by decide +kernel
theorem dX11_goesEitherWay_5 : decode cX11_goesEitherWay 5 = .ok (.iload_n 0, 1) := by decide +kernel
theorem dX11_goesEitherWay_6 : decode cX11_goesEitherWay 6 = .ok (.iconst 4, 1) := by decide +kernel
theorem dX11_goesEitherWay_7 : decode cX11_goesEitherWay 7 = .ok (.if_icmp .eq 32, 3) := by decide +kernel
theorem dX11_goesEitherWay_10 : decode cX11_goesEitherWay 10 = .ok (.iload_n 0, 1) := by decide +kernel
theorem dX11_goesEitherWay_11 : decode cX11_goesEitherWay 11 = .ok (.iconst 5, 1) := by decide +kernel
theorem dX11_goesEitherWay_12 : decode cX11_goesEitherWay 12 = .ok (.if_icmp .eq 27, 3) := by decide +kernel
theorem dX11_goesEitherWay_15 : decode cX11_goesEitherWay 15 = .ok (.iload_n 0, 1) := by decide +kernel
theorem dX11_goesEitherWay_16 : decode cX11_goesEitherWay 16 = .ok (.bipush 6, 2) := by decide +kernel
theorem dX11_goesEitherWay_18 : decode cX11_goesEitherWay 18 = .ok (.if_icmp .eq 21, 3) := by decide +kernel
theorem dX11_goesEitherWay_21 : decode cX11_goesEitherWay 21 = .ok (.iload_n 0, 1) := by decide +kernel
theorem dX11_goesEitherWay_22 : decode cX11_goesEitherWay 22 = .ok (.bipush 9, 2) := by decide +kernel
theorem dX11_goesEitherWay_24 : decode cX11_goesEitherWay 24 = .ok (.if_icmp .eq 15, 3) := by decide +kernel
theorem dX11_goesEitherWay_27 : decode cX11_goesEitherWay 27 = .ok (.iload_n 0, 1) := by decide +kernel
theorem dX11_goesEitherWay_28 : decode cX11_goesEitherWay 28 = .ok (.bipush 10, 2) := by decide +kernel
theorem dX11_goesEitherWay_30 : decode cX11_goesEitherWay 30 = .ok (.if_icmp .eq 9, 3) := by decide +kernel
theorem dX11_goesEitherWay_33 : decode cX11_goesEitherWay 33 = .ok (.iload_n 0, 1) := by decide +kernel
theorem dX11_goesEitherWay_34 : decode cX11_goesEitherWay 34 = .ok (.bipush 11, 2) := by decide +kernel
theorem dX11_goesEitherWay_36 : decode cX11_goesEitherWay 36 = .ok (.if_icmp .ne 7, 3) := by decide +kernel
theorem dX11_goesEitherWay_39 : decode cX11_goesEitherWay 39 = .ok (.iconst 1, 1) := by decide +kernel
theorem dX11_goesEitherWay_40 : decode cX11_goesEitherWay 40 = .ok (.goto 4, 3) := by decide +kernel
theorem dX11_goesEitherWay_43 : decode cX11_goesEitherWay 43 = .ok (.iconst 0, 1) := by decide +kernel
theorem dX11_goesEitherWay_44 : decode cX11_goesEitherWay 44 = .ok (.ireturn, 1) := by decide +kernel
theorem dX11_held_0 : decode cX11_held 0 = .ok (.ldc2_w 367, 3) := by decide +kernel
theorem dX11_held_3 : decode cX11_held 3 = .ok (.ldc2_w 369, 3) := by decide +kernel
theorem dX11_held_6 : decode cX11_held 6 = .ok (.lload_n 0, 1) := by decide +kernel
theorem dX11_held_7 : decode cX11_held 7 = .ok (.invokestatic 371, 3) := by decide +kernel
theorem dX11_held_10 : decode cX11_held 10 = .ok (.invokestatic 377, 3) := by decide +kernel
theorem dX11_held_13 : decode cX11_held 13 = .ok (.l2i, 1) := by decide +kernel
theorem dX11_held_14 : decode cX11_held 14 = .ok (.ireturn, 1) := by decide +kernel
theorem dX11_made_0 : decode cX11_made 0 = .ok (.iload_n 0, 1) := by decide +kernel
theorem dX11_made_1 : decode cX11_made 1 = .ok (.tableswitch 149 2 13 #[63, 72, 81, 90, 96, 102, 112, 123, 90, 96, 134, 138], 63) := by decide +kernel
theorem dX11_made_64 : decode cX11_made 64 = .ok (.iload_n 1, 1) := by decide +kernel
theorem dX11_made_65 : decode cX11_made 65 = .ok (.i2l, 1) := by decide +kernel
theorem dX11_made_66 : decode cX11_made 66 = .ok (.iload_n 2, 1) := by decide +kernel
theorem dX11_made_67 : decode cX11_made 67 = .ok (.i2l, 1) := by decide +kernel
theorem dX11_made_68 : decode cX11_made 68 = .ok (.ladd, 1) := by decide +kernel
theorem dX11_made_69 : decode cX11_made 69 = .ok (.invokestatic 380, 3) := by decide +kernel
theorem dX11_made_72 : decode cX11_made 72 = .ok (.ireturn, 1) := by decide +kernel
theorem dX11_made_73 : decode cX11_made 73 = .ok (.iload_n 1, 1) := by decide +kernel
theorem dX11_made_74 : decode cX11_made 74 = .ok (.i2l, 1) := by decide +kernel
theorem dX11_made_75 : decode cX11_made 75 = .ok (.iload_n 2, 1) := by decide +kernel
theorem dX11_made_76 : decode cX11_made 76 = .ok (.i2l, 1) := by decide +kernel
theorem dX11_made_77 : decode cX11_made 77 = .ok (.lsub, 1) := by decide +kernel
theorem dX11_made_78 : decode cX11_made 78 = .ok (.invokestatic 380, 3) := by decide +kernel
theorem dX11_made_81 : decode cX11_made 81 = .ok (.ireturn, 1) := by decide +kernel
theorem dX11_made_82 : decode cX11_made 82 = .ok (.iload_n 1, 1) := by decide +kernel
theorem dX11_made_83 : decode cX11_made 83 = .ok (.i2l, 1) := by decide +kernel
theorem dX11_made_84 : decode cX11_made 84 = .ok (.iload_n 2, 1) := by decide +kernel
theorem dX11_made_85 : decode cX11_made 85 = .ok (.i2l, 1) := by decide +kernel
theorem dX11_made_86 : decode cX11_made 86 = .ok (.lmul, 1) := by decide +kernel
theorem dX11_made_87 : decode cX11_made 87 = .ok (.invokestatic 380, 3) := by decide +kernel
theorem dX11_made_90 : decode cX11_made 90 = .ok (.ireturn, 1) := by decide +kernel
theorem dX11_made_91 : decode cX11_made 91 = .ok (.iload_n 1, 1) := by decide +kernel
theorem dX11_made_92 : decode cX11_made 92 = .ok (.iload_n 2, 1) := by decide +kernel
theorem dX11_made_93 : decode cX11_made 93 = .ok (.invokestatic 383, 3) := by decide +kernel
theorem dX11_made_96 : decode cX11_made 96 = .ok (.ireturn, 1) := by decide +kernel
theorem dX11_made_97 : decode cX11_made 97 = .ok (.iload_n 1, 1) := by decide +kernel
theorem dX11_made_98 : decode cX11_made 98 = .ok (.iload_n 2, 1) := by decide +kernel
theorem dX11_made_99 : decode cX11_made 99 = .ok (.invokestatic 386, 3) := by decide +kernel
theorem dX11_made_102 : decode cX11_made 102 = .ok (.ireturn, 1) := by decide +kernel
theorem dX11_made_103 : decode cX11_made 103 = .ok (.aload 4, 2) := by decide +kernel
theorem dX11_made_105 : decode cX11_made 105 = .ok (.iload_n 1, 1) := by decide +kernel
theorem dX11_made_106 : decode cX11_made 106 = .ok (.bipush 16, 2) := by decide +kernel
theorem dX11_made_108 : decode cX11_made 108 = .ok (.invokestatic 388, 3) := by decide +kernel
theorem dX11_made_111 : decode cX11_made 111 = .ok (.iaload, 1) := by decide +kernel
theorem dX11_made_112 : decode cX11_made 112 = .ok (.ireturn, 1) := by decide +kernel
theorem dX11_made_113 : decode cX11_made 113 = .ok (.iload_n 1, 1) := by decide +kernel
theorem dX11_made_114 : decode cX11_made 114 = .ok (.iload_n 2, 1) := by decide +kernel
theorem dX11_made_115 : decode cX11_made 115 = .ok (.if_icmp .ge 7, 3) := by decide +kernel
theorem dX11_made_118 : decode cX11_made 118 = .ok (.iconst 1, 1) := by decide +kernel
theorem dX11_made_119 : decode cX11_made 119 = .ok (.goto 4, 3) := by decide +kernel
theorem dX11_made_122 : decode cX11_made 122 = .ok (.iconst 0, 1) := by decide +kernel
theorem dX11_made_123 : decode cX11_made 123 = .ok (.ireturn, 1) := by decide +kernel
theorem dX11_made_124 : decode cX11_made 124 = .ok (.iload_n 1, 1) := by decide +kernel
theorem dX11_made_125 : decode cX11_made 125 = .ok (.iload_n 2, 1) := by decide +kernel
theorem dX11_made_126 : decode cX11_made 126 = .ok (.if_icmp .ne 7, 3) := by decide +kernel
theorem dX11_made_129 : decode cX11_made 129 = .ok (.iconst 1, 1) := by decide +kernel
theorem dX11_made_130 : decode cX11_made 130 = .ok (.goto 4, 3) := by decide +kernel
theorem dX11_made_133 : decode cX11_made 133 = .ok (.iconst 0, 1) := by decide +kernel
theorem dX11_made_134 : decode cX11_made 134 = .ok (.ireturn, 1) := by decide +kernel
theorem dX11_made_135 : decode cX11_made 135 = .ok (.iconst 1, 1) := by decide +kernel
theorem dX11_made_136 : decode cX11_made 136 = .ok (.iload_n 1, 1) := by decide +kernel
theorem dX11_made_137 : decode cX11_made 137 = .ok (.isub, 1) := by decide +kernel
theorem dX11_made_138 : decode cX11_made 138 = .ok (.ireturn, 1) := by decide +kernel
theorem dX11_made_139 : decode cX11_made 139 = .ok (.iload_n 1, 1) := by decide +kernel
theorem dX11_made_140 : decode cX11_made 140 = .ok (.iconst 1, 1) := by decide +kernel
theorem dX11_made_141 : decode cX11_made 141 = .ok (.if_icmp .ne 7, 3) := by decide +kernel
theorem dX11_made_144 : decode cX11_made 144 = .ok (.iload_n 2, 1) := by decide +kernel
theorem dX11_made_145 : decode cX11_made 145 = .ok (.goto 4, 3) := by decide +kernel
theorem dX11_made_148 : decode cX11_made 148 = .ok (.iload_n 3, 1) := by decide +kernel
theorem dX11_made_149 : decode cX11_made 149 = .ok (.ireturn, 1) := by decide +kernel
theorem dX11_made_150 : decode cX11_made 150 = .ok (.iload_n 1, 1) := by decide +kernel
theorem dX11_made_151 : decode cX11_made 151 = .ok (.ireturn, 1) := by decide +kernel
theorem dX12_thrown_0 : decode cX12_thrown 0 = .ok (.aload_n 0, 1) := by decide +kernel
theorem dX12_thrown_1 : decode cX12_thrown 1 = .ok (.getfield 1, 3) := by decide +kernel
theorem dX12_thrown_4 : decode cX12_thrown 4 = .ok (.ireturn, 1) := by decide +kernel
theorem dX12_feed_0 : decode cX12_feed 0 = .ok (.aload_n 0, 1) := by decide +kernel
theorem dX12_feed_1 : decode cX12_feed 1 = .ok (.iconst 0, 1) := by decide +kernel
theorem dX12_feed_2 : decode cX12_feed 2 = .ok (.putfield 1, 3) := by decide +kernel
theorem dX12_feed_5 : decode cX12_feed 5 = .ok (.aload_n 0, 1) := by decide +kernel
theorem dX12_feed_6 : decode cX12_feed 6 = .ok (.lload_n 1, 1) := by decide +kernel
theorem dX12_feed_7 : decode cX12_feed 7 = .ok (.invokevirtual 7, 3) := by decide +kernel
theorem dX12_feed_10 : decode cX12_feed 10 = .ok (.aload_n 0, 1) := by decide +kernel
theorem dX12_feed_11 : decode cX12_feed 11 = .ok (.lload_n 3, 1) := by decide +kernel
theorem dX12_feed_12 : decode cX12_feed 12 = .ok (.invokevirtual 7, 3) := by decide +kernel
theorem dX12_feed_15 : decode cX12_feed 15 = .ok (.aload_n 0, 1) := by decide +kernel
theorem dX12_feed_16 : decode cX12_feed 16 = .ok (.lload 5, 2) := by decide +kernel
theorem dX12_feed_18 : decode cX12_feed 18 = .ok (.invokevirtual 7, 3) := by decide +kernel
theorem dX12_feed_21 : decode cX12_feed 21 = .ok (.aload_n 0, 1) := by decide +kernel
theorem dX12_feed_22 : decode cX12_feed 22 = .ok (.getfield 11, 3) := by decide +kernel
theorem dX12_feed_25 : decode cX12_feed 25 = .ok (.ireturn, 1) := by decide +kernel
theorem dX12_lay_0 : decode cX12_lay 0 = .ok (.bipush 56, 2) := by decide +kernel
theorem dX12_lay_2 : decode cX12_lay 2 = .ok (.istore_n 3, 1) := by decide +kernel
theorem dX12_lay_3 : decode cX12_lay 3 = .ok (.iload_n 3, 1) := by decide +kernel
theorem dX12_lay_4 : decode cX12_lay 4 = .ok (.ifCond .lt 71, 3) := by decide +kernel
theorem dX12_lay_7 : decode cX12_lay 7 = .ok (.lload_n 1, 1) := by decide +kernel
theorem dX12_lay_8 : decode cX12_lay 8 = .ok (.iload_n 3, 1) := by decide +kernel
theorem dX12_lay_9 : decode cX12_lay 9 = .ok (.lshr, 1) := by decide +kernel
theorem dX12_lay_10 : decode cX12_lay 10 = .ok (.l2i, 1) := by decide +kernel
theorem dX12_lay_11 : decode cX12_lay 11 = .ok (.sipush 255, 3) := by decide +kernel
theorem dX12_lay_14 : decode cX12_lay 14 = .ok (.iand, 1) := by decide +kernel
theorem dX12_lay_15 : decode cX12_lay 15 = .ok (.istore 4, 2) := by decide +kernel
theorem dX12_lay_17 : decode cX12_lay 17 = .ok (.iload 4, 2) := by decide +kernel
theorem dX12_lay_19 : decode cX12_lay 19 = .ok (.bipush 10, 2) := by decide +kernel
theorem dX12_lay_21 : decode cX12_lay 21 = .ok (.if_icmp .eq 17, 3) := by decide +kernel
theorem dX12_lay_24 : decode cX12_lay 24 = .ok (.iload 4, 2) := by decide +kernel
theorem dX12_lay_26 : decode cX12_lay 26 = .ok (.bipush 32, 2) := by decide +kernel
theorem dX12_lay_28 : decode cX12_lay 28 = .ok (.if_icmp .lt 41, 3) := by decide +kernel
theorem dX12_lay_31 : decode cX12_lay 31 = .ok (.iload 4, 2) := by decide +kernel
theorem dX12_lay_33 : decode cX12_lay 33 = .ok (.bipush 126, 2) := by decide +kernel
theorem dX12_lay_35 : decode cX12_lay 35 = .ok (.if_icmp .gt 34, 3) := by decide +kernel
theorem dX12_lay_38 : decode cX12_lay 38 = .ok (.aload_n 0, 1) := by decide +kernel
theorem dX12_lay_39 : decode cX12_lay 39 = .ok (.getfield 11, 3) := by decide +kernel
theorem dX12_lay_42 : decode cX12_lay 42 = .ok (.sipush 1000, 3) := by decide +kernel
theorem dX12_lay_45 : decode cX12_lay 45 = .ok (.if_icmp .ge 24, 3) := by decide +kernel
theorem dX12_lay_48 : decode cX12_lay 48 = .ok (.aload_n 0, 1) := by decide +kernel
theorem dX12_lay_49 : decode cX12_lay 49 = .ok (.getfield 14, 3) := by decide +kernel
theorem dX12_lay_52 : decode cX12_lay 52 = .ok (.aload_n 0, 1) := by decide +kernel
theorem dX12_lay_53 : decode cX12_lay 53 = .ok (.getfield 11, 3) := by decide +kernel
theorem dX12_lay_56 : decode cX12_lay 56 = .ok (.iload 4, 2) := by decide +kernel
theorem dX12_lay_58 : decode cX12_lay 58 = .ok (.iastore, 1) := by decide +kernel
theorem dX12_lay_59 : decode cX12_lay 59 = .ok (.aload_n 0, 1) := by decide +kernel
theorem dX12_lay_60 : decode cX12_lay 60 = .ok (.dup, 1) := by decide +kernel
theorem dX12_lay_61 : decode cX12_lay 61 = .ok (.getfield 11, 3) := by decide +kernel
theorem dX12_lay_64 : decode cX12_lay 64 = .ok (.iconst 1, 1) := by decide +kernel
theorem dX12_lay_65 : decode cX12_lay 65 = .ok (.iadd, 1) := by decide +kernel
theorem dX12_lay_66 : decode cX12_lay 66 = .ok (.putfield 11, 3) := by decide +kernel
theorem dX12_lay_69 : decode cX12_lay 69 = .ok (.iinc 3 (-8), 3) := by decide +kernel
theorem dX12_lay_72 : decode cX12_lay 72 = .ok (.goto (-69), 3) := by decide +kernel
theorem dX12_lay_75 : decode cX12_lay 75 = .ok (.return_, 1) := by decide +kernel
theorem dX12_isLetter_0 : decode cX12_isLetter 0 = .ok (.iload_n 0, 1) := by decide +kernel
theorem dX12_isLetter_1 : decode cX12_isLetter 1 = .ok (.bipush 97, 2) := by decide +kernel
theorem dX12_isLetter_3 : decode cX12_isLetter 3 = .ok (.if_icmp .lt 13, 3) := by decide +kernel
theorem dX12_isLetter_6 : decode cX12_isLetter 6 = .ok (.iload_n 0, 1) := by decide +kernel
theorem dX12_isLetter_7 : decode cX12_isLetter 7 = .ok (.bipush 122, 2) := by decide +kernel
theorem dX12_isLetter_9 : decode cX12_isLetter 9 = .ok (.if_icmp .gt 7, 3) := by decide +kernel
theorem dX12_isLetter_12 : decode cX12_isLetter 12 = .ok (.iconst 1, 1) := by decide +kernel
theorem dX12_isLetter_13 : decode cX12_isLetter 13 = .ok (.goto 4, 3) := by decide +kernel
theorem dX12_isLetter_16 : decode cX12_isLetter 16 = .ok (.iconst 0, 1) := by decide +kernel
theorem dX12_isLetter_17 : decode cX12_isLetter 17 = .ok (.ireturn, 1) := by decide +kernel
theorem dX12_isDigit_0 : decode cX12_isDigit 0 = .ok (.iload_n 0, 1) := by decide +kernel
theorem dX12_isDigit_1 : decode cX12_isDigit 1 = .ok (.bipush 48, 2) := by decide +kernel
theorem dX12_isDigit_3 : decode cX12_isDigit 3 = .ok (.if_icmp .lt 13, 3) := by decide +kernel
theorem dX12_isDigit_6 : decode cX12_isDigit 6 = .ok (.iload_n 0, 1) := by decide +kernel
theorem dX12_isDigit_7 : decode cX12_isDigit 7 = .ok (.bipush 57, 2) := by decide +kernel
theorem dX12_isDigit_9 : decode cX12_isDigit 9 = .ok (.if_icmp .gt 7, 3) := by decide +kernel
theorem dX12_isDigit_12 : decode cX12_isDigit 12 = .ok (.iconst 1, 1) := by decide +kernel
theorem dX12_isDigit_13 : decode cX12_isDigit 13 = .ok (.goto 4, 3) := by decide +kernel
theorem dX12_isDigit_16 : decode cX12_isDigit 16 = .ok (.iconst 0, 1) := by decide +kernel
theorem dX12_isDigit_17 : decode cX12_isDigit 17 = .ok (.ireturn, 1) := by decide +kernel
theorem dX12_behindRun_0 : decode cX12_behindRun 0 = .ok (.iload_n 1, 1) := by decide +kernel
theorem dX12_behindRun_1 : decode cX12_behindRun 1 = .ok (.istore_n 3, 1) := by decide +kernel
theorem dX12_behindRun_2 : decode cX12_behindRun 2 = .ok (.iload_n 3, 1) := by decide +kernel
theorem dX12_behindRun_3 : decode cX12_behindRun 3 = .ok (.aload_n 0, 1) := by decide +kernel
theorem dX12_behindRun_4 : decode cX12_behindRun 4 = .ok (.getfield 18, 3) := by decide +kernel
theorem dX12_behindRun_7 : decode cX12_behindRun 7 = .ok (.if_icmp .ge 40, 3) := by decide +kernel
theorem dX12_behindRun_10 : decode cX12_behindRun 10 = .ok (.iload_n 2, 1) := by decide +kernel
theorem dX12_behindRun_11 : decode cX12_behindRun 11 = .ok (.ifCond .eq 18, 3) := by decide +kernel
theorem dX12_behindRun_14 : decode cX12_behindRun 14 = .ok (.aload_n 0, 1) := by decide +kernel
theorem dX12_behindRun_15 : decode cX12_behindRun 15 = .ok (.getfield 14, 3) := by decide +kernel
theorem dX12_behindRun_18 : decode cX12_behindRun 18 = .ok (.iload_n 3, 1) := by decide +kernel
theorem dX12_behindRun_19 : decode cX12_behindRun 19 = .ok (.iaload, 1) := by decide +kernel
theorem dX12_behindRun_20 : decode cX12_behindRun 20 = .ok (.invokestatic 21, 3) := by decide +kernel
theorem dX12_behindRun_23 : decode cX12_behindRun 23 = .ok (.ifCond .eq 24, 3) := by decide +kernel
theorem dX12_behindRun_26 : decode cX12_behindRun 26 = .ok (.goto 15, 3) := by decide +kernel
theorem dX12_behindRun_29 : decode cX12_behindRun 29 = .ok (.aload_n 0, 1) := by decide +kernel
theorem dX12_behindRun_30 : decode cX12_behindRun 30 = .ok (.getfield 14, 3) := by decide +kernel
theorem dX12_behindRun_33 : decode cX12_behindRun 33 = .ok (.iload_n 3, 1) := by decide +kernel
theorem dX12_behindRun_34 : decode cX12_behindRun 34 = .ok (.iaload, 1) := by decide +kernel
theorem dX12_behindRun_35 : decode cX12_behindRun 35 = .ok (.invokestatic 25, 3) := by decide +kernel
theorem dX12_behindRun_38 : decode cX12_behindRun 38 = .ok (.ifCond .eq 9, 3) := by decide +kernel
theorem dX12_behindRun_41 : decode cX12_behindRun 41 = .ok (.iinc 3 1, 3) := by decide +kernel
theorem dX12_behindRun_44 : decode cX12_behindRun 44 = .ok (.goto (-42), 3) := by decide +kernel
theorem dX12_behindRun_47 : decode cX12_behindRun 47 = .ok (.iload_n 3, 1) := by decide +kernel
theorem dX12_behindRun_48 : decode cX12_behindRun 48 = .ok (.ireturn, 1) := by decide +kernel
theorem dX12_worthOf_0 : decode cX12_worthOf 0 = .ok (.lconst 0, 1) := by decide +kernel
theorem dX12_worthOf_1 : decode cX12_worthOf 1 = .ok (.lstore 4, 2) := by decide +kernel
theorem dX12_worthOf_3 : decode cX12_worthOf 3 = .ok (.iload_n 1, 1) := by decide +kernel
theorem dX12_worthOf_4 : decode cX12_worthOf 4 = .ok (.istore 6, 2) := by decide +kernel
theorem dX12_worthOf_6 : decode cX12_worthOf 6 = .ok (.iload 6, 2) := by decide +kernel
theorem dX12_worthOf_8 : decode cX12_worthOf 8 = .ok (.iload_n 2, 1) := by decide +kernel
theorem dX12_worthOf_9 : decode cX12_worthOf 9 = .ok (.if_icmp .ge 65, 3) := by decide +kernel
theorem dX12_worthOf_12 : decode cX12_worthOf 12 = .ok (.iload 6, 2) := by decide +kernel
theorem dX12_worthOf_14 : decode cX12_worthOf 14 = .ok (.iload_n 1, 1) := by decide +kernel
theorem dX12_worthOf_15 : decode cX12_worthOf 15 = .ok (.bipush 7, 2) := by decide +kernel
theorem dX12_worthOf_17 : decode cX12_worthOf 17 = .ok (.iadd, 1) := by decide +kernel
theorem dX12_worthOf_18 : decode cX12_worthOf 18 = .ok (.if_icmp .ge 56, 3) := by decide +kernel
theorem dX12_worthOf_21 : decode cX12_worthOf 21 = .ok (.iload_n 3, 1) := by decide +kernel
theorem dX12_worthOf_22 : decode cX12_worthOf 22 = .ok (.ifCond .eq 25, 3) := by decide +kernel
theorem dX12_worthOf_25 : decode cX12_worthOf 25 = .ok (.ldc2_w 28, 3) := by decide +kernel
theorem dX12_worthOf_28 : decode cX12_worthOf 28 = .ok (.lload 4, 2) := by decide +kernel
theorem dX12_worthOf_30 : decode cX12_worthOf 30 = .ok (.lmul, 1) := by decide +kernel
theorem dX12_worthOf_31 : decode cX12_worthOf 31 = .ok (.aload_n 0, 1) := by decide +kernel
theorem dX12_worthOf_32 : decode cX12_worthOf 32 = .ok (.getfield 14, 3) := by decide +kernel
theorem dX12_worthOf_35 : decode cX12_worthOf 35 = .ok (.iload 6, 2) := by decide +kernel
theorem dX12_worthOf_37 : decode cX12_worthOf 37 = .ok (.iaload, 1) := by decide +kernel
theorem dX12_worthOf_38 : decode cX12_worthOf 38 = .ok (.i2l, 1) := by decide +kernel
theorem dX12_worthOf_39 : decode cX12_worthOf 39 = .ok (.ladd, 1) := by decide +kernel
theorem dX12_worthOf_40 : decode cX12_worthOf 40 = .ok (.ldc2_w 30, 3) := by decide +kernel
theorem dX12_worthOf_43 : decode cX12_worthOf 43 = .ok (.lsub, 1) := by decide +kernel
theorem dX12_worthOf_44 : decode cX12_worthOf 44 = .ok (.goto 22, 3) := by decide +kernel
theorem dX12_worthOf_47 : decode cX12_worthOf 47 = .ok (.ldc2_w 32, 3) := by decide +kernel
theorem dX12_worthOf_50 : decode cX12_worthOf 50 = .ok (.lload 4, 2) := by decide +kernel
theorem dX12_worthOf_52 : decode cX12_worthOf 52 = .ok (.lmul, 1) := by decide +kernel
theorem dX12_worthOf_53 : decode cX12_worthOf 53 = .ok (.aload_n 0, 1) := by decide +kernel
theorem dX12_worthOf_54 : decode cX12_worthOf 54 = .ok (.getfield 14, 3) := by decide +kernel
theorem dX12_worthOf_57 : decode cX12_worthOf 57 = .ok (.iload 6, 2) := by decide +kernel
theorem dX12_worthOf_59 : decode cX12_worthOf 59 = .ok (.iaload, 1) := by decide +kernel
theorem dX12_worthOf_60 : decode cX12_worthOf 60 = .ok (.i2l, 1) := by decide +kernel
theorem dX12_worthOf_61 : decode cX12_worthOf 61 = .ok (.ladd, 1) := by decide +kernel
theorem dX12_worthOf_62 : decode cX12_worthOf 62 = .ok (.ldc2_w 34, 3) := by decide +kernel
theorem dX12_worthOf_65 : decode cX12_worthOf 65 = .ok (.lsub, 1) := by decide +kernel
theorem dX12_worthOf_66 : decode cX12_worthOf 66 = .ok (.lstore 4, 2) := by decide +kernel
theorem dX12_worthOf_68 : decode cX12_worthOf 68 = .ok (.iinc 6 1, 3) := by decide +kernel
theorem dX12_worthOf_71 : decode cX12_worthOf 71 = .ok (.goto (-65), 3) := by decide +kernel
theorem dX12_worthOf_74 : decode cX12_worthOf 74 = .ok (.lload 4, 2) := by decide +kernel
theorem dX12_worthOf_76 : decode cX12_worthOf 76 = .ok (.lreturn, 1) := by decide +kernel
theorem dX12_cutAll_0 : decode cX12_cutAll 0 = .ok (.aload_n 0, 1) := by decide +kernel
theorem dX12_cutAll_1 : decode cX12_cutAll 1 = .ok (.aload_n 0, 1) := by decide +kernel
theorem dX12_cutAll_2 : decode cX12_cutAll 2 = .ok (.getfield 11, 3) := by decide +kernel
theorem dX12_cutAll_5 : decode cX12_cutAll 5 = .ok (.putfield 18, 3) := by decide +kernel
theorem dX12_cutAll_8 : decode cX12_cutAll 8 = .ok (.aload_n 0, 1) := by decide +kernel
theorem dX12_cutAll_9 : decode cX12_cutAll 9 = .ok (.iconst 0, 1) := by decide +kernel
theorem dX12_cutAll_10 : decode cX12_cutAll 10 = .ok (.putfield 11, 3) := by decide +kernel
theorem dX12_cutAll_13 : decode cX12_cutAll 13 = .ok (.iconst 0, 1) := by decide +kernel
theorem dX12_cutAll_14 : decode cX12_cutAll 14 = .ok (.istore_n 1, 1) := by decide +kernel
theorem dX12_cutAll_15 : decode cX12_cutAll 15 = .ok (.iconst 0, 1) := by decide +kernel
theorem dX12_cutAll_16 : decode cX12_cutAll 16 = .ok (.istore_n 2, 1) := by decide +kernel
theorem dX12_cutAll_17 : decode cX12_cutAll 17 = .ok (.iload_n 2, 1) := by decide +kernel
theorem dX12_cutAll_18 : decode cX12_cutAll 18 = .ok (.aload_n 0, 1) := by decide +kernel
theorem dX12_cutAll_19 : decode cX12_cutAll 19 = .ok (.getfield 18, 3) := by decide +kernel
theorem dX12_cutAll_22 : decode cX12_cutAll 22 = .ok (.if_icmp .ge 160, 3) := by decide +kernel
theorem dX12_cutAll_25 : decode cX12_cutAll 25 = .ok (.aload_n 0, 1) := by decide +kernel
theorem dX12_cutAll_26 : decode cX12_cutAll 26 = .ok (.getfield 14, 3) := by decide +kernel
theorem dX12_cutAll_29 : decode cX12_cutAll 29 = .ok (.iload_n 2, 1) := by decide +kernel
theorem dX12_cutAll_30 : decode cX12_cutAll 30 = .ok (.iaload, 1) := by decide +kernel
theorem dX12_cutAll_31 : decode cX12_cutAll 31 = .ok (.istore_n 3, 1) := by decide +kernel
theorem dX12_cutAll_32 : decode cX12_cutAll 32 = .ok (.iload_n 3, 1) := by decide +kernel
theorem dX12_cutAll_33 : decode cX12_cutAll 33 = .ok (.bipush 10, 2) := by decide +kernel
theorem dX12_cutAll_35 : decode cX12_cutAll 35 = .ok (.if_icmp .eq 9, 3) := by decide +kernel
theorem dX12_cutAll_38 : decode cX12_cutAll 38 = .ok (.iload_n 3, 1) := by decide +kernel
theorem dX12_cutAll_39 : decode cX12_cutAll 39 = .ok (.bipush 32, 2) := by decide +kernel
theorem dX12_cutAll_41 : decode cX12_cutAll 41 = .ok (.if_icmp .ne 9, 3) := by decide +kernel
theorem dX12_cutAll_44 : decode cX12_cutAll 44 = .ok (.iinc 2 1, 3) := by decide +kernel
theorem dX12_cutAll_47 : decode cX12_cutAll 47 = .ok (.goto (-30), 3) := by decide +kernel
theorem dX12_cutAll_50 : decode cX12_cutAll 50 = .ok (.aload_n 0, 1) := by decide +kernel
theorem dX12_cutAll_51 : decode cX12_cutAll 51 = .ok (.getfield 36, 3) := by decide +kernel
theorem dX12_cutAll_54 : decode cX12_cutAll 54 = .ok (.iload_n 1, 1) := by decide +kernel
theorem dX12_cutAll_55 : decode cX12_cutAll 55 = .ok (.iload_n 2, 1) := by decide +kernel
theorem dX12_cutAll_56 : decode cX12_cutAll 56 = .ok (.iastore, 1) := by decide +kernel
theorem dX12_cutAll_57 : decode cX12_cutAll 57 = .ok (.iload_n 3, 1) := by decide +kernel
theorem dX12_cutAll_58 : decode cX12_cutAll 58 = .ok (.invokestatic 21, 3) := by decide +kernel
theorem dX12_cutAll_61 : decode cX12_cutAll 61 = .ok (.istore 4, 2) := by decide +kernel
theorem dX12_cutAll_63 : decode cX12_cutAll 63 = .ok (.iload 4, 2) := by decide +kernel
theorem dX12_cutAll_65 : decode cX12_cutAll 65 = .ok (.ifCond .ne 10, 3) := by decide +kernel
theorem dX12_cutAll_68 : decode cX12_cutAll 68 = .ok (.iload_n 3, 1) := by decide +kernel
theorem dX12_cutAll_69 : decode cX12_cutAll 69 = .ok (.invokestatic 25, 3) := by decide +kernel
theorem dX12_cutAll_72 : decode cX12_cutAll 72 = .ok (.ifCond .eq 13, 3) := by decide +kernel
theorem dX12_cutAll_75 : decode cX12_cutAll 75 = .ok (.aload_n 0, 1) := by decide +kernel
theorem dX12_cutAll_76 : decode cX12_cutAll 76 = .ok (.iload_n 2, 1) := by decide +kernel
theorem dX12_cutAll_77 : decode cX12_cutAll 77 = .ok (.iload 4, 2) := by decide +kernel
theorem dX12_cutAll_79 : decode cX12_cutAll 79 = .ok (.invokevirtual 39, 3) := by decide +kernel
theorem dX12_cutAll_82 : decode cX12_cutAll 82 = .ok (.goto 6, 3) := by decide +kernel
theorem dX12_cutAll_85 : decode cX12_cutAll 85 = .ok (.iload_n 2, 1) := by decide +kernel
theorem dX12_cutAll_86 : decode cX12_cutAll 86 = .ok (.iconst 1, 1) := by decide +kernel
theorem dX12_cutAll_87 : decode cX12_cutAll 87 = .ok (.iadd, 1) := by decide +kernel
theorem dX12_cutAll_88 : decode cX12_cutAll 88 = .ok (.istore 5, 2) := by decide +kernel
theorem dX12_cutAll_90 : decode cX12_cutAll 90 = .ok (.iload 4, 2) := by decide +kernel
theorem dX12_cutAll_92 : decode cX12_cutAll 92 = .ok (.ifCond .eq 8, 3) := by decide +kernel
theorem dX12_cutAll_95 : decode cX12_cutAll 95 = .ok (.bipush 7, 2) := by decide +kernel
theorem dX12_cutAll_97 : decode cX12_cutAll 97 = .ok (.goto 4, 3) := by decide +kernel
theorem dX12_cutAll_100 : decode cX12_cutAll 100 = .ok (.iconst 3, 1) := by decide +kernel
theorem dX12_cutAll_101 : decode cX12_cutAll 101 = .ok (.istore 6, 2) := by decide +kernel
theorem dX12_cutAll_103 : decode cX12_cutAll 103 = .ok (.aload_n 0, 1) := by decide +kernel
theorem dX12_cutAll_104 : decode cX12_cutAll 104 = .ok (.getfield 43, 3) := by decide +kernel
theorem dX12_cutAll_107 : decode cX12_cutAll 107 = .ok (.iload_n 1, 1) := by decide +kernel
theorem dX12_cutAll_108 : decode cX12_cutAll 108 = .ok (.iload 4, 2) := by decide +kernel
theorem dX12_cutAll_110 : decode cX12_cutAll 110 = .ok (.ifCond .ne 10, 3) := by decide +kernel
theorem dX12_cutAll_113 : decode cX12_cutAll 113 = .ok (.iload_n 3, 1) := by decide +kernel
theorem dX12_cutAll_114 : decode cX12_cutAll 114 = .ok (.invokestatic 25, 3) := by decide +kernel
theorem dX12_cutAll_117 : decode cX12_cutAll 117 = .ok (.ifCond .eq 29, 3) := by decide +kernel
theorem dX12_cutAll_120 : decode cX12_cutAll 120 = .ok (.iload 5, 2) := by decide +kernel
theorem dX12_cutAll_122 : decode cX12_cutAll 122 = .ok (.iload_n 2, 1) := by decide +kernel
theorem dX12_cutAll_123 : decode cX12_cutAll 123 = .ok (.isub, 1) := by decide +kernel
theorem dX12_cutAll_124 : decode cX12_cutAll 124 = .ok (.iload 6, 2) := by decide +kernel
theorem dX12_cutAll_126 : decode cX12_cutAll 126 = .ok (.if_icmp .le 7, 3) := by decide +kernel
theorem dX12_cutAll_129 : decode cX12_cutAll 129 = .ok (.iconst 4, 1) := by decide +kernel
theorem dX12_cutAll_130 : decode cX12_cutAll 130 = .ok (.goto 27, 3) := by decide +kernel
theorem dX12_cutAll_133 : decode cX12_cutAll 133 = .ok (.iload 4, 2) := by decide +kernel
theorem dX12_cutAll_135 : decode cX12_cutAll 135 = .ok (.ifCond .eq 7, 3) := by decide +kernel
theorem dX12_cutAll_138 : decode cX12_cutAll 138 = .ok (.iconst 1, 1) := by decide +kernel
theorem dX12_cutAll_139 : decode cX12_cutAll 139 = .ok (.goto 18, 3) := by decide +kernel
theorem dX12_cutAll_142 : decode cX12_cutAll 142 = .ok (.iconst 2, 1) := by decide +kernel
theorem dX12_cutAll_143 : decode cX12_cutAll 143 = .ok (.goto 14, 3) := by decide +kernel
theorem dX12_cutAll_146 : decode cX12_cutAll 146 = .ok (.iload_n 3, 1) := by decide +kernel
theorem dX12_cutAll_147 : decode cX12_cutAll 147 = .ok (.bipush 59, 2) := by decide +kernel
theorem dX12_cutAll_149 : decode cX12_cutAll 149 = .ok (.if_icmp .ne 7, 3) := by decide +kernel
theorem dX12_cutAll_152 : decode cX12_cutAll 152 = .ok (.iconst 3, 1) := by decide +kernel
theorem dX12_cutAll_153 : decode cX12_cutAll 153 = .ok (.goto 4, 3) := by decide +kernel
theorem dX12_cutAll_156 : decode cX12_cutAll 156 = .ok (.iconst 4, 1) := by decide +kernel
theorem dX12_cutAll_157 : decode cX12_cutAll 157 = .ok (.iastore, 1) := by decide +kernel
theorem dX12_cutAll_158 : decode cX12_cutAll 158 = .ok (.aload_n 0, 1) := by decide +kernel
theorem dX12_cutAll_159 : decode cX12_cutAll 159 = .ok (.getfield 46, 3) := by decide +kernel
theorem dX12_cutAll_162 : decode cX12_cutAll 162 = .ok (.iload_n 1, 1) := by decide +kernel
theorem dX12_cutAll_163 : decode cX12_cutAll 163 = .ok (.aload_n 0, 1) := by decide +kernel
theorem dX12_cutAll_164 : decode cX12_cutAll 164 = .ok (.iload_n 2, 1) := by decide +kernel
theorem dX12_cutAll_165 : decode cX12_cutAll 165 = .ok (.iload 5, 2) := by decide +kernel
theorem dX12_cutAll_167 : decode cX12_cutAll 167 = .ok (.iload 4, 2) := by decide +kernel
theorem dX12_cutAll_169 : decode cX12_cutAll 169 = .ok (.invokevirtual 50, 3) := by decide +kernel
theorem dX12_cutAll_172 : decode cX12_cutAll 172 = .ok (.lastore, 1) := by decide +kernel
theorem dX12_cutAll_173 : decode cX12_cutAll 173 = .ok (.iload 5, 2) := by decide +kernel
theorem dX12_cutAll_175 : decode cX12_cutAll 175 = .ok (.istore_n 2, 1) := by decide +kernel
theorem dX12_cutAll_176 : decode cX12_cutAll 176 = .ok (.iinc 1 1, 3) := by decide +kernel
theorem dX12_cutAll_179 : decode cX12_cutAll 179 = .ok (.goto (-162), 3) := by decide +kernel
theorem dX12_cutAll_182 : decode cX12_cutAll 182 = .ok (.aload_n 0, 1) := by decide +kernel
theorem dX12_cutAll_183 : decode cX12_cutAll 183 = .ok (.getfield 43, 3) := by decide +kernel
theorem dX12_cutAll_186 : decode cX12_cutAll 186 = .ok (.iload_n 1, 1) := by decide +kernel
theorem dX12_cutAll_187 : decode cX12_cutAll 187 = .ok (.iconst 0, 1) := by decide +kernel
theorem dX12_cutAll_188 : decode cX12_cutAll 188 = .ok (.iastore, 1) := by decide +kernel
theorem dX12_cutAll_189 : decode cX12_cutAll 189 = .ok (.aload_n 0, 1) := by decide +kernel
theorem dX12_cutAll_190 : decode cX12_cutAll 190 = .ok (.getfield 36, 3) := by decide +kernel
theorem dX12_cutAll_193 : decode cX12_cutAll 193 = .ok (.iload_n 1, 1) := by decide +kernel
theorem dX12_cutAll_194 : decode cX12_cutAll 194 = .ok (.aload_n 0, 1) := by decide +kernel
theorem dX12_cutAll_195 : decode cX12_cutAll 195 = .ok (.getfield 18, 3) := by decide +kernel
theorem dX12_cutAll_198 : decode cX12_cutAll 198 = .ok (.iastore, 1) := by decide +kernel
theorem dX12_cutAll_199 : decode cX12_cutAll 199 = .ok (.aload_n 0, 1) := by decide +kernel
theorem dX12_cutAll_200 : decode cX12_cutAll 200 = .ok (.iconst 0, 1) := by decide +kernel
theorem dX12_cutAll_201 : decode cX12_cutAll 201 = .ok (.putfield 54, 3) := by decide +kernel
theorem dX12_cutAll_204 : decode cX12_cutAll 204 = .ok (.aload_n 0, 1) := by decide +kernel
theorem dX12_cutAll_205 : decode cX12_cutAll 205 = .ok (.iconst 0, 1) := by decide +kernel
theorem dX12_cutAll_206 : decode cX12_cutAll 206 = .ok (.putfield 57, 3) := by decide +kernel
theorem dX12_cutAll_209 : decode cX12_cutAll 209 = .ok (.return_, 1) := by decide +kernel
theorem dX12_wrong_0 : decode cX12_wrong 0 = .ok (.aload_n 0, 1) := by decide +kernel
theorem dX12_wrong_1 : decode cX12_wrong 1 = .ok (.getfield 57, 3) := by decide +kernel
theorem dX12_wrong_4 : decode cX12_wrong 4 = .ok (.ifCond .ne 21, 3) := by decide +kernel
theorem dX12_wrong_7 : decode cX12_wrong 7 = .ok (.aload_n 0, 1) := by decide +kernel
theorem dX12_wrong_8 : decode cX12_wrong 8 = .ok (.iload_n 1, 1) := by decide +kernel
theorem dX12_wrong_9 : decode cX12_wrong 9 = .ok (.bipush 16, 2) := by decide +kernel
theorem dX12_wrong_11 : decode cX12_wrong 11 = .ok (.aload_n 0, 1) := by decide +kernel
theorem dX12_wrong_12 : decode cX12_wrong 12 = .ok (.getfield 36, 3) := by decide +kernel
theorem dX12_wrong_15 : decode cX12_wrong 15 = .ok (.aload_n 0, 1) := by decide +kernel
theorem dX12_wrong_16 : decode cX12_wrong 16 = .ok (.getfield 54, 3) := by decide +kernel
theorem dX12_wrong_19 : decode cX12_wrong 19 = .ok (.iaload, 1) := by decide +kernel
theorem dX12_wrong_20 : decode cX12_wrong 20 = .ok (.imul, 1) := by decide +kernel
theorem dX12_wrong_21 : decode cX12_wrong 21 = .ok (.iadd, 1) := by decide +kernel
theorem dX12_wrong_22 : decode cX12_wrong 22 = .ok (.putfield 57, 3) := by decide +kernel
theorem dX12_wrong_25 : decode cX12_wrong 25 = .ok (.return_, 1) := by decide +kernel
theorem dX12_isWord_0 : decode cX12_isWord 0 = .ok (.aload_n 0, 1) := by decide +kernel
theorem dX12_isWord_1 : decode cX12_isWord 1 = .ok (.getfield 57, 3) := by decide +kernel
theorem dX12_isWord_4 : decode cX12_isWord 4 = .ok (.ifCond .ne 39, 3) := by decide +kernel
theorem dX12_isWord_7 : decode cX12_isWord 7 = .ok (.aload_n 0, 1) := by decide +kernel
theorem dX12_isWord_8 : decode cX12_isWord 8 = .ok (.getfield 43, 3) := by decide +kernel
theorem dX12_isWord_11 : decode cX12_isWord 11 = .ok (.aload_n 0, 1) := by decide +kernel
theorem dX12_isWord_12 : decode cX12_isWord 12 = .ok (.getfield 54, 3) := by decide +kernel
theorem dX12_isWord_15 : decode cX12_isWord 15 = .ok (.iaload, 1) := by decide +kernel
theorem dX12_isWord_16 : decode cX12_isWord 16 = .ok (.iconst 1, 1) := by decide +kernel
theorem dX12_isWord_17 : decode cX12_isWord 17 = .ok (.if_icmp .ne 26, 3) := by decide +kernel
theorem dX12_isWord_20 : decode cX12_isWord 20 = .ok (.aload_n 0, 1) := by decide +kernel
theorem dX12_isWord_21 : decode cX12_isWord 21 = .ok (.getfield 46, 3) := by decide +kernel
theorem dX12_isWord_24 : decode cX12_isWord 24 = .ok (.aload_n 0, 1) := by decide +kernel
theorem dX12_isWord_25 : decode cX12_isWord 25 = .ok (.getfield 54, 3) := by decide +kernel
theorem dX12_isWord_28 : decode cX12_isWord 28 = .ok (.laload, 1) := by decide +kernel
theorem dX12_isWord_29 : decode cX12_isWord 29 = .ok (.aload_n 0, 1) := by decide +kernel
theorem dX12_isWord_30 : decode cX12_isWord 30 = .ok (.getfield 60, 3) := by decide +kernel
theorem dX12_isWord_33 : decode cX12_isWord 33 = .ok (.iload_n 1, 1) := by decide +kernel
theorem dX12_isWord_34 : decode cX12_isWord 34 = .ok (.laload, 1) := by decide +kernel
theorem dX12_isWord_35 : decode cX12_isWord 35 = .ok (.lcmp, 1) := by decide +kernel
theorem dX12_isWord_36 : decode cX12_isWord 36 = .ok (.ifCond .ne 7, 3) := by decide +kernel
theorem dX12_isWord_39 : decode cX12_isWord 39 = .ok (.iconst 1, 1) := by decide +kernel
theorem dX12_isWord_40 : decode cX12_isWord 40 = .ok (.goto 4, 3) := by decide +kernel
theorem dX12_isWord_43 : decode cX12_isWord 43 = .ok (.iconst 0, 1) := by decide +kernel
theorem dX12_isWord_44 : decode cX12_isWord 44 = .ok (.ireturn, 1) := by decide +kernel
theorem dX12_takeWord_0 : decode cX12_takeWord 0 = .ok (.aload_n 0, 1) := by decide +kernel
theorem dX12_takeWord_1 : decode cX12_takeWord 1 = .ok (.iload_n 1, 1) := by decide +kernel
theorem dX12_takeWord_2 : decode cX12_takeWord 2 = .ok (.invokevirtual 63, 3) := by decide +kernel
theorem dX12_takeWord_5 : decode cX12_takeWord 5 = .ok (.istore_n 2, 1) := by decide +kernel
theorem dX12_takeWord_6 : decode cX12_takeWord 6 = .ok (.iload_n 2, 1) := by decide +kernel
theorem dX12_takeWord_7 : decode cX12_takeWord 7 = .ok (.ifCond .ne 8, 3) := by decide +kernel
theorem dX12_takeWord_10 : decode cX12_takeWord 10 = .ok (.aload_n 0, 1) := by decide +kernel
theorem dX12_takeWord_11 : decode cX12_takeWord 11 = .ok (.iconst 1, 1) := by decide +kernel
theorem dX12_takeWord_12 : decode cX12_takeWord 12 = .ok (.invokevirtual 66, 3) := by decide +kernel
theorem dX12_takeWord_15 : decode cX12_takeWord 15 = .ok (.aload_n 0, 1) := by decide +kernel
theorem dX12_takeWord_16 : decode cX12_takeWord 16 = .ok (.dup, 1) := by decide +kernel
theorem dX12_takeWord_17 : decode cX12_takeWord 17 = .ok (.getfield 54, 3) := by decide +kernel
theorem dX12_takeWord_20 : decode cX12_takeWord 20 = .ok (.iload_n 2, 1) := by decide +kernel
theorem dX12_takeWord_21 : decode cX12_takeWord 21 = .ok (.ifCond .eq 7, 3) := by decide +kernel
theorem dX12_takeWord_24 : decode cX12_takeWord 24 = .ok (.iconst 1, 1) := by decide +kernel
theorem dX12_takeWord_25 : decode cX12_takeWord 25 = .ok (.goto 4, 3) := by decide +kernel
theorem dX12_takeWord_28 : decode cX12_takeWord 28 = .ok (.iconst 0, 1) := by decide +kernel
theorem dX12_takeWord_29 : decode cX12_takeWord 29 = .ok (.iadd, 1) := by decide +kernel
theorem dX12_takeWord_30 : decode cX12_takeWord 30 = .ok (.putfield 54, 3) := by decide +kernel
theorem dX12_takeWord_33 : decode cX12_takeWord 33 = .ok (.return_, 1) := by decide +kernel
theorem dX12_takeEnd_0 : decode cX12_takeEnd 0 = .ok (.aload_n 0, 1) := by decide +kernel
theorem dX12_takeEnd_1 : decode cX12_takeEnd 1 = .ok (.getfield 57, 3) := by decide +kernel
theorem dX12_takeEnd_4 : decode cX12_takeEnd 4 = .ok (.ifCond .ne 21, 3) := by decide +kernel
theorem dX12_takeEnd_7 : decode cX12_takeEnd 7 = .ok (.aload_n 0, 1) := by decide +kernel
theorem dX12_takeEnd_8 : decode cX12_takeEnd 8 = .ok (.getfield 43, 3) := by decide +kernel
theorem dX12_takeEnd_11 : decode cX12_takeEnd 11 = .ok (.aload_n 0, 1) := by decide +kernel
theorem dX12_takeEnd_12 : decode cX12_takeEnd 12 = .ok (.getfield 54, 3) := by decide +kernel
theorem dX12_takeEnd_15 : decode cX12_takeEnd 15 = .ok (.iaload, 1) := by decide +kernel
theorem dX12_takeEnd_16 : decode cX12_takeEnd 16 = .ok (.iconst 3, 1) := by decide +kernel
theorem dX12_takeEnd_17 : decode cX12_takeEnd 17 = .ok (.if_icmp .eq 8, 3) := by decide +kernel
theorem dX12_takeEnd_20 : decode cX12_takeEnd 20 = .ok (.aload_n 0, 1) := by decide +kernel
theorem dX12_takeEnd_21 : decode cX12_takeEnd 21 = .ok (.iconst 1, 1) := by decide +kernel
theorem dX12_takeEnd_22 : decode cX12_takeEnd 22 = .ok (.invokevirtual 66, 3) := by decide +kernel
theorem dX12_takeEnd_25 : decode cX12_takeEnd 25 = .ok (.aload_n 0, 1) := by decide +kernel
theorem dX12_takeEnd_26 : decode cX12_takeEnd 26 = .ok (.dup, 1) := by decide +kernel
theorem dX12_takeEnd_27 : decode cX12_takeEnd 27 = .ok (.getfield 54, 3) := by decide +kernel
theorem dX12_takeEnd_30 : decode cX12_takeEnd 30 = .ok (.aload_n 0, 1) := by decide +kernel
theorem dX12_takeEnd_31 : decode cX12_takeEnd 31 = .ok (.getfield 57, 3) := by decide +kernel
theorem dX12_takeEnd_34 : decode cX12_takeEnd 34 = .ok (.ifCond .ne 7, 3) := by decide +kernel
theorem dX12_takeEnd_37 : decode cX12_takeEnd 37 = .ok (.iconst 1, 1) := by decide +kernel
theorem dX12_takeEnd_38 : decode cX12_takeEnd 38 = .ok (.goto 4, 3) := by decide +kernel
theorem dX12_takeEnd_41 : decode cX12_takeEnd 41 = .ok (.iconst 0, 1) := by decide +kernel
theorem dX12_takeEnd_42 : decode cX12_takeEnd 42 = .ok (.iadd, 1) := by decide +kernel
theorem dX12_takeEnd_43 : decode cX12_takeEnd 43 = .ok (.putfield 54, 3) := by decide +kernel
theorem dX12_takeEnd_46 : decode cX12_takeEnd 46 = .ok (.return_, 1) := by decide +kernel
theorem dX12_wordHere_0 : decode cX12_wordHere 0 = .ok (.iconst (-1), 1) := by decide +kernel
theorem dX12_wordHere_1 : decode cX12_wordHere 1 = .ok (.istore_n 3, 1) := by decide +kernel
theorem dX12_wordHere_2 : decode cX12_wordHere 2 = .ok (.iconst 0, 1) := by decide +kernel
theorem dX12_wordHere_3 : decode cX12_wordHere 3 = .ok (.istore 4, 2) := by decide +kernel
theorem dX12_wordHere_5 : decode cX12_wordHere 5 = .ok (.iload 4, 2) := by decide +kernel
theorem dX12_wordHere_7 : decode cX12_wordHere 7 = .ok (.iload_n 2, 1) := by decide +kernel
theorem dX12_wordHere_8 : decode cX12_wordHere 8 = .ok (.if_icmp .ge 27, 3) := by decide +kernel
theorem dX12_wordHere_11 : decode cX12_wordHere 11 = .ok (.aload_n 0, 1) := by decide +kernel
theorem dX12_wordHere_12 : decode cX12_wordHere 12 = .ok (.iload_n 1, 1) := by decide +kernel
theorem dX12_wordHere_13 : decode cX12_wordHere 13 = .ok (.iload 4, 2) := by decide +kernel
theorem dX12_wordHere_15 : decode cX12_wordHere 15 = .ok (.iadd, 1) := by decide +kernel
theorem dX12_wordHere_16 : decode cX12_wordHere 16 = .ok (.invokevirtual 63, 3) := by decide +kernel
theorem dX12_wordHere_19 : decode cX12_wordHere 19 = .ok (.ifCond .eq 8, 3) := by decide +kernel
theorem dX12_wordHere_22 : decode cX12_wordHere 22 = .ok (.iload 4, 2) := by decide +kernel
theorem dX12_wordHere_24 : decode cX12_wordHere 24 = .ok (.goto 4, 3) := by decide +kernel
theorem dX12_wordHere_27 : decode cX12_wordHere 27 = .ok (.iload_n 3, 1) := by decide +kernel
theorem dX12_wordHere_28 : decode cX12_wordHere 28 = .ok (.istore_n 3, 1) := by decide +kernel
theorem dX12_wordHere_29 : decode cX12_wordHere 29 = .ok (.iinc 4 1, 3) := by decide +kernel
theorem dX12_wordHere_32 : decode cX12_wordHere 32 = .ok (.goto (-27), 3) := by decide +kernel
theorem dX12_wordHere_35 : decode cX12_wordHere 35 = .ok (.iload_n 3, 1) := by decide +kernel
theorem dX12_wordHere_36 : decode cX12_wordHere 36 = .ok (.ireturn, 1) := by decide +kernel
theorem dX12_isName_0 : decode cX12_isName 0 = .ok (.aload_n 0, 1) := by decide +kernel
theorem dX12_isName_1 : decode cX12_isName 1 = .ok (.getfield 57, 3) := by decide +kernel
theorem dX12_isName_4 : decode cX12_isName 4 = .ok (.ifCond .ne 30, 3) := by decide +kernel
theorem dX12_isName_7 : decode cX12_isName 7 = .ok (.aload_n 0, 1) := by decide +kernel
theorem dX12_isName_8 : decode cX12_isName 8 = .ok (.getfield 43, 3) := by decide +kernel
theorem dX12_isName_11 : decode cX12_isName 11 = .ok (.aload_n 0, 1) := by decide +kernel
theorem dX12_isName_12 : decode cX12_isName 12 = .ok (.getfield 54, 3) := by decide +kernel
theorem dX12_isName_15 : decode cX12_isName 15 = .ok (.iaload, 1) := by decide +kernel
theorem dX12_isName_16 : decode cX12_isName 16 = .ok (.iconst 1, 1) := by decide +kernel
theorem dX12_isName_17 : decode cX12_isName 17 = .ok (.if_icmp .ne 17, 3) := by decide +kernel
theorem dX12_isName_20 : decode cX12_isName 20 = .ok (.aload_n 0, 1) := by decide +kernel
theorem dX12_isName_21 : decode cX12_isName 21 = .ok (.iconst 0, 1) := by decide +kernel
theorem dX12_isName_22 : decode cX12_isName 22 = .ok (.bipush 23, 2) := by decide +kernel
theorem dX12_isName_24 : decode cX12_isName 24 = .ok (.invokevirtual 70, 3) := by decide +kernel
theorem dX12_isName_27 : decode cX12_isName 27 = .ok (.ifCond .ge 7, 3) := by decide +kernel
theorem dX12_isName_30 : decode cX12_isName 30 = .ok (.iconst 1, 1) := by decide +kernel
theorem dX12_isName_31 : decode cX12_isName 31 = .ok (.goto 4, 3) := by decide +kernel
theorem dX12_isName_34 : decode cX12_isName 34 = .ok (.iconst 0, 1) := by decide +kernel
theorem dX12_isName_35 : decode cX12_isName 35 = .ok (.ireturn, 1) := by decide +kernel
theorem dX12_takeNumber_0 : decode cX12_takeNumber 0 = .ok (.aload_n 0, 1) := by decide +kernel
theorem dX12_takeNumber_1 : decode cX12_takeNumber 1 = .ok (.getfield 57, 3) := by decide +kernel
theorem dX12_takeNumber_4 : decode cX12_takeNumber 4 = .ok (.ifCond .ne 24, 3) := by decide +kernel
theorem dX12_takeNumber_7 : decode cX12_takeNumber 7 = .ok (.aload_n 0, 1) := by decide +kernel
theorem dX12_takeNumber_8 : decode cX12_takeNumber 8 = .ok (.getfield 43, 3) := by decide +kernel
theorem dX12_takeNumber_11 : decode cX12_takeNumber 11 = .ok (.aload_n 0, 1) := by decide +kernel
theorem dX12_takeNumber_12 : decode cX12_takeNumber 12 = .ok (.getfield 54, 3) := by decide +kernel
theorem dX12_takeNumber_15 : decode cX12_takeNumber 15 = .ok (.iaload, 1) := by decide +kernel
theorem dX12_takeNumber_16 : decode cX12_takeNumber 16 = .ok (.iconst 2, 1) := by decide +kernel
theorem dX12_takeNumber_17 : decode cX12_takeNumber 17 = .ok (.if_icmp .eq 11, 3) := by decide +kernel
theorem dX12_takeNumber_20 : decode cX12_takeNumber 20 = .ok (.aload_n 0, 1) := by decide +kernel
theorem dX12_takeNumber_21 : decode cX12_takeNumber 21 = .ok (.iconst 1, 1) := by decide +kernel
theorem dX12_takeNumber_22 : decode cX12_takeNumber 22 = .ok (.invokevirtual 66, 3) := by decide +kernel
theorem dX12_takeNumber_25 : decode cX12_takeNumber 25 = .ok (.goto 45, 3) := by decide +kernel
theorem dX12_takeNumber_28 : decode cX12_takeNumber 28 = .ok (.aload_n 0, 1) := by decide +kernel
theorem dX12_takeNumber_29 : decode cX12_takeNumber 29 = .ok (.getfield 57, 3) := by decide +kernel
theorem dX12_takeNumber_32 : decode cX12_takeNumber 32 = .ok (.ifCond .ne 38, 3) := by decide +kernel
theorem dX12_takeNumber_35 : decode cX12_takeNumber 35 = .ok (.aload_n 0, 1) := by decide +kernel
theorem dX12_takeNumber_36 : decode cX12_takeNumber 36 = .ok (.getfield 46, 3) := by decide +kernel
theorem dX12_takeNumber_39 : decode cX12_takeNumber 39 = .ok (.aload_n 0, 1) := by decide +kernel
theorem dX12_takeNumber_40 : decode cX12_takeNumber 40 = .ok (.getfield 54, 3) := by decide +kernel
theorem dX12_takeNumber_43 : decode cX12_takeNumber 43 = .ok (.laload, 1) := by decide +kernel
theorem dX12_takeNumber_44 : decode cX12_takeNumber 44 = .ok (.iload_n 1, 1) := by decide +kernel
theorem dX12_takeNumber_45 : decode cX12_takeNumber 45 = .ok (.i2l, 1) := by decide +kernel
theorem dX12_takeNumber_46 : decode cX12_takeNumber 46 = .ok (.lcmp, 1) := by decide +kernel
theorem dX12_takeNumber_47 : decode cX12_takeNumber 47 = .ok (.ifCond .lt 18, 3) := by decide +kernel
theorem dX12_takeNumber_50 : decode cX12_takeNumber 50 = .ok (.aload_n 0, 1) := by decide +kernel
theorem dX12_takeNumber_51 : decode cX12_takeNumber 51 = .ok (.getfield 46, 3) := by decide +kernel
theorem dX12_takeNumber_54 : decode cX12_takeNumber 54 = .ok (.aload_n 0, 1) := by decide +kernel
theorem dX12_takeNumber_55 : decode cX12_takeNumber 55 = .ok (.getfield 54, 3) := by decide +kernel
theorem dX12_takeNumber_58 : decode cX12_takeNumber 58 = .ok (.laload, 1) := by decide +kernel
theorem dX12_takeNumber_59 : decode cX12_takeNumber 59 = .ok (.iload_n 2, 1) := by decide +kernel
theorem dX12_takeNumber_60 : decode cX12_takeNumber 60 = .ok (.i2l, 1) := by decide +kernel
theorem dX12_takeNumber_61 : decode cX12_takeNumber 61 = .ok (.lcmp, 1) := by decide +kernel
theorem dX12_takeNumber_62 : decode cX12_takeNumber 62 = .ok (.ifCond .le 8, 3) := by decide +kernel
theorem dX12_takeNumber_65 : decode cX12_takeNumber 65 = .ok (.aload_n 0, 1) := by decide +kernel
theorem dX12_takeNumber_66 : decode cX12_takeNumber 66 = .ok (.iconst 4, 1) := by decide +kernel
theorem dX12_takeNumber_67 : decode cX12_takeNumber 67 = .ok (.invokevirtual 66, 3) := by decide +kernel
theorem dX12_takeNumber_70 : decode cX12_takeNumber 70 = .ok (.aload_n 0, 1) := by decide +kernel
theorem dX12_takeNumber_71 : decode cX12_takeNumber 71 = .ok (.getfield 57, 3) := by decide +kernel
theorem dX12_takeNumber_74 : decode cX12_takeNumber 74 = .ok (.ifCond .le 5, 3) := by decide +kernel
theorem dX12_takeNumber_77 : decode cX12_takeNumber 77 = .ok (.iconst 0, 1) := by decide +kernel
theorem dX12_takeNumber_78 : decode cX12_takeNumber 78 = .ok (.ireturn, 1) := by decide +kernel
theorem dX12_takeNumber_79 : decode cX12_takeNumber 79 = .ok (.aload_n 0, 1) := by decide +kernel
theorem dX12_takeNumber_80 : decode cX12_takeNumber 80 = .ok (.dup, 1) := by decide +kernel
theorem dX12_takeNumber_81 : decode cX12_takeNumber 81 = .ok (.getfield 54, 3) := by decide +kernel
theorem dX12_takeNumber_84 : decode cX12_takeNumber 84 = .ok (.iconst 1, 1) := by decide +kernel
theorem dX12_takeNumber_85 : decode cX12_takeNumber 85 = .ok (.iadd, 1) := by decide +kernel
theorem dX12_takeNumber_86 : decode cX12_takeNumber 86 = .ok (.putfield 54, 3) := by decide +kernel
theorem dX12_takeNumber_89 : decode cX12_takeNumber 89 = .ok (.aload_n 0, 1) := by decide +kernel
theorem dX12_takeNumber_90 : decode cX12_takeNumber 90 = .ok (.getfield 46, 3) := by decide +kernel
theorem dX12_takeNumber_93 : decode cX12_takeNumber 93 = .ok (.aload_n 0, 1) := by decide +kernel
theorem dX12_takeNumber_94 : decode cX12_takeNumber 94 = .ok (.getfield 54, 3) := by decide +kernel
theorem dX12_takeNumber_97 : decode cX12_takeNumber 97 = .ok (.iconst 1, 1) := by decide +kernel
theorem dX12_takeNumber_98 : decode cX12_takeNumber 98 = .ok (.isub, 1) := by decide +kernel
theorem dX12_takeNumber_99 : decode cX12_takeNumber 99 = .ok (.laload, 1) := by decide +kernel
theorem dX12_takeNumber_100 : decode cX12_takeNumber 100 = .ok (.l2i, 1) := by decide +kernel
theorem dX12_takeNumber_101 : decode cX12_takeNumber 101 = .ok (.ireturn, 1) := by decide +kernel
theorem dX12_within_0 : decode cX12_within 0 = .ok (.iload_n 0, 1) := by decide +kernel
theorem dX12_within_1 : decode cX12_within 1 = .ok (.iload_n 1, 1) := by decide +kernel
theorem dX12_within_2 : decode cX12_within 2 = .ok (.if_icmp .lt 12, 3) := by decide +kernel
theorem dX12_within_5 : decode cX12_within 5 = .ok (.iload_n 0, 1) := by decide +kernel
theorem dX12_within_6 : decode cX12_within 6 = .ok (.iload_n 2, 1) := by decide +kernel
theorem dX12_within_7 : decode cX12_within 7 = .ok (.if_icmp .gt 7, 3) := by decide +kernel
theorem dX12_within_10 : decode cX12_within 10 = .ok (.iconst 1, 1) := by decide +kernel
theorem dX12_within_11 : decode cX12_within 11 = .ok (.goto 4, 3) := by decide +kernel
theorem dX12_within_14 : decode cX12_within 14 = .ok (.iconst 0, 1) := by decide +kernel
theorem dX12_within_15 : decode cX12_within 15 = .ok (.ireturn, 1) := by decide +kernel
theorem dX12_init_0 : decode cX12_init 0 = .ok (.aload_n 0, 1) := by decide +kernel
theorem dX12_init_1 : decode cX12_init 1 = .ok (.invokespecial 74, 3) := by decide +kernel
theorem dX12_init_4 : decode cX12_init 4 = .ok (.aload_n 0, 1) := by decide +kernel
theorem dX12_init_5 : decode cX12_init 5 = .ok (.sipush 1000, 3) := by decide +kernel
theorem dX12_init_8 : decode cX12_init 8 = .ok (.newarray .int, 2) := by decide +kernel
theorem dX12_init_10 : decode cX12_init 10 = .ok (.putfield 14, 3) := by decide +kernel
theorem dX12_init_13 : decode cX12_init 13 = .ok (.aload_n 0, 1) := by decide +kernel
theorem dX12_init_14 : decode cX12_init 14 = .ok (.sipush 1002, 3) := by decide +kernel
theorem dX12_init_17 : decode cX12_init 17 = .ok (.newarray .int, 2) := by decide +kernel
theorem dX12_init_19 : decode cX12_init 19 = .ok (.putfield 43, 3) := by decide +kernel
theorem dX12_init_22 : decode cX12_init 22 = .ok (.aload_n 0, 1) := by decide +kernel
theorem dX12_init_23 : decode cX12_init 23 = .ok (.sipush 1002, 3) := by decide +kernel
theorem dX12_init_26 : decode cX12_init 26 = .ok (.newarray .int, 2) := by decide +kernel
theorem dX12_init_28 : decode cX12_init 28 = .ok (.putfield 36, 3) := by decide +kernel
theorem dX12_init_31 : decode cX12_init 31 = .ok (.aload_n 0, 1) := by decide +kernel
theorem dX12_init_32 : decode cX12_init 32 = .ok (.sipush 1002, 3) := by decide +kernel
theorem dX12_init_35 : decode cX12_init 35 = .ok (.newarray .long, 2) := by decide +kernel
theorem dX12_init_37 : decode cX12_init 37 = .ok (.putfield 46, 3) := by decide +kernel
theorem dX12_init_40 : decode cX12_init 40 = .ok (.aload_n 0, 1) := by decide +kernel
theorem dX12_init_41 : decode cX12_init 41 = .ok (.bipush 23, 2) := by decide +kernel
theorem dX12_init_43 : decode cX12_init 43 = .ok (.newarray .long, 2) := by decide +kernel
theorem dX12_init_45 : decode cX12_init 45 = .ok (.dup, 1) := by decide +kernel
theorem dX12_init_46 : decode cX12_init 46 = .ok (.iconst 0, 1) := by decide +kernel
theorem dX12_init_47 : decode cX12_init 47 = .ok (.ldc2_w 80, 3) := by decide +kernel
theorem dX12_init_50 : decode cX12_init 50 = .ok (.lastore, 1) := by decide +kernel
theorem dX12_init_51 : decode cX12_init 51 = .ok (.dup, 1) := by decide +kernel
theorem dX12_init_52 : decode cX12_init 52 = .ok (.iconst 1, 1) := by decide +kernel
theorem dX12_init_53 : decode cX12_init 53 = .ok (.ldc2_w 82, 3) := by decide +kernel
theorem dX12_init_56 : decode cX12_init 56 = .ok (.lastore, 1) := by decide +kernel
theorem dX12_init_57 : decode cX12_init 57 = .ok (.dup, 1) := by decide +kernel
theorem dX12_init_58 : decode cX12_init 58 = .ok (.iconst 2, 1) := by decide +kernel
theorem dX12_init_59 : decode cX12_init 59 = .ok (.ldc2_w 84, 3) := by decide +kernel
theorem dX12_init_62 : decode cX12_init 62 = .ok (.lastore, 1) := by decide +kernel
theorem dX12_init_63 : decode cX12_init 63 = .ok (.dup, 1) := by decide +kernel
theorem dX12_init_64 : decode cX12_init 64 = .ok (.iconst 3, 1) := by decide +kernel
theorem dX12_init_65 : decode cX12_init 65 = .ok (.ldc2_w 86, 3) := by decide +kernel
theorem dX12_init_68 : decode cX12_init 68 = .ok (.lastore, 1) := by decide +kernel
theorem dX12_init_69 : decode cX12_init 69 = .ok (.dup, 1) := by decide +kernel
theorem dX12_init_70 : decode cX12_init 70 = .ok (.iconst 4, 1) := by decide +kernel
theorem dX12_init_71 : decode cX12_init 71 = .ok (.ldc2_w 88, 3) := by decide +kernel
theorem dX12_init_74 : decode cX12_init 74 = .ok (.lastore, 1) := by decide +kernel
theorem dX12_init_75 : decode cX12_init 75 = .ok (.dup, 1) := by decide +kernel
theorem dX12_init_76 : decode cX12_init 76 = .ok (.iconst 5, 1) := by decide +kernel
theorem dX12_init_77 : decode cX12_init 77 = .ok (.ldc2_w 90, 3) := by decide +kernel
theorem dX12_init_80 : decode cX12_init 80 = .ok (.lastore, 1) := by decide +kernel
theorem dX12_init_81 : decode cX12_init 81 = .ok (.dup, 1) := by decide +kernel
theorem dX12_init_82 : decode cX12_init 82 = .ok (.bipush 6, 2) := by decide +kernel
theorem dX12_init_84 : decode cX12_init 84 = .ok (.ldc2_w 92, 3) := by decide +kernel
theorem dX12_init_87 : decode cX12_init 87 = .ok (.lastore, 1) := by decide +kernel
theorem dX12_init_88 : decode cX12_init 88 = .ok (.dup, 1) := by decide +kernel
theorem dX12_init_89 : decode cX12_init 89 = .ok (.bipush 7, 2) := by decide +kernel
theorem dX12_init_91 : decode cX12_init 91 = .ok (.ldc2_w 94, 3) := by decide +kernel
theorem dX12_init_94 : decode cX12_init 94 = .ok (.lastore, 1) := by decide +kernel
theorem dX12_init_95 : decode cX12_init 95 = .ok (.dup, 1) := by decide +kernel
theorem dX12_init_96 : decode cX12_init 96 = .ok (.bipush 8, 2) := by decide +kernel
theorem dX12_init_98 : decode cX12_init 98 = .ok (.ldc2_w 96, 3) := by decide +kernel
theorem dX12_init_101 : decode cX12_init 101 = .ok (.lastore, 1) := by decide +kernel
theorem dX12_init_102 : decode cX12_init 102 = .ok (.dup, 1) := by decide +kernel
theorem dX12_init_103 : decode cX12_init 103 = .ok (.bipush 9, 2) := by decide +kernel
theorem dX12_init_105 : decode cX12_init 105 = .ok (.ldc2_w 98, 3) := by decide +kernel
theorem dX12_init_108 : decode cX12_init 108 = .ok (.lastore, 1) := by decide +kernel
theorem dX12_init_109 : decode cX12_init 109 = .ok (.dup, 1) := by decide +kernel
theorem dX12_init_110 : decode cX12_init 110 = .ok (.bipush 10, 2) := by decide +kernel
theorem dX12_init_112 : decode cX12_init 112 = .ok (.ldc2_w 100, 3) := by decide +kernel
theorem dX12_init_115 : decode cX12_init 115 = .ok (.lastore, 1) := by decide +kernel
theorem dX12_init_116 : decode cX12_init 116 = .ok (.dup, 1) := by decide +kernel
theorem dX12_init_117 : decode cX12_init 117 = .ok (.bipush 11, 2) := by decide +kernel
theorem dX12_init_119 : decode cX12_init 119 = .ok (.ldc2_w 102, 3) := by decide +kernel
theorem dX12_init_122 : decode cX12_init 122 = .ok (.lastore, 1) := by decide +kernel
theorem dX12_init_123 : decode cX12_init 123 = .ok (.dup, 1) := by decide +kernel
theorem dX12_init_124 : decode cX12_init 124 = .ok (.bipush 12, 2) := by decide +kernel
theorem dX12_init_126 : decode cX12_init 126 = .ok (.ldc2_w 104, 3) := by decide +kernel
theorem dX12_init_129 : decode cX12_init 129 = .ok (.lastore, 1) := by decide +kernel
theorem dX12_init_130 : decode cX12_init 130 = .ok (.dup, 1) := by decide +kernel
theorem dX12_init_131 : decode cX12_init 131 = .ok (.bipush 13, 2) := by decide +kernel
theorem dX12_init_133 : decode cX12_init 133 = .ok (.ldc2_w 106, 3) := by decide +kernel
theorem dX12_init_136 : decode cX12_init 136 = .ok (.lastore, 1) := by decide +kernel
theorem dX12_init_137 : decode cX12_init 137 = .ok (.dup, 1) := by decide +kernel
theorem dX12_init_138 : decode cX12_init 138 = .ok (.bipush 14, 2) := by decide +kernel
theorem dX12_init_140 : decode cX12_init 140 = .ok (.ldc2_w 108, 3) := by decide +kernel
theorem dX12_init_143 : decode cX12_init 143 = .ok (.lastore, 1) := by decide +kernel
theorem dX12_init_144 : decode cX12_init 144 = .ok (.dup, 1) := by decide +kernel
theorem dX12_init_145 : decode cX12_init 145 = .ok (.bipush 15, 2) := by decide +kernel
theorem dX12_init_147 : decode cX12_init 147 = .ok (.ldc2_w 110, 3) := by decide +kernel
theorem dX12_init_150 : decode cX12_init 150 = .ok (.lastore, 1) := by decide +kernel
theorem dX12_init_151 : decode cX12_init 151 = .ok (.dup, 1) := by decide +kernel
theorem dX12_init_152 : decode cX12_init 152 = .ok (.bipush 16, 2) := by decide +kernel
theorem dX12_init_154 : decode cX12_init 154 = .ok (.ldc2_w 112, 3) := by decide +kernel
theorem dX12_init_157 : decode cX12_init 157 = .ok (.lastore, 1) := by decide +kernel
theorem dX12_init_158 : decode cX12_init 158 = .ok (.dup, 1) := by decide +kernel
theorem dX12_init_159 : decode cX12_init 159 = .ok (.bipush 17, 2) := by decide +kernel
theorem dX12_init_161 : decode cX12_init 161 = .ok (.ldc2_w 114, 3) := by decide +kernel
theorem dX12_init_164 : decode cX12_init 164 = .ok (.lastore, 1) := by decide +kernel
theorem dX12_init_165 : decode cX12_init 165 = .ok (.dup, 1) := by decide +kernel
theorem dX12_init_166 : decode cX12_init 166 = .ok (.bipush 18, 2) := by decide +kernel
theorem dX12_init_168 : decode cX12_init 168 = .ok (.ldc2_w 116, 3) := by decide +kernel
theorem dX12_init_171 : decode cX12_init 171 = .ok (.lastore, 1) := by decide +kernel
theorem dX12_init_172 : decode cX12_init 172 = .ok (.dup, 1) := by decide +kernel
theorem dX12_init_173 : decode cX12_init 173 = .ok (.bipush 19, 2) := by decide +kernel
theorem dX12_init_175 : decode cX12_init 175 = .ok (.ldc2_w 118, 3) := by decide +kernel
theorem dX12_init_178 : decode cX12_init 178 = .ok (.lastore, 1) := by decide +kernel
theorem dX12_init_179 : decode cX12_init 179 = .ok (.dup, 1) := by decide +kernel
theorem dX12_init_180 : decode cX12_init 180 = .ok (.bipush 20, 2) := by decide +kernel
theorem dX12_init_182 : decode cX12_init 182 = .ok (.ldc2_w 120, 3) := by decide +kernel
theorem dX12_init_185 : decode cX12_init 185 = .ok (.lastore, 1) := by decide +kernel
theorem dX12_init_186 : decode cX12_init 186 = .ok (.dup, 1) := by decide +kernel
theorem dX12_init_187 : decode cX12_init 187 = .ok (.bipush 21, 2) := by decide +kernel
theorem dX12_init_189 : decode cX12_init 189 = .ok (.ldc2_w 122, 3) := by decide +kernel
theorem dX12_init_192 : decode cX12_init 192 = .ok (.lastore, 1) := by decide +kernel
theorem dX12_init_193 : decode cX12_init 193 = .ok (.dup, 1) := by decide +kernel
theorem dX12_init_194 : decode cX12_init 194 = .ok (.bipush 22, 2) := by decide +kernel
theorem dX12_init_196 : decode cX12_init 196 = .ok (.ldc2_w 124, 3) := by decide +kernel
theorem dX12_init_199 : decode cX12_init 199 = .ok (.lastore, 1) := by decide +kernel
theorem dX12_init_200 : decode cX12_init 200 = .ok (.putfield 60, 3) := by decide +kernel
theorem dX12_init_203 : decode cX12_init 203 = .ok (.aload_n 0, 1) := by decide +kernel
theorem dX12_init_204 : decode cX12_init 204 = .ok (.sipush 824, 3) := by decide +kernel
theorem dX12_init_207 : decode cX12_init 207 = .ok (.newarray .int, 2) := by decide +kernel
theorem dX12_init_209 : decode cX12_init 209 = .ok (.putfield 126, 3) := by decide +kernel
theorem dX12_init_212 : decode cX12_init 212 = .ok (.aload_n 0, 1) := by decide +kernel
theorem dX12_init_213 : decode cX12_init 213 = .ok (.sipush 5040, 3) := by decide +kernel
theorem dX12_init_216 : decode cX12_init 216 = .ok (.newarray .int, 2) := by decide +kernel
theorem dX12_init_218 : decode cX12_init 218 = .ok (.putfield 129, 3) := by decide +kernel
theorem dX12_init_221 : decode cX12_init 221 = .ok (.aload_n 0, 1) := by decide +kernel
theorem dX12_init_222 : decode cX12_init 222 = .ok (.bipush 20, 2) := by decide +kernel
theorem dX12_init_224 : decode cX12_init 224 = .ok (.newarray .long, 2) := by decide +kernel
theorem dX12_init_226 : decode cX12_init 226 = .ok (.putfield 132, 3) := by decide +kernel
theorem dX12_init_229 : decode cX12_init 229 = .ok (.aload_n 0, 1) := by decide +kernel
theorem dX12_init_230 : decode cX12_init 230 = .ok (.bipush 20, 2) := by decide +kernel
theorem dX12_init_232 : decode cX12_init 232 = .ok (.newarray .int, 2) := by decide +kernel
theorem dX12_init_234 : decode cX12_init 234 = .ok (.putfield 135, 3) := by decide +kernel
theorem dX12_init_237 : decode cX12_init 237 = .ok (.aload_n 0, 1) := by decide +kernel
theorem dX12_init_238 : decode cX12_init 238 = .ok (.iconst 4, 1) := by decide +kernel
theorem dX12_init_239 : decode cX12_init 239 = .ok (.newarray .int, 2) := by decide +kernel
theorem dX12_init_241 : decode cX12_init 241 = .ok (.putfield 138, 3) := by decide +kernel
theorem dX12_init_244 : decode cX12_init 244 = .ok (.aload_n 0, 1) := by decide +kernel
theorem dX12_init_245 : decode cX12_init 245 = .ok (.iconst 4, 1) := by decide +kernel
theorem dX12_init_246 : decode cX12_init 246 = .ok (.newarray .int, 2) := by decide +kernel
theorem dX12_init_248 : decode cX12_init 248 = .ok (.putfield 141, 3) := by decide +kernel
theorem dX12_init_251 : decode cX12_init 251 = .ok (.aload_n 0, 1) := by decide +kernel
theorem dX12_init_252 : decode cX12_init 252 = .ok (.iconst 4, 1) := by decide +kernel
theorem dX12_init_253 : decode cX12_init 253 = .ok (.newarray .int, 2) := by decide +kernel
theorem dX12_init_255 : decode cX12_init 255 = .ok (.putfield 144, 3) := by decide +kernel
theorem dX12_init_258 : decode cX12_init 258 = .ok (.aload_n 0, 1) := by decide +kernel
theorem dX12_init_259 : decode cX12_init 259 = .ok (.bipush 20, 2) := by decide +kernel
theorem dX12_init_261 : decode cX12_init 261 = .ok (.newarray .int, 2) := by decide +kernel
theorem dX12_init_263 : decode cX12_init 263 = .ok (.putfield 147, 3) := by decide +kernel
theorem dX12_init_266 : decode cX12_init 266 = .ok (.aload_n 0, 1) := by decide +kernel
theorem dX12_init_267 : decode cX12_init 267 = .ok (.bipush 80, 2) := by decide +kernel
theorem dX12_init_269 : decode cX12_init 269 = .ok (.newarray .int, 2) := by decide +kernel
theorem dX12_init_271 : decode cX12_init 271 = .ok (.putfield 150, 3) := by decide +kernel
theorem dX12_init_274 : decode cX12_init 274 = .ok (.aload_n 0, 1) := by decide +kernel
theorem dX12_init_275 : decode cX12_init 275 = .ok (.bipush 80, 2) := by decide +kernel
theorem dX12_init_277 : decode cX12_init 277 = .ok (.newarray .int, 2) := by decide +kernel
theorem dX12_init_279 : decode cX12_init 279 = .ok (.putfield 153, 3) := by decide +kernel
theorem dX12_init_282 : decode cX12_init 282 = .ok (.aload_n 0, 1) := by decide +kernel
theorem dX12_init_283 : decode cX12_init 283 = .ok (.iconst 4, 1) := by decide +kernel
theorem dX12_init_284 : decode cX12_init 284 = .ok (.newarray .int, 2) := by decide +kernel
theorem dX12_init_286 : decode cX12_init 286 = .ok (.putfield 156, 3) := by decide +kernel
theorem dX12_init_289 : decode cX12_init 289 = .ok (.aload_n 0, 1) := by decide +kernel
theorem dX12_init_290 : decode cX12_init 290 = .ok (.iconst 4, 1) := by decide +kernel
theorem dX12_init_291 : decode cX12_init 291 = .ok (.newarray .int, 2) := by decide +kernel
theorem dX12_init_293 : decode cX12_init 293 = .ok (.putfield 159, 3) := by decide +kernel
theorem dX12_init_296 : decode cX12_init 296 = .ok (.aload_n 0, 1) := by decide +kernel
theorem dX12_init_297 : decode cX12_init 297 = .ok (.bipush 12, 2) := by decide +kernel
theorem dX12_init_299 : decode cX12_init 299 = .ok (.newarray .int, 2) := by decide +kernel
theorem dX12_init_301 : decode cX12_init 301 = .ok (.putfield 162, 3) := by decide +kernel
theorem dX12_init_304 : decode cX12_init 304 = .ok (.aload_n 0, 1) := by decide +kernel
theorem dX12_init_305 : decode cX12_init 305 = .ok (.bipush 24, 2) := by decide +kernel
theorem dX12_init_307 : decode cX12_init 307 = .ok (.newarray .int, 2) := by decide +kernel
theorem dX12_init_309 : decode cX12_init 309 = .ok (.putfield 165, 3) := by decide +kernel
theorem dX12_init_312 : decode cX12_init 312 = .ok (.aload_n 0, 1) := by decide +kernel
theorem dX12_init_313 : decode cX12_init 313 = .ok (.bipush 16, 2) := by decide +kernel
theorem dX12_init_315 : decode cX12_init 315 = .ok (.newarray .int, 2) := by decide +kernel
theorem dX12_init_317 : decode cX12_init 317 = .ok (.putfield 168, 3) := by decide +kernel
theorem dX12_init_320 : decode cX12_init 320 = .ok (.aload_n 0, 1) := by decide +kernel
theorem dX12_init_321 : decode cX12_init 321 = .ok (.bipush 64, 2) := by decide +kernel
theorem dX12_init_323 : decode cX12_init 323 = .ok (.newarray .int, 2) := by decide +kernel
theorem dX12_init_325 : decode cX12_init 325 = .ok (.putfield 171, 3) := by decide +kernel
theorem dX12_init_328 : decode cX12_init 328 = .ok (.aload_n 0, 1) := by decide +kernel
theorem dX12_init_329 : decode cX12_init 329 = .ok (.bipush 64, 2) := by decide +kernel
theorem dX12_init_331 : decode cX12_init 331 = .ok (.newarray .int, 2) := by decide +kernel
theorem dX12_init_333 : decode cX12_init 333 = .ok (.putfield 174, 3) := by decide +kernel
theorem dX12_init_336 : decode cX12_init 336 = .ok (.aload_n 0, 1) := by decide +kernel
theorem dX12_init_337 : decode cX12_init 337 = .ok (.bipush 64, 2) := by decide +kernel
theorem dX12_init_339 : decode cX12_init 339 = .ok (.newarray .boolean, 2) := by decide +kernel
theorem dX12_init_341 : decode cX12_init 341 = .ok (.putfield 177, 3) := by decide +kernel
theorem dX12_init_344 : decode cX12_init 344 = .ok (.aload_n 0, 1) := by decide +kernel
theorem dX12_init_345 : decode cX12_init 345 = .ok (.bipush 64, 2) := by decide +kernel
theorem dX12_init_347 : decode cX12_init 347 = .ok (.newarray .boolean, 2) := by decide +kernel
theorem dX12_init_349 : decode cX12_init 349 = .ok (.putfield 181, 3) := by decide +kernel
theorem dX12_init_352 : decode cX12_init 352 = .ok (.aload_n 0, 1) := by decide +kernel
theorem dX12_init_353 : decode cX12_init 353 = .ok (.bipush 64, 2) := by decide +kernel
theorem dX12_init_355 : decode cX12_init 355 = .ok (.newarray .int, 2) := by decide +kernel
theorem dX12_init_357 : decode cX12_init 357 = .ok (.putfield 184, 3) := by decide +kernel
theorem dX12_init_360 : decode cX12_init 360 = .ok (.aload_n 0, 1) := by decide +kernel
theorem dX12_init_361 : decode cX12_init 361 = .ok (.bipush 64, 2) := by decide +kernel
theorem dX12_init_363 : decode cX12_init 363 = .ok (.newarray .int, 2) := by decide +kernel
theorem dX12_init_365 : decode cX12_init 365 = .ok (.putfield 187, 3) := by decide +kernel
theorem dX12_init_368 : decode cX12_init 368 = .ok (.aload_n 0, 1) := by decide +kernel
theorem dX12_init_369 : decode cX12_init 369 = .ok (.bipush 64, 2) := by decide +kernel
theorem dX12_init_371 : decode cX12_init 371 = .ok (.newarray .long, 2) := by decide +kernel
theorem dX12_init_373 : decode cX12_init 373 = .ok (.putfield 190, 3) := by decide +kernel
theorem dX12_init_376 : decode cX12_init 376 = .ok (.aload_n 0, 1) := by decide +kernel
theorem dX12_init_377 : decode cX12_init 377 = .ok (.bipush 64, 2) := by decide +kernel
theorem dX12_init_379 : decode cX12_init 379 = .ok (.newarray .long, 2) := by decide +kernel
theorem dX12_init_381 : decode cX12_init 381 = .ok (.putfield 193, 3) := by decide +kernel
theorem dX12_init_384 : decode cX12_init 384 = .ok (.aload_n 0, 1) := by decide +kernel
theorem dX12_init_385 : decode cX12_init 385 = .ok (.bipush 64, 2) := by decide +kernel
theorem dX12_init_387 : decode cX12_init 387 = .ok (.newarray .int, 2) := by decide +kernel
theorem dX12_init_389 : decode cX12_init 389 = .ok (.putfield 196, 3) := by decide +kernel
theorem dX12_init_392 : decode cX12_init 392 = .ok (.aload_n 0, 1) := by decide +kernel
theorem dX12_init_393 : decode cX12_init 393 = .ok (.bipush 64, 2) := by decide +kernel
theorem dX12_init_395 : decode cX12_init 395 = .ok (.newarray .int, 2) := by decide +kernel
theorem dX12_init_397 : decode cX12_init 397 = .ok (.putfield 199, 3) := by decide +kernel
theorem dX12_init_400 : decode cX12_init 400 = .ok (.aload_n 0, 1) := by decide +kernel
theorem dX12_init_401 : decode cX12_init 401 = .ok (.bipush 64, 2) := by decide +kernel
theorem dX12_init_403 : decode cX12_init 403 = .ok (.newarray .int, 2) := by decide +kernel
theorem dX12_init_405 : decode cX12_init 405 = .ok (.putfield 202, 3) := by decide +kernel
theorem dX12_init_408 : decode cX12_init 408 = .ok (.aload_n 0, 1) := by decide +kernel
theorem dX12_init_409 : decode cX12_init 409 = .ok (.bipush 64, 2) := by decide +kernel
theorem dX12_init_411 : decode cX12_init 411 = .ok (.newarray .int, 2) := by decide +kernel
theorem dX12_init_413 : decode cX12_init 413 = .ok (.putfield 205, 3) := by decide +kernel
theorem dX12_init_416 : decode cX12_init 416 = .ok (.aload_n 0, 1) := by decide +kernel
theorem dX12_init_417 : decode cX12_init 417 = .ok (.bipush 64, 2) := by decide +kernel
theorem dX12_init_419 : decode cX12_init 419 = .ok (.newarray .int, 2) := by decide +kernel
theorem dX12_init_421 : decode cX12_init 421 = .ok (.putfield 208, 3) := by decide +kernel
theorem dX12_init_424 : decode cX12_init 424 = .ok (.aload_n 0, 1) := by decide +kernel
theorem dX12_init_425 : decode cX12_init 425 = .ok (.bipush 64, 2) := by decide +kernel
theorem dX12_init_427 : decode cX12_init 427 = .ok (.newarray .int, 2) := by decide +kernel
theorem dX12_init_429 : decode cX12_init 429 = .ok (.putfield 211, 3) := by decide +kernel
theorem dX12_init_432 : decode cX12_init 432 = .ok (.aload_n 0, 1) := by decide +kernel
theorem dX12_init_433 : decode cX12_init 433 = .ok (.iconst 2, 1) := by decide +kernel
theorem dX12_init_434 : decode cX12_init 434 = .ok (.newarray .int, 2) := by decide +kernel
theorem dX12_init_436 : decode cX12_init 436 = .ok (.putfield 214, 3) := by decide +kernel
theorem dX12_init_439 : decode cX12_init 439 = .ok (.aload_n 0, 1) := by decide +kernel
theorem dX12_init_440 : decode cX12_init 440 = .ok (.sipush 256, 3) := by decide +kernel
theorem dX12_init_443 : decode cX12_init 443 = .ok (.newarray .int, 2) := by decide +kernel
theorem dX12_init_445 : decode cX12_init 445 = .ok (.putfield 217, 3) := by decide +kernel
theorem dX12_init_448 : decode cX12_init 448 = .ok (.aload_n 0, 1) := by decide +kernel
theorem dX12_init_449 : decode cX12_init 449 = .ok (.sipush 256, 3) := by decide +kernel
theorem dX12_init_452 : decode cX12_init 452 = .ok (.newarray .int, 2) := by decide +kernel
theorem dX12_init_454 : decode cX12_init 454 = .ok (.putfield 220, 3) := by decide +kernel
theorem dX12_init_457 : decode cX12_init 457 = .ok (.aload_n 0, 1) := by decide +kernel
theorem dX12_init_458 : decode cX12_init 458 = .ok (.sipush 256, 3) := by decide +kernel
theorem dX12_init_461 : decode cX12_init 461 = .ok (.newarray .int, 2) := by decide +kernel
theorem dX12_init_463 : decode cX12_init 463 = .ok (.putfield 223, 3) := by decide +kernel
theorem dX12_init_466 : decode cX12_init 466 = .ok (.aload_n 0, 1) := by decide +kernel
theorem dX12_init_467 : decode cX12_init 467 = .ok (.bipush 12, 2) := by decide +kernel
theorem dX12_init_469 : decode cX12_init 469 = .ok (.newarray .int, 2) := by decide +kernel
theorem dX12_init_471 : decode cX12_init 471 = .ok (.putfield 226, 3) := by decide +kernel
theorem dX12_init_474 : decode cX12_init 474 = .ok (.aload_n 0, 1) := by decide +kernel
theorem dX12_init_475 : decode cX12_init 475 = .ok (.sipush 4096, 3) := by decide +kernel
theorem dX12_init_478 : decode cX12_init 478 = .ok (.newarray .boolean, 2) := by decide +kernel
theorem dX12_init_480 : decode cX12_init 480 = .ok (.putfield 229, 3) := by decide +kernel
theorem dX12_init_483 : decode cX12_init 483 = .ok (.aload_n 0, 1) := by decide +kernel
theorem dX12_init_484 : decode cX12_init 484 = .ok (.iconst 0, 1) := by decide +kernel
theorem dX12_init_485 : decode cX12_init 485 = .ok (.invokevirtual 232, 3) := by decide +kernel
theorem dX12_init_488 : decode cX12_init 488 = .ok (.return_, 1) := by decide +kernel
theorem dX12_clears_0 : decode cX12_clears 0 = .ok (.iconst 0, 1) := by decide +kernel
theorem dX12_clears_1 : decode cX12_clears 1 = .ok (.istore_n 2, 1) := by decide +kernel
theorem dX12_clears_2 : decode cX12_clears 2 = .ok (.iload_n 2, 1) := by decide +kernel
theorem dX12_clears_3 : decode cX12_clears 3 = .ok (.sipush 412, 3) := by decide +kernel
theorem dX12_clears_6 : decode cX12_clears 6 = .ok (.if_icmp .ge 18, 3) := by decide +kernel
theorem dX12_clears_9 : decode cX12_clears 9 = .ok (.aload_n 0, 1) := by decide +kernel
theorem dX12_clears_10 : decode cX12_clears 10 = .ok (.getfield 126, 3) := by decide +kernel
theorem dX12_clears_13 : decode cX12_clears 13 = .ok (.iload_n 1, 1) := by decide +kernel
theorem dX12_clears_14 : decode cX12_clears 14 = .ok (.iload_n 2, 1) := by decide +kernel
theorem dX12_clears_15 : decode cX12_clears 15 = .ok (.iadd, 1) := by decide +kernel
theorem dX12_clears_16 : decode cX12_clears 16 = .ok (.iconst 0, 1) := by decide +kernel
theorem dX12_clears_17 : decode cX12_clears 17 = .ok (.iastore, 1) := by decide +kernel
theorem dX12_clears_18 : decode cX12_clears 18 = .ok (.iinc 2 1, 3) := by decide +kernel
theorem dX12_clears_21 : decode cX12_clears 21 = .ok (.goto (-19), 3) := by decide +kernel
theorem dX12_clears_24 : decode cX12_clears 24 = .ok (.aload_n 0, 1) := by decide +kernel
theorem dX12_clears_25 : decode cX12_clears 25 = .ok (.getfield 126, 3) := by decide +kernel
theorem dX12_clears_28 : decode cX12_clears 28 = .ok (.iload_n 1, 1) := by decide +kernel
theorem dX12_clears_29 : decode cX12_clears 29 = .ok (.iconst 3, 1) := by decide +kernel
theorem dX12_clears_30 : decode cX12_clears 30 = .ok (.iadd, 1) := by decide +kernel
theorem dX12_clears_31 : decode cX12_clears 31 = .ok (.iconst 4, 1) := by decide +kernel
theorem dX12_clears_32 : decode cX12_clears 32 = .ok (.iastore, 1) := by decide +kernel
theorem dX12_clears_33 : decode cX12_clears 33 = .ok (.aload_n 0, 1) := by decide +kernel
theorem dX12_clears_34 : decode cX12_clears 34 = .ok (.getfield 126, 3) := by decide +kernel
theorem dX12_clears_37 : decode cX12_clears 37 = .ok (.iload_n 1, 1) := by decide +kernel
theorem dX12_clears_38 : decode cX12_clears 38 = .ok (.iconst 4, 1) := by decide +kernel
theorem dX12_clears_39 : decode cX12_clears 39 = .ok (.iadd, 1) := by decide +kernel
theorem dX12_clears_40 : decode cX12_clears 40 = .ok (.bipush 8, 2) := by decide +kernel
theorem dX12_clears_42 : decode cX12_clears 42 = .ok (.iastore, 1) := by decide +kernel
theorem dX12_clears_43 : decode cX12_clears 43 = .ok (.return_, 1) := by decide +kernel
theorem dX12_nameAt_0 : decode cX12_nameAt 0 = .ok (.iconst (-1), 1) := by decide +kernel
theorem dX12_nameAt_1 : decode cX12_nameAt 1 = .ok (.istore_n 1, 1) := by decide +kernel
theorem dX12_nameAt_2 : decode cX12_nameAt 2 = .ok (.iconst 0, 1) := by decide +kernel
theorem dX12_nameAt_3 : decode cX12_nameAt 3 = .ok (.istore_n 2, 1) := by decide +kernel
theorem dX12_nameAt_4 : decode cX12_nameAt 4 = .ok (.iload_n 2, 1) := by decide +kernel
theorem dX12_nameAt_5 : decode cX12_nameAt 5 = .ok (.aload_n 0, 1) := by decide +kernel
theorem dX12_nameAt_6 : decode cX12_nameAt 6 = .ok (.getfield 235, 3) := by decide +kernel
theorem dX12_nameAt_9 : decode cX12_nameAt 9 = .ok (.if_icmp .ge 34, 3) := by decide +kernel
theorem dX12_nameAt_12 : decode cX12_nameAt 12 = .ok (.aload_n 0, 1) := by decide +kernel
theorem dX12_nameAt_13 : decode cX12_nameAt 13 = .ok (.getfield 132, 3) := by decide +kernel
theorem dX12_nameAt_16 : decode cX12_nameAt 16 = .ok (.iload_n 2, 1) := by decide +kernel
theorem dX12_nameAt_17 : decode cX12_nameAt 17 = .ok (.laload, 1) := by decide +kernel
theorem dX12_nameAt_18 : decode cX12_nameAt 18 = .ok (.aload_n 0, 1) := by decide +kernel
theorem dX12_nameAt_19 : decode cX12_nameAt 19 = .ok (.getfield 46, 3) := by decide +kernel
theorem dX12_nameAt_22 : decode cX12_nameAt 22 = .ok (.aload_n 0, 1) := by decide +kernel
theorem dX12_nameAt_23 : decode cX12_nameAt 23 = .ok (.getfield 54, 3) := by decide +kernel
theorem dX12_nameAt_26 : decode cX12_nameAt 26 = .ok (.laload, 1) := by decide +kernel
theorem dX12_nameAt_27 : decode cX12_nameAt 27 = .ok (.lcmp, 1) := by decide +kernel
theorem dX12_nameAt_28 : decode cX12_nameAt 28 = .ok (.ifCond .ne 7, 3) := by decide +kernel
theorem dX12_nameAt_31 : decode cX12_nameAt 31 = .ok (.iload_n 2, 1) := by decide +kernel
theorem dX12_nameAt_32 : decode cX12_nameAt 32 = .ok (.goto 4, 3) := by decide +kernel
theorem dX12_nameAt_35 : decode cX12_nameAt 35 = .ok (.iload_n 1, 1) := by decide +kernel
theorem dX12_nameAt_36 : decode cX12_nameAt 36 = .ok (.istore_n 1, 1) := by decide +kernel
theorem dX12_nameAt_37 : decode cX12_nameAt 37 = .ok (.iinc 2 1, 3) := by decide +kernel
theorem dX12_nameAt_40 : decode cX12_nameAt 40 = .ok (.goto (-36), 3) := by decide +kernel
theorem dX12_nameAt_43 : decode cX12_nameAt 43 = .ok (.iload_n 1, 1) := by decide +kernel
theorem dX12_nameAt_44 : decode cX12_nameAt 44 = .ok (.ireturn, 1) := by decide +kernel
theorem dX12_newLine_0 : decode cX12_newLine 0 = .ok (.bipush 12, 2) := by decide +kernel
theorem dX12_newLine_2 : decode cX12_newLine 2 = .ok (.sipush 210, 3) := by decide +kernel
theorem dX12_newLine_5 : decode cX12_newLine 5 = .ok (.aload_n 0, 1) := by decide +kernel
theorem dX12_newLine_6 : decode cX12_newLine 6 = .ok (.getfield 126, 3) := by decide +kernel
theorem dX12_newLine_9 : decode cX12_newLine 9 = .ok (.sipush 412, 3) := by decide +kernel
theorem dX12_newLine_12 : decode cX12_newLine 12 = .ok (.iaload, 1) := by decide +kernel
theorem dX12_newLine_13 : decode cX12_newLine 13 = .ok (.iadd, 1) := by decide +kernel
theorem dX12_newLine_14 : decode cX12_newLine 14 = .ok (.imul, 1) := by decide +kernel
theorem dX12_newLine_15 : decode cX12_newLine 15 = .ok (.istore_n 2, 1) := by decide +kernel
theorem dX12_newLine_16 : decode cX12_newLine 16 = .ok (.aload_n 0, 1) := by decide +kernel
theorem dX12_newLine_17 : decode cX12_newLine 17 = .ok (.getfield 126, 3) := by decide +kernel
theorem dX12_newLine_20 : decode cX12_newLine 20 = .ok (.sipush 412, 3) := by decide +kernel
theorem dX12_newLine_23 : decode cX12_newLine 23 = .ok (.dup2, 1) := by decide +kernel
theorem dX12_newLine_24 : decode cX12_newLine 24 = .ok (.iaload, 1) := by decide +kernel
theorem dX12_newLine_25 : decode cX12_newLine 25 = .ok (.iconst 1, 1) := by decide +kernel
theorem dX12_newLine_26 : decode cX12_newLine 26 = .ok (.iadd, 1) := by decide +kernel
theorem dX12_newLine_27 : decode cX12_newLine 27 = .ok (.iastore, 1) := by decide +kernel
theorem dX12_newLine_28 : decode cX12_newLine 28 = .ok (.iconst 0, 1) := by decide +kernel
theorem dX12_newLine_29 : decode cX12_newLine 29 = .ok (.istore_n 3, 1) := by decide +kernel
theorem dX12_newLine_30 : decode cX12_newLine 30 = .ok (.iload_n 3, 1) := by decide +kernel
theorem dX12_newLine_31 : decode cX12_newLine 31 = .ok (.bipush 12, 2) := by decide +kernel
theorem dX12_newLine_33 : decode cX12_newLine 33 = .ok (.if_icmp .ge 18, 3) := by decide +kernel
theorem dX12_newLine_36 : decode cX12_newLine 36 = .ok (.aload_n 0, 1) := by decide +kernel
theorem dX12_newLine_37 : decode cX12_newLine 37 = .ok (.getfield 129, 3) := by decide +kernel
theorem dX12_newLine_40 : decode cX12_newLine 40 = .ok (.iload_n 2, 1) := by decide +kernel
theorem dX12_newLine_41 : decode cX12_newLine 41 = .ok (.iload_n 3, 1) := by decide +kernel
theorem dX12_newLine_42 : decode cX12_newLine 42 = .ok (.iadd, 1) := by decide +kernel
theorem dX12_newLine_43 : decode cX12_newLine 43 = .ok (.iconst 0, 1) := by decide +kernel
theorem dX12_newLine_44 : decode cX12_newLine 44 = .ok (.iastore, 1) := by decide +kernel
theorem dX12_newLine_45 : decode cX12_newLine 45 = .ok (.iinc 3 1, 3) := by decide +kernel
theorem dX12_newLine_48 : decode cX12_newLine 48 = .ok (.goto (-18), 3) := by decide +kernel
theorem dX12_newLine_51 : decode cX12_newLine 51 = .ok (.aload_n 0, 1) := by decide +kernel
theorem dX12_newLine_52 : decode cX12_newLine 52 = .ok (.getfield 129, 3) := by decide +kernel
theorem dX12_newLine_55 : decode cX12_newLine 55 = .ok (.iload_n 2, 1) := by decide +kernel
theorem dX12_newLine_56 : decode cX12_newLine 56 = .ok (.iload_n 1, 1) := by decide +kernel
theorem dX12_newLine_57 : decode cX12_newLine 57 = .ok (.iastore, 1) := by decide +kernel
theorem dX12_newLine_58 : decode cX12_newLine 58 = .ok (.aload_n 0, 1) := by decide +kernel
theorem dX12_newLine_59 : decode cX12_newLine 59 = .ok (.getfield 129, 3) := by decide +kernel
theorem dX12_newLine_62 : decode cX12_newLine 62 = .ok (.iload_n 2, 1) := by decide +kernel
theorem dX12_newLine_63 : decode cX12_newLine 63 = .ok (.iconst 3, 1) := by decide +kernel
theorem dX12_newLine_64 : decode cX12_newLine 64 = .ok (.iadd, 1) := by decide +kernel
theorem dX12_newLine_65 : decode cX12_newLine 65 = .ok (.aload_n 0, 1) := by decide +kernel
theorem dX12_newLine_66 : decode cX12_newLine 66 = .ok (.getfield 36, 3) := by decide +kernel
theorem dX12_newLine_69 : decode cX12_newLine 69 = .ok (.aload_n 0, 1) := by decide +kernel
theorem dX12_newLine_70 : decode cX12_newLine 70 = .ok (.getfield 54, 3) := by decide +kernel
theorem dX12_newLine_73 : decode cX12_newLine 73 = .ok (.iaload, 1) := by decide +kernel
theorem dX12_newLine_74 : decode cX12_newLine 74 = .ok (.iastore, 1) := by decide +kernel
theorem dX12_newLine_75 : decode cX12_newLine 75 = .ok (.aload_n 0, 1) := by decide +kernel
theorem dX12_newLine_76 : decode cX12_newLine 76 = .ok (.getfield 129, 3) := by decide +kernel
theorem dX12_newLine_79 : decode cX12_newLine 79 = .ok (.iload_n 2, 1) := by decide +kernel
theorem dX12_newLine_80 : decode cX12_newLine 80 = .ok (.bipush 11, 2) := by decide +kernel
theorem dX12_newLine_82 : decode cX12_newLine 82 = .ok (.iadd, 1) := by decide +kernel
theorem dX12_newLine_83 : decode cX12_newLine 83 = .ok (.aload_n 0, 1) := by decide +kernel
theorem dX12_newLine_84 : decode cX12_newLine 84 = .ok (.getfield 238, 3) := by decide +kernel
theorem dX12_newLine_87 : decode cX12_newLine 87 = .ok (.iastore, 1) := by decide +kernel
theorem dX12_newLine_88 : decode cX12_newLine 88 = .ok (.iload_n 2, 1) := by decide +kernel
theorem dX12_newLine_89 : decode cX12_newLine 89 = .ok (.ireturn, 1) := by decide +kernel
theorem dX12_isWithinWhen_0 : decode cX12_isWithinWhen 0 = .ok (.iconst 0, 1) := by decide +kernel
theorem dX12_isWithinWhen_1 : decode cX12_isWithinWhen 1 = .ok (.istore_n 1, 1) := by decide +kernel
theorem dX12_isWithinWhen_2 : decode cX12_isWithinWhen 2 = .ok (.iconst 0, 1) := by decide +kernel
theorem dX12_isWithinWhen_3 : decode cX12_isWithinWhen 3 = .ok (.istore_n 2, 1) := by decide +kernel
theorem dX12_isWithinWhen_4 : decode cX12_isWithinWhen 4 = .ok (.iload_n 2, 1) := by decide +kernel
theorem dX12_isWithinWhen_5 : decode cX12_isWithinWhen 5 = .ok (.aload_n 0, 1) := by decide +kernel
theorem dX12_isWithinWhen_6 : decode cX12_isWithinWhen 6 = .ok (.getfield 238, 3) := by decide +kernel
theorem dX12_isWithinWhen_9 : decode cX12_isWithinWhen 9 = .ok (.if_icmp .ge 29, 3) := by decide +kernel
theorem dX12_isWithinWhen_12 : decode cX12_isWithinWhen 12 = .ok (.iload_n 1, 1) := by decide +kernel
theorem dX12_isWithinWhen_13 : decode cX12_isWithinWhen 13 = .ok (.ifCond .ne 13, 3) := by decide +kernel
theorem dX12_isWithinWhen_16 : decode cX12_isWithinWhen 16 = .ok (.aload_n 0, 1) := by decide +kernel
theorem dX12_isWithinWhen_17 : decode cX12_isWithinWhen 17 = .ok (.getfield 138, 3) := by decide +kernel
theorem dX12_isWithinWhen_20 : decode cX12_isWithinWhen 20 = .ok (.iload_n 2, 1) := by decide +kernel
theorem dX12_isWithinWhen_21 : decode cX12_isWithinWhen 21 = .ok (.iaload, 1) := by decide +kernel
theorem dX12_isWithinWhen_22 : decode cX12_isWithinWhen 22 = .ok (.iconst 3, 1) := by decide +kernel
theorem dX12_isWithinWhen_23 : decode cX12_isWithinWhen 23 = .ok (.if_icmp .eq 7, 3) := by decide +kernel
theorem dX12_isWithinWhen_26 : decode cX12_isWithinWhen 26 = .ok (.iconst 1, 1) := by decide +kernel
theorem dX12_isWithinWhen_27 : decode cX12_isWithinWhen 27 = .ok (.goto 4, 3) := by decide +kernel
theorem dX12_isWithinWhen_30 : decode cX12_isWithinWhen 30 = .ok (.iconst 0, 1) := by decide +kernel
theorem dX12_isWithinWhen_31 : decode cX12_isWithinWhen 31 = .ok (.istore_n 1, 1) := by decide +kernel
theorem dX12_isWithinWhen_32 : decode cX12_isWithinWhen 32 = .ok (.iinc 2 1, 3) := by decide +kernel
theorem dX12_isWithinWhen_35 : decode cX12_isWithinWhen 35 = .ok (.goto (-31), 3) := by decide +kernel
theorem dX12_isWithinWhen_38 : decode cX12_isWithinWhen 38 = .ok (.iload_n 1, 1) := by decide +kernel
theorem dX12_isWithinWhen_39 : decode cX12_isWithinWhen 39 = .ok (.ireturn, 1) := by decide +kernel
theorem dX12_tells_0 : decode cX12_tells 0 = .ok (.aload_n 0, 1) := by decide +kernel
theorem dX12_tells_1 : decode cX12_tells 1 = .ok (.getfield 132, 3) := by decide +kernel
theorem dX12_tells_4 : decode cX12_tells 4 = .ok (.aload_n 0, 1) := by decide +kernel
theorem dX12_tells_5 : decode cX12_tells 5 = .ok (.getfield 235, 3) := by decide +kernel
theorem dX12_tells_8 : decode cX12_tells 8 = .ok (.lload_n 1, 1) := by decide +kernel
theorem dX12_tells_9 : decode cX12_tells 9 = .ok (.lastore, 1) := by decide +kernel
theorem dX12_tells_10 : decode cX12_tells 10 = .ok (.aload_n 0, 1) := by decide +kernel
theorem dX12_tells_11 : decode cX12_tells 11 = .ok (.getfield 135, 3) := by decide +kernel
theorem dX12_tells_14 : decode cX12_tells 14 = .ok (.aload_n 0, 1) := by decide +kernel
theorem dX12_tells_15 : decode cX12_tells 15 = .ok (.getfield 235, 3) := by decide +kernel
theorem dX12_tells_18 : decode cX12_tells 18 = .ok (.iload_n 3, 1) := by decide +kernel
theorem dX12_tells_19 : decode cX12_tells 19 = .ok (.iastore, 1) := by decide +kernel
theorem dX12_tells_20 : decode cX12_tells 20 = .ok (.aload_n 0, 1) := by decide +kernel
theorem dX12_tells_21 : decode cX12_tells 21 = .ok (.dup, 1) := by decide +kernel
theorem dX12_tells_22 : decode cX12_tells 22 = .ok (.getfield 235, 3) := by decide +kernel
theorem dX12_tells_25 : decode cX12_tells 25 = .ok (.iconst 1, 1) := by decide +kernel
theorem dX12_tells_26 : decode cX12_tells 26 = .ok (.iadd, 1) := by decide +kernel
theorem dX12_tells_27 : decode cX12_tells 27 = .ok (.putfield 235, 3) := by decide +kernel
theorem dX12_tells_30 : decode cX12_tells 30 = .ok (.return_, 1) := by decide +kernel
theorem dX12_readInput_0 : decode cX12_readInput 0 = .ok (.aload_n 0, 1) := by decide +kernel
theorem dX12_readInput_1 : decode cX12_readInput 1 = .ok (.getfield 238, 3) := by decide +kernel
theorem dX12_readInput_4 : decode cX12_readInput 4 = .ok (.ifCond .le 11, 3) := by decide +kernel
theorem dX12_readInput_7 : decode cX12_readInput 7 = .ok (.aload_n 0, 1) := by decide +kernel
theorem dX12_readInput_8 : decode cX12_readInput 8 = .ok (.iconst 1, 1) := by decide +kernel
theorem dX12_readInput_9 : decode cX12_readInput 9 = .ok (.invokevirtual 66, 3) := by decide +kernel
theorem dX12_readInput_12 : decode cX12_readInput 12 = .ok (.goto 21, 3) := by decide +kernel
theorem dX12_readInput_15 : decode cX12_readInput 15 = .ok (.aload_n 0, 1) := by decide +kernel
theorem dX12_readInput_16 : decode cX12_readInput 16 = .ok (.getfield 126, 3) := by decide +kernel
theorem dX12_readInput_19 : decode cX12_readInput 19 = .ok (.sipush 413, 3) := by decide +kernel
theorem dX12_readInput_22 : decode cX12_readInput 22 = .ok (.iaload, 1) := by decide +kernel
theorem dX12_readInput_23 : decode cX12_readInput 23 = .ok (.bipush 6, 2) := by decide +kernel
theorem dX12_readInput_25 : decode cX12_readInput 25 = .ok (.if_icmp .ne 8, 3) := by decide +kernel
theorem dX12_readInput_28 : decode cX12_readInput 28 = .ok (.aload_n 0, 1) := by decide +kernel
theorem dX12_readInput_29 : decode cX12_readInput 29 = .ok (.iconst 5, 1) := by decide +kernel
theorem dX12_readInput_30 : decode cX12_readInput 30 = .ok (.invokevirtual 66, 3) := by decide +kernel
theorem dX12_readInput_33 : decode cX12_readInput 33 = .ok (.aload_n 0, 1) := by decide +kernel
theorem dX12_readInput_34 : decode cX12_readInput 34 = .ok (.getfield 57, 3) := by decide +kernel
theorem dX12_readInput_37 : decode cX12_readInput 37 = .ok (.ifCond .le 4, 3) := by decide +kernel
theorem dX12_readInput_40 : decode cX12_readInput 40 = .ok (.return_, 1) := by decide +kernel
theorem dX12_readInput_41 : decode cX12_readInput 41 = .ok (.aload_n 0, 1) := by decide +kernel
theorem dX12_readInput_42 : decode cX12_readInput 42 = .ok (.bipush 6, 2) := by decide +kernel
theorem dX12_readInput_44 : decode cX12_readInput 44 = .ok (.invokevirtual 241, 3) := by decide +kernel
theorem dX12_readInput_47 : decode cX12_readInput 47 = .ok (.istore_n 2, 1) := by decide +kernel
theorem dX12_readInput_48 : decode cX12_readInput 48 = .ok (.aload_n 0, 1) := by decide +kernel
theorem dX12_readInput_49 : decode cX12_readInput 49 = .ok (.dup, 1) := by decide +kernel
theorem dX12_readInput_50 : decode cX12_readInput 50 = .ok (.getfield 54, 3) := by decide +kernel
theorem dX12_readInput_53 : decode cX12_readInput 53 = .ok (.iconst 1, 1) := by decide +kernel
theorem dX12_readInput_54 : decode cX12_readInput 54 = .ok (.iadd, 1) := by decide +kernel
theorem dX12_readInput_55 : decode cX12_readInput 55 = .ok (.putfield 54, 3) := by decide +kernel
theorem dX12_readInput_58 : decode cX12_readInput 58 = .ok (.aload_n 0, 1) := by decide +kernel
theorem dX12_readInput_59 : decode cX12_readInput 59 = .ok (.invokevirtual 245, 3) := by decide +kernel
theorem dX12_readInput_62 : decode cX12_readInput 62 = .ok (.ifCond .ne 11, 3) := by decide +kernel
theorem dX12_readInput_65 : decode cX12_readInput 65 = .ok (.aload_n 0, 1) := by decide +kernel
theorem dX12_readInput_66 : decode cX12_readInput 66 = .ok (.iconst 1, 1) := by decide +kernel
theorem dX12_readInput_67 : decode cX12_readInput 67 = .ok (.invokevirtual 66, 3) := by decide +kernel
theorem dX12_readInput_70 : decode cX12_readInput 70 = .ok (.goto 32, 3) := by decide +kernel
theorem dX12_readInput_73 : decode cX12_readInput 73 = .ok (.aload_n 0, 1) := by decide +kernel
theorem dX12_readInput_74 : decode cX12_readInput 74 = .ok (.invokevirtual 249, 3) := by decide +kernel
theorem dX12_readInput_77 : decode cX12_readInput 77 = .ok (.ifCond .lt 11, 3) := by decide +kernel
theorem dX12_readInput_80 : decode cX12_readInput 80 = .ok (.aload_n 0, 1) := by decide +kernel
theorem dX12_readInput_81 : decode cX12_readInput 81 = .ok (.iconst 3, 1) := by decide +kernel
theorem dX12_readInput_82 : decode cX12_readInput 82 = .ok (.invokevirtual 66, 3) := by decide +kernel
theorem dX12_readInput_85 : decode cX12_readInput 85 = .ok (.goto 17, 3) := by decide +kernel
theorem dX12_readInput_88 : decode cX12_readInput 88 = .ok (.aload_n 0, 1) := by decide +kernel
theorem dX12_readInput_89 : decode cX12_readInput 89 = .ok (.getfield 235, 3) := by decide +kernel
theorem dX12_readInput_92 : decode cX12_readInput 92 = .ok (.bipush 20, 2) := by decide +kernel
theorem dX12_readInput_94 : decode cX12_readInput 94 = .ok (.if_icmp .ne 8, 3) := by decide +kernel
theorem dX12_readInput_97 : decode cX12_readInput 97 = .ok (.aload_n 0, 1) := by decide +kernel
theorem dX12_readInput_98 : decode cX12_readInput 98 = .ok (.iconst 5, 1) := by decide +kernel
theorem dX12_readInput_99 : decode cX12_readInput 99 = .ok (.invokevirtual 66, 3) := by decide +kernel
theorem dX12_readInput_102 : decode cX12_readInput 102 = .ok (.aload_n 0, 1) := by decide +kernel
theorem dX12_readInput_103 : decode cX12_readInput 103 = .ok (.getfield 57, 3) := by decide +kernel
theorem dX12_readInput_106 : decode cX12_readInput 106 = .ok (.ifCond .le 4, 3) := by decide +kernel
theorem dX12_readInput_109 : decode cX12_readInput 109 = .ok (.return_, 1) := by decide +kernel
theorem dX12_readInput_110 : decode cX12_readInput 110 = .ok (.aload_n 0, 1) := by decide +kernel
theorem dX12_readInput_111 : decode cX12_readInput 111 = .ok (.getfield 46, 3) := by decide +kernel
theorem dX12_readInput_114 : decode cX12_readInput 114 = .ok (.aload_n 0, 1) := by decide +kernel
theorem dX12_readInput_115 : decode cX12_readInput 115 = .ok (.getfield 54, 3) := by decide +kernel
theorem dX12_readInput_118 : decode cX12_readInput 118 = .ok (.laload, 1) := by decide +kernel
theorem dX12_readInput_119 : decode cX12_readInput 119 = .ok (.lstore_n 3, 1) := by decide +kernel
theorem dX12_readInput_120 : decode cX12_readInput 120 = .ok (.aload_n 0, 1) := by decide +kernel
theorem dX12_readInput_121 : decode cX12_readInput 121 = .ok (.dup, 1) := by decide +kernel
theorem dX12_readInput_122 : decode cX12_readInput 122 = .ok (.getfield 54, 3) := by decide +kernel
theorem dX12_readInput_125 : decode cX12_readInput 125 = .ok (.iconst 1, 1) := by decide +kernel
theorem dX12_readInput_126 : decode cX12_readInput 126 = .ok (.iadd, 1) := by decide +kernel
theorem dX12_readInput_127 : decode cX12_readInput 127 = .ok (.putfield 54, 3) := by decide +kernel
theorem dX12_readInput_130 : decode cX12_readInput 130 = .ok (.aload_n 0, 1) := by decide +kernel
theorem dX12_readInput_131 : decode cX12_readInput 131 = .ok (.iconst 0, 1) := by decide +kernel
theorem dX12_readInput_132 : decode cX12_readInput 132 = .ok (.sipush 999, 3) := by decide +kernel
theorem dX12_readInput_135 : decode cX12_readInput 135 = .ok (.invokevirtual 253, 3) := by decide +kernel
theorem dX12_readInput_138 : decode cX12_readInput 138 = .ok (.istore 5, 2) := by decide +kernel
theorem dX12_readInput_140 : decode cX12_readInput 140 = .ok (.aload_n 0, 1) := by decide +kernel
theorem dX12_readInput_141 : decode cX12_readInput 141 = .ok (.iload 5, 2) := by decide +kernel
theorem dX12_readInput_143 : decode cX12_readInput 143 = .ok (.sipush 999, 3) := by decide +kernel
theorem dX12_readInput_146 : decode cX12_readInput 146 = .ok (.invokevirtual 253, 3) := by decide +kernel
theorem dX12_readInput_149 : decode cX12_readInput 149 = .ok (.istore 6, 2) := by decide +kernel
theorem dX12_readInput_151 : decode cX12_readInput 151 = .ok (.aload_n 0, 1) := by decide +kernel
theorem dX12_readInput_152 : decode cX12_readInput 152 = .ok (.getfield 126, 3) := by decide +kernel
theorem dX12_readInput_155 : decode cX12_readInput 155 = .ok (.sipush 413, 3) := by decide +kernel
theorem dX12_readInput_158 : decode cX12_readInput 158 = .ok (.iaload, 1) := by decide +kernel
theorem dX12_readInput_159 : decode cX12_readInput 159 = .ok (.istore 7, 2) := by decide +kernel
theorem dX12_readInput_161 : decode cX12_readInput 161 = .ok (.sipush 422, 3) := by decide +kernel
theorem dX12_readInput_164 : decode cX12_readInput 164 = .ok (.iconst 3, 1) := by decide +kernel
theorem dX12_readInput_165 : decode cX12_readInput 165 = .ok (.iload 7, 2) := by decide +kernel
theorem dX12_readInput_167 : decode cX12_readInput 167 = .ok (.imul, 1) := by decide +kernel
theorem dX12_readInput_168 : decode cX12_readInput 168 = .ok (.iadd, 1) := by decide +kernel
theorem dX12_readInput_169 : decode cX12_readInput 169 = .ok (.istore 8, 2) := by decide +kernel
theorem dX12_readInput_171 : decode cX12_readInput 171 = .ok (.aload_n 0, 1) := by decide +kernel
theorem dX12_readInput_172 : decode cX12_readInput 172 = .ok (.getfield 126, 3) := by decide +kernel
theorem dX12_readInput_175 : decode cX12_readInput 175 = .ok (.iload 8, 2) := by decide +kernel
theorem dX12_readInput_177 : decode cX12_readInput 177 = .ok (.iload 5, 2) := by decide +kernel
theorem dX12_readInput_179 : decode cX12_readInput 179 = .ok (.iastore, 1) := by decide +kernel
theorem dX12_readInput_180 : decode cX12_readInput 180 = .ok (.aload_n 0, 1) := by decide +kernel
theorem dX12_readInput_181 : decode cX12_readInput 181 = .ok (.getfield 126, 3) := by decide +kernel
theorem dX12_readInput_184 : decode cX12_readInput 184 = .ok (.iload 8, 2) := by decide +kernel
theorem dX12_readInput_186 : decode cX12_readInput 186 = .ok (.iconst 1, 1) := by decide +kernel
theorem dX12_readInput_187 : decode cX12_readInput 187 = .ok (.iadd, 1) := by decide +kernel
theorem dX12_readInput_188 : decode cX12_readInput 188 = .ok (.iload 6, 2) := by decide +kernel
theorem dX12_readInput_190 : decode cX12_readInput 190 = .ok (.iastore, 1) := by decide +kernel
theorem dX12_readInput_191 : decode cX12_readInput 191 = .ok (.aload_n 0, 1) := by decide +kernel
theorem dX12_readInput_192 : decode cX12_readInput 192 = .ok (.getfield 126, 3) := by decide +kernel
theorem dX12_readInput_195 : decode cX12_readInput 195 = .ok (.iload 8, 2) := by decide +kernel
theorem dX12_readInput_197 : decode cX12_readInput 197 = .ok (.iconst 2, 1) := by decide +kernel
theorem dX12_readInput_198 : decode cX12_readInput 198 = .ok (.iadd, 1) := by decide +kernel
theorem dX12_readInput_199 : decode cX12_readInput 199 = .ok (.iload_n 1, 1) := by decide +kernel
theorem dX12_readInput_200 : decode cX12_readInput 200 = .ok (.ifCond .eq 7, 3) := by decide +kernel
theorem dX12_readInput_203 : decode cX12_readInput 203 = .ok (.iconst 1, 1) := by decide +kernel
theorem dX12_readInput_204 : decode cX12_readInput 204 = .ok (.goto 4, 3) := by decide +kernel
theorem dX12_readInput_207 : decode cX12_readInput 207 = .ok (.iconst 0, 1) := by decide +kernel
theorem dX12_readInput_208 : decode cX12_readInput 208 = .ok (.iastore, 1) := by decide +kernel
theorem dX12_readInput_209 : decode cX12_readInput 209 = .ok (.aload_n 0, 1) := by decide +kernel
theorem dX12_readInput_210 : decode cX12_readInput 210 = .ok (.getfield 129, 3) := by decide +kernel
theorem dX12_readInput_213 : decode cX12_readInput 213 = .ok (.iload_n 2, 1) := by decide +kernel
theorem dX12_readInput_214 : decode cX12_readInput 214 = .ok (.iconst 1, 1) := by decide +kernel
theorem dX12_readInput_215 : decode cX12_readInput 215 = .ok (.iadd, 1) := by decide +kernel
theorem dX12_readInput_216 : decode cX12_readInput 216 = .ok (.aload_n 0, 1) := by decide +kernel
theorem dX12_readInput_217 : decode cX12_readInput 217 = .ok (.getfield 235, 3) := by decide +kernel
theorem dX12_readInput_220 : decode cX12_readInput 220 = .ok (.iastore, 1) := by decide +kernel
theorem dX12_readInput_221 : decode cX12_readInput 221 = .ok (.aload_n 0, 1) := by decide +kernel
theorem dX12_readInput_222 : decode cX12_readInput 222 = .ok (.getfield 129, 3) := by decide +kernel
theorem dX12_readInput_225 : decode cX12_readInput 225 = .ok (.iload_n 2, 1) := by decide +kernel
theorem dX12_readInput_226 : decode cX12_readInput 226 = .ok (.iconst 2, 1) := by decide +kernel
theorem dX12_readInput_227 : decode cX12_readInput 227 = .ok (.iadd, 1) := by decide +kernel
theorem dX12_readInput_228 : decode cX12_readInput 228 = .ok (.iload 7, 2) := by decide +kernel
theorem dX12_readInput_230 : decode cX12_readInput 230 = .ok (.iastore, 1) := by decide +kernel
theorem dX12_readInput_231 : decode cX12_readInput 231 = .ok (.aload_n 0, 1) := by decide +kernel
theorem dX12_readInput_232 : decode cX12_readInput 232 = .ok (.getfield 126, 3) := by decide +kernel
theorem dX12_readInput_235 : decode cX12_readInput 235 = .ok (.sipush 413, 3) := by decide +kernel
theorem dX12_readInput_238 : decode cX12_readInput 238 = .ok (.dup2, 1) := by decide +kernel
theorem dX12_readInput_239 : decode cX12_readInput 239 = .ok (.iaload, 1) := by decide +kernel
theorem dX12_readInput_240 : decode cX12_readInput 240 = .ok (.iconst 1, 1) := by decide +kernel
theorem dX12_readInput_241 : decode cX12_readInput 241 = .ok (.iadd, 1) := by decide +kernel
theorem dX12_readInput_242 : decode cX12_readInput 242 = .ok (.iastore, 1) := by decide +kernel
theorem dX12_readInput_243 : decode cX12_readInput 243 = .ok (.aload_n 0, 1) := by decide +kernel
theorem dX12_readInput_244 : decode cX12_readInput 244 = .ok (.getfield 57, 3) := by decide +kernel
theorem dX12_readInput_247 : decode cX12_readInput 247 = .ok (.ifCond .ne 9, 3) := by decide +kernel
theorem dX12_readInput_250 : decode cX12_readInput 250 = .ok (.aload_n 0, 1) := by decide +kernel
theorem dX12_readInput_251 : decode cX12_readInput 251 = .ok (.lload_n 3, 1) := by decide +kernel
theorem dX12_readInput_252 : decode cX12_readInput 252 = .ok (.iconst 2, 1) := by decide +kernel
theorem dX12_readInput_253 : decode cX12_readInput 253 = .ok (.invokevirtual 256, 3) := by decide +kernel
theorem dX12_readInput_256 : decode cX12_readInput 256 = .ok (.return_, 1) := by decide +kernel
theorem dX12_readLimit_0 : decode cX12_readLimit 0 = .ok (.sipush 418, 3) := by decide +kernel
theorem dX12_readLimit_3 : decode cX12_readLimit 3 = .ok (.iload_n 1, 1) := by decide +kernel
theorem dX12_readLimit_4 : decode cX12_readLimit 4 = .ok (.iadd, 1) := by decide +kernel
theorem dX12_readLimit_5 : decode cX12_readLimit 5 = .ok (.iconst 2, 1) := by decide +kernel
theorem dX12_readLimit_6 : decode cX12_readLimit 6 = .ok (.isub, 1) := by decide +kernel
theorem dX12_readLimit_7 : decode cX12_readLimit 7 = .ok (.istore 4, 2) := by decide +kernel
theorem dX12_readLimit_9 : decode cX12_readLimit 9 = .ok (.aload_n 0, 1) := by decide +kernel
theorem dX12_readLimit_10 : decode cX12_readLimit 10 = .ok (.getfield 238, 3) := by decide +kernel
theorem dX12_readLimit_13 : decode cX12_readLimit 13 = .ok (.ifCond .le 11, 3) := by decide +kernel
theorem dX12_readLimit_16 : decode cX12_readLimit 16 = .ok (.aload_n 0, 1) := by decide +kernel
theorem dX12_readLimit_17 : decode cX12_readLimit 17 = .ok (.iconst 1, 1) := by decide +kernel
theorem dX12_readLimit_18 : decode cX12_readLimit 18 = .ok (.invokevirtual 66, 3) := by decide +kernel
theorem dX12_readLimit_21 : decode cX12_readLimit 21 = .ok (.goto 18, 3) := by decide +kernel
theorem dX12_readLimit_24 : decode cX12_readLimit 24 = .ok (.aload_n 0, 1) := by decide +kernel
theorem dX12_readLimit_25 : decode cX12_readLimit 25 = .ok (.getfield 126, 3) := by decide +kernel
theorem dX12_readLimit_28 : decode cX12_readLimit 28 = .ok (.iload 4, 2) := by decide +kernel
theorem dX12_readLimit_30 : decode cX12_readLimit 30 = .ok (.iaload, 1) := by decide +kernel
theorem dX12_readLimit_31 : decode cX12_readLimit 31 = .ok (.ifCond .le 8, 3) := by decide +kernel
theorem dX12_readLimit_34 : decode cX12_readLimit 34 = .ok (.aload_n 0, 1) := by decide +kernel
theorem dX12_readLimit_35 : decode cX12_readLimit 35 = .ok (.iconst 3, 1) := by decide +kernel
theorem dX12_readLimit_36 : decode cX12_readLimit 36 = .ok (.invokevirtual 66, 3) := by decide +kernel
theorem dX12_readLimit_39 : decode cX12_readLimit 39 = .ok (.aload_n 0, 1) := by decide +kernel
theorem dX12_readLimit_40 : decode cX12_readLimit 40 = .ok (.getfield 57, 3) := by decide +kernel
theorem dX12_readLimit_43 : decode cX12_readLimit 43 = .ok (.ifCond .le 4, 3) := by decide +kernel
theorem dX12_readLimit_46 : decode cX12_readLimit 46 = .ok (.return_, 1) := by decide +kernel
theorem dX12_readLimit_47 : decode cX12_readLimit 47 = .ok (.aload_n 0, 1) := by decide +kernel
theorem dX12_readLimit_48 : decode cX12_readLimit 48 = .ok (.getfield 126, 3) := by decide +kernel
theorem dX12_readLimit_51 : decode cX12_readLimit 51 = .ok (.iload 4, 2) := by decide +kernel
theorem dX12_readLimit_53 : decode cX12_readLimit 53 = .ok (.iconst 1, 1) := by decide +kernel
theorem dX12_readLimit_54 : decode cX12_readLimit 54 = .ok (.iastore, 1) := by decide +kernel
theorem dX12_readLimit_55 : decode cX12_readLimit 55 = .ok (.aload_n 0, 1) := by decide +kernel
theorem dX12_readLimit_56 : decode cX12_readLimit 56 = .ok (.dup, 1) := by decide +kernel
theorem dX12_readLimit_57 : decode cX12_readLimit 57 = .ok (.getfield 54, 3) := by decide +kernel
theorem dX12_readLimit_60 : decode cX12_readLimit 60 = .ok (.iconst 1, 1) := by decide +kernel
theorem dX12_readLimit_61 : decode cX12_readLimit 61 = .ok (.iadd, 1) := by decide +kernel
theorem dX12_readLimit_62 : decode cX12_readLimit 62 = .ok (.putfield 54, 3) := by decide +kernel
theorem dX12_readLimit_65 : decode cX12_readLimit 65 = .ok (.aload_n 0, 1) := by decide +kernel
theorem dX12_readLimit_66 : decode cX12_readLimit 66 = .ok (.getfield 126, 3) := by decide +kernel
theorem dX12_readLimit_69 : decode cX12_readLimit 69 = .ok (.sipush 412, 3) := by decide +kernel
theorem dX12_readLimit_72 : decode cX12_readLimit 72 = .ok (.iload_n 2, 1) := by decide +kernel
theorem dX12_readLimit_73 : decode cX12_readLimit 73 = .ok (.iadd, 1) := by decide +kernel
theorem dX12_readLimit_74 : decode cX12_readLimit 74 = .ok (.aload_n 0, 1) := by decide +kernel
theorem dX12_readLimit_75 : decode cX12_readLimit 75 = .ok (.iconst 1, 1) := by decide +kernel
theorem dX12_readLimit_76 : decode cX12_readLimit 76 = .ok (.iload_n 3, 1) := by decide +kernel
theorem dX12_readLimit_77 : decode cX12_readLimit 77 = .ok (.invokevirtual 253, 3) := by decide +kernel
theorem dX12_readLimit_80 : decode cX12_readLimit 80 = .ok (.iastore, 1) := by decide +kernel
theorem dX12_readLimit_81 : decode cX12_readLimit 81 = .ok (.return_, 1) := by decide +kernel
theorem dX12_typeOf_0 : decode cX12_typeOf 0 = .ok (.iload_n 0, 1) := by decide +kernel
theorem dX12_typeOf_1 : decode cX12_typeOf 1 = .ok (.iconst 2, 1) := by decide +kernel
theorem dX12_typeOf_2 : decode cX12_typeOf 2 = .ok (.if_icmp .ne 7, 3) := by decide +kernel
theorem dX12_typeOf_5 : decode cX12_typeOf 5 = .ok (.iconst 0, 1) := by decide +kernel
theorem dX12_typeOf_6 : decode cX12_typeOf 6 = .ok (.goto 4, 3) := by decide +kernel
theorem dX12_typeOf_9 : decode cX12_typeOf 9 = .ok (.iload_n 0, 1) := by decide +kernel
theorem dX12_typeOf_10 : decode cX12_typeOf 10 = .ok (.ireturn, 1) := by decide +kernel
theorem dX12_takeArg_0 : decode cX12_takeArg 0 = .ok (.aload_n 0, 1) := by decide +kernel
theorem dX12_takeArg_1 : decode cX12_takeArg 1 = .ok (.getfield 57, 3) := by decide +kernel
theorem dX12_takeArg_4 : decode cX12_takeArg 4 = .ok (.ifCond .le 4, 3) := by decide +kernel
theorem dX12_takeArg_7 : decode cX12_takeArg 7 = .ok (.return_, 1) := by decide +kernel
theorem dX12_takeArg_8 : decode cX12_takeArg 8 = .ok (.aload_n 0, 1) := by decide +kernel
theorem dX12_takeArg_9 : decode cX12_takeArg 9 = .ok (.getfield 43, 3) := by decide +kernel
theorem dX12_takeArg_12 : decode cX12_takeArg 12 = .ok (.aload_n 0, 1) := by decide +kernel
theorem dX12_takeArg_13 : decode cX12_takeArg 13 = .ok (.getfield 54, 3) := by decide +kernel
theorem dX12_takeArg_16 : decode cX12_takeArg 16 = .ok (.iaload, 1) := by decide +kernel
theorem dX12_takeArg_17 : decode cX12_takeArg 17 = .ok (.iconst 2, 1) := by decide +kernel
theorem dX12_takeArg_18 : decode cX12_takeArg 18 = .ok (.if_icmp .ne 7, 3) := by decide +kernel
theorem dX12_takeArg_21 : decode cX12_takeArg 21 = .ok (.iconst 1, 1) := by decide +kernel
theorem dX12_takeArg_22 : decode cX12_takeArg 22 = .ok (.goto 4, 3) := by decide +kernel
theorem dX12_takeArg_25 : decode cX12_takeArg 25 = .ok (.iconst 0, 1) := by decide +kernel
theorem dX12_takeArg_26 : decode cX12_takeArg 26 = .ok (.istore_n 3, 1) := by decide +kernel
theorem dX12_takeArg_27 : decode cX12_takeArg 27 = .ok (.aload_n 0, 1) := by decide +kernel
theorem dX12_takeArg_28 : decode cX12_takeArg 28 = .ok (.invokevirtual 245, 3) := by decide +kernel
theorem dX12_takeArg_31 : decode cX12_takeArg 31 = .ok (.ifCond .eq 10, 3) := by decide +kernel
theorem dX12_takeArg_34 : decode cX12_takeArg 34 = .ok (.aload_n 0, 1) := by decide +kernel
theorem dX12_takeArg_35 : decode cX12_takeArg 35 = .ok (.invokevirtual 249, 3) := by decide +kernel
theorem dX12_takeArg_38 : decode cX12_takeArg 38 = .ok (.goto 4, 3) := by decide +kernel
theorem dX12_takeArg_41 : decode cX12_takeArg 41 = .ok (.iconst (-1), 1) := by decide +kernel
theorem dX12_takeArg_42 : decode cX12_takeArg 42 = .ok (.istore 4, 2) := by decide +kernel
theorem dX12_takeArg_44 : decode cX12_takeArg 44 = .ok (.iload_n 3, 1) := by decide +kernel
theorem dX12_takeArg_45 : decode cX12_takeArg 45 = .ok (.ifCond .ne 18, 3) := by decide +kernel
theorem dX12_takeArg_48 : decode cX12_takeArg 48 = .ok (.aload_n 0, 1) := by decide +kernel
theorem dX12_takeArg_49 : decode cX12_takeArg 49 = .ok (.invokevirtual 245, 3) := by decide +kernel
theorem dX12_takeArg_52 : decode cX12_takeArg 52 = .ok (.ifCond .ne 11, 3) := by decide +kernel
theorem dX12_takeArg_55 : decode cX12_takeArg 55 = .ok (.aload_n 0, 1) := by decide +kernel
theorem dX12_takeArg_56 : decode cX12_takeArg 56 = .ok (.iconst 1, 1) := by decide +kernel
theorem dX12_takeArg_57 : decode cX12_takeArg 57 = .ok (.invokevirtual 66, 3) := by decide +kernel
theorem dX12_takeArg_60 : decode cX12_takeArg 60 = .ok (.goto 17, 3) := by decide +kernel
theorem dX12_takeArg_63 : decode cX12_takeArg 63 = .ok (.iload_n 3, 1) := by decide +kernel
theorem dX12_takeArg_64 : decode cX12_takeArg 64 = .ok (.ifCond .ne 13, 3) := by decide +kernel
theorem dX12_takeArg_67 : decode cX12_takeArg 67 = .ok (.iload 4, 2) := by decide +kernel
theorem dX12_takeArg_69 : decode cX12_takeArg 69 = .ok (.ifCond .ge 8, 3) := by decide +kernel
theorem dX12_takeArg_72 : decode cX12_takeArg 72 = .ok (.aload_n 0, 1) := by decide +kernel
