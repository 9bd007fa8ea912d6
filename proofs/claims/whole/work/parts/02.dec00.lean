theorem dX0_init_0 : decode cX0_init 0 = .ok (.aload_n 0, 1) := by decide +kernel
theorem dX0_init_1 : decode cX0_init 1 = .ok (.invokespecial 5, 3) := by decide +kernel
theorem dX0_init_4 : decode cX0_init 4 = .ok (.aload_n 0, 1) := by decide +kernel
theorem dX0_init_5 : decode cX0_init 5 = .ok (.new 11, 3) := by decide +kernel
theorem dX0_init_8 : decode cX0_init 8 = .ok (.dup, 1) := by decide +kernel
theorem dX0_init_9 : decode cX0_init 9 = .ok (.invokespecial 13, 3) := by decide +kernel
theorem dX0_init_12 : decode cX0_init 12 = .ok (.putfield 14, 3) := by decide +kernel
theorem dX0_init_15 : decode cX0_init 15 = .ok (.aload_n 0, 1) := by decide +kernel
theorem dX0_init_16 : decode cX0_init 16 = .ok (.bipush 24, 2) := by decide +kernel
theorem dX0_init_18 : decode cX0_init 18 = .ok (.anewarray 18, 3) := by decide +kernel
theorem dX0_init_21 : decode cX0_init 21 = .ok (.putfield 20, 3) := by decide +kernel
theorem dX0_init_24 : decode cX0_init 24 = .ok (.aload_n 0, 1) := by decide +kernel
theorem dX0_init_25 : decode cX0_init 25 = .ok (.sipush 1715, 3) := by decide +kernel
theorem dX0_init_28 : decode cX0_init 28 = .ok (.newarray .int, 2) := by decide +kernel
theorem dX0_init_30 : decode cX0_init 30 = .ok (.putfield 24, 3) := by decide +kernel
theorem dX0_init_33 : decode cX0_init 33 = .ok (.aload_n 0, 1) := by decide +kernel
theorem dX0_init_34 : decode cX0_init 34 = .ok (.iconst 3, 1) := by decide +kernel
theorem dX0_init_35 : decode cX0_init 35 = .ok (.newarray .int, 2) := by decide +kernel
theorem dX0_init_37 : decode cX0_init 37 = .ok (.putfield 28, 3) := by decide +kernel
theorem dX0_init_40 : decode cX0_init 40 = .ok (.aload_n 0, 1) := by decide +kernel
theorem dX0_init_41 : decode cX0_init 41 = .ok (.iconst 3, 1) := by decide +kernel
theorem dX0_init_42 : decode cX0_init 42 = .ok (.newarray .int, 2) := by decide +kernel
theorem dX0_init_44 : decode cX0_init 44 = .ok (.putfield 31, 3) := by decide +kernel
theorem dX0_init_47 : decode cX0_init 47 = .ok (.iconst 0, 1) := by decide +kernel
theorem dX0_init_48 : decode cX0_init 48 = .ok (.istore_n 1, 1) := by decide +kernel
theorem dX0_init_49 : decode cX0_init 49 = .ok (.iload_n 1, 1) := by decide +kernel
theorem dX0_init_50 : decode cX0_init 50 = .ok (.aload_n 0, 1) := by decide +kernel
theorem dX0_init_51 : decode cX0_init 51 = .ok (.getfield 20, 3) := by decide +kernel
theorem dX0_init_54 : decode cX0_init 54 = .ok (.arraylength, 1) := by decide +kernel
theorem dX0_init_55 : decode cX0_init 55 = .ok (.if_icmp .ge 22, 3) := by decide +kernel
theorem dX0_init_58 : decode cX0_init 58 = .ok (.aload_n 0, 1) := by decide +kernel
theorem dX0_init_59 : decode cX0_init 59 = .ok (.getfield 20, 3) := by decide +kernel
theorem dX0_init_62 : decode cX0_init 62 = .ok (.iload_n 1, 1) := by decide +kernel
theorem dX0_init_63 : decode cX0_init 63 = .ok (.new 18, 3) := by decide +kernel
theorem dX0_init_66 : decode cX0_init 66 = .ok (.dup, 1) := by decide +kernel
theorem dX0_init_67 : decode cX0_init 67 = .ok (.invokespecial 34, 3) := by decide +kernel
theorem dX0_init_70 : decode cX0_init 70 = .ok (.aastore, 1) := by decide +kernel
theorem dX0_init_71 : decode cX0_init 71 = .ok (.iinc 1 1, 3) := by decide +kernel
theorem dX0_init_74 : decode cX0_init 74 = .ok (.goto (-25), 3) := by decide +kernel
theorem dX0_init_77 : decode cX0_init 77 = .ok (.return_, 1) := by decide +kernel
theorem dX0_find_0 : decode cX0_find 0 = .ok (.aload 5, 2) := by decide +kernel
theorem dX0_find_2 : decode cX0_find 2 = .ok (.invokevirtual 35, 3) := by decide +kernel
theorem dX0_find_5 : decode cX0_find 5 = .ok (.aload_n 0, 1) := by decide +kernel
theorem dX0_find_6 : decode cX0_find 6 = .ok (.getfield 14, 3) := by decide +kernel
theorem dX0_find_9 : decode cX0_find 9 = .ok (.aload_n 1, 1) := by decide +kernel
theorem dX0_find_10 : decode cX0_find 10 = .ok (.aload_n 3, 1) := by decide +kernel
theorem dX0_find_11 : decode cX0_find 11 = .ok (.getfield 40, 3) := by decide +kernel
theorem dX0_find_14 : decode cX0_find 14 = .ok (.invokevirtual 45, 3) := by decide +kernel
theorem dX0_find_17 : decode cX0_find 17 = .ok (.aload_n 0, 1) := by decide +kernel
theorem dX0_find_18 : decode cX0_find 18 = .ok (.getfield 14, 3) := by decide +kernel
theorem dX0_find_21 : decode cX0_find 21 = .ok (.getfield 49, 3) := by decide +kernel
theorem dX0_find_24 : decode cX0_find 24 = .ok (.bipush 18, 2) := by decide +kernel
theorem dX0_find_26 : decode cX0_find 26 = .ok (.if_icmp .le 4, 3) := by decide +kernel
theorem dX0_find_29 : decode cX0_find 29 = .ok (.return_, 1) := by decide +kernel
theorem dX0_find_30 : decode cX0_find 30 = .ok (.aload_n 0, 1) := by decide +kernel
theorem dX0_find_31 : decode cX0_find 31 = .ok (.aload_n 2, 1) := by decide +kernel
theorem dX0_find_32 : decode cX0_find 32 = .ok (.aload_n 3, 1) := by decide +kernel
theorem dX0_find_33 : decode cX0_find 33 = .ok (.getfield 53, 3) := by decide +kernel
theorem dX0_find_36 : decode cX0_find 36 = .ok (.invokevirtual 56, 3) := by decide +kernel
theorem dX0_find_39 : decode cX0_find 39 = .ok (.iconst 0, 1) := by decide +kernel
theorem dX0_find_40 : decode cX0_find 40 = .ok (.istore 6, 2) := by decide +kernel
theorem dX0_find_42 : decode cX0_find 42 = .ok (.iload 6, 2) := by decide +kernel
theorem dX0_find_44 : decode cX0_find 44 = .ok (.aload_n 0, 1) := by decide +kernel
theorem dX0_find_45 : decode cX0_find 45 = .ok (.getfield 14, 3) := by decide +kernel
theorem dX0_find_48 : decode cX0_find 48 = .ok (.getfield 49, 3) := by decide +kernel
theorem dX0_find_51 : decode cX0_find 51 = .ok (.if_icmp .ge 84, 3) := by decide +kernel
theorem dX0_find_54 : decode cX0_find 54 = .ok (.iconst 1, 1) := by decide +kernel
theorem dX0_find_55 : decode cX0_find 55 = .ok (.istore 7, 2) := by decide +kernel
theorem dX0_find_57 : decode cX0_find 57 = .ok (.iload 7, 2) := by decide +kernel
theorem dX0_find_59 : decode cX0_find 59 = .ok (.aload_n 0, 1) := by decide +kernel
theorem dX0_find_60 : decode cX0_find 60 = .ok (.getfield 14, 3) := by decide +kernel
theorem dX0_find_63 : decode cX0_find 63 = .ok (.getfield 60, 3) := by decide +kernel
theorem dX0_find_66 : decode cX0_find 66 = .ok (.iload 6, 2) := by decide +kernel
theorem dX0_find_68 : decode cX0_find 68 = .ok (.iaload, 1) := by decide +kernel
theorem dX0_find_69 : decode cX0_find 69 = .ok (.if_icmp .gt 60, 3) := by decide +kernel
theorem dX0_find_72 : decode cX0_find 72 = .ok (.aload_n 0, 1) := by decide +kernel
theorem dX0_find_73 : decode cX0_find 73 = .ok (.iload 7, 2) := by decide +kernel
theorem dX0_find_75 : decode cX0_find 75 = .ok (.aload_n 0, 1) := by decide +kernel
theorem dX0_find_76 : decode cX0_find 76 = .ok (.getfield 14, 3) := by decide +kernel
theorem dX0_find_79 : decode cX0_find 79 = .ok (.getfield 63, 3) := by decide +kernel
theorem dX0_find_82 : decode cX0_find 82 = .ok (.iload 6, 2) := by decide +kernel
theorem dX0_find_84 : decode cX0_find 84 = .ok (.baload, 1) := by decide +kernel
theorem dX0_find_85 : decode cX0_find 85 = .ok (.invokevirtual 67, 3) := by decide +kernel
theorem dX0_find_88 : decode cX0_find 88 = .ok (.astore 8, 2) := by decide +kernel
theorem dX0_find_90 : decode cX0_find 90 = .ok (.aload 8, 2) := by decide +kernel
theorem dX0_find_92 : decode cX0_find 92 = .ok (.getfield 71, 3) := by decide +kernel
theorem dX0_find_95 : decode cX0_find 95 = .ok (.ifCond .ne 28, 3) := by decide +kernel
theorem dX0_find_98 : decode cX0_find 98 = .ok (.aload 8, 2) := by decide +kernel
theorem dX0_find_100 : decode cX0_find 100 = .ok (.iload 7, 2) := by decide +kernel
theorem dX0_find_102 : decode cX0_find 102 = .ok (.aload_n 0, 1) := by decide +kernel
theorem dX0_find_103 : decode cX0_find 103 = .ok (.getfield 14, 3) := by decide +kernel
theorem dX0_find_106 : decode cX0_find 106 = .ok (.getfield 63, 3) := by decide +kernel
theorem dX0_find_109 : decode cX0_find 109 = .ok (.iload 6, 2) := by decide +kernel
theorem dX0_find_111 : decode cX0_find 111 = .ok (.baload, 1) := by decide +kernel
theorem dX0_find_112 : decode cX0_find 112 = .ok (.aload_n 0, 1) := by decide +kernel
theorem dX0_find_113 : decode cX0_find 113 = .ok (.getfield 28, 3) := by decide +kernel
theorem dX0_find_116 : decode cX0_find 116 = .ok (.aload_n 0, 1) := by decide +kernel
theorem dX0_find_117 : decode cX0_find 117 = .ok (.getfield 75, 3) := by decide +kernel
theorem dX0_find_120 : decode cX0_find 120 = .ok (.invokevirtual 76, 3) := by decide +kernel
theorem dX0_find_123 : decode cX0_find 123 = .ok (.iinc 7 1, 3) := by decide +kernel
theorem dX0_find_126 : decode cX0_find 126 = .ok (.goto (-69), 3) := by decide +kernel
theorem dX0_find_129 : decode cX0_find 129 = .ok (.iinc 6 1, 3) := by decide +kernel
theorem dX0_find_132 : decode cX0_find 132 = .ok (.goto (-90), 3) := by decide +kernel
theorem dX0_find_135 : decode cX0_find 135 = .ok (.aload_n 0, 1) := by decide +kernel
theorem dX0_find_136 : decode cX0_find 136 = .ok (.invokevirtual 80, 3) := by decide +kernel
theorem dX0_find_139 : decode cX0_find 139 = .ok (.aload_n 3, 1) := by decide +kernel
theorem dX0_find_140 : decode cX0_find 140 = .ok (.getfield 83, 3) := by decide +kernel
theorem dX0_find_143 : decode cX0_find 143 = .ok (.iload 4, 2) := by decide +kernel
theorem dX0_find_145 : decode cX0_find 145 = .ok (.iconst 3, 1) := by decide +kernel
theorem dX0_find_146 : decode cX0_find 146 = .ok (.imul, 1) := by decide +kernel
theorem dX0_find_147 : decode cX0_find 147 = .ok (.aload_n 0, 1) := by decide +kernel
theorem dX0_find_148 : decode cX0_find 148 = .ok (.getfield 31, 3) := by decide +kernel
theorem dX0_find_151 : decode cX0_find 151 = .ok (.iconst 0, 1) := by decide +kernel
theorem dX0_find_152 : decode cX0_find 152 = .ok (.iconst 3, 1) := by decide +kernel
theorem dX0_find_153 : decode cX0_find 153 = .ok (.invokestatic 86, 3) := by decide +kernel
theorem dX0_find_156 : decode cX0_find 156 = .ok (.aload_n 0, 1) := by decide +kernel
theorem dX0_find_157 : decode cX0_find 157 = .ok (.iconst 0, 1) := by decide +kernel
theorem dX0_find_158 : decode cX0_find 158 = .ok (.putfield 92, 3) := by decide +kernel
theorem dX0_find_161 : decode cX0_find 161 = .ok (.aload_n 0, 1) := by decide +kernel
theorem dX0_find_162 : decode cX0_find 162 = .ok (.aload_n 0, 1) := by decide +kernel
theorem dX0_find_163 : decode cX0_find 163 = .ok (.iconst 0, 1) := by decide +kernel
theorem dX0_find_164 : decode cX0_find 164 = .ok (.invokevirtual 95, 3) := by decide +kernel
theorem dX0_find_167 : decode cX0_find 167 = .ok (.putfield 99, 3) := by decide +kernel
theorem dX0_find_170 : decode cX0_find 170 = .ok (.aload_n 0, 1) := by decide +kernel
theorem dX0_find_171 : decode cX0_find 171 = .ok (.aload_n 0, 1) := by decide +kernel
theorem dX0_find_172 : decode cX0_find 172 = .ok (.iconst 0, 1) := by decide +kernel
theorem dX0_find_173 : decode cX0_find 173 = .ok (.aload_n 0, 1) := by decide +kernel
theorem dX0_find_174 : decode cX0_find 174 = .ok (.getfield 99, 3) := by decide +kernel
theorem dX0_find_177 : decode cX0_find 177 = .ok (.aload_n 0, 1) := by decide +kernel
theorem dX0_find_178 : decode cX0_find 178 = .ok (.getfield 31, 3) := by decide +kernel
theorem dX0_find_181 : decode cX0_find 181 = .ok (.iconst 0, 1) := by decide +kernel
theorem dX0_find_182 : decode cX0_find 182 = .ok (.iaload, 1) := by decide +kernel
theorem dX0_find_183 : decode cX0_find 183 = .ok (.aload_n 0, 1) := by decide +kernel
theorem dX0_find_184 : decode cX0_find 184 = .ok (.getfield 31, 3) := by decide +kernel
theorem dX0_find_187 : decode cX0_find 187 = .ok (.iconst 1, 1) := by decide +kernel
theorem dX0_find_188 : decode cX0_find 188 = .ok (.iaload, 1) := by decide +kernel
theorem dX0_find_189 : decode cX0_find 189 = .ok (.aload_n 0, 1) := by decide +kernel
theorem dX0_find_190 : decode cX0_find 190 = .ok (.getfield 31, 3) := by decide +kernel
theorem dX0_find_193 : decode cX0_find 193 = .ok (.iconst 2, 1) := by decide +kernel
theorem dX0_find_194 : decode cX0_find 194 = .ok (.iaload, 1) := by decide +kernel
theorem dX0_find_195 : decode cX0_find 195 = .ok (.invokevirtual 102, 3) := by decide +kernel
theorem dX0_find_198 : decode cX0_find 198 = .ok (.putfield 106, 3) := by decide +kernel
theorem dX0_find_201 : decode cX0_find 201 = .ok (.aload_n 0, 1) := by decide +kernel
theorem dX0_find_202 : decode cX0_find 202 = .ok (.getfield 106, 3) := by decide +kernel
theorem dX0_find_205 : decode cX0_find 205 = .ok (.ldc 109, 2) := by decide +kernel
theorem dX0_find_207 : decode cX0_find 207 = .ok (.if_icmp .lt 4, 3) := by decide +kernel
theorem dX0_find_210 : decode cX0_find 210 = .ok (.return_, 1) := by decide +kernel
theorem dX0_find_211 : decode cX0_find 211 = .ok (.aload 5, 2) := by decide +kernel
theorem dX0_find_213 : decode cX0_find 213 = .ok (.iconst 1, 1) := by decide +kernel
theorem dX0_find_214 : decode cX0_find 214 = .ok (.putfield 110, 3) := by decide +kernel
theorem dX0_find_217 : decode cX0_find 217 = .ok (.aload 5, 2) := by decide +kernel
theorem dX0_find_219 : decode cX0_find 219 = .ok (.aload_n 0, 1) := by decide +kernel
theorem dX0_find_220 : decode cX0_find 220 = .ok (.getfield 106, 3) := by decide +kernel
theorem dX0_find_223 : decode cX0_find 223 = .ok (.bipush 32, 2) := by decide +kernel
theorem dX0_find_225 : decode cX0_find 225 = .ok (.idiv, 1) := by decide +kernel
theorem dX0_find_226 : decode cX0_find 226 = .ok (.putfield 113, 3) := by decide +kernel
theorem dX0_find_229 : decode cX0_find 229 = .ok (.iconst 0, 1) := by decide +kernel
theorem dX0_find_230 : decode cX0_find 230 = .ok (.istore 6, 2) := by decide +kernel
theorem dX0_find_232 : decode cX0_find 232 = .ok (.iload 6, 2) := by decide +kernel
theorem dX0_find_234 : decode cX0_find 234 = .ok (.bipush 18, 2) := by decide +kernel
theorem dX0_find_236 : decode cX0_find 236 = .ok (.if_icmp .ge 29, 3) := by decide +kernel
theorem dX0_find_239 : decode cX0_find 239 = .ok (.aload_n 0, 1) := by decide +kernel
theorem dX0_find_240 : decode cX0_find 240 = .ok (.getfield 92, 3) := by decide +kernel
theorem dX0_find_243 : decode cX0_find 243 = .ok (.aload_n 0, 1) := by decide +kernel
theorem dX0_find_244 : decode cX0_find 244 = .ok (.getfield 14, 3) := by decide +kernel
theorem dX0_find_247 : decode cX0_find 247 = .ok (.getfield 49, 3) := by decide +kernel
theorem dX0_find_250 : decode cX0_find 250 = .ok (.if_icmp .ge 15, 3) := by decide +kernel
theorem dX0_find_253 : decode cX0_find 253 = .ok (.aload_n 0, 1) := by decide +kernel
theorem dX0_find_254 : decode cX0_find 254 = .ok (.aload 5, 2) := by decide +kernel
theorem dX0_find_256 : decode cX0_find 256 = .ok (.invokevirtual 116, 3) := by decide +kernel
theorem dX0_find_259 : decode cX0_find 259 = .ok (.iinc 6 1, 3) := by decide +kernel
theorem dX0_find_262 : decode cX0_find 262 = .ok (.goto (-30), 3) := by decide +kernel
theorem dX0_find_265 : decode cX0_find 265 = .ok (.return_, 1) := by decide +kernel
theorem dX0_keepSizes_0 : decode cX0_keepSizes 0 = .ok (.aload_n 0, 1) := by decide +kernel
theorem dX0_keepSizes_1 : decode cX0_keepSizes 1 = .ok (.getfield 75, 3) := by decide +kernel
theorem dX0_keepSizes_4 : decode cX0_keepSizes 4 = .ok (.iload_n 2, 1) := by decide +kernel
theorem dX0_keepSizes_5 : decode cX0_keepSizes 5 = .ok (.if_icmp .ne 7, 3) := by decide +kernel
theorem dX0_keepSizes_8 : decode cX0_keepSizes 8 = .ok (.iconst 1, 1) := by decide +kernel
theorem dX0_keepSizes_9 : decode cX0_keepSizes 9 = .ok (.goto 4, 3) := by decide +kernel
theorem dX0_keepSizes_12 : decode cX0_keepSizes 12 = .ok (.iconst 0, 1) := by decide +kernel
theorem dX0_keepSizes_13 : decode cX0_keepSizes 13 = .ok (.istore_n 3, 1) := by decide +kernel
theorem dX0_keepSizes_14 : decode cX0_keepSizes 14 = .ok (.iconst 0, 1) := by decide +kernel
theorem dX0_keepSizes_15 : decode cX0_keepSizes 15 = .ok (.istore 4, 2) := by decide +kernel
theorem dX0_keepSizes_17 : decode cX0_keepSizes 17 = .ok (.iload 4, 2) := by decide +kernel
theorem dX0_keepSizes_19 : decode cX0_keepSizes 19 = .ok (.iconst 3, 1) := by decide +kernel
theorem dX0_keepSizes_20 : decode cX0_keepSizes 20 = .ok (.if_icmp .ge 33, 3) := by decide +kernel
theorem dX0_keepSizes_23 : decode cX0_keepSizes 23 = .ok (.iload_n 3, 1) := by decide +kernel
theorem dX0_keepSizes_24 : decode cX0_keepSizes 24 = .ok (.ifCond .eq 21, 3) := by decide +kernel
theorem dX0_keepSizes_27 : decode cX0_keepSizes 27 = .ok (.aload_n 0, 1) := by decide +kernel
theorem dX0_keepSizes_28 : decode cX0_keepSizes 28 = .ok (.getfield 28, 3) := by decide +kernel
theorem dX0_keepSizes_31 : decode cX0_keepSizes 31 = .ok (.iload 4, 2) := by decide +kernel
theorem dX0_keepSizes_33 : decode cX0_keepSizes 33 = .ok (.iaload, 1) := by decide +kernel
theorem dX0_keepSizes_34 : decode cX0_keepSizes 34 = .ok (.aload_n 1, 1) := by decide +kernel
theorem dX0_keepSizes_35 : decode cX0_keepSizes 35 = .ok (.iload 4, 2) := by decide +kernel
theorem dX0_keepSizes_37 : decode cX0_keepSizes 37 = .ok (.iaload, 1) := by decide +kernel
theorem dX0_keepSizes_38 : decode cX0_keepSizes 38 = .ok (.if_icmp .ne 7, 3) := by decide +kernel
theorem dX0_keepSizes_41 : decode cX0_keepSizes 41 = .ok (.iconst 1, 1) := by decide +kernel
theorem dX0_keepSizes_42 : decode cX0_keepSizes 42 = .ok (.goto 4, 3) := by decide +kernel
theorem dX0_keepSizes_45 : decode cX0_keepSizes 45 = .ok (.iconst 0, 1) := by decide +kernel
theorem dX0_keepSizes_46 : decode cX0_keepSizes 46 = .ok (.istore_n 3, 1) := by decide +kernel
theorem dX0_keepSizes_47 : decode cX0_keepSizes 47 = .ok (.iinc 4 1, 3) := by decide +kernel
theorem dX0_keepSizes_50 : decode cX0_keepSizes 50 = .ok (.goto (-33), 3) := by decide +kernel
theorem dX0_keepSizes_53 : decode cX0_keepSizes 53 = .ok (.iload_n 3, 1) := by decide +kernel
theorem dX0_keepSizes_54 : decode cX0_keepSizes 54 = .ok (.ifCond .eq 4, 3) := by decide +kernel
theorem dX0_keepSizes_57 : decode cX0_keepSizes 57 = .ok (.return_, 1) := by decide +kernel
theorem dX0_keepSizes_58 : decode cX0_keepSizes 58 = .ok (.aload_n 1, 1) := by decide +kernel
theorem dX0_keepSizes_59 : decode cX0_keepSizes 59 = .ok (.iconst 0, 1) := by decide +kernel
theorem dX0_keepSizes_60 : decode cX0_keepSizes 60 = .ok (.aload_n 0, 1) := by decide +kernel
theorem dX0_keepSizes_61 : decode cX0_keepSizes 61 = .ok (.getfield 28, 3) := by decide +kernel
theorem dX0_keepSizes_64 : decode cX0_keepSizes 64 = .ok (.iconst 0, 1) := by decide +kernel
theorem dX0_keepSizes_65 : decode cX0_keepSizes 65 = .ok (.iconst 3, 1) := by decide +kernel
theorem dX0_keepSizes_66 : decode cX0_keepSizes 66 = .ok (.invokestatic 86, 3) := by decide +kernel
theorem dX0_keepSizes_69 : decode cX0_keepSizes 69 = .ok (.aload_n 0, 1) := by decide +kernel
theorem dX0_keepSizes_70 : decode cX0_keepSizes 70 = .ok (.iload_n 2, 1) := by decide +kernel
theorem dX0_keepSizes_71 : decode cX0_keepSizes 71 = .ok (.putfield 75, 3) := by decide +kernel
theorem dX0_keepSizes_74 : decode cX0_keepSizes 74 = .ok (.iconst 0, 1) := by decide +kernel
theorem dX0_keepSizes_75 : decode cX0_keepSizes 75 = .ok (.istore 4, 2) := by decide +kernel
theorem dX0_keepSizes_77 : decode cX0_keepSizes 77 = .ok (.iload 4, 2) := by decide +kernel
theorem dX0_keepSizes_79 : decode cX0_keepSizes 79 = .ok (.aload_n 0, 1) := by decide +kernel
theorem dX0_keepSizes_80 : decode cX0_keepSizes 80 = .ok (.getfield 20, 3) := by decide +kernel
theorem dX0_keepSizes_83 : decode cX0_keepSizes 83 = .ok (.arraylength, 1) := by decide +kernel
theorem dX0_keepSizes_84 : decode cX0_keepSizes 84 = .ok (.if_icmp .ge 20, 3) := by decide +kernel
theorem dX0_keepSizes_87 : decode cX0_keepSizes 87 = .ok (.aload_n 0, 1) := by decide +kernel
theorem dX0_keepSizes_88 : decode cX0_keepSizes 88 = .ok (.getfield 20, 3) := by decide +kernel
theorem dX0_keepSizes_91 : decode cX0_keepSizes 91 = .ok (.iload 4, 2) := by decide +kernel
theorem dX0_keepSizes_93 : decode cX0_keepSizes 93 = .ok (.aaload, 1) := by decide +kernel
theorem dX0_keepSizes_94 : decode cX0_keepSizes 94 = .ok (.iconst 0, 1) := by decide +kernel
theorem dX0_keepSizes_95 : decode cX0_keepSizes 95 = .ok (.putfield 71, 3) := by decide +kernel
theorem dX0_keepSizes_98 : decode cX0_keepSizes 98 = .ok (.iinc 4 1, 3) := by decide +kernel
theorem dX0_keepSizes_101 : decode cX0_keepSizes 101 = .ok (.goto (-24), 3) := by decide +kernel
theorem dX0_keepSizes_104 : decode cX0_keepSizes 104 = .ok (.return_, 1) := by decide +kernel
theorem dX0_forgetWorths_0 : decode cX0_forgetWorths 0 = .ok (.aload_n 0, 1) := by decide +kernel
theorem dX0_forgetWorths_1 : decode cX0_forgetWorths 1 = .ok (.getfield 14, 3) := by decide +kernel
theorem dX0_forgetWorths_4 : decode cX0_forgetWorths 4 = .ok (.getfield 49, 3) := by decide +kernel
theorem dX0_forgetWorths_7 : decode cX0_forgetWorths 7 = .ok (.sipush 343, 3) := by decide +kernel
theorem dX0_forgetWorths_10 : decode cX0_forgetWorths 10 = .ok (.imul, 1) := by decide +kernel
theorem dX0_forgetWorths_11 : decode cX0_forgetWorths 11 = .ok (.istore_n 1, 1) := by decide +kernel
theorem dX0_forgetWorths_12 : decode cX0_forgetWorths 12 = .ok (.aload_n 0, 1) := by decide +kernel
theorem dX0_forgetWorths_13 : decode cX0_forgetWorths 13 = .ok (.getfield 24, 3) := by decide +kernel
theorem dX0_forgetWorths_16 : decode cX0_forgetWorths 16 = .ok (.arraylength, 1) := by decide +kernel
theorem dX0_forgetWorths_17 : decode cX0_forgetWorths 17 = .ok (.iload_n 1, 1) := by decide +kernel
theorem dX0_forgetWorths_18 : decode cX0_forgetWorths 18 = .ok (.if_icmp .ge 12, 3) := by decide +kernel
theorem dX0_forgetWorths_21 : decode cX0_forgetWorths 21 = .ok (.aload_n 0, 1) := by decide +kernel
theorem dX0_forgetWorths_22 : decode cX0_forgetWorths 22 = .ok (.sipush 6174, 3) := by decide +kernel
theorem dX0_forgetWorths_25 : decode cX0_forgetWorths 25 = .ok (.newarray .int, 2) := by decide +kernel
theorem dX0_forgetWorths_27 : decode cX0_forgetWorths 27 = .ok (.putfield 24, 3) := by decide +kernel
theorem dX0_forgetWorths_30 : decode cX0_forgetWorths 30 = .ok (.aload_n 0, 1) := by decide +kernel
theorem dX0_forgetWorths_31 : decode cX0_forgetWorths 31 = .ok (.getfield 24, 3) := by decide +kernel
theorem dX0_forgetWorths_34 : decode cX0_forgetWorths 34 = .ok (.iconst 0, 1) := by decide +kernel
theorem dX0_forgetWorths_35 : decode cX0_forgetWorths 35 = .ok (.iload_n 1, 1) := by decide +kernel
theorem dX0_forgetWorths_36 : decode cX0_forgetWorths 36 = .ok (.iconst (-1), 1) := by decide +kernel
theorem dX0_forgetWorths_37 : decode cX0_forgetWorths 37 = .ok (.invokestatic 120, 3) := by decide +kernel
theorem dX0_forgetWorths_40 : decode cX0_forgetWorths 40 = .ok (.return_, 1) := by decide +kernel
theorem dX0_layingsOf_0 : decode cX0_layingsOf 0 = .ok (.aload_n 0, 1) := by decide +kernel
theorem dX0_layingsOf_1 : decode cX0_layingsOf 1 = .ok (.getfield 20, 3) := by decide +kernel
theorem dX0_layingsOf_4 : decode cX0_layingsOf 4 = .ok (.iconst 2, 1) := by decide +kernel
theorem dX0_layingsOf_5 : decode cX0_layingsOf 5 = .ok (.iload_n 1, 1) := by decide +kernel
theorem dX0_layingsOf_6 : decode cX0_layingsOf 6 = .ok (.iconst 1, 1) := by decide +kernel
theorem dX0_layingsOf_7 : decode cX0_layingsOf 7 = .ok (.isub, 1) := by decide +kernel
theorem dX0_layingsOf_8 : decode cX0_layingsOf 8 = .ok (.imul, 1) := by decide +kernel
theorem dX0_layingsOf_9 : decode cX0_layingsOf 9 = .ok (.iload_n 2, 1) := by decide +kernel
theorem dX0_layingsOf_10 : decode cX0_layingsOf 10 = .ok (.ifCond .eq 7, 3) := by decide +kernel
theorem dX0_layingsOf_13 : decode cX0_layingsOf 13 = .ok (.iconst 1, 1) := by decide +kernel
theorem dX0_layingsOf_14 : decode cX0_layingsOf 14 = .ok (.goto 4, 3) := by decide +kernel
theorem dX0_layingsOf_17 : decode cX0_layingsOf 17 = .ok (.iconst 0, 1) := by decide +kernel
theorem dX0_layingsOf_18 : decode cX0_layingsOf 18 = .ok (.iadd, 1) := by decide +kernel
theorem dX0_layingsOf_19 : decode cX0_layingsOf 19 = .ok (.aaload, 1) := by decide +kernel
theorem dX0_layingsOf_20 : decode cX0_layingsOf 20 = .ok (.areturn, 1) := by decide +kernel
theorem dX0_cellsOf_0 : decode cX0_cellsOf 0 = .ok (.iload_n 1, 1) := by decide +kernel
theorem dX0_cellsOf_1 : decode cX0_cellsOf 1 = .ok (.aload_n 0, 1) := by decide +kernel
theorem dX0_cellsOf_2 : decode cX0_cellsOf 2 = .ok (.getfield 14, 3) := by decide +kernel
theorem dX0_cellsOf_5 : decode cX0_cellsOf 5 = .ok (.getfield 49, 3) := by decide +kernel
theorem dX0_cellsOf_8 : decode cX0_cellsOf 8 = .ok (.if_icmp .ge 15, 3) := by decide +kernel
theorem dX0_cellsOf_11 : decode cX0_cellsOf 11 = .ok (.aload_n 0, 1) := by decide +kernel
theorem dX0_cellsOf_12 : decode cX0_cellsOf 12 = .ok (.getfield 14, 3) := by decide +kernel
theorem dX0_cellsOf_15 : decode cX0_cellsOf 15 = .ok (.getfield 60, 3) := by decide +kernel
theorem dX0_cellsOf_18 : decode cX0_cellsOf 18 = .ok (.iload_n 1, 1) := by decide +kernel
theorem dX0_cellsOf_19 : decode cX0_cellsOf 19 = .ok (.iaload, 1) := by decide +kernel
theorem dX0_cellsOf_20 : decode cX0_cellsOf 20 = .ok (.goto 4, 3) := by decide +kernel
theorem dX0_cellsOf_23 : decode cX0_cellsOf 23 = .ok (.iconst 0, 1) := by decide +kernel
theorem dX0_cellsOf_24 : decode cX0_cellsOf 24 = .ok (.ireturn, 1) := by decide +kernel
theorem dX0_worthOf_0 : decode cX0_worthOf 0 = .ok (.iload_n 1, 1) := by decide +kernel
theorem dX0_worthOf_1 : decode cX0_worthOf 1 = .ok (.aload_n 0, 1) := by decide +kernel
theorem dX0_worthOf_2 : decode cX0_worthOf 2 = .ok (.getfield 14, 3) := by decide +kernel
theorem dX0_worthOf_5 : decode cX0_worthOf 5 = .ok (.getfield 49, 3) := by decide +kernel
theorem dX0_worthOf_8 : decode cX0_worthOf 8 = .ok (.if_icmp .ge 9, 3) := by decide +kernel
theorem dX0_worthOf_11 : decode cX0_worthOf 11 = .ok (.iload_n 1, 1) := by decide +kernel
theorem dX0_worthOf_12 : decode cX0_worthOf 12 = .ok (.bipush 18, 2) := by decide +kernel
theorem dX0_worthOf_14 : decode cX0_worthOf 14 = .ok (.if_icmp .lt 5, 3) := by decide +kernel
theorem dX0_worthOf_17 : decode cX0_worthOf 17 = .ok (.iconst 0, 1) := by decide +kernel
theorem dX0_worthOf_18 : decode cX0_worthOf 18 = .ok (.ireturn, 1) := by decide +kernel
theorem dX0_worthOf_19 : decode cX0_worthOf 19 = .ok (.iload_n 1, 1) := by decide +kernel
theorem dX0_worthOf_20 : decode cX0_worthOf 20 = .ok (.sipush 343, 3) := by decide +kernel
theorem dX0_worthOf_23 : decode cX0_worthOf 23 = .ok (.imul, 1) := by decide +kernel
theorem dX0_worthOf_24 : decode cX0_worthOf 24 = .ok (.iload_n 3, 1) := by decide +kernel
theorem dX0_worthOf_25 : decode cX0_worthOf 25 = .ok (.bipush 7, 2) := by decide +kernel
theorem dX0_worthOf_27 : decode cX0_worthOf 27 = .ok (.imul, 1) := by decide +kernel
theorem dX0_worthOf_28 : decode cX0_worthOf 28 = .ok (.iload 4, 2) := by decide +kernel
theorem dX0_worthOf_30 : decode cX0_worthOf 30 = .ok (.iadd, 1) := by decide +kernel
theorem dX0_worthOf_31 : decode cX0_worthOf 31 = .ok (.bipush 7, 2) := by decide +kernel
theorem dX0_worthOf_33 : decode cX0_worthOf 33 = .ok (.imul, 1) := by decide +kernel
theorem dX0_worthOf_34 : decode cX0_worthOf 34 = .ok (.iadd, 1) := by decide +kernel
theorem dX0_worthOf_35 : decode cX0_worthOf 35 = .ok (.iload 5, 2) := by decide +kernel
theorem dX0_worthOf_37 : decode cX0_worthOf 37 = .ok (.iadd, 1) := by decide +kernel
theorem dX0_worthOf_38 : decode cX0_worthOf 38 = .ok (.istore 6, 2) := by decide +kernel
theorem dX0_worthOf_40 : decode cX0_worthOf 40 = .ok (.iload_n 2, 1) := by decide +kernel
theorem dX0_worthOf_41 : decode cX0_worthOf 41 = .ok (.aload_n 0, 1) := by decide +kernel
theorem dX0_worthOf_42 : decode cX0_worthOf 42 = .ok (.getfield 14, 3) := by decide +kernel
theorem dX0_worthOf_45 : decode cX0_worthOf 45 = .ok (.getfield 60, 3) := by decide +kernel
theorem dX0_worthOf_48 : decode cX0_worthOf 48 = .ok (.iload_n 1, 1) := by decide +kernel
theorem dX0_worthOf_49 : decode cX0_worthOf 49 = .ok (.iaload, 1) := by decide +kernel
theorem dX0_worthOf_50 : decode cX0_worthOf 50 = .ok (.if_icmp .ne 7, 3) := by decide +kernel
theorem dX0_worthOf_53 : decode cX0_worthOf 53 = .ok (.iconst 1, 1) := by decide +kernel
theorem dX0_worthOf_54 : decode cX0_worthOf 54 = .ok (.goto 4, 3) := by decide +kernel
theorem dX0_worthOf_57 : decode cX0_worthOf 57 = .ok (.iconst 0, 1) := by decide +kernel
theorem dX0_worthOf_58 : decode cX0_worthOf 58 = .ok (.istore 7, 2) := by decide +kernel
theorem dX0_worthOf_60 : decode cX0_worthOf 60 = .ok (.iload 7, 2) := by decide +kernel
theorem dX0_worthOf_62 : decode cX0_worthOf 62 = .ok (.ifCond .eq 22, 3) := by decide +kernel
theorem dX0_worthOf_65 : decode cX0_worthOf 65 = .ok (.aload_n 0, 1) := by decide +kernel
theorem dX0_worthOf_66 : decode cX0_worthOf 66 = .ok (.getfield 24, 3) := by decide +kernel
theorem dX0_worthOf_69 : decode cX0_worthOf 69 = .ok (.iload 6, 2) := by decide +kernel
theorem dX0_worthOf_71 : decode cX0_worthOf 71 = .ok (.iaload, 1) := by decide +kernel
theorem dX0_worthOf_72 : decode cX0_worthOf 72 = .ok (.iconst (-1), 1) := by decide +kernel
theorem dX0_worthOf_73 : decode cX0_worthOf 73 = .ok (.if_icmp .eq 11, 3) := by decide +kernel
theorem dX0_worthOf_76 : decode cX0_worthOf 76 = .ok (.aload_n 0, 1) := by decide +kernel
theorem dX0_worthOf_77 : decode cX0_worthOf 77 = .ok (.getfield 24, 3) := by decide +kernel
theorem dX0_worthOf_80 : decode cX0_worthOf 80 = .ok (.iload 6, 2) := by decide +kernel
theorem dX0_worthOf_82 : decode cX0_worthOf 82 = .ok (.iaload, 1) := by decide +kernel
theorem dX0_worthOf_83 : decode cX0_worthOf 83 = .ok (.ireturn, 1) := by decide +kernel
theorem dX0_worthOf_84 : decode cX0_worthOf 84 = .ok (.aload_n 0, 1) := by decide +kernel
theorem dX0_worthOf_85 : decode cX0_worthOf 85 = .ok (.iload_n 2, 1) := by decide +kernel
theorem dX0_worthOf_86 : decode cX0_worthOf 86 = .ok (.aload_n 0, 1) := by decide +kernel
theorem dX0_worthOf_87 : decode cX0_worthOf 87 = .ok (.getfield 14, 3) := by decide +kernel
theorem dX0_worthOf_90 : decode cX0_worthOf 90 = .ok (.getfield 63, 3) := by decide +kernel
theorem dX0_worthOf_93 : decode cX0_worthOf 93 = .ok (.iload_n 1, 1) := by decide +kernel
theorem dX0_worthOf_94 : decode cX0_worthOf 94 = .ok (.baload, 1) := by decide +kernel
theorem dX0_worthOf_95 : decode cX0_worthOf 95 = .ok (.invokevirtual 67, 3) := by decide +kernel
theorem dX0_worthOf_98 : decode cX0_worthOf 98 = .ok (.astore 8, 2) := by decide +kernel
theorem dX0_worthOf_100 : decode cX0_worthOf 100 = .ok (.ldc 109, 2) := by decide +kernel
theorem dX0_worthOf_102 : decode cX0_worthOf 102 = .ok (.istore 9, 2) := by decide +kernel
theorem dX0_worthOf_104 : decode cX0_worthOf 104 = .ok (.iconst 0, 1) := by decide +kernel
theorem dX0_worthOf_105 : decode cX0_worthOf 105 = .ok (.istore 10, 2) := by decide +kernel
theorem dX0_worthOf_107 : decode cX0_worthOf 107 = .ok (.iload 10, 2) := by decide +kernel
theorem dX0_worthOf_109 : decode cX0_worthOf 109 = .ok (.aload 8, 2) := by decide +kernel
theorem dX0_worthOf_111 : decode cX0_worthOf 111 = .ok (.getfield 126, 3) := by decide +kernel
theorem dX0_worthOf_114 : decode cX0_worthOf 114 = .ok (.if_icmp .ge 122, 3) := by decide +kernel
theorem dX0_worthOf_117 : decode cX0_worthOf 117 = .ok (.aload 8, 2) := by decide +kernel
theorem dX0_worthOf_119 : decode cX0_worthOf 119 = .ok (.getfield 127, 3) := by decide +kernel
theorem dX0_worthOf_122 : decode cX0_worthOf 122 = .ok (.iload 10, 2) := by decide +kernel
theorem dX0_worthOf_124 : decode cX0_worthOf 124 = .ok (.iaload, 1) := by decide +kernel
theorem dX0_worthOf_125 : decode cX0_worthOf 125 = .ok (.bipush 32, 2) := by decide +kernel
theorem dX0_worthOf_127 : decode cX0_worthOf 127 = .ok (.imul, 1) := by decide +kernel
theorem dX0_worthOf_128 : decode cX0_worthOf 128 = .ok (.aload 8, 2) := by decide +kernel
theorem dX0_worthOf_130 : decode cX0_worthOf 130 = .ok (.iload 10, 2) := by decide +kernel
theorem dX0_worthOf_132 : decode cX0_worthOf 132 = .ok (.invokevirtual 130, 3) := by decide +kernel
theorem dX0_worthOf_135 : decode cX0_worthOf 135 = .ok (.iadd, 1) := by decide +kernel
theorem dX0_worthOf_136 : decode cX0_worthOf 136 = .ok (.istore 11, 2) := by decide +kernel
theorem dX0_worthOf_138 : decode cX0_worthOf 138 = .ok (.iload 11, 2) := by decide +kernel
theorem dX0_worthOf_140 : decode cX0_worthOf 140 = .ok (.iload 9, 2) := by decide +kernel
theorem dX0_worthOf_142 : decode cX0_worthOf 142 = .ok (.if_icmp .ge 88, 3) := by decide +kernel
theorem dX0_worthOf_145 : decode cX0_worthOf 145 = .ok (.aload 8, 2) := by decide +kernel
theorem dX0_worthOf_147 : decode cX0_worthOf 147 = .ok (.iload_n 3, 1) := by decide +kernel
theorem dX0_worthOf_148 : decode cX0_worthOf 148 = .ok (.iload 4, 2) := by decide +kernel
theorem dX0_worthOf_150 : decode cX0_worthOf 150 = .ok (.iload 5, 2) := by decide +kernel
theorem dX0_worthOf_152 : decode cX0_worthOf 152 = .ok (.iload 10, 2) := by decide +kernel
theorem dX0_worthOf_154 : decode cX0_worthOf 154 = .ok (.invokevirtual 133, 3) := by decide +kernel
theorem dX0_worthOf_157 : decode cX0_worthOf 157 = .ok (.ifCond .eq 73, 3) := by decide +kernel
theorem dX0_worthOf_160 : decode cX0_worthOf 160 = .ok (.iload 10, 2) := by decide +kernel
theorem dX0_worthOf_162 : decode cX0_worthOf 162 = .ok (.iconst 3, 1) := by decide +kernel
theorem dX0_worthOf_163 : decode cX0_worthOf 163 = .ok (.imul, 1) := by decide +kernel
theorem dX0_worthOf_164 : decode cX0_worthOf 164 = .ok (.istore 12, 2) := by decide +kernel
theorem dX0_worthOf_166 : decode cX0_worthOf 166 = .ok (.aload_n 0, 1) := by decide +kernel
theorem dX0_worthOf_167 : decode cX0_worthOf 167 = .ok (.iload_n 1, 1) := by decide +kernel
theorem dX0_worthOf_168 : decode cX0_worthOf 168 = .ok (.iconst 1, 1) := by decide +kernel
theorem dX0_worthOf_169 : decode cX0_worthOf 169 = .ok (.iadd, 1) := by decide +kernel
theorem dX0_worthOf_170 : decode cX0_worthOf 170 = .ok (.aload_n 0, 1) := by decide +kernel
theorem dX0_worthOf_171 : decode cX0_worthOf 171 = .ok (.iload_n 1, 1) := by decide +kernel
theorem dX0_worthOf_172 : decode cX0_worthOf 172 = .ok (.iconst 1, 1) := by decide +kernel
theorem dX0_worthOf_173 : decode cX0_worthOf 173 = .ok (.iadd, 1) := by decide +kernel
theorem dX0_worthOf_174 : decode cX0_worthOf 174 = .ok (.invokevirtual 95, 3) := by decide +kernel
theorem dX0_worthOf_177 : decode cX0_worthOf 177 = .ok (.iload_n 3, 1) := by decide +kernel
theorem dX0_worthOf_178 : decode cX0_worthOf 178 = .ok (.aload 8, 2) := by decide +kernel
theorem dX0_worthOf_180 : decode cX0_worthOf 180 = .ok (.getfield 137, 3) := by decide +kernel
theorem dX0_worthOf_183 : decode cX0_worthOf 183 = .ok (.iload 12, 2) := by decide +kernel
theorem dX0_worthOf_185 : decode cX0_worthOf 185 = .ok (.iaload, 1) := by decide +kernel
theorem dX0_worthOf_186 : decode cX0_worthOf 186 = .ok (.isub, 1) := by decide +kernel
theorem dX0_worthOf_187 : decode cX0_worthOf 187 = .ok (.iload 4, 2) := by decide +kernel
theorem dX0_worthOf_189 : decode cX0_worthOf 189 = .ok (.aload 8, 2) := by decide +kernel
theorem dX0_worthOf_191 : decode cX0_worthOf 191 = .ok (.getfield 137, 3) := by decide +kernel
theorem dX0_worthOf_194 : decode cX0_worthOf 194 = .ok (.iload 12, 2) := by decide +kernel
theorem dX0_worthOf_196 : decode cX0_worthOf 196 = .ok (.iconst 1, 1) := by decide +kernel
theorem dX0_worthOf_197 : decode cX0_worthOf 197 = .ok (.iadd, 1) := by decide +kernel
theorem dX0_worthOf_198 : decode cX0_worthOf 198 = .ok (.iaload, 1) := by decide +kernel
theorem dX0_worthOf_199 : decode cX0_worthOf 199 = .ok (.isub, 1) := by decide +kernel
theorem dX0_worthOf_200 : decode cX0_worthOf 200 = .ok (.iload 5, 2) := by decide +kernel
theorem dX0_worthOf_202 : decode cX0_worthOf 202 = .ok (.aload 8, 2) := by decide +kernel
theorem dX0_worthOf_204 : decode cX0_worthOf 204 = .ok (.getfield 137, 3) := by decide +kernel
theorem dX0_worthOf_207 : decode cX0_worthOf 207 = .ok (.iload 12, 2) := by decide +kernel
theorem dX0_worthOf_209 : decode cX0_worthOf 209 = .ok (.iconst 2, 1) := by decide +kernel
theorem dX0_worthOf_210 : decode cX0_worthOf 210 = .ok (.iadd, 1) := by decide +kernel
theorem dX0_worthOf_211 : decode cX0_worthOf 211 = .ok (.iaload, 1) := by decide +kernel
theorem dX0_worthOf_212 : decode cX0_worthOf 212 = .ok (.isub, 1) := by decide +kernel
theorem dX0_worthOf_213 : decode cX0_worthOf 213 = .ok (.invokevirtual 102, 3) := by decide +kernel
theorem dX0_worthOf_216 : decode cX0_worthOf 216 = .ok (.istore 13, 2) := by decide +kernel
theorem dX0_worthOf_218 : decode cX0_worthOf 218 = .ok (.iload 9, 2) := by decide +kernel
theorem dX0_worthOf_220 : decode cX0_worthOf 220 = .ok (.iload 11, 2) := by decide +kernel
theorem dX0_worthOf_222 : decode cX0_worthOf 222 = .ok (.iload 13, 2) := by decide +kernel
theorem dX0_worthOf_224 : decode cX0_worthOf 224 = .ok (.iadd, 1) := by decide +kernel
theorem dX0_worthOf_225 : decode cX0_worthOf 225 = .ok (.invokestatic 140, 3) := by decide +kernel
theorem dX0_worthOf_228 : decode cX0_worthOf 228 = .ok (.istore 9, 2) := by decide +kernel
theorem dX0_worthOf_230 : decode cX0_worthOf 230 = .ok (.iinc 10 1, 3) := by decide +kernel
theorem dX0_worthOf_233 : decode cX0_worthOf 233 = .ok (.goto (-126), 3) := by decide +kernel
theorem dX0_worthOf_236 : decode cX0_worthOf 236 = .ok (.iload 7, 2) := by decide +kernel
theorem dX0_worthOf_238 : decode cX0_worthOf 238 = .ok (.ifCond .eq 12, 3) := by decide +kernel
theorem dX0_worthOf_241 : decode cX0_worthOf 241 = .ok (.aload_n 0, 1) := by decide +kernel
theorem dX0_worthOf_242 : decode cX0_worthOf 242 = .ok (.getfield 24, 3) := by decide +kernel
theorem dX0_worthOf_245 : decode cX0_worthOf 245 = .ok (.iload 6, 2) := by decide +kernel
theorem dX0_worthOf_247 : decode cX0_worthOf 247 = .ok (.iload 9, 2) := by decide +kernel
theorem dX0_worthOf_249 : decode cX0_worthOf 249 = .ok (.iastore, 1) := by decide +kernel
theorem dX0_worthOf_250 : decode cX0_worthOf 250 = .ok (.iload 9, 2) := by decide +kernel
theorem dX0_worthOf_252 : decode cX0_worthOf 252 = .ok (.ireturn, 1) := by decide +kernel
theorem dX0_setStone_0 : decode cX0_setStone 0 = .ok (.aload_n 0, 1) := by decide +kernel
theorem dX0_setStone_1 : decode cX0_setStone 1 = .ok (.getfield 99, 3) := by decide +kernel
theorem dX0_setStone_4 : decode cX0_setStone 4 = .ok (.bipush 9, 2) := by decide +kernel
theorem dX0_setStone_6 : decode cX0_setStone 6 = .ok (.invokestatic 140, 3) := by decide +kernel
theorem dX0_setStone_9 : decode cX0_setStone 9 = .ok (.istore_n 2, 1) := by decide +kernel
theorem dX0_setStone_10 : decode cX0_setStone 10 = .ok (.iload_n 2, 1) := by decide +kernel
theorem dX0_setStone_11 : decode cX0_setStone 11 = .ok (.ifCond .le 103, 3) := by decide +kernel
theorem dX0_setStone_14 : decode cX0_setStone 14 = .ok (.iconst 0, 1) := by decide +kernel
theorem dX0_setStone_15 : decode cX0_setStone 15 = .ok (.istore_n 3, 1) := by decide +kernel
theorem dX0_setStone_16 : decode cX0_setStone 16 = .ok (.iload_n 3, 1) := by decide +kernel
theorem dX0_setStone_17 : decode cX0_setStone 17 = .ok (.iconst 3, 1) := by decide +kernel
theorem dX0_setStone_18 : decode cX0_setStone 18 = .ok (.if_icmp .ge 90, 3) := by decide +kernel
theorem dX0_setStone_21 : decode cX0_setStone 21 = .ok (.aload_n 0, 1) := by decide +kernel
theorem dX0_setStone_22 : decode cX0_setStone 22 = .ok (.getfield 28, 3) := by decide +kernel
theorem dX0_setStone_25 : decode cX0_setStone 25 = .ok (.iload_n 3, 1) := by decide +kernel
theorem dX0_setStone_26 : decode cX0_setStone 26 = .ok (.iaload, 1) := by decide +kernel
theorem dX0_setStone_27 : decode cX0_setStone 27 = .ok (.iload_n 2, 1) := by decide +kernel
theorem dX0_setStone_28 : decode cX0_setStone 28 = .ok (.if_icmp .lt 74, 3) := by decide +kernel
theorem dX0_setStone_31 : decode cX0_setStone 31 = .ok (.aload_n 0, 1) := by decide +kernel
theorem dX0_setStone_32 : decode cX0_setStone 32 = .ok (.getfield 31, 3) := by decide +kernel
theorem dX0_setStone_35 : decode cX0_setStone 35 = .ok (.iload_n 3, 1) := by decide +kernel
theorem dX0_setStone_36 : decode cX0_setStone 36 = .ok (.iaload, 1) := by decide +kernel
theorem dX0_setStone_37 : decode cX0_setStone 37 = .ok (.ifCond .le 65, 3) := by decide +kernel
theorem dX0_setStone_40 : decode cX0_setStone 40 = .ok (.aload_n 0, 1) := by decide +kernel
theorem dX0_setStone_41 : decode cX0_setStone 41 = .ok (.iload_n 2, 1) := by decide +kernel
theorem dX0_setStone_42 : decode cX0_setStone 42 = .ok (.iload_n 3, 1) := by decide +kernel
theorem dX0_setStone_43 : decode cX0_setStone 43 = .ok (.invokevirtual 146, 3) := by decide +kernel
theorem dX0_setStone_46 : decode cX0_setStone 46 = .ok (.ifCond .eq 56, 3) := by decide +kernel
theorem dX0_setStone_49 : decode cX0_setStone 49 = .ok (.aload_n 0, 1) := by decide +kernel
theorem dX0_setStone_50 : decode cX0_setStone 50 = .ok (.iload_n 2, 1) := by decide +kernel
theorem dX0_setStone_51 : decode cX0_setStone 51 = .ok (.iload_n 3, 1) := by decide +kernel
theorem dX0_setStone_52 : decode cX0_setStone 52 = .ok (.invokevirtual 150, 3) := by decide +kernel
theorem dX0_setStone_55 : decode cX0_setStone 55 = .ok (.istore 4, 2) := by decide +kernel
theorem dX0_setStone_57 : decode cX0_setStone 57 = .ok (.aload_n 0, 1) := by decide +kernel
theorem dX0_setStone_58 : decode cX0_setStone 58 = .ok (.dup, 1) := by decide +kernel
theorem dX0_setStone_59 : decode cX0_setStone 59 = .ok (.getfield 106, 3) := by decide +kernel
theorem dX0_setStone_62 : decode cX0_setStone 62 = .ok (.aload_n 0, 1) := by decide +kernel
theorem dX0_setStone_63 : decode cX0_setStone 63 = .ok (.iload_n 2, 1) := by decide +kernel
theorem dX0_setStone_64 : decode cX0_setStone 64 = .ok (.iload_n 3, 1) := by decide +kernel
theorem dX0_setStone_65 : decode cX0_setStone 65 = .ok (.invokevirtual 153, 3) := by decide +kernel
theorem dX0_setStone_68 : decode cX0_setStone 68 = .ok (.isub, 1) := by decide +kernel
theorem dX0_setStone_69 : decode cX0_setStone 69 = .ok (.putfield 106, 3) := by decide +kernel
theorem dX0_setStone_72 : decode cX0_setStone 72 = .ok (.aload_n 1, 1) := by decide +kernel
theorem dX0_setStone_73 : decode cX0_setStone 73 = .ok (.iload_n 2, 1) := by decide +kernel
theorem dX0_setStone_74 : decode cX0_setStone 74 = .ok (.iload_n 3, 1) := by decide +kernel
theorem dX0_setStone_75 : decode cX0_setStone 75 = .ok (.aload_n 0, 1) := by decide +kernel
theorem dX0_setStone_76 : decode cX0_setStone 76 = .ok (.getfield 28, 3) := by decide +kernel
theorem dX0_setStone_79 : decode cX0_setStone 79 = .ok (.iload_n 3, 1) := by decide +kernel
theorem dX0_setStone_80 : decode cX0_setStone 80 = .ok (.iaload, 1) := by decide +kernel
theorem dX0_setStone_81 : decode cX0_setStone 81 = .ok (.iload 4, 2) := by decide +kernel
theorem dX0_setStone_83 : decode cX0_setStone 83 = .ok (.invokevirtual 156, 3) := by decide +kernel
theorem dX0_setStone_86 : decode cX0_setStone 86 = .ok (.aload_n 0, 1) := by decide +kernel
theorem dX0_setStone_87 : decode cX0_setStone 87 = .ok (.getfield 31, 3) := by decide +kernel
theorem dX0_setStone_90 : decode cX0_setStone 90 = .ok (.iload_n 3, 1) := by decide +kernel
theorem dX0_setStone_91 : decode cX0_setStone 91 = .ok (.dup2, 1) := by decide +kernel
theorem dX0_setStone_92 : decode cX0_setStone 92 = .ok (.iaload, 1) := by decide +kernel
theorem dX0_setStone_93 : decode cX0_setStone 93 = .ok (.iconst 1, 1) := by decide +kernel
theorem dX0_setStone_94 : decode cX0_setStone 94 = .ok (.isub, 1) := by decide +kernel
theorem dX0_setStone_95 : decode cX0_setStone 95 = .ok (.iastore, 1) := by decide +kernel
theorem dX0_setStone_96 : decode cX0_setStone 96 = .ok (.aload_n 0, 1) := by decide +kernel
theorem dX0_setStone_97 : decode cX0_setStone 97 = .ok (.iload_n 2, 1) := by decide +kernel
theorem dX0_setStone_98 : decode cX0_setStone 98 = .ok (.invokevirtual 160, 3) := by decide +kernel
theorem dX0_setStone_101 : decode cX0_setStone 101 = .ok (.return_, 1) := by decide +kernel
theorem dX0_setStone_102 : decode cX0_setStone 102 = .ok (.iinc 3 1, 3) := by decide +kernel
theorem dX0_setStone_105 : decode cX0_setStone 105 = .ok (.goto (-89), 3) := by decide +kernel
theorem dX0_setStone_108 : decode cX0_setStone 108 = .ok (.iinc 2 (-1), 3) := by decide +kernel
theorem dX0_setStone_111 : decode cX0_setStone 111 = .ok (.goto (-101), 3) := by decide +kernel
theorem dX0_setStone_114 : decode cX0_setStone 114 = .ok (.return_, 1) := by decide +kernel
theorem dX0_isNext_0 : decode cX0_isNext 0 = .ok (.aload_n 0, 1) := by decide +kernel
theorem dX0_isNext_1 : decode cX0_isNext 1 = .ok (.getfield 99, 3) := by decide +kernel
theorem dX0_isNext_4 : decode cX0_isNext 4 = .ok (.iload_n 1, 1) := by decide +kernel
theorem dX0_isNext_5 : decode cX0_isNext 5 = .ok (.isub, 1) := by decide +kernel
theorem dX0_isNext_6 : decode cX0_isNext 6 = .ok (.istore_n 3, 1) := by decide +kernel
theorem dX0_isNext_7 : decode cX0_isNext 7 = .ok (.iload_n 3, 1) := by decide +kernel
theorem dX0_isNext_8 : decode cX0_isNext 8 = .ok (.ifCond .le 13, 3) := by decide +kernel
theorem dX0_isNext_11 : decode cX0_isNext 11 = .ok (.iload_n 3, 1) := by decide +kernel
theorem dX0_isNext_12 : decode cX0_isNext 12 = .ok (.aload_n 0, 1) := by decide +kernel
theorem dX0_isNext_13 : decode cX0_isNext 13 = .ok (.getfield 75, 3) := by decide +kernel
theorem dX0_isNext_16 : decode cX0_isNext 16 = .ok (.if_icmp .gt 5, 3) := by decide +kernel
theorem dX0_isNext_19 : decode cX0_isNext 19 = .ok (.iconst 0, 1) := by decide +kernel
theorem dX0_isNext_20 : decode cX0_isNext 20 = .ok (.ireturn, 1) := by decide +kernel
theorem dX0_isNext_21 : decode cX0_isNext 21 = .ok (.aload_n 0, 1) := by decide +kernel
theorem dX0_isNext_22 : decode cX0_isNext 22 = .ok (.getfield 31, 3) := by decide +kernel
theorem dX0_isNext_25 : decode cX0_isNext 25 = .ok (.iload_n 2, 1) := by decide +kernel
theorem dX0_isNext_26 : decode cX0_isNext 26 = .ok (.dup2, 1) := by decide +kernel
theorem dX0_isNext_27 : decode cX0_isNext 27 = .ok (.iaload, 1) := by decide +kernel
theorem dX0_isNext_28 : decode cX0_isNext 28 = .ok (.iconst 1, 1) := by decide +kernel
theorem dX0_isNext_29 : decode cX0_isNext 29 = .ok (.isub, 1) := by decide +kernel
theorem dX0_isNext_30 : decode cX0_isNext 30 = .ok (.iastore, 1) := by decide +kernel
theorem dX0_isNext_31 : decode cX0_isNext 31 = .ok (.iload_n 3, 1) := by decide +kernel
theorem dX0_isNext_32 : decode cX0_isNext 32 = .ok (.ifCond .ne 44, 3) := by decide +kernel
theorem dX0_isNext_35 : decode cX0_isNext 35 = .ok (.aload_n 0, 1) := by decide +kernel
theorem dX0_isNext_36 : decode cX0_isNext 36 = .ok (.aload_n 0, 1) := by decide +kernel
theorem dX0_isNext_37 : decode cX0_isNext 37 = .ok (.getfield 92, 3) := by decide +kernel
theorem dX0_isNext_40 : decode cX0_isNext 40 = .ok (.iconst 1, 1) := by decide +kernel
theorem dX0_isNext_41 : decode cX0_isNext 41 = .ok (.iadd, 1) := by decide +kernel
theorem dX0_isNext_42 : decode cX0_isNext 42 = .ok (.aload_n 0, 1) := by decide +kernel
theorem dX0_isNext_43 : decode cX0_isNext 43 = .ok (.aload_n 0, 1) := by decide +kernel
theorem dX0_isNext_44 : decode cX0_isNext 44 = .ok (.getfield 92, 3) := by decide +kernel
theorem dX0_isNext_47 : decode cX0_isNext 47 = .ok (.iconst 1, 1) := by decide +kernel
theorem dX0_isNext_48 : decode cX0_isNext 48 = .ok (.iadd, 1) := by decide +kernel
theorem dX0_isNext_49 : decode cX0_isNext 49 = .ok (.invokevirtual 95, 3) := by decide +kernel
theorem dX0_isNext_52 : decode cX0_isNext 52 = .ok (.aload_n 0, 1) := by decide +kernel
theorem dX0_isNext_53 : decode cX0_isNext 53 = .ok (.getfield 31, 3) := by decide +kernel
theorem dX0_isNext_56 : decode cX0_isNext 56 = .ok (.iconst 0, 1) := by decide +kernel
theorem dX0_isNext_57 : decode cX0_isNext 57 = .ok (.iaload, 1) := by decide +kernel
theorem dX0_isNext_58 : decode cX0_isNext 58 = .ok (.aload_n 0, 1) := by decide +kernel
theorem dX0_isNext_59 : decode cX0_isNext 59 = .ok (.getfield 31, 3) := by decide +kernel
theorem dX0_isNext_62 : decode cX0_isNext 62 = .ok (.iconst 1, 1) := by decide +kernel
theorem dX0_isNext_63 : decode cX0_isNext 63 = .ok (.iaload, 1) := by decide +kernel
theorem dX0_isNext_64 : decode cX0_isNext 64 = .ok (.aload_n 0, 1) := by decide +kernel
theorem dX0_isNext_65 : decode cX0_isNext 65 = .ok (.getfield 31, 3) := by decide +kernel
theorem dX0_isNext_68 : decode cX0_isNext 68 = .ok (.iconst 2, 1) := by decide +kernel
theorem dX0_isNext_69 : decode cX0_isNext 69 = .ok (.iaload, 1) := by decide +kernel
theorem dX0_isNext_70 : decode cX0_isNext 70 = .ok (.invokevirtual 102, 3) := by decide +kernel
theorem dX0_isNext_73 : decode cX0_isNext 73 = .ok (.goto 35, 3) := by decide +kernel
theorem dX0_isNext_76 : decode cX0_isNext 76 = .ok (.aload_n 0, 1) := by decide +kernel
theorem dX0_isNext_77 : decode cX0_isNext 77 = .ok (.aload_n 0, 1) := by decide +kernel
theorem dX0_isNext_78 : decode cX0_isNext 78 = .ok (.getfield 92, 3) := by decide +kernel
theorem dX0_isNext_81 : decode cX0_isNext 81 = .ok (.iload_n 3, 1) := by decide +kernel
theorem dX0_isNext_82 : decode cX0_isNext 82 = .ok (.aload_n 0, 1) := by decide +kernel
theorem dX0_isNext_83 : decode cX0_isNext 83 = .ok (.getfield 75, 3) := by decide +kernel
theorem dX0_isNext_86 : decode cX0_isNext 86 = .ok (.isub, 1) := by decide +kernel
theorem dX0_isNext_87 : decode cX0_isNext 87 = .ok (.aload_n 0, 1) := by decide +kernel
theorem dX0_isNext_88 : decode cX0_isNext 88 = .ok (.getfield 31, 3) := by decide +kernel
theorem dX0_isNext_91 : decode cX0_isNext 91 = .ok (.iconst 0, 1) := by decide +kernel
theorem dX0_isNext_92 : decode cX0_isNext 92 = .ok (.iaload, 1) := by decide +kernel
theorem dX0_isNext_93 : decode cX0_isNext 93 = .ok (.aload_n 0, 1) := by decide +kernel
theorem dX0_isNext_94 : decode cX0_isNext 94 = .ok (.getfield 31, 3) := by decide +kernel
theorem dX0_isNext_97 : decode cX0_isNext 97 = .ok (.iconst 1, 1) := by decide +kernel
theorem dX0_isNext_98 : decode cX0_isNext 98 = .ok (.iaload, 1) := by decide +kernel
theorem dX0_isNext_99 : decode cX0_isNext 99 = .ok (.aload_n 0, 1) := by decide +kernel
theorem dX0_isNext_100 : decode cX0_isNext 100 = .ok (.getfield 31, 3) := by decide +kernel
theorem dX0_isNext_103 : decode cX0_isNext 103 = .ok (.iconst 2, 1) := by decide +kernel
theorem dX0_isNext_104 : decode cX0_isNext 104 = .ok (.iaload, 1) := by decide +kernel
theorem dX0_isNext_105 : decode cX0_isNext 105 = .ok (.invokevirtual 102, 3) := by decide +kernel
theorem dX0_isNext_108 : decode cX0_isNext 108 = .ok (.istore 4, 2) := by decide +kernel
theorem dX0_isNext_110 : decode cX0_isNext 110 = .ok (.aload_n 0, 1) := by decide +kernel
theorem dX0_isNext_111 : decode cX0_isNext 111 = .ok (.getfield 31, 3) := by decide +kernel
theorem dX0_isNext_114 : decode cX0_isNext 114 = .ok (.iload_n 2, 1) := by decide +kernel
theorem dX0_isNext_115 : decode cX0_isNext 115 = .ok (.dup2, 1) := by decide +kernel
theorem dX0_isNext_116 : decode cX0_isNext 116 = .ok (.iaload, 1) := by decide +kernel
theorem dX0_isNext_117 : decode cX0_isNext 117 = .ok (.iconst 1, 1) := by decide +kernel
theorem dX0_isNext_118 : decode cX0_isNext 118 = .ok (.iadd, 1) := by decide +kernel
theorem dX0_isNext_119 : decode cX0_isNext 119 = .ok (.iastore, 1) := by decide +kernel
theorem dX0_isNext_120 : decode cX0_isNext 120 = .ok (.aload_n 0, 1) := by decide +kernel
theorem dX0_isNext_121 : decode cX0_isNext 121 = .ok (.iload_n 1, 1) := by decide +kernel
theorem dX0_isNext_122 : decode cX0_isNext 122 = .ok (.iload_n 2, 1) := by decide +kernel
theorem dX0_isNext_123 : decode cX0_isNext 123 = .ok (.invokevirtual 153, 3) := by decide +kernel
theorem dX0_isNext_126 : decode cX0_isNext 126 = .ok (.iload 4, 2) := by decide +kernel
theorem dX0_isNext_128 : decode cX0_isNext 128 = .ok (.iadd, 1) := by decide +kernel
theorem dX0_isNext_129 : decode cX0_isNext 129 = .ok (.aload_n 0, 1) := by decide +kernel
theorem dX0_isNext_130 : decode cX0_isNext 130 = .ok (.getfield 106, 3) := by decide +kernel
theorem dX0_isNext_133 : decode cX0_isNext 133 = .ok (.if_icmp .ne 7, 3) := by decide +kernel
theorem dX0_isNext_136 : decode cX0_isNext 136 = .ok (.iconst 1, 1) := by decide +kernel
theorem dX0_isNext_137 : decode cX0_isNext 137 = .ok (.goto 4, 3) := by decide +kernel
theorem dX0_isNext_140 : decode cX0_isNext 140 = .ok (.iconst 0, 1) := by decide +kernel
theorem dX0_isNext_141 : decode cX0_isNext 141 = .ok (.ireturn, 1) := by decide +kernel
theorem dX0_ownWorth_0 : decode cX0_ownWorth 0 = .ok (.iload_n 1, 1) := by decide +kernel
theorem dX0_ownWorth_1 : decode cX0_ownWorth 1 = .ok (.aload_n 0, 1) := by decide +kernel
theorem dX0_ownWorth_2 : decode cX0_ownWorth 2 = .ok (.getfield 28, 3) := by decide +kernel
theorem dX0_ownWorth_5 : decode cX0_ownWorth 5 = .ok (.iload_n 2, 1) := by decide +kernel
theorem dX0_ownWorth_6 : decode cX0_ownWorth 6 = .ok (.iaload, 1) := by decide +kernel
theorem dX0_ownWorth_7 : decode cX0_ownWorth 7 = .ok (.if_icmp .ge 7, 3) := by decide +kernel
theorem dX0_ownWorth_10 : decode cX0_ownWorth 10 = .ok (.iconst 1, 1) := by decide +kernel
theorem dX0_ownWorth_11 : decode cX0_ownWorth 11 = .ok (.goto 4, 3) := by decide +kernel
theorem dX0_ownWorth_14 : decode cX0_ownWorth 14 = .ok (.iconst 0, 1) := by decide +kernel
theorem dX0_ownWorth_15 : decode cX0_ownWorth 15 = .ok (.aload_n 0, 1) := by decide +kernel
theorem dX0_ownWorth_16 : decode cX0_ownWorth 16 = .ok (.iload_n 1, 1) := by decide +kernel
theorem dX0_ownWorth_17 : decode cX0_ownWorth 17 = .ok (.iload_n 2, 1) := by decide +kernel
theorem dX0_ownWorth_18 : decode cX0_ownWorth 18 = .ok (.invokevirtual 150, 3) := by decide +kernel
theorem dX0_ownWorth_21 : decode cX0_ownWorth 21 = .ok (.ifCond .eq 7, 3) := by decide +kernel
theorem dX0_ownWorth_24 : decode cX0_ownWorth 24 = .ok (.iconst 1, 1) := by decide +kernel
theorem dX0_ownWorth_25 : decode cX0_ownWorth 25 = .ok (.goto 4, 3) := by decide +kernel
theorem dX0_ownWorth_28 : decode cX0_ownWorth 28 = .ok (.iconst 0, 1) := by decide +kernel
theorem dX0_ownWorth_29 : decode cX0_ownWorth 29 = .ok (.iadd, 1) := by decide +kernel
theorem dX0_ownWorth_30 : decode cX0_ownWorth 30 = .ok (.istore_n 3, 1) := by decide +kernel
theorem dX0_ownWorth_31 : decode cX0_ownWorth 31 = .ok (.iload_n 3, 1) := by decide +kernel
theorem dX0_ownWorth_32 : decode cX0_ownWorth 32 = .ok (.bipush 32, 2) := by decide +kernel
theorem dX0_ownWorth_34 : decode cX0_ownWorth 34 = .ok (.imul, 1) := by decide +kernel
theorem dX0_ownWorth_35 : decode cX0_ownWorth 35 = .ok (.iconst 1, 1) := by decide +kernel
theorem dX0_ownWorth_36 : decode cX0_ownWorth 36 = .ok (.iadd, 1) := by decide +kernel
theorem dX0_ownWorth_37 : decode cX0_ownWorth 37 = .ok (.ireturn, 1) := by decide +kernel
theorem dX0_isAslant_0 : decode cX0_isAslant 0 = .ok (.iload_n 2, 1) := by decide +kernel
theorem dX0_isAslant_1 : decode cX0_isAslant 1 = .ok (.ifCond .ne 17, 3) := by decide +kernel
theorem dX0_isAslant_4 : decode cX0_isAslant 4 = .ok (.iload_n 1, 1) := by decide +kernel
theorem dX0_isAslant_5 : decode cX0_isAslant 5 = .ok (.aload_n 0, 1) := by decide +kernel
theorem dX0_isAslant_6 : decode cX0_isAslant 6 = .ok (.getfield 28, 3) := by decide +kernel
theorem dX0_isAslant_9 : decode cX0_isAslant 9 = .ok (.iconst 0, 1) := by decide +kernel
theorem dX0_isAslant_10 : decode cX0_isAslant 10 = .ok (.iaload, 1) := by decide +kernel
theorem dX0_isAslant_11 : decode cX0_isAslant 11 = .ok (.if_icmp .ne 7, 3) := by decide +kernel
theorem dX0_isAslant_14 : decode cX0_isAslant 14 = .ok (.iconst 1, 1) := by decide +kernel
theorem dX0_isAslant_15 : decode cX0_isAslant 15 = .ok (.goto 4, 3) := by decide +kernel
theorem dX0_isAslant_18 : decode cX0_isAslant 18 = .ok (.iconst 0, 1) := by decide +kernel
theorem dX0_isAslant_19 : decode cX0_isAslant 19 = .ok (.istore_n 3, 1) := by decide +kernel
theorem dX0_isAslant_20 : decode cX0_isAslant 20 = .ok (.iload_n 1, 1) := by decide +kernel
theorem dX0_isAslant_21 : decode cX0_isAslant 21 = .ok (.aload_n 0, 1) := by decide +kernel
theorem dX0_isAslant_22 : decode cX0_isAslant 22 = .ok (.getfield 99, 3) := by decide +kernel
theorem dX0_isAslant_25 : decode cX0_isAslant 25 = .ok (.if_icmp .ne 26, 3) := by decide +kernel
theorem dX0_isAslant_28 : decode cX0_isAslant 28 = .ok (.aload_n 0, 1) := by decide +kernel
theorem dX0_isAslant_29 : decode cX0_isAslant 29 = .ok (.getfield 14, 3) := by decide +kernel
theorem dX0_isAslant_32 : decode cX0_isAslant 32 = .ok (.getfield 63, 3) := by decide +kernel
theorem dX0_isAslant_35 : decode cX0_isAslant 35 = .ok (.aload_n 0, 1) := by decide +kernel
theorem dX0_isAslant_36 : decode cX0_isAslant 36 = .ok (.getfield 92, 3) := by decide +kernel
theorem dX0_isAslant_39 : decode cX0_isAslant 39 = .ok (.baload, 1) := by decide +kernel
theorem dX0_isAslant_40 : decode cX0_isAslant 40 = .ok (.ifCond .eq 11, 3) := by decide +kernel
theorem dX0_isAslant_43 : decode cX0_isAslant 43 = .ok (.iload_n 3, 1) := by decide +kernel
theorem dX0_isAslant_44 : decode cX0_isAslant 44 = .ok (.ifCond .ne 7, 3) := by decide +kernel
theorem dX0_isAslant_47 : decode cX0_isAslant 47 = .ok (.iconst 1, 1) := by decide +kernel
theorem dX0_isAslant_48 : decode cX0_isAslant 48 = .ok (.goto 4, 3) := by decide +kernel
theorem dX0_isAslant_51 : decode cX0_isAslant 51 = .ok (.iconst 0, 1) := by decide +kernel
theorem dX0_isAslant_52 : decode cX0_isAslant 52 = .ok (.ireturn, 1) := by decide +kernel
theorem dX0_goBehind_0 : decode cX0_goBehind 0 = .ok (.iload_n 1, 1) := by decide +kernel
theorem dX0_goBehind_1 : decode cX0_goBehind 1 = .ok (.aload_n 0, 1) := by decide +kernel
theorem dX0_goBehind_2 : decode cX0_goBehind 2 = .ok (.getfield 99, 3) := by decide +kernel
theorem dX0_goBehind_5 : decode cX0_goBehind 5 = .ok (.if_icmp .ne 28, 3) := by decide +kernel
theorem dX0_goBehind_8 : decode cX0_goBehind 8 = .ok (.aload_n 0, 1) := by decide +kernel
theorem dX0_goBehind_9 : decode cX0_goBehind 9 = .ok (.dup, 1) := by decide +kernel
theorem dX0_goBehind_10 : decode cX0_goBehind 10 = .ok (.getfield 92, 3) := by decide +kernel
theorem dX0_goBehind_13 : decode cX0_goBehind 13 = .ok (.iconst 1, 1) := by decide +kernel
theorem dX0_goBehind_14 : decode cX0_goBehind 14 = .ok (.iadd, 1) := by decide +kernel
theorem dX0_goBehind_15 : decode cX0_goBehind 15 = .ok (.putfield 92, 3) := by decide +kernel
theorem dX0_goBehind_18 : decode cX0_goBehind 18 = .ok (.aload_n 0, 1) := by decide +kernel
theorem dX0_goBehind_19 : decode cX0_goBehind 19 = .ok (.aload_n 0, 1) := by decide +kernel
theorem dX0_goBehind_20 : decode cX0_goBehind 20 = .ok (.aload_n 0, 1) := by decide +kernel
theorem dX0_goBehind_21 : decode cX0_goBehind 21 = .ok (.getfield 92, 3) := by decide +kernel
theorem dX0_goBehind_24 : decode cX0_goBehind 24 = .ok (.invokevirtual 95, 3) := by decide +kernel
theorem dX0_goBehind_27 : decode cX0_goBehind 27 = .ok (.putfield 99, 3) := by decide +kernel
theorem dX0_goBehind_30 : decode cX0_goBehind 30 = .ok (.goto 18, 3) := by decide +kernel
theorem dX0_goBehind_33 : decode cX0_goBehind 33 = .ok (.aload_n 0, 1) := by decide +kernel
theorem dX0_goBehind_34 : decode cX0_goBehind 34 = .ok (.dup, 1) := by decide +kernel
theorem dX0_goBehind_35 : decode cX0_goBehind 35 = .ok (.getfield 99, 3) := by decide +kernel
theorem dX0_goBehind_38 : decode cX0_goBehind 38 = .ok (.iload_n 1, 1) := by decide +kernel
theorem dX0_goBehind_39 : decode cX0_goBehind 39 = .ok (.aload_n 0, 1) := by decide +kernel
theorem dX0_goBehind_40 : decode cX0_goBehind 40 = .ok (.getfield 75, 3) := by decide +kernel
theorem dX0_goBehind_43 : decode cX0_goBehind 43 = .ok (.iadd, 1) := by decide +kernel
theorem dX0_goBehind_44 : decode cX0_goBehind 44 = .ok (.isub, 1) := by decide +kernel
theorem dX0_goBehind_45 : decode cX0_goBehind 45 = .ok (.putfield 99, 3) := by decide +kernel
theorem dX0_goBehind_48 : decode cX0_goBehind 48 = .ok (.return_, 1) := by decide +kernel
theorem dX1_init_0 : decode cX1_init 0 = .ok (.aload_n 0, 1) := by decide +kernel
theorem dX1_init_1 : decode cX1_init 1 = .ok (.invokespecial 3, 3) := by decide +kernel
theorem dX1_init_4 : decode cX1_init 4 = .ok (.aload_n 0, 1) := by decide +kernel
theorem dX1_init_5 : decode cX1_init 5 = .ok (.sipush 400, 3) := by decide +kernel
theorem dX1_init_8 : decode cX1_init 8 = .ok (.newarray .int, 2) := by decide +kernel
theorem dX1_init_10 : decode cX1_init 10 = .ok (.putfield 9, 3) := by decide +kernel
theorem dX1_init_13 : decode cX1_init 13 = .ok (.aload_n 0, 1) := by decide +kernel
theorem dX1_init_14 : decode cX1_init 14 = .ok (.bipush 9, 2) := by decide +kernel
theorem dX1_init_16 : decode cX1_init 16 = .ok (.newarray .int, 2) := by decide +kernel
theorem dX1_init_18 : decode cX1_init 18 = .ok (.putfield 15, 3) := by decide +kernel
theorem dX1_init_21 : decode cX1_init 21 = .ok (.aload_n 0, 1) := by decide +kernel
theorem dX1_init_22 : decode cX1_init 22 = .ok (.iconst 3, 1) := by decide +kernel
theorem dX1_init_23 : decode cX1_init 23 = .ok (.newarray .int, 2) := by decide +kernel
theorem dX1_init_25 : decode cX1_init 25 = .ok (.putfield 18, 3) := by decide +kernel
theorem dX1_init_28 : decode cX1_init 28 = .ok (.aload_n 0, 1) := by decide +kernel
theorem dX1_init_29 : decode cX1_init 29 = .ok (.iconst 3, 1) := by decide +kernel
theorem dX1_init_30 : decode cX1_init 30 = .ok (.newarray .int, 2) := by decide +kernel
theorem dX1_init_32 : decode cX1_init 32 = .ok (.putfield 21, 3) := by decide +kernel
theorem dX1_init_35 : decode cX1_init 35 = .ok (.aload_n 0, 1) := by decide +kernel
theorem dX1_init_36 : decode cX1_init 36 = .ok (.iconst 3, 1) := by decide +kernel
theorem dX1_init_37 : decode cX1_init 37 = .ok (.newarray .int, 2) := by decide +kernel
theorem dX1_init_39 : decode cX1_init 39 = .ok (.putfield 24, 3) := by decide +kernel
theorem dX1_init_42 : decode cX1_init 42 = .ok (.aload_n 0, 1) := by decide +kernel
theorem dX1_init_43 : decode cX1_init 43 = .ok (.bipush 9, 2) := by decide +kernel
theorem dX1_init_45 : decode cX1_init 45 = .ok (.newarray .int, 2) := by decide +kernel
theorem dX1_init_47 : decode cX1_init 47 = .ok (.putfield 27, 3) := by decide +kernel
theorem dX1_init_50 : decode cX1_init 50 = .ok (.aload_n 0, 1) := by decide +kernel
theorem dX1_init_51 : decode cX1_init 51 = .ok (.iconst 3, 1) := by decide +kernel
theorem dX1_init_52 : decode cX1_init 52 = .ok (.newarray .int, 2) := by decide +kernel
theorem dX1_init_54 : decode cX1_init 54 = .ok (.putfield 30, 3) := by decide +kernel
theorem dX1_init_57 : decode cX1_init 57 = .ok (.return_, 1) := by decide +kernel
theorem dX1_begin_0 : decode cX1_begin 0 = .ok (.aload_n 0, 1) := by decide +kernel
theorem dX1_begin_1 : decode cX1_begin 1 = .ok (.getfield 9, 3) := by decide +kernel
theorem dX1_begin_4 : decode cX1_begin 4 = .ok (.bipush (-4), 2) := by decide +kernel
theorem dX1_begin_6 : decode cX1_begin 6 = .ok (.invokestatic 33, 3) := by decide +kernel
theorem dX1_begin_9 : decode cX1_begin 9 = .ok (.aload_n 1, 1) := by decide +kernel
theorem dX1_begin_10 : decode cX1_begin 10 = .ok (.getfield 39, 3) := by decide +kernel
theorem dX1_begin_13 : decode cX1_begin 13 = .ok (.iconst 0, 1) := by decide +kernel
theorem dX1_begin_14 : decode cX1_begin 14 = .ok (.aload_n 0, 1) := by decide +kernel
theorem dX1_begin_15 : decode cX1_begin 15 = .ok (.getfield 15, 3) := by decide +kernel
