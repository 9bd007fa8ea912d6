theorem dX11_cover_27 : decode cX11_cover 27 = .ok (.ireturn, 1) := by decide +kernel
theorem dX11_cover_28 : decode cX11_cover 28 = .ok (.aload_n 0, 1) := by decide +kernel
theorem dX11_cover_29 : decode cX11_cover 29 = .ok (.iload_n 1, 1) := by decide +kernel
theorem dX11_cover_30 : decode cX11_cover 30 = .ok (.iload_n 2, 1) := by decide +kernel
theorem dX11_cover_31 : decode cX11_cover 31 = .ok (.invokevirtual 228, 3) := by decide +kernel
theorem dX11_cover_34 : decode cX11_cover 34 = .ok (.ifCond .ne 6, 3) := by decide +kernel
theorem dX11_cover_37 : decode cX11_cover 37 = .ok (.bipush (-4), 2) := by decide +kernel
theorem dX11_cover_39 : decode cX11_cover 39 = .ok (.ireturn, 1) := by decide +kernel
theorem dX11_cover_40 : decode cX11_cover 40 = .ok (.aload_n 0, 1) := by decide +kernel
theorem dX11_cover_41 : decode cX11_cover 41 = .ok (.invokevirtual 173, 3) := by decide +kernel
theorem dX11_cover_44 : decode cX11_cover 44 = .ok (.aload_n 0, 1) := by decide +kernel
theorem dX11_cover_45 : decode cX11_cover 45 = .ok (.iload_n 1, 1) := by decide +kernel
theorem dX11_cover_46 : decode cX11_cover 46 = .ok (.iload_n 2, 1) := by decide +kernel
theorem dX11_cover_47 : decode cX11_cover 47 = .ok (.invokevirtual 231, 3) := by decide +kernel
theorem dX11_cover_50 : decode cX11_cover 50 = .ok (.aload_n 0, 1) := by decide +kernel
theorem dX11_cover_51 : decode cX11_cover 51 = .ok (.getfield 218, 3) := by decide +kernel
theorem dX11_cover_54 : decode cX11_cover 54 = .ok (.ireturn, 1) := by decide +kernel
theorem dX11_takeUp_0 : decode cX11_takeUp 0 = .ok (.aload_n 0, 1) := by decide +kernel
theorem dX11_takeUp_1 : decode cX11_takeUp 1 = .ok (.iload_n 1, 1) := by decide +kernel
theorem dX11_takeUp_2 : decode cX11_takeUp 2 = .ok (.invokevirtual 176, 3) := by decide +kernel
theorem dX11_takeUp_5 : decode cX11_takeUp 5 = .ok (.ifCond .ne 5, 3) := by decide +kernel
theorem dX11_takeUp_8 : decode cX11_takeUp 8 = .ok (.iconst (-1), 1) := by decide +kernel
theorem dX11_takeUp_9 : decode cX11_takeUp 9 = .ok (.ireturn, 1) := by decide +kernel
theorem dX11_takeUp_10 : decode cX11_takeUp 10 = .ok (.aload_n 0, 1) := by decide +kernel
theorem dX11_takeUp_11 : decode cX11_takeUp 11 = .ok (.iload_n 1, 1) := by decide +kernel
theorem dX11_takeUp_12 : decode cX11_takeUp 12 = .ok (.invokevirtual 190, 3) := by decide +kernel
theorem dX11_takeUp_15 : decode cX11_takeUp 15 = .ok (.ifCond .ne 6, 3) := by decide +kernel
theorem dX11_takeUp_18 : decode cX11_takeUp 18 = .ok (.bipush (-2), 2) := by decide +kernel
theorem dX11_takeUp_20 : decode cX11_takeUp 20 = .ok (.ireturn, 1) := by decide +kernel
theorem dX11_takeUp_21 : decode cX11_takeUp 21 = .ok (.aload_n 0, 1) := by decide +kernel
theorem dX11_takeUp_22 : decode cX11_takeUp 22 = .ok (.invokevirtual 173, 3) := by decide +kernel
theorem dX11_takeUp_25 : decode cX11_takeUp 25 = .ok (.iconst 0, 1) := by decide +kernel
theorem dX11_takeUp_26 : decode cX11_takeUp 26 = .ok (.istore_n 2, 1) := by decide +kernel
theorem dX11_takeUp_27 : decode cX11_takeUp 27 = .ok (.iconst 0, 1) := by decide +kernel
theorem dX11_takeUp_28 : decode cX11_takeUp 28 = .ok (.istore_n 3, 1) := by decide +kernel
theorem dX11_takeUp_29 : decode cX11_takeUp 29 = .ok (.iload_n 3, 1) := by decide +kernel
theorem dX11_takeUp_30 : decode cX11_takeUp 30 = .ok (.iconst 3, 1) := by decide +kernel
theorem dX11_takeUp_31 : decode cX11_takeUp 31 = .ok (.if_icmp .ge 126, 3) := by decide +kernel
theorem dX11_takeUp_34 : decode cX11_takeUp 34 = .ok (.iconst 1, 1) := by decide +kernel
theorem dX11_takeUp_35 : decode cX11_takeUp 35 = .ok (.iconst 3, 1) := by decide +kernel
theorem dX11_takeUp_36 : decode cX11_takeUp 36 = .ok (.aload_n 0, 1) := by decide +kernel
theorem dX11_takeUp_37 : decode cX11_takeUp 37 = .ok (.getfield 7, 3) := by decide +kernel
theorem dX11_takeUp_40 : decode cX11_takeUp 40 = .ok (.bipush 10, 2) := by decide +kernel
theorem dX11_takeUp_42 : decode cX11_takeUp 42 = .ok (.iload_n 1, 1) := by decide +kernel
theorem dX11_takeUp_43 : decode cX11_takeUp 43 = .ok (.iadd, 1) := by decide +kernel
theorem dX11_takeUp_44 : decode cX11_takeUp 44 = .ok (.iaload, 1) := by decide +kernel
theorem dX11_takeUp_45 : decode cX11_takeUp 45 = .ok (.imul, 1) := by decide +kernel
theorem dX11_takeUp_46 : decode cX11_takeUp 46 = .ok (.iadd, 1) := by decide +kernel
theorem dX11_takeUp_47 : decode cX11_takeUp 47 = .ok (.iload_n 3, 1) := by decide +kernel
theorem dX11_takeUp_48 : decode cX11_takeUp 48 = .ok (.iadd, 1) := by decide +kernel
theorem dX11_takeUp_49 : decode cX11_takeUp 49 = .ok (.istore 4, 2) := by decide +kernel
theorem dX11_takeUp_51 : decode cX11_takeUp 51 = .ok (.aload_n 0, 1) := by decide +kernel
theorem dX11_takeUp_52 : decode cX11_takeUp 52 = .ok (.getfield 7, 3) := by decide +kernel
theorem dX11_takeUp_55 : decode cX11_takeUp 55 = .ok (.bipush 19, 2) := by decide +kernel
theorem dX11_takeUp_57 : decode cX11_takeUp 57 = .ok (.iconst 3, 1) := by decide +kernel
theorem dX11_takeUp_58 : decode cX11_takeUp 58 = .ok (.iload_n 1, 1) := by decide +kernel
theorem dX11_takeUp_59 : decode cX11_takeUp 59 = .ok (.imul, 1) := by decide +kernel
theorem dX11_takeUp_60 : decode cX11_takeUp 60 = .ok (.iadd, 1) := by decide +kernel
theorem dX11_takeUp_61 : decode cX11_takeUp 61 = .ok (.iload_n 3, 1) := by decide +kernel
theorem dX11_takeUp_62 : decode cX11_takeUp 62 = .ok (.iadd, 1) := by decide +kernel
theorem dX11_takeUp_63 : decode cX11_takeUp 63 = .ok (.iaload, 1) := by decide +kernel
theorem dX11_takeUp_64 : decode cX11_takeUp 64 = .ok (.istore 5, 2) := by decide +kernel
theorem dX11_takeUp_66 : decode cX11_takeUp 66 = .ok (.iload 5, 2) := by decide +kernel
theorem dX11_takeUp_68 : decode cX11_takeUp 68 = .ok (.bipush 6, 2) := by decide +kernel
theorem dX11_takeUp_70 : decode cX11_takeUp 70 = .ok (.aload_n 0, 1) := by decide +kernel
theorem dX11_takeUp_71 : decode cX11_takeUp 71 = .ok (.getfield 7, 3) := by decide +kernel
theorem dX11_takeUp_74 : decode cX11_takeUp 74 = .ok (.iload 4, 2) := by decide +kernel
theorem dX11_takeUp_76 : decode cX11_takeUp 76 = .ok (.iaload, 1) := by decide +kernel
theorem dX11_takeUp_77 : decode cX11_takeUp 77 = .ok (.isub, 1) := by decide +kernel
theorem dX11_takeUp_78 : decode cX11_takeUp 78 = .ok (.if_icmp .ge 8, 3) := by decide +kernel
theorem dX11_takeUp_81 : decode cX11_takeUp 81 = .ok (.iload 5, 2) := by decide +kernel
theorem dX11_takeUp_83 : decode cX11_takeUp 83 = .ok (.goto 13, 3) := by decide +kernel
theorem dX11_takeUp_86 : decode cX11_takeUp 86 = .ok (.bipush 6, 2) := by decide +kernel
theorem dX11_takeUp_88 : decode cX11_takeUp 88 = .ok (.aload_n 0, 1) := by decide +kernel
theorem dX11_takeUp_89 : decode cX11_takeUp 89 = .ok (.getfield 7, 3) := by decide +kernel
theorem dX11_takeUp_92 : decode cX11_takeUp 92 = .ok (.iload 4, 2) := by decide +kernel
theorem dX11_takeUp_94 : decode cX11_takeUp 94 = .ok (.iaload, 1) := by decide +kernel
theorem dX11_takeUp_95 : decode cX11_takeUp 95 = .ok (.isub, 1) := by decide +kernel
theorem dX11_takeUp_96 : decode cX11_takeUp 96 = .ok (.istore 6, 2) := by decide +kernel
theorem dX11_takeUp_98 : decode cX11_takeUp 98 = .ok (.aload_n 0, 1) := by decide +kernel
theorem dX11_takeUp_99 : decode cX11_takeUp 99 = .ok (.getfield 7, 3) := by decide +kernel
theorem dX11_takeUp_102 : decode cX11_takeUp 102 = .ok (.iload 4, 2) := by decide +kernel
theorem dX11_takeUp_104 : decode cX11_takeUp 104 = .ok (.dup2, 1) := by decide +kernel
theorem dX11_takeUp_105 : decode cX11_takeUp 105 = .ok (.iaload, 1) := by decide +kernel
theorem dX11_takeUp_106 : decode cX11_takeUp 106 = .ok (.iload 6, 2) := by decide +kernel
theorem dX11_takeUp_108 : decode cX11_takeUp 108 = .ok (.iadd, 1) := by decide +kernel
theorem dX11_takeUp_109 : decode cX11_takeUp 109 = .ok (.iastore, 1) := by decide +kernel
theorem dX11_takeUp_110 : decode cX11_takeUp 110 = .ok (.iload_n 2, 1) := by decide +kernel
theorem dX11_takeUp_111 : decode cX11_takeUp 111 = .ok (.iload 6, 2) := by decide +kernel
theorem dX11_takeUp_113 : decode cX11_takeUp 113 = .ok (.iadd, 1) := by decide +kernel
theorem dX11_takeUp_114 : decode cX11_takeUp 114 = .ok (.istore_n 2, 1) := by decide +kernel
theorem dX11_takeUp_115 : decode cX11_takeUp 115 = .ok (.aload_n 0, 1) := by decide +kernel
theorem dX11_takeUp_116 : decode cX11_takeUp 116 = .ok (.getfield 7, 3) := by decide +kernel
theorem dX11_takeUp_119 : decode cX11_takeUp 119 = .ok (.bipush 32, 2) := by decide +kernel
theorem dX11_takeUp_121 : decode cX11_takeUp 121 = .ok (.dup2, 1) := by decide +kernel
theorem dX11_takeUp_122 : decode cX11_takeUp 122 = .ok (.iaload, 1) := by decide +kernel
theorem dX11_takeUp_123 : decode cX11_takeUp 123 = .ok (.aload_n 0, 1) := by decide +kernel
theorem dX11_takeUp_124 : decode cX11_takeUp 124 = .ok (.getfield 40, 3) := by decide +kernel
theorem dX11_takeUp_127 : decode cX11_takeUp 127 = .ok (.iload_n 3, 1) := by decide +kernel
theorem dX11_takeUp_128 : decode cX11_takeUp 128 = .ok (.iaload, 1) := by decide +kernel
theorem dX11_takeUp_129 : decode cX11_takeUp 129 = .ok (.iload 5, 2) := by decide +kernel
theorem dX11_takeUp_131 : decode cX11_takeUp 131 = .ok (.iload 6, 2) := by decide +kernel
theorem dX11_takeUp_133 : decode cX11_takeUp 133 = .ok (.isub, 1) := by decide +kernel
theorem dX11_takeUp_134 : decode cX11_takeUp 134 = .ok (.imul, 1) := by decide +kernel
theorem dX11_takeUp_135 : decode cX11_takeUp 135 = .ok (.iadd, 1) := by decide +kernel
theorem dX11_takeUp_136 : decode cX11_takeUp 136 = .ok (.iastore, 1) := by decide +kernel
theorem dX11_takeUp_137 : decode cX11_takeUp 137 = .ok (.aload_n 0, 1) := by decide +kernel
theorem dX11_takeUp_138 : decode cX11_takeUp 138 = .ok (.getfield 7, 3) := by decide +kernel
theorem dX11_takeUp_141 : decode cX11_takeUp 141 = .ok (.bipush 19, 2) := by decide +kernel
theorem dX11_takeUp_143 : decode cX11_takeUp 143 = .ok (.iconst 3, 1) := by decide +kernel
theorem dX11_takeUp_144 : decode cX11_takeUp 144 = .ok (.iload_n 1, 1) := by decide +kernel
theorem dX11_takeUp_145 : decode cX11_takeUp 145 = .ok (.imul, 1) := by decide +kernel
theorem dX11_takeUp_146 : decode cX11_takeUp 146 = .ok (.iadd, 1) := by decide +kernel
theorem dX11_takeUp_147 : decode cX11_takeUp 147 = .ok (.iload_n 3, 1) := by decide +kernel
theorem dX11_takeUp_148 : decode cX11_takeUp 148 = .ok (.iadd, 1) := by decide +kernel
theorem dX11_takeUp_149 : decode cX11_takeUp 149 = .ok (.iconst 0, 1) := by decide +kernel
theorem dX11_takeUp_150 : decode cX11_takeUp 150 = .ok (.iastore, 1) := by decide +kernel
theorem dX11_takeUp_151 : decode cX11_takeUp 151 = .ok (.iinc 3 1, 3) := by decide +kernel
theorem dX11_takeUp_154 : decode cX11_takeUp 154 = .ok (.goto (-125), 3) := by decide +kernel
theorem dX11_takeUp_157 : decode cX11_takeUp 157 = .ok (.aload_n 0, 1) := by decide +kernel
theorem dX11_takeUp_158 : decode cX11_takeUp 158 = .ok (.getfield 7, 3) := by decide +kernel
theorem dX11_takeUp_161 : decode cX11_takeUp 161 = .ok (.bipush 32, 2) := by decide +kernel
theorem dX11_takeUp_163 : decode cX11_takeUp 163 = .ok (.dup2, 1) := by decide +kernel
theorem dX11_takeUp_164 : decode cX11_takeUp 164 = .ok (.iaload, 1) := by decide +kernel
theorem dX11_takeUp_165 : decode cX11_takeUp 165 = .ok (.aload_n 0, 1) := by decide +kernel
theorem dX11_takeUp_166 : decode cX11_takeUp 166 = .ok (.getfield 7, 3) := by decide +kernel
theorem dX11_takeUp_169 : decode cX11_takeUp 169 = .ok (.bipush 28, 2) := by decide +kernel
theorem dX11_takeUp_171 : decode cX11_takeUp 171 = .ok (.iload_n 1, 1) := by decide +kernel
theorem dX11_takeUp_172 : decode cX11_takeUp 172 = .ok (.iadd, 1) := by decide +kernel
theorem dX11_takeUp_173 : decode cX11_takeUp 173 = .ok (.iaload, 1) := by decide +kernel
theorem dX11_takeUp_174 : decode cX11_takeUp 174 = .ok (.iadd, 1) := by decide +kernel
theorem dX11_takeUp_175 : decode cX11_takeUp 175 = .ok (.iastore, 1) := by decide +kernel
theorem dX11_takeUp_176 : decode cX11_takeUp 176 = .ok (.aload_n 0, 1) := by decide +kernel
theorem dX11_takeUp_177 : decode cX11_takeUp 177 = .ok (.getfield 7, 3) := by decide +kernel
theorem dX11_takeUp_180 : decode cX11_takeUp 180 = .ok (.bipush 28, 2) := by decide +kernel
theorem dX11_takeUp_182 : decode cX11_takeUp 182 = .ok (.iload_n 1, 1) := by decide +kernel
theorem dX11_takeUp_183 : decode cX11_takeUp 183 = .ok (.iadd, 1) := by decide +kernel
theorem dX11_takeUp_184 : decode cX11_takeUp 184 = .ok (.iconst 0, 1) := by decide +kernel
theorem dX11_takeUp_185 : decode cX11_takeUp 185 = .ok (.iastore, 1) := by decide +kernel
theorem dX11_takeUp_186 : decode cX11_takeUp 186 = .ok (.aload_n 0, 1) := by decide +kernel
theorem dX11_takeUp_187 : decode cX11_takeUp 187 = .ok (.getfield 7, 3) := by decide +kernel
theorem dX11_takeUp_190 : decode cX11_takeUp 190 = .ok (.bipush 13, 2) := by decide +kernel
theorem dX11_takeUp_192 : decode cX11_takeUp 192 = .ok (.iload_n 1, 1) := by decide +kernel
theorem dX11_takeUp_193 : decode cX11_takeUp 193 = .ok (.iadd, 1) := by decide +kernel
theorem dX11_takeUp_194 : decode cX11_takeUp 194 = .ok (.iconst 0, 1) := by decide +kernel
theorem dX11_takeUp_195 : decode cX11_takeUp 195 = .ok (.iastore, 1) := by decide +kernel
theorem dX11_takeUp_196 : decode cX11_takeUp 196 = .ok (.aload_n 0, 1) := by decide +kernel
theorem dX11_takeUp_197 : decode cX11_takeUp 197 = .ok (.getfield 7, 3) := by decide +kernel
theorem dX11_takeUp_200 : decode cX11_takeUp 200 = .ok (.bipush 16, 2) := by decide +kernel
theorem dX11_takeUp_202 : decode cX11_takeUp 202 = .ok (.iload_n 1, 1) := by decide +kernel
theorem dX11_takeUp_203 : decode cX11_takeUp 203 = .ok (.iadd, 1) := by decide +kernel
theorem dX11_takeUp_204 : decode cX11_takeUp 204 = .ok (.iconst 0, 1) := by decide +kernel
theorem dX11_takeUp_205 : decode cX11_takeUp 205 = .ok (.iastore, 1) := by decide +kernel
theorem dX11_takeUp_206 : decode cX11_takeUp 206 = .ok (.aload_n 0, 1) := by decide +kernel
theorem dX11_takeUp_207 : decode cX11_takeUp 207 = .ok (.getfield 7, 3) := by decide +kernel
theorem dX11_takeUp_210 : decode cX11_takeUp 210 = .ok (.bipush 10, 2) := by decide +kernel
theorem dX11_takeUp_212 : decode cX11_takeUp 212 = .ok (.iload_n 1, 1) := by decide +kernel
theorem dX11_takeUp_213 : decode cX11_takeUp 213 = .ok (.iadd, 1) := by decide +kernel
theorem dX11_takeUp_214 : decode cX11_takeUp 214 = .ok (.bipush (-4), 2) := by decide +kernel
theorem dX11_takeUp_216 : decode cX11_takeUp 216 = .ok (.iastore, 1) := by decide +kernel
theorem dX11_takeUp_217 : decode cX11_takeUp 217 = .ok (.bipush 33, 2) := by decide +kernel
theorem dX11_takeUp_219 : decode cX11_takeUp 219 = .ok (.istore_n 3, 1) := by decide +kernel
theorem dX11_takeUp_220 : decode cX11_takeUp 220 = .ok (.iload_n 3, 1) := by decide +kernel
theorem dX11_takeUp_221 : decode cX11_takeUp 221 = .ok (.sipush 433, 3) := by decide +kernel
theorem dX11_takeUp_224 : decode cX11_takeUp 224 = .ok (.if_icmp .ge 36, 3) := by decide +kernel
theorem dX11_takeUp_227 : decode cX11_takeUp 227 = .ok (.aload_n 0, 1) := by decide +kernel
theorem dX11_takeUp_228 : decode cX11_takeUp 228 = .ok (.getfield 7, 3) := by decide +kernel
theorem dX11_takeUp_231 : decode cX11_takeUp 231 = .ok (.iload_n 3, 1) := by decide +kernel
theorem dX11_takeUp_232 : decode cX11_takeUp 232 = .ok (.aload_n 0, 1) := by decide +kernel
theorem dX11_takeUp_233 : decode cX11_takeUp 233 = .ok (.getfield 7, 3) := by decide +kernel
theorem dX11_takeUp_236 : decode cX11_takeUp 236 = .ok (.iload_n 3, 1) := by decide +kernel
theorem dX11_takeUp_237 : decode cX11_takeUp 237 = .ok (.iaload, 1) := by decide +kernel
theorem dX11_takeUp_238 : decode cX11_takeUp 238 = .ok (.iload_n 1, 1) := by decide +kernel
theorem dX11_takeUp_239 : decode cX11_takeUp 239 = .ok (.if_icmp .ne 8, 3) := by decide +kernel
theorem dX11_takeUp_242 : decode cX11_takeUp 242 = .ok (.bipush (-4), 2) := by decide +kernel
theorem dX11_takeUp_244 : decode cX11_takeUp 244 = .ok (.goto 9, 3) := by decide +kernel
theorem dX11_takeUp_247 : decode cX11_takeUp 247 = .ok (.aload_n 0, 1) := by decide +kernel
theorem dX11_takeUp_248 : decode cX11_takeUp 248 = .ok (.getfield 7, 3) := by decide +kernel
theorem dX11_takeUp_251 : decode cX11_takeUp 251 = .ok (.iload_n 3, 1) := by decide +kernel
theorem dX11_takeUp_252 : decode cX11_takeUp 252 = .ok (.iaload, 1) := by decide +kernel
theorem dX11_takeUp_253 : decode cX11_takeUp 253 = .ok (.iastore, 1) := by decide +kernel
theorem dX11_takeUp_254 : decode cX11_takeUp 254 = .ok (.iinc 3 1, 3) := by decide +kernel
theorem dX11_takeUp_257 : decode cX11_takeUp 257 = .ok (.goto (-37), 3) := by decide +kernel
theorem dX11_takeUp_260 : decode cX11_takeUp 260 = .ok (.iload_n 2, 1) := by decide +kernel
theorem dX11_takeUp_261 : decode cX11_takeUp 261 = .ok (.ireturn, 1) := by decide +kernel
theorem dX11_isTurns_0 : decode cX11_isTurns 0 = .ok (.iconst 1, 1) := by decide +kernel
theorem dX11_isTurns_1 : decode cX11_isTurns 1 = .ok (.istore_n 2, 1) := by decide +kernel
theorem dX11_isTurns_2 : decode cX11_isTurns 2 = .ok (.iconst 0, 1) := by decide +kernel
theorem dX11_isTurns_3 : decode cX11_isTurns 3 = .ok (.istore_n 3, 1) := by decide +kernel
theorem dX11_isTurns_4 : decode cX11_isTurns 4 = .ok (.iload_n 3, 1) := by decide +kernel
theorem dX11_isTurns_5 : decode cX11_isTurns 5 = .ok (.iconst 3, 1) := by decide +kernel
theorem dX11_isTurns_6 : decode cX11_isTurns 6 = .ok (.if_icmp .ge 108, 3) := by decide +kernel
theorem dX11_isTurns_9 : decode cX11_isTurns 9 = .ok (.iload_n 2, 1) := by decide +kernel
theorem dX11_isTurns_10 : decode cX11_isTurns 10 = .ok (.ifCond .eq 50, 3) := by decide +kernel
theorem dX11_isTurns_13 : decode cX11_isTurns 13 = .ok (.iload_n 3, 1) := by decide +kernel
theorem dX11_isTurns_14 : decode cX11_isTurns 14 = .ok (.iload_n 1, 1) := by decide +kernel
theorem dX11_isTurns_15 : decode cX11_isTurns 15 = .ok (.if_icmp .ge 32, 3) := by decide +kernel
theorem dX11_isTurns_18 : decode cX11_isTurns 18 = .ok (.aload_n 0, 1) := by decide +kernel
theorem dX11_isTurns_19 : decode cX11_isTurns 19 = .ok (.aload_n 0, 1) := by decide +kernel
theorem dX11_isTurns_20 : decode cX11_isTurns 20 = .ok (.getfield 86, 3) := by decide +kernel
theorem dX11_isTurns_23 : decode cX11_isTurns 23 = .ok (.iload_n 3, 1) := by decide +kernel
theorem dX11_isTurns_24 : decode cX11_isTurns 24 = .ok (.iaload, 1) := by decide +kernel
theorem dX11_isTurns_25 : decode cX11_isTurns 25 = .ok (.invokevirtual 176, 3) := by decide +kernel
theorem dX11_isTurns_28 : decode cX11_isTurns 28 = .ok (.ifCond .eq 32, 3) := by decide +kernel
theorem dX11_isTurns_31 : decode cX11_isTurns 31 = .ok (.aload_n 0, 1) := by decide +kernel
theorem dX11_isTurns_32 : decode cX11_isTurns 32 = .ok (.aload_n 0, 1) := by decide +kernel
theorem dX11_isTurns_33 : decode cX11_isTurns 33 = .ok (.getfield 86, 3) := by decide +kernel
theorem dX11_isTurns_36 : decode cX11_isTurns 36 = .ok (.iload_n 3, 1) := by decide +kernel
theorem dX11_isTurns_37 : decode cX11_isTurns 37 = .ok (.iaload, 1) := by decide +kernel
theorem dX11_isTurns_38 : decode cX11_isTurns 38 = .ok (.invokevirtual 190, 3) := by decide +kernel
theorem dX11_isTurns_41 : decode cX11_isTurns 41 = .ok (.ifCond .ne 19, 3) := by decide +kernel
theorem dX11_isTurns_44 : decode cX11_isTurns 44 = .ok (.goto 12, 3) := by decide +kernel
theorem dX11_isTurns_47 : decode cX11_isTurns 47 = .ok (.aload_n 0, 1) := by decide +kernel
theorem dX11_isTurns_48 : decode cX11_isTurns 48 = .ok (.getfield 86, 3) := by decide +kernel
theorem dX11_isTurns_51 : decode cX11_isTurns 51 = .ok (.iload_n 3, 1) := by decide +kernel
theorem dX11_isTurns_52 : decode cX11_isTurns 52 = .ok (.iaload, 1) := by decide +kernel
theorem dX11_isTurns_53 : decode cX11_isTurns 53 = .ok (.ifCond .ne 7, 3) := by decide +kernel
theorem dX11_isTurns_56 : decode cX11_isTurns 56 = .ok (.iconst 1, 1) := by decide +kernel
theorem dX11_isTurns_57 : decode cX11_isTurns 57 = .ok (.goto 4, 3) := by decide +kernel
theorem dX11_isTurns_60 : decode cX11_isTurns 60 = .ok (.iconst 0, 1) := by decide +kernel
theorem dX11_isTurns_61 : decode cX11_isTurns 61 = .ok (.istore_n 2, 1) := by decide +kernel
theorem dX11_isTurns_62 : decode cX11_isTurns 62 = .ok (.iconst 0, 1) := by decide +kernel
theorem dX11_isTurns_63 : decode cX11_isTurns 63 = .ok (.istore 4, 2) := by decide +kernel
theorem dX11_isTurns_65 : decode cX11_isTurns 65 = .ok (.iload 4, 2) := by decide +kernel
theorem dX11_isTurns_67 : decode cX11_isTurns 67 = .ok (.iload_n 3, 1) := by decide +kernel
theorem dX11_isTurns_68 : decode cX11_isTurns 68 = .ok (.if_icmp .ge 40, 3) := by decide +kernel
theorem dX11_isTurns_71 : decode cX11_isTurns 71 = .ok (.iload_n 3, 1) := by decide +kernel
theorem dX11_isTurns_72 : decode cX11_isTurns 72 = .ok (.iload_n 1, 1) := by decide +kernel
theorem dX11_isTurns_73 : decode cX11_isTurns 73 = .ok (.if_icmp .ge 35, 3) := by decide +kernel
theorem dX11_isTurns_76 : decode cX11_isTurns 76 = .ok (.iload_n 2, 1) := by decide +kernel
theorem dX11_isTurns_77 : decode cX11_isTurns 77 = .ok (.ifCond .eq 23, 3) := by decide +kernel
theorem dX11_isTurns_80 : decode cX11_isTurns 80 = .ok (.aload_n 0, 1) := by decide +kernel
theorem dX11_isTurns_81 : decode cX11_isTurns 81 = .ok (.getfield 86, 3) := by decide +kernel
theorem dX11_isTurns_84 : decode cX11_isTurns 84 = .ok (.iload 4, 2) := by decide +kernel
theorem dX11_isTurns_86 : decode cX11_isTurns 86 = .ok (.iaload, 1) := by decide +kernel
theorem dX11_isTurns_87 : decode cX11_isTurns 87 = .ok (.aload_n 0, 1) := by decide +kernel
theorem dX11_isTurns_88 : decode cX11_isTurns 88 = .ok (.getfield 86, 3) := by decide +kernel
theorem dX11_isTurns_91 : decode cX11_isTurns 91 = .ok (.iload_n 3, 1) := by decide +kernel
theorem dX11_isTurns_92 : decode cX11_isTurns 92 = .ok (.iaload, 1) := by decide +kernel
theorem dX11_isTurns_93 : decode cX11_isTurns 93 = .ok (.if_icmp .eq 7, 3) := by decide +kernel
theorem dX11_isTurns_96 : decode cX11_isTurns 96 = .ok (.iconst 1, 1) := by decide +kernel
theorem dX11_isTurns_97 : decode cX11_isTurns 97 = .ok (.goto 4, 3) := by decide +kernel
theorem dX11_isTurns_100 : decode cX11_isTurns 100 = .ok (.iconst 0, 1) := by decide +kernel
theorem dX11_isTurns_101 : decode cX11_isTurns 101 = .ok (.istore_n 2, 1) := by decide +kernel
theorem dX11_isTurns_102 : decode cX11_isTurns 102 = .ok (.iinc 4 1, 3) := by decide +kernel
theorem dX11_isTurns_105 : decode cX11_isTurns 105 = .ok (.goto (-40), 3) := by decide +kernel
theorem dX11_isTurns_108 : decode cX11_isTurns 108 = .ok (.iinc 3 1, 3) := by decide +kernel
theorem dX11_isTurns_111 : decode cX11_isTurns 111 = .ok (.goto (-107), 3) := by decide +kernel
theorem dX11_isTurns_114 : decode cX11_isTurns 114 = .ok (.iload_n 2, 1) := by decide +kernel
theorem dX11_isTurns_115 : decode cX11_isTurns 115 = .ok (.ireturn, 1) := by decide +kernel
theorem dX11_cutsByTurns_0 : decode cX11_cutsByTurns 0 = .ok (.aload_n 0, 1) := by decide +kernel
theorem dX11_cutsByTurns_1 : decode cX11_cutsByTurns 1 = .ok (.getfield 7, 3) := by decide +kernel
theorem dX11_cutsByTurns_4 : decode cX11_cutsByTurns 4 = .ok (.iconst 0, 1) := by decide +kernel
theorem dX11_cutsByTurns_5 : decode cX11_cutsByTurns 5 = .ok (.aload_n 0, 1) := by decide +kernel
theorem dX11_cutsByTurns_6 : decode cX11_cutsByTurns 6 = .ok (.getfield 13, 3) := by decide +kernel
theorem dX11_cutsByTurns_9 : decode cX11_cutsByTurns 9 = .ok (.iconst 0, 1) := by decide +kernel
theorem dX11_cutsByTurns_10 : decode cX11_cutsByTurns 10 = .ok (.invokestatic 169, 3) := by decide +kernel
theorem dX11_cutsByTurns_13 : decode cX11_cutsByTurns 13 = .ok (.iconst 0, 1) := by decide +kernel
theorem dX11_cutsByTurns_14 : decode cX11_cutsByTurns 14 = .ok (.istore_n 2, 1) := by decide +kernel
theorem dX11_cutsByTurns_15 : decode cX11_cutsByTurns 15 = .ok (.iconst 0, 1) := by decide +kernel
theorem dX11_cutsByTurns_16 : decode cX11_cutsByTurns 16 = .ok (.istore_n 3, 1) := by decide +kernel
theorem dX11_cutsByTurns_17 : decode cX11_cutsByTurns 17 = .ok (.iload_n 3, 1) := by decide +kernel
theorem dX11_cutsByTurns_18 : decode cX11_cutsByTurns 18 = .ok (.iload_n 1, 1) := by decide +kernel
theorem dX11_cutsByTurns_19 : decode cX11_cutsByTurns 19 = .ok (.if_icmp .ge 73, 3) := by decide +kernel
theorem dX11_cutsByTurns_22 : decode cX11_cutsByTurns 22 = .ok (.iload_n 2, 1) := by decide +kernel
theorem dX11_cutsByTurns_23 : decode cX11_cutsByTurns 23 = .ok (.ldc 200, 2) := by decide +kernel
theorem dX11_cutsByTurns_25 : decode cX11_cutsByTurns 25 = .ok (.if_icmp .ge 67, 3) := by decide +kernel
theorem dX11_cutsByTurns_28 : decode cX11_cutsByTurns 28 = .ok (.aload_n 0, 1) := by decide +kernel
theorem dX11_cutsByTurns_29 : decode cX11_cutsByTurns 29 = .ok (.aload_n 0, 1) := by decide +kernel
theorem dX11_cutsByTurns_30 : decode cX11_cutsByTurns 30 = .ok (.getfield 86, 3) := by decide +kernel
theorem dX11_cutsByTurns_33 : decode cX11_cutsByTurns 33 = .ok (.iload_n 3, 1) := by decide +kernel
theorem dX11_cutsByTurns_34 : decode cX11_cutsByTurns 34 = .ok (.iaload, 1) := by decide +kernel
theorem dX11_cutsByTurns_35 : decode cX11_cutsByTurns 35 = .ok (.aload_n 0, 1) := by decide +kernel
theorem dX11_cutsByTurns_36 : decode cX11_cutsByTurns 36 = .ok (.getfield 83, 3) := by decide +kernel
theorem dX11_cutsByTurns_39 : decode cX11_cutsByTurns 39 = .ok (.aload_n 0, 1) := by decide +kernel
theorem dX11_cutsByTurns_40 : decode cX11_cutsByTurns 40 = .ok (.getfield 86, 3) := by decide +kernel
theorem dX11_cutsByTurns_43 : decode cX11_cutsByTurns 43 = .ok (.iload_n 3, 1) := by decide +kernel
theorem dX11_cutsByTurns_44 : decode cX11_cutsByTurns 44 = .ok (.iaload, 1) := by decide +kernel
theorem dX11_cutsByTurns_45 : decode cX11_cutsByTurns 45 = .ok (.iaload, 1) := by decide +kernel
theorem dX11_cutsByTurns_46 : decode cX11_cutsByTurns 46 = .ok (.invokevirtual 228, 3) := by decide +kernel
theorem dX11_cutsByTurns_49 : decode cX11_cutsByTurns 49 = .ok (.ifCond .eq 34, 3) := by decide +kernel
theorem dX11_cutsByTurns_52 : decode cX11_cutsByTurns 52 = .ok (.aload_n 0, 1) := by decide +kernel
theorem dX11_cutsByTurns_53 : decode cX11_cutsByTurns 53 = .ok (.aload_n 0, 1) := by decide +kernel
theorem dX11_cutsByTurns_54 : decode cX11_cutsByTurns 54 = .ok (.getfield 86, 3) := by decide +kernel
theorem dX11_cutsByTurns_57 : decode cX11_cutsByTurns 57 = .ok (.iload_n 3, 1) := by decide +kernel
theorem dX11_cutsByTurns_58 : decode cX11_cutsByTurns 58 = .ok (.iaload, 1) := by decide +kernel
theorem dX11_cutsByTurns_59 : decode cX11_cutsByTurns 59 = .ok (.aload_n 0, 1) := by decide +kernel
theorem dX11_cutsByTurns_60 : decode cX11_cutsByTurns 60 = .ok (.getfield 83, 3) := by decide +kernel
theorem dX11_cutsByTurns_63 : decode cX11_cutsByTurns 63 = .ok (.aload_n 0, 1) := by decide +kernel
theorem dX11_cutsByTurns_64 : decode cX11_cutsByTurns 64 = .ok (.getfield 86, 3) := by decide +kernel
theorem dX11_cutsByTurns_67 : decode cX11_cutsByTurns 67 = .ok (.iload_n 3, 1) := by decide +kernel
theorem dX11_cutsByTurns_68 : decode cX11_cutsByTurns 68 = .ok (.iaload, 1) := by decide +kernel
theorem dX11_cutsByTurns_69 : decode cX11_cutsByTurns 69 = .ok (.iaload, 1) := by decide +kernel
theorem dX11_cutsByTurns_70 : decode cX11_cutsByTurns 70 = .ok (.invokevirtual 231, 3) := by decide +kernel
theorem dX11_cutsByTurns_73 : decode cX11_cutsByTurns 73 = .ok (.iload_n 2, 1) := by decide +kernel
theorem dX11_cutsByTurns_74 : decode cX11_cutsByTurns 74 = .ok (.aload_n 0, 1) := by decide +kernel
theorem dX11_cutsByTurns_75 : decode cX11_cutsByTurns 75 = .ok (.getfield 218, 3) := by decide +kernel
theorem dX11_cutsByTurns_78 : decode cX11_cutsByTurns 78 = .ok (.iadd, 1) := by decide +kernel
theorem dX11_cutsByTurns_79 : decode cX11_cutsByTurns 79 = .ok (.istore_n 2, 1) := by decide +kernel
theorem dX11_cutsByTurns_80 : decode cX11_cutsByTurns 80 = .ok (.goto 6, 3) := by decide +kernel
theorem dX11_cutsByTurns_83 : decode cX11_cutsByTurns 83 = .ok (.ldc 200, 2) := by decide +kernel
theorem dX11_cutsByTurns_85 : decode cX11_cutsByTurns 85 = .ok (.istore_n 2, 1) := by decide +kernel
theorem dX11_cutsByTurns_86 : decode cX11_cutsByTurns 86 = .ok (.iinc 3 1, 3) := by decide +kernel
theorem dX11_cutsByTurns_89 : decode cX11_cutsByTurns 89 = .ok (.goto (-72), 3) := by decide +kernel
theorem dX11_cutsByTurns_92 : decode cX11_cutsByTurns 92 = .ok (.aload_n 0, 1) := by decide +kernel
theorem dX11_cutsByTurns_93 : decode cX11_cutsByTurns 93 = .ok (.getfield 13, 3) := by decide +kernel
theorem dX11_cutsByTurns_96 : decode cX11_cutsByTurns 96 = .ok (.iconst 0, 1) := by decide +kernel
theorem dX11_cutsByTurns_97 : decode cX11_cutsByTurns 97 = .ok (.aload_n 0, 1) := by decide +kernel
theorem dX11_cutsByTurns_98 : decode cX11_cutsByTurns 98 = .ok (.getfield 7, 3) := by decide +kernel
theorem dX11_cutsByTurns_101 : decode cX11_cutsByTurns 101 = .ok (.iconst 0, 1) := by decide +kernel
theorem dX11_cutsByTurns_102 : decode cX11_cutsByTurns 102 = .ok (.invokestatic 169, 3) := by decide +kernel
theorem dX11_cutsByTurns_105 : decode cX11_cutsByTurns 105 = .ok (.iload_n 2, 1) := by decide +kernel
theorem dX11_cutsByTurns_106 : decode cX11_cutsByTurns 106 = .ok (.ireturn, 1) := by decide +kernel
theorem dX11_layTurns_0 : decode cX11_layTurns 0 = .ok (.aload_n 0, 1) := by decide +kernel
theorem dX11_layTurns_1 : decode cX11_layTurns 1 = .ok (.getfield 86, 3) := by decide +kernel
theorem dX11_layTurns_4 : decode cX11_layTurns 4 = .ok (.iconst 0, 1) := by decide +kernel
theorem dX11_layTurns_5 : decode cX11_layTurns 5 = .ok (.iload_n 1, 1) := by decide +kernel
theorem dX11_layTurns_6 : decode cX11_layTurns 6 = .ok (.bipush 9, 2) := by decide +kernel
theorem dX11_layTurns_8 : decode cX11_layTurns 8 = .ok (.idiv, 1) := by decide +kernel
theorem dX11_layTurns_9 : decode cX11_layTurns 9 = .ok (.iastore, 1) := by decide +kernel
theorem dX11_layTurns_10 : decode cX11_layTurns 10 = .ok (.aload_n 0, 1) := by decide +kernel
theorem dX11_layTurns_11 : decode cX11_layTurns 11 = .ok (.getfield 86, 3) := by decide +kernel
theorem dX11_layTurns_14 : decode cX11_layTurns 14 = .ok (.iconst 1, 1) := by decide +kernel
theorem dX11_layTurns_15 : decode cX11_layTurns 15 = .ok (.iload_n 1, 1) := by decide +kernel
theorem dX11_layTurns_16 : decode cX11_layTurns 16 = .ok (.iconst 3, 1) := by decide +kernel
theorem dX11_layTurns_17 : decode cX11_layTurns 17 = .ok (.idiv, 1) := by decide +kernel
theorem dX11_layTurns_18 : decode cX11_layTurns 18 = .ok (.iconst 3, 1) := by decide +kernel
theorem dX11_layTurns_19 : decode cX11_layTurns 19 = .ok (.irem, 1) := by decide +kernel
theorem dX11_layTurns_20 : decode cX11_layTurns 20 = .ok (.iastore, 1) := by decide +kernel
theorem dX11_layTurns_21 : decode cX11_layTurns 21 = .ok (.aload_n 0, 1) := by decide +kernel
theorem dX11_layTurns_22 : decode cX11_layTurns 22 = .ok (.getfield 86, 3) := by decide +kernel
theorem dX11_layTurns_25 : decode cX11_layTurns 25 = .ok (.iconst 2, 1) := by decide +kernel
theorem dX11_layTurns_26 : decode cX11_layTurns 26 = .ok (.iload_n 1, 1) := by decide +kernel
theorem dX11_layTurns_27 : decode cX11_layTurns 27 = .ok (.iconst 3, 1) := by decide +kernel
theorem dX11_layTurns_28 : decode cX11_layTurns 28 = .ok (.irem, 1) := by decide +kernel
theorem dX11_layTurns_29 : decode cX11_layTurns 29 = .ok (.iastore, 1) := by decide +kernel
theorem dX11_layTurns_30 : decode cX11_layTurns 30 = .ok (.return_, 1) := by decide +kernel
theorem dX11_order_0 : decode cX11_order 0 = .ok (.iload_n 1, 1) := by decide +kernel
theorem dX11_order_1 : decode cX11_order 1 = .ok (.invokestatic 148, 3) := by decide +kernel
theorem dX11_order_4 : decode cX11_order 4 = .ok (.ifCond .eq 27, 3) := by decide +kernel
theorem dX11_order_7 : decode cX11_order 7 = .ok (.iload_n 2, 1) := by decide +kernel
theorem dX11_order_8 : decode cX11_order 8 = .ok (.invokestatic 148, 3) := by decide +kernel
theorem dX11_order_11 : decode cX11_order 11 = .ok (.ifCond .eq 20, 3) := by decide +kernel
theorem dX11_order_14 : decode cX11_order 14 = .ok (.iload_n 3, 1) := by decide +kernel
theorem dX11_order_15 : decode cX11_order 15 = .ok (.invokestatic 148, 3) := by decide +kernel
theorem dX11_order_18 : decode cX11_order 18 = .ok (.ifCond .eq 13, 3) := by decide +kernel
theorem dX11_order_21 : decode cX11_order 21 = .ok (.iload 4, 2) := by decide +kernel
theorem dX11_order_23 : decode cX11_order 23 = .ok (.iconst (-1), 1) := by decide +kernel
theorem dX11_order_24 : decode cX11_order 24 = .ok (.iconst 2, 1) := by decide +kernel
theorem dX11_order_25 : decode cX11_order 25 = .ok (.invokestatic 110, 3) := by decide +kernel
theorem dX11_order_28 : decode cX11_order 28 = .ok (.ifCond .ne 5, 3) := by decide +kernel
theorem dX11_order_31 : decode cX11_order 31 = .ok (.iconst (-1), 1) := by decide +kernel
theorem dX11_order_32 : decode cX11_order 32 = .ok (.ireturn, 1) := by decide +kernel
theorem dX11_order_33 : decode cX11_order 33 = .ok (.aload_n 0, 1) := by decide +kernel
theorem dX11_order_34 : decode cX11_order 34 = .ok (.getfield 83, 3) := by decide +kernel
theorem dX11_order_37 : decode cX11_order 37 = .ok (.iconst 0, 1) := by decide +kernel
theorem dX11_order_38 : decode cX11_order 38 = .ok (.iload_n 1, 1) := by decide +kernel
theorem dX11_order_39 : decode cX11_order 39 = .ok (.iastore, 1) := by decide +kernel
theorem dX11_order_40 : decode cX11_order 40 = .ok (.aload_n 0, 1) := by decide +kernel
theorem dX11_order_41 : decode cX11_order 41 = .ok (.getfield 83, 3) := by decide +kernel
theorem dX11_order_44 : decode cX11_order 44 = .ok (.iconst 1, 1) := by decide +kernel
theorem dX11_order_45 : decode cX11_order 45 = .ok (.iload_n 2, 1) := by decide +kernel
theorem dX11_order_46 : decode cX11_order 46 = .ok (.iastore, 1) := by decide +kernel
theorem dX11_order_47 : decode cX11_order 47 = .ok (.aload_n 0, 1) := by decide +kernel
theorem dX11_order_48 : decode cX11_order 48 = .ok (.getfield 83, 3) := by decide +kernel
theorem dX11_order_51 : decode cX11_order 51 = .ok (.iconst 2, 1) := by decide +kernel
theorem dX11_order_52 : decode cX11_order 52 = .ok (.iload_n 3, 1) := by decide +kernel
theorem dX11_order_53 : decode cX11_order 53 = .ok (.iastore, 1) := by decide +kernel
theorem dX11_order_54 : decode cX11_order 54 = .ok (.iconst 0, 1) := by decide +kernel
theorem dX11_order_55 : decode cX11_order 55 = .ok (.istore 5, 2) := by decide +kernel
theorem dX11_order_57 : decode cX11_order 57 = .ok (.iconst 0, 1) := by decide +kernel
theorem dX11_order_58 : decode cX11_order 58 = .ok (.istore 6, 2) := by decide +kernel
theorem dX11_order_60 : decode cX11_order 60 = .ok (.iload 6, 2) := by decide +kernel
theorem dX11_order_62 : decode cX11_order 62 = .ok (.aload_n 0, 1) := by decide +kernel
theorem dX11_order_63 : decode cX11_order 63 = .ok (.getfield 107, 3) := by decide +kernel
theorem dX11_order_66 : decode cX11_order 66 = .ok (.if_icmp .ge 28, 3) := by decide +kernel
theorem dX11_order_69 : decode cX11_order 69 = .ok (.iload 5, 2) := by decide +kernel
theorem dX11_order_71 : decode cX11_order 71 = .ok (.aload_n 0, 1) := by decide +kernel
theorem dX11_order_72 : decode cX11_order 72 = .ok (.iload 6, 2) := by decide +kernel
theorem dX11_order_74 : decode cX11_order 74 = .ok (.invokevirtual 190, 3) := by decide +kernel
theorem dX11_order_77 : decode cX11_order 77 = .ok (.ifCond .eq 7, 3) := by decide +kernel
theorem dX11_order_80 : decode cX11_order 80 = .ok (.iconst 0, 1) := by decide +kernel
theorem dX11_order_81 : decode cX11_order 81 = .ok (.goto 4, 3) := by decide +kernel
theorem dX11_order_84 : decode cX11_order 84 = .ok (.iconst 1, 1) := by decide +kernel
theorem dX11_order_85 : decode cX11_order 85 = .ok (.iadd, 1) := by decide +kernel
theorem dX11_order_86 : decode cX11_order 86 = .ok (.istore 5, 2) := by decide +kernel
theorem dX11_order_88 : decode cX11_order 88 = .ok (.iinc 6 1, 3) := by decide +kernel
theorem dX11_order_91 : decode cX11_order 91 = .ok (.goto (-31), 3) := by decide +kernel
theorem dX11_order_94 : decode cX11_order 94 = .ok (.ldc 200, 2) := by decide +kernel
theorem dX11_order_96 : decode cX11_order 96 = .ok (.istore 6, 2) := by decide +kernel
theorem dX11_order_98 : decode cX11_order 98 = .ok (.bipush (-4), 2) := by decide +kernel
theorem dX11_order_100 : decode cX11_order 100 = .ok (.istore 7, 2) := by decide +kernel
theorem dX11_order_102 : decode cX11_order 102 = .ok (.iconst 0, 1) := by decide +kernel
theorem dX11_order_103 : decode cX11_order 103 = .ok (.istore 8, 2) := by decide +kernel
theorem dX11_order_105 : decode cX11_order 105 = .ok (.iload 8, 2) := by decide +kernel
theorem dX11_order_107 : decode cX11_order 107 = .ok (.bipush 27, 2) := by decide +kernel
theorem dX11_order_109 : decode cX11_order 109 = .ok (.if_icmp .ge 64, 3) := by decide +kernel
theorem dX11_order_112 : decode cX11_order 112 = .ok (.aload_n 0, 1) := by decide +kernel
theorem dX11_order_113 : decode cX11_order 113 = .ok (.iload 8, 2) := by decide +kernel
theorem dX11_order_115 : decode cX11_order 115 = .ok (.invokevirtual 234, 3) := by decide +kernel
theorem dX11_order_118 : decode cX11_order 118 = .ok (.aload_n 0, 1) := by decide +kernel
theorem dX11_order_119 : decode cX11_order 119 = .ok (.iload 5, 2) := by decide +kernel
theorem dX11_order_121 : decode cX11_order 121 = .ok (.invokevirtual 237, 3) := by decide +kernel
theorem dX11_order_124 : decode cX11_order 124 = .ok (.ifCond .eq 43, 3) := by decide +kernel
theorem dX11_order_127 : decode cX11_order 127 = .ok (.aload_n 0, 1) := by decide +kernel
theorem dX11_order_128 : decode cX11_order 128 = .ok (.iload 5, 2) := by decide +kernel
theorem dX11_order_130 : decode cX11_order 130 = .ok (.invokevirtual 240, 3) := by decide +kernel
theorem dX11_order_133 : decode cX11_order 133 = .ok (.istore 9, 2) := by decide +kernel
theorem dX11_order_135 : decode cX11_order 135 = .ok (.iload 9, 2) := by decide +kernel
theorem dX11_order_137 : decode cX11_order 137 = .ok (.iload 6, 2) := by decide +kernel
theorem dX11_order_139 : decode cX11_order 139 = .ok (.if_icmp .ge 8, 3) := by decide +kernel
theorem dX11_order_142 : decode cX11_order 142 = .ok (.iload 8, 2) := by decide +kernel
theorem dX11_order_144 : decode cX11_order 144 = .ok (.goto 5, 3) := by decide +kernel
theorem dX11_order_147 : decode cX11_order 147 = .ok (.iload 7, 2) := by decide +kernel
theorem dX11_order_149 : decode cX11_order 149 = .ok (.istore 7, 2) := by decide +kernel
theorem dX11_order_151 : decode cX11_order 151 = .ok (.iload 9, 2) := by decide +kernel
theorem dX11_order_153 : decode cX11_order 153 = .ok (.iload 6, 2) := by decide +kernel
theorem dX11_order_155 : decode cX11_order 155 = .ok (.if_icmp .ge 8, 3) := by decide +kernel
theorem dX11_order_158 : decode cX11_order 158 = .ok (.iload 9, 2) := by decide +kernel
theorem dX11_order_160 : decode cX11_order 160 = .ok (.goto 5, 3) := by decide +kernel
theorem dX11_order_163 : decode cX11_order 163 = .ok (.iload 6, 2) := by decide +kernel
theorem dX11_order_165 : decode cX11_order 165 = .ok (.istore 6, 2) := by decide +kernel
theorem dX11_order_167 : decode cX11_order 167 = .ok (.iinc 8 1, 3) := by decide +kernel
theorem dX11_order_170 : decode cX11_order 170 = .ok (.goto (-65), 3) := by decide +kernel
theorem dX11_order_173 : decode cX11_order 173 = .ok (.iload 7, 2) := by decide +kernel
theorem dX11_order_175 : decode cX11_order 175 = .ok (.bipush (-4), 2) := by decide +kernel
theorem dX11_order_177 : decode cX11_order 177 = .ok (.if_icmp .eq 10, 3) := by decide +kernel
theorem dX11_order_180 : decode cX11_order 180 = .ok (.iload 4, 2) := by decide +kernel
theorem dX11_order_182 : decode cX11_order 182 = .ok (.iload 5, 2) := by decide +kernel
theorem dX11_order_184 : decode cX11_order 184 = .ok (.if_icmp .lt 6, 3) := by decide +kernel
theorem dX11_order_187 : decode cX11_order 187 = .ok (.bipush (-4), 2) := by decide +kernel
theorem dX11_order_189 : decode cX11_order 189 = .ok (.ireturn, 1) := by decide +kernel
theorem dX11_order_190 : decode cX11_order 190 = .ok (.aload_n 0, 1) := by decide +kernel
theorem dX11_order_191 : decode cX11_order 191 = .ok (.iload 7, 2) := by decide +kernel
theorem dX11_order_193 : decode cX11_order 193 = .ok (.invokevirtual 234, 3) := by decide +kernel
theorem dX11_order_196 : decode cX11_order 196 = .ok (.iload 4, 2) := by decide +kernel
theorem dX11_order_198 : decode cX11_order 198 = .ok (.iconst (-1), 1) := by decide +kernel
theorem dX11_order_199 : decode cX11_order 199 = .ok (.if_icmp .ne 8, 3) := by decide +kernel
theorem dX11_order_202 : decode cX11_order 202 = .ok (.iload 6, 2) := by decide +kernel
theorem dX11_order_204 : decode cX11_order 204 = .ok (.goto 10, 3) := by decide +kernel
theorem dX11_order_207 : decode cX11_order 207 = .ok (.aload_n 0, 1) := by decide +kernel
theorem dX11_order_208 : decode cX11_order 208 = .ok (.getfield 86, 3) := by decide +kernel
theorem dX11_order_211 : decode cX11_order 211 = .ok (.iload 4, 2) := by decide +kernel
theorem dX11_order_213 : decode cX11_order 213 = .ok (.iaload, 1) := by decide +kernel
theorem dX11_order_214 : decode cX11_order 214 = .ok (.ireturn, 1) := by decide +kernel
theorem dX11_bag_0 : decode cX11_bag 0 = .ok (.iload_n 1, 1) := by decide +kernel
theorem dX11_bag_1 : decode cX11_bag 1 = .ok (.invokestatic 148, 3) := by decide +kernel
theorem dX11_bag_4 : decode cX11_bag 4 = .ok (.ifCond .eq 27, 3) := by decide +kernel
theorem dX11_bag_7 : decode cX11_bag 7 = .ok (.iload_n 2, 1) := by decide +kernel
theorem dX11_bag_8 : decode cX11_bag 8 = .ok (.iconst 0, 1) := by decide +kernel
theorem dX11_bag_9 : decode cX11_bag 9 = .ok (.iconst 2, 1) := by decide +kernel
theorem dX11_bag_10 : decode cX11_bag 10 = .ok (.invokestatic 110, 3) := by decide +kernel
theorem dX11_bag_13 : decode cX11_bag 13 = .ok (.ifCond .eq 18, 3) := by decide +kernel
theorem dX11_bag_16 : decode cX11_bag 16 = .ok (.aload_n 0, 1) := by decide +kernel
theorem dX11_bag_17 : decode cX11_bag 17 = .ok (.getfield 7, 3) := by decide +kernel
theorem dX11_bag_20 : decode cX11_bag 20 = .ok (.iconst 1, 1) := by decide +kernel
theorem dX11_bag_21 : decode cX11_bag 21 = .ok (.iconst 3, 1) := by decide +kernel
theorem dX11_bag_22 : decode cX11_bag 22 = .ok (.iload_n 1, 1) := by decide +kernel
theorem dX11_bag_23 : decode cX11_bag 23 = .ok (.imul, 1) := by decide +kernel
theorem dX11_bag_24 : decode cX11_bag 24 = .ok (.iadd, 1) := by decide +kernel
theorem dX11_bag_25 : decode cX11_bag 25 = .ok (.iload_n 2, 1) := by decide +kernel
theorem dX11_bag_26 : decode cX11_bag 26 = .ok (.iadd, 1) := by decide +kernel
theorem dX11_bag_27 : decode cX11_bag 27 = .ok (.iaload, 1) := by decide +kernel
theorem dX11_bag_28 : decode cX11_bag 28 = .ok (.goto 4, 3) := by decide +kernel
theorem dX11_bag_31 : decode cX11_bag 31 = .ok (.iconst (-1), 1) := by decide +kernel
theorem dX11_bag_32 : decode cX11_bag 32 = .ok (.ireturn, 1) := by decide +kernel
theorem dX11_fill_0 : decode cX11_fill 0 = .ok (.iload_n 1, 1) := by decide +kernel
theorem dX11_fill_1 : decode cX11_fill 1 = .ok (.invokestatic 148, 3) := by decide +kernel
theorem dX11_fill_4 : decode cX11_fill 4 = .ok (.ifCond .ne 5, 3) := by decide +kernel
theorem dX11_fill_7 : decode cX11_fill 7 = .ok (.iconst (-1), 1) := by decide +kernel
theorem dX11_fill_8 : decode cX11_fill 8 = .ok (.ireturn, 1) := by decide +kernel
theorem dX11_fill_9 : decode cX11_fill 9 = .ok (.iconst 1, 1) := by decide +kernel
theorem dX11_fill_10 : decode cX11_fill 10 = .ok (.iconst 3, 1) := by decide +kernel
theorem dX11_fill_11 : decode cX11_fill 11 = .ok (.iload_n 1, 1) := by decide +kernel
theorem dX11_fill_12 : decode cX11_fill 12 = .ok (.imul, 1) := by decide +kernel
theorem dX11_fill_13 : decode cX11_fill 13 = .ok (.iadd, 1) := by decide +kernel
theorem dX11_fill_14 : decode cX11_fill 14 = .ok (.istore_n 2, 1) := by decide +kernel
theorem dX11_fill_15 : decode cX11_fill 15 = .ok (.bipush 18, 2) := by decide +kernel
theorem dX11_fill_17 : decode cX11_fill 17 = .ok (.aload_n 0, 1) := by decide +kernel
theorem dX11_fill_18 : decode cX11_fill 18 = .ok (.getfield 7, 3) := by decide +kernel
theorem dX11_fill_21 : decode cX11_fill 21 = .ok (.iload_n 2, 1) := by decide +kernel
theorem dX11_fill_22 : decode cX11_fill 22 = .ok (.iaload, 1) := by decide +kernel
theorem dX11_fill_23 : decode cX11_fill 23 = .ok (.isub, 1) := by decide +kernel
theorem dX11_fill_24 : decode cX11_fill 24 = .ok (.aload_n 0, 1) := by decide +kernel
theorem dX11_fill_25 : decode cX11_fill 25 = .ok (.getfield 7, 3) := by decide +kernel
theorem dX11_fill_28 : decode cX11_fill 28 = .ok (.iload_n 2, 1) := by decide +kernel
theorem dX11_fill_29 : decode cX11_fill 29 = .ok (.iconst 1, 1) := by decide +kernel
theorem dX11_fill_30 : decode cX11_fill 30 = .ok (.iadd, 1) := by decide +kernel
theorem dX11_fill_31 : decode cX11_fill 31 = .ok (.iaload, 1) := by decide +kernel
theorem dX11_fill_32 : decode cX11_fill 32 = .ok (.isub, 1) := by decide +kernel
theorem dX11_fill_33 : decode cX11_fill 33 = .ok (.aload_n 0, 1) := by decide +kernel
theorem dX11_fill_34 : decode cX11_fill 34 = .ok (.getfield 7, 3) := by decide +kernel
theorem dX11_fill_37 : decode cX11_fill 37 = .ok (.iload_n 2, 1) := by decide +kernel
theorem dX11_fill_38 : decode cX11_fill 38 = .ok (.iconst 2, 1) := by decide +kernel
theorem dX11_fill_39 : decode cX11_fill 39 = .ok (.iadd, 1) := by decide +kernel
theorem dX11_fill_40 : decode cX11_fill 40 = .ok (.iaload, 1) := by decide +kernel
theorem dX11_fill_41 : decode cX11_fill 41 = .ok (.isub, 1) := by decide +kernel
theorem dX11_fill_42 : decode cX11_fill 42 = .ok (.istore_n 3, 1) := by decide +kernel
theorem dX11_fill_43 : decode cX11_fill 43 = .ok (.iload_n 3, 1) := by decide +kernel
theorem dX11_fill_44 : decode cX11_fill 44 = .ok (.ifCond .ne 6, 3) := by decide +kernel
theorem dX11_fill_47 : decode cX11_fill 47 = .ok (.bipush (-2), 2) := by decide +kernel
theorem dX11_fill_49 : decode cX11_fill 49 = .ok (.ireturn, 1) := by decide +kernel
theorem dX11_fill_50 : decode cX11_fill 50 = .ok (.aload_n 0, 1) := by decide +kernel
theorem dX11_fill_51 : decode cX11_fill 51 = .ok (.invokevirtual 173, 3) := by decide +kernel
theorem dX11_fill_54 : decode cX11_fill 54 = .ok (.iconst 0, 1) := by decide +kernel
theorem dX11_fill_55 : decode cX11_fill 55 = .ok (.istore 4, 2) := by decide +kernel
theorem dX11_fill_57 : decode cX11_fill 57 = .ok (.iload 4, 2) := by decide +kernel
theorem dX11_fill_59 : decode cX11_fill 59 = .ok (.iconst 3, 1) := by decide +kernel
theorem dX11_fill_60 : decode cX11_fill 60 = .ok (.if_icmp .ge 20, 3) := by decide +kernel
theorem dX11_fill_63 : decode cX11_fill 63 = .ok (.aload_n 0, 1) := by decide +kernel
theorem dX11_fill_64 : decode cX11_fill 64 = .ok (.getfield 7, 3) := by decide +kernel
theorem dX11_fill_67 : decode cX11_fill 67 = .ok (.iload_n 2, 1) := by decide +kernel
theorem dX11_fill_68 : decode cX11_fill 68 = .ok (.iload 4, 2) := by decide +kernel
theorem dX11_fill_70 : decode cX11_fill 70 = .ok (.iadd, 1) := by decide +kernel
theorem dX11_fill_71 : decode cX11_fill 71 = .ok (.bipush 6, 2) := by decide +kernel
theorem dX11_fill_73 : decode cX11_fill 73 = .ok (.iastore, 1) := by decide +kernel
theorem dX11_fill_74 : decode cX11_fill 74 = .ok (.iinc 4 1, 3) := by decide +kernel
theorem dX11_fill_77 : decode cX11_fill 77 = .ok (.goto (-20), 3) := by decide +kernel
theorem dX11_fill_80 : decode cX11_fill 80 = .ok (.iload_n 3, 1) := by decide +kernel
theorem dX11_fill_81 : decode cX11_fill 81 = .ok (.ireturn, 1) := by decide +kernel
theorem dX11_isOn_0 : decode cX11_isOn 0 = .ok (.iconst 0, 1) := by decide +kernel
theorem dX11_isOn_1 : decode cX11_isOn 1 = .ok (.istore_n 3, 1) := by decide +kernel
theorem dX11_isOn_2 : decode cX11_isOn 2 = .ok (.iconst 0, 1) := by decide +kernel
theorem dX11_isOn_3 : decode cX11_isOn 3 = .ok (.istore 4, 2) := by decide +kernel
theorem dX11_isOn_5 : decode cX11_isOn 5 = .ok (.iload 4, 2) := by decide +kernel
theorem dX11_isOn_7 : decode cX11_isOn 7 = .ok (.aload_n 0, 1) := by decide +kernel
theorem dX11_isOn_8 : decode cX11_isOn 8 = .ok (.getfield 49, 3) := by decide +kernel
theorem dX11_isOn_11 : decode cX11_isOn 11 = .ok (.iload_n 1, 1) := by decide +kernel
theorem dX11_isOn_12 : decode cX11_isOn 12 = .ok (.iaload, 1) := by decide +kernel
theorem dX11_isOn_13 : decode cX11_isOn 13 = .ok (.if_icmp .ge 35, 3) := by decide +kernel
theorem dX11_isOn_16 : decode cX11_isOn 16 = .ok (.iload_n 3, 1) := by decide +kernel
theorem dX11_isOn_17 : decode cX11_isOn 17 = .ok (.ifCond .ne 19, 3) := by decide +kernel
theorem dX11_isOn_20 : decode cX11_isOn 20 = .ok (.aload_n 0, 1) := by decide +kernel
theorem dX11_isOn_21 : decode cX11_isOn 21 = .ok (.getfield 52, 3) := by decide +kernel
theorem dX11_isOn_24 : decode cX11_isOn 24 = .ok (.bipush 60, 2) := by decide +kernel
theorem dX11_isOn_26 : decode cX11_isOn 26 = .ok (.iload_n 1, 1) := by decide +kernel
theorem dX11_isOn_27 : decode cX11_isOn 27 = .ok (.imul, 1) := by decide +kernel
theorem dX11_isOn_28 : decode cX11_isOn 28 = .ok (.iload 4, 2) := by decide +kernel
theorem dX11_isOn_30 : decode cX11_isOn 30 = .ok (.iadd, 1) := by decide +kernel
theorem dX11_isOn_31 : decode cX11_isOn 31 = .ok (.iaload, 1) := by decide +kernel
theorem dX11_isOn_32 : decode cX11_isOn 32 = .ok (.iload_n 2, 1) := by decide +kernel
theorem dX11_isOn_33 : decode cX11_isOn 33 = .ok (.if_icmp .ne 7, 3) := by decide +kernel
theorem dX11_isOn_36 : decode cX11_isOn 36 = .ok (.iconst 1, 1) := by decide +kernel
theorem dX11_isOn_37 : decode cX11_isOn 37 = .ok (.goto 4, 3) := by decide +kernel
theorem dX11_isOn_40 : decode cX11_isOn 40 = .ok (.iconst 0, 1) := by decide +kernel
theorem dX11_isOn_41 : decode cX11_isOn 41 = .ok (.istore_n 3, 1) := by decide +kernel
theorem dX11_isOn_42 : decode cX11_isOn 42 = .ok (.iinc 4 1, 3) := by decide +kernel
theorem dX11_isOn_45 : decode cX11_isOn 45 = .ok (.goto (-40), 3) := by decide +kernel
theorem dX11_isOn_48 : decode cX11_isOn 48 = .ok (.iload_n 3, 1) := by decide +kernel
theorem dX11_isOn_49 : decode cX11_isOn 49 = .ok (.ireturn, 1) := by decide +kernel
theorem dX11_drawn_0 : decode cX11_drawn 0 = .ok (.iload_n 1, 1) := by decide +kernel
theorem dX11_drawn_1 : decode cX11_drawn 1 = .ok (.iconst 0, 1) := by decide +kernel
theorem dX11_drawn_2 : decode cX11_drawn 2 = .ok (.sipush 419, 3) := by decide +kernel
theorem dX11_drawn_5 : decode cX11_drawn 5 = .ok (.invokestatic 110, 3) := by decide +kernel
theorem dX11_drawn_8 : decode cX11_drawn 8 = .ok (.ifCond .ne 5, 3) := by decide +kernel
theorem dX11_drawn_11 : decode cX11_drawn 11 = .ok (.iconst (-1), 1) := by decide +kernel
theorem dX11_drawn_12 : decode cX11_drawn 12 = .ok (.ireturn, 1) := by decide +kernel
theorem dX11_drawn_13 : decode cX11_drawn 13 = .ok (.iload_n 1, 1) := by decide +kernel
theorem dX11_drawn_14 : decode cX11_drawn 14 = .ok (.bipush 21, 2) := by decide +kernel
theorem dX11_drawn_16 : decode cX11_drawn 16 = .ok (.irem, 1) := by decide +kernel
theorem dX11_drawn_17 : decode cX11_drawn 17 = .ok (.bipush 20, 2) := by decide +kernel
theorem dX11_drawn_19 : decode cX11_drawn 19 = .ok (.if_icmp .ne 6, 3) := by decide +kernel
theorem dX11_drawn_22 : decode cX11_drawn 22 = .ok (.bipush 47, 2) := by decide +kernel
theorem dX11_drawn_24 : decode cX11_drawn 24 = .ok (.ireturn, 1) := by decide +kernel
theorem dX11_drawn_25 : decode cX11_drawn 25 = .ok (.bipush 20, 2) := by decide +kernel
theorem dX11_drawn_27 : decode cX11_drawn 27 = .ok (.iload_n 1, 1) := by decide +kernel
theorem dX11_drawn_28 : decode cX11_drawn 28 = .ok (.bipush 21, 2) := by decide +kernel
theorem dX11_drawn_30 : decode cX11_drawn 30 = .ok (.idiv, 1) := by decide +kernel
theorem dX11_drawn_31 : decode cX11_drawn 31 = .ok (.imul, 1) := by decide +kernel
theorem dX11_drawn_32 : decode cX11_drawn 32 = .ok (.iload_n 1, 1) := by decide +kernel
theorem dX11_drawn_33 : decode cX11_drawn 33 = .ok (.bipush 21, 2) := by decide +kernel
theorem dX11_drawn_35 : decode cX11_drawn 35 = .ok (.irem, 1) := by decide +kernel
theorem dX11_drawn_36 : decode cX11_drawn 36 = .ok (.iadd, 1) := by decide +kernel
theorem dX11_drawn_37 : decode cX11_drawn 37 = .ok (.istore_n 2, 1) := by decide +kernel
theorem dX11_drawn_38 : decode cX11_drawn 38 = .ok (.aload_n 0, 1) := by decide +kernel
theorem dX11_drawn_39 : decode cX11_drawn 39 = .ok (.getfield 7, 3) := by decide +kernel
theorem dX11_drawn_42 : decode cX11_drawn 42 = .ok (.bipush 33, 2) := by decide +kernel
theorem dX11_drawn_44 : decode cX11_drawn 44 = .ok (.iload_n 2, 1) := by decide +kernel
theorem dX11_drawn_45 : decode cX11_drawn 45 = .ok (.iadd, 1) := by decide +kernel
theorem dX11_drawn_46 : decode cX11_drawn 46 = .ok (.iaload, 1) := by decide +kernel
theorem dX11_drawn_47 : decode cX11_drawn 47 = .ok (.istore_n 3, 1) := by decide +kernel
theorem dX11_drawn_48 : decode cX11_drawn 48 = .ok (.iload_n 3, 1) := by decide +kernel
theorem dX11_drawn_49 : decode cX11_drawn 49 = .ok (.bipush (-4), 2) := by decide +kernel
theorem dX11_drawn_51 : decode cX11_drawn 51 = .ok (.if_icmp .eq 16, 3) := by decide +kernel
theorem dX11_drawn_54 : decode cX11_drawn 54 = .ok (.bipush 97, 2) := by decide +kernel
theorem dX11_drawn_56 : decode cX11_drawn 56 = .ok (.aload_n 0, 1) := by decide +kernel
theorem dX11_drawn_57 : decode cX11_drawn 57 = .ok (.getfield 7, 3) := by decide +kernel
theorem dX11_drawn_60 : decode cX11_drawn 60 = .ok (.bipush 10, 2) := by decide +kernel
theorem dX11_drawn_62 : decode cX11_drawn 62 = .ok (.iload_n 3, 1) := by decide +kernel
theorem dX11_drawn_63 : decode cX11_drawn 63 = .ok (.iadd, 1) := by decide +kernel
theorem dX11_drawn_64 : decode cX11_drawn 64 = .ok (.iaload, 1) := by decide +kernel
theorem dX11_drawn_65 : decode cX11_drawn 65 = .ok (.iadd, 1) := by decide +kernel
theorem dX11_drawn_66 : decode cX11_drawn 66 = .ok (.ireturn, 1) := by decide +kernel
theorem dX11_drawn_67 : decode cX11_drawn 67 = .ok (.iconst 0, 1) := by decide +kernel
theorem dX11_drawn_68 : decode cX11_drawn 68 = .ok (.istore 4, 2) := by decide +kernel
theorem dX11_drawn_70 : decode cX11_drawn 70 = .ok (.iconst 0, 1) := by decide +kernel
theorem dX11_drawn_71 : decode cX11_drawn 71 = .ok (.istore 5, 2) := by decide +kernel
theorem dX11_drawn_73 : decode cX11_drawn 73 = .ok (.iload 5, 2) := by decide +kernel
theorem dX11_drawn_75 : decode cX11_drawn 75 = .ok (.aload_n 0, 1) := by decide +kernel
theorem dX11_drawn_76 : decode cX11_drawn 76 = .ok (.getfield 107, 3) := by decide +kernel
theorem dX11_drawn_79 : decode cX11_drawn 79 = .ok (.if_icmp .ge 40, 3) := by decide +kernel
theorem dX11_drawn_82 : decode cX11_drawn 82 = .ok (.iload 4, 2) := by decide +kernel
theorem dX11_drawn_84 : decode cX11_drawn 84 = .ok (.ifCond .ne 22, 3) := by decide +kernel
theorem dX11_drawn_87 : decode cX11_drawn 87 = .ok (.aload_n 0, 1) := by decide +kernel
theorem dX11_drawn_88 : decode cX11_drawn 88 = .ok (.iload 5, 2) := by decide +kernel
theorem dX11_drawn_90 : decode cX11_drawn 90 = .ok (.invokevirtual 190, 3) := by decide +kernel
theorem dX11_drawn_93 : decode cX11_drawn 93 = .ok (.ifCond .ne 17, 3) := by decide +kernel
theorem dX11_drawn_96 : decode cX11_drawn 96 = .ok (.aload_n 0, 1) := by decide +kernel
theorem dX11_drawn_97 : decode cX11_drawn 97 = .ok (.iload 5, 2) := by decide +kernel
theorem dX11_drawn_99 : decode cX11_drawn 99 = .ok (.iload_n 2, 1) := by decide +kernel
theorem dX11_drawn_100 : decode cX11_drawn 100 = .ok (.invokevirtual 243, 3) := by decide +kernel
theorem dX11_drawn_103 : decode cX11_drawn 103 = .ok (.ifCond .eq 7, 3) := by decide +kernel
theorem dX11_drawn_106 : decode cX11_drawn 106 = .ok (.iconst 1, 1) := by decide +kernel
theorem dX11_drawn_107 : decode cX11_drawn 107 = .ok (.goto 4, 3) := by decide +kernel
theorem dX11_drawn_110 : decode cX11_drawn 110 = .ok (.iconst 0, 1) := by decide +kernel
theorem dX11_drawn_111 : decode cX11_drawn 111 = .ok (.istore 4, 2) := by decide +kernel
theorem dX11_drawn_113 : decode cX11_drawn 113 = .ok (.iinc 5 1, 3) := by decide +kernel
theorem dX11_drawn_116 : decode cX11_drawn 116 = .ok (.goto (-43), 3) := by decide +kernel
theorem dX11_drawn_119 : decode cX11_drawn 119 = .ok (.iload 4, 2) := by decide +kernel
theorem dX11_drawn_121 : decode cX11_drawn 121 = .ok (.ifCond .eq 8, 3) := by decide +kernel
theorem dX11_drawn_124 : decode cX11_drawn 124 = .ok (.bipush 43, 2) := by decide +kernel
theorem dX11_drawn_126 : decode cX11_drawn 126 = .ok (.goto 5, 3) := by decide +kernel
theorem dX11_drawn_129 : decode cX11_drawn 129 = .ok (.bipush 46, 2) := by decide +kernel
theorem dX11_drawn_131 : decode cX11_drawn 131 = .ok (.ireturn, 1) := by decide +kernel
theorem dX11_sharedCells_0 : decode cX11_sharedCells 0 = .ok (.iconst 0, 1) := by decide +kernel
theorem dX11_sharedCells_1 : decode cX11_sharedCells 1 = .ok (.istore_n 1, 1) := by decide +kernel
theorem dX11_sharedCells_2 : decode cX11_sharedCells 2 = .ok (.iconst 0, 1) := by decide +kernel
theorem dX11_sharedCells_3 : decode cX11_sharedCells 3 = .ok (.istore_n 2, 1) := by decide +kernel
theorem dX11_sharedCells_4 : decode cX11_sharedCells 4 = .ok (.iload_n 2, 1) := by decide +kernel
theorem dX11_sharedCells_5 : decode cX11_sharedCells 5 = .ok (.sipush 400, 3) := by decide +kernel
theorem dX11_sharedCells_8 : decode cX11_sharedCells 8 = .ok (.if_icmp .ge 60, 3) := by decide +kernel
theorem dX11_sharedCells_11 : decode cX11_sharedCells 11 = .ok (.iconst 0, 1) := by decide +kernel
theorem dX11_sharedCells_12 : decode cX11_sharedCells 12 = .ok (.istore_n 3, 1) := by decide +kernel
theorem dX11_sharedCells_13 : decode cX11_sharedCells 13 = .ok (.iconst 0, 1) := by decide +kernel
theorem dX11_sharedCells_14 : decode cX11_sharedCells 14 = .ok (.istore 4, 2) := by decide +kernel
theorem dX11_sharedCells_16 : decode cX11_sharedCells 16 = .ok (.iload 4, 2) := by decide +kernel
theorem dX11_sharedCells_18 : decode cX11_sharedCells 18 = .ok (.aload_n 0, 1) := by decide +kernel
theorem dX11_sharedCells_19 : decode cX11_sharedCells 19 = .ok (.getfield 107, 3) := by decide +kernel
theorem dX11_sharedCells_22 : decode cX11_sharedCells 22 = .ok (.if_icmp .ge 27, 3) := by decide +kernel
theorem dX11_sharedCells_25 : decode cX11_sharedCells 25 = .ok (.iload_n 3, 1) := by decide +kernel
theorem dX11_sharedCells_26 : decode cX11_sharedCells 26 = .ok (.aload_n 0, 1) := by decide +kernel
theorem dX11_sharedCells_27 : decode cX11_sharedCells 27 = .ok (.iload 4, 2) := by decide +kernel
theorem dX11_sharedCells_29 : decode cX11_sharedCells 29 = .ok (.iload_n 2, 1) := by decide +kernel
theorem dX11_sharedCells_30 : decode cX11_sharedCells 30 = .ok (.invokevirtual 243, 3) := by decide +kernel
theorem dX11_sharedCells_33 : decode cX11_sharedCells 33 = .ok (.ifCond .eq 7, 3) := by decide +kernel
theorem dX11_sharedCells_36 : decode cX11_sharedCells 36 = .ok (.iconst 1, 1) := by decide +kernel
theorem dX11_sharedCells_37 : decode cX11_sharedCells 37 = .ok (.goto 4, 3) := by decide +kernel
theorem dX11_sharedCells_40 : decode cX11_sharedCells 40 = .ok (.iconst 0, 1) := by decide +kernel
theorem dX11_sharedCells_41 : decode cX11_sharedCells 41 = .ok (.iadd, 1) := by decide +kernel
theorem dX11_sharedCells_42 : decode cX11_sharedCells 42 = .ok (.istore_n 3, 1) := by decide +kernel
theorem dX11_sharedCells_43 : decode cX11_sharedCells 43 = .ok (.iinc 4 1, 3) := by decide +kernel
theorem dX11_sharedCells_46 : decode cX11_sharedCells 46 = .ok (.goto (-30), 3) := by decide +kernel
theorem dX11_sharedCells_49 : decode cX11_sharedCells 49 = .ok (.iload_n 1, 1) := by decide +kernel
theorem dX11_sharedCells_50 : decode cX11_sharedCells 50 = .ok (.iload_n 3, 1) := by decide +kernel
theorem dX11_sharedCells_51 : decode cX11_sharedCells 51 = .ok (.iconst 1, 1) := by decide +kernel
theorem dX11_sharedCells_52 : decode cX11_sharedCells 52 = .ok (.if_icmp .le 7, 3) := by decide +kernel
theorem dX11_sharedCells_55 : decode cX11_sharedCells 55 = .ok (.iconst 1, 1) := by decide +kernel
theorem dX11_sharedCells_56 : decode cX11_sharedCells 56 = .ok (.goto 4, 3) := by decide +kernel
theorem dX11_sharedCells_59 : decode cX11_sharedCells 59 = .ok (.iconst 0, 1) := by decide +kernel
theorem dX11_sharedCells_60 : decode cX11_sharedCells 60 = .ok (.iadd, 1) := by decide +kernel
theorem dX11_sharedCells_61 : decode cX11_sharedCells 61 = .ok (.istore_n 1, 1) := by decide +kernel
theorem dX11_sharedCells_62 : decode cX11_sharedCells 62 = .ok (.iinc 2 1, 3) := by decide +kernel
theorem dX11_sharedCells_65 : decode cX11_sharedCells 65 = .ok (.goto (-61), 3) := by decide +kernel
theorem dX11_sharedCells_68 : decode cX11_sharedCells 68 = .ok (.iload_n 1, 1) := by decide +kernel
theorem dX11_sharedCells_69 : decode cX11_sharedCells 69 = .ok (.ireturn, 1) := by decide +kernel
theorem dX11_count_0 : decode cX11_count 0 = .ok (.iload_n 1, 1) := by decide +kernel
theorem dX11_count_1 : decode cX11_count 1 = .ok (.tableswitch 147 0 10 #[59, 64, 64, 64, 73, 80, 88, 96, 101, 106, 142], 59) := by decide +kernel
theorem dX11_count_60 : decode cX11_count 60 = .ok (.aload_n 0, 1) := by decide +kernel
theorem dX11_count_61 : decode cX11_count 61 = .ok (.getfield 107, 3) := by decide +kernel
theorem dX11_count_64 : decode cX11_count 64 = .ok (.ireturn, 1) := by decide +kernel
theorem dX11_count_65 : decode cX11_count 65 = .ok (.aload_n 0, 1) := by decide +kernel
theorem dX11_count_66 : decode cX11_count 66 = .ok (.getfield 40, 3) := by decide +kernel
theorem dX11_count_69 : decode cX11_count 69 = .ok (.iload_n 1, 1) := by decide +kernel
theorem dX11_count_70 : decode cX11_count 70 = .ok (.iconst 1, 1) := by decide +kernel
theorem dX11_count_71 : decode cX11_count 71 = .ok (.isub, 1) := by decide +kernel
theorem dX11_count_72 : decode cX11_count 72 = .ok (.iaload, 1) := by decide +kernel
theorem dX11_count_73 : decode cX11_count 73 = .ok (.ireturn, 1) := by decide +kernel
theorem dX11_count_74 : decode cX11_count 74 = .ok (.aload_n 0, 1) := by decide +kernel
theorem dX11_count_75 : decode cX11_count 75 = .ok (.getfield 7, 3) := by decide +kernel
theorem dX11_count_78 : decode cX11_count 78 = .ok (.iconst 0, 1) := by decide +kernel
theorem dX11_count_79 : decode cX11_count 79 = .ok (.iaload, 1) := by decide +kernel
theorem dX11_count_80 : decode cX11_count 80 = .ok (.ireturn, 1) := by decide +kernel
theorem dX11_count_81 : decode cX11_count 81 = .ok (.aload_n 0, 1) := by decide +kernel
theorem dX11_count_82 : decode cX11_count 82 = .ok (.getfield 7, 3) := by decide +kernel
theorem dX11_count_85 : decode cX11_count 85 = .ok (.bipush 31, 2) := by decide +kernel
theorem dX11_count_87 : decode cX11_count 87 = .ok (.iaload, 1) := by decide +kernel
theorem dX11_count_88 : decode cX11_count 88 = .ok (.ireturn, 1) := by decide +kernel
theorem dX11_count_89 : decode cX11_count 89 = .ok (.aload_n 0, 1) := by decide +kernel
theorem dX11_count_90 : decode cX11_count 90 = .ok (.getfield 7, 3) := by decide +kernel
theorem dX11_count_93 : decode cX11_count 93 = .ok (.bipush 32, 2) := by decide +kernel
theorem dX11_count_95 : decode cX11_count 95 = .ok (.iaload, 1) := by decide +kernel
theorem dX11_count_96 : decode cX11_count 96 = .ok (.ireturn, 1) := by decide +kernel
theorem dX11_count_97 : decode cX11_count 97 = .ok (.aload_n 0, 1) := by decide +kernel
theorem dX11_count_98 : decode cX11_count 98 = .ok (.getfield 163, 3) := by decide +kernel
theorem dX11_count_101 : decode cX11_count 101 = .ok (.ireturn, 1) := by decide +kernel
theorem dX11_count_102 : decode cX11_count 102 = .ok (.aload_n 0, 1) := by decide +kernel
theorem dX11_count_103 : decode cX11_count 103 = .ok (.getfield 137, 3) := by decide +kernel
theorem dX11_count_106 : decode cX11_count 106 = .ok (.ireturn, 1) := by decide +kernel
theorem dX11_count_107 : decode cX11_count 107 = .ok (.iconst 0, 1) := by decide +kernel
theorem dX11_count_108 : decode cX11_count 108 = .ok (.istore_n 2, 1) := by decide +kernel
