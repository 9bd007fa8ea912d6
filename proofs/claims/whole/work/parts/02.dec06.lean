theorem dX11_readLine_137 : decode cX11_readLine 137 = .ok (.goto (-64), 3) := by decide +kernel
theorem dX11_readLine_140 : decode cX11_readLine 140 = .ok (.aload_n 0, 1) := by decide +kernel
theorem dX11_readLine_141 : decode cX11_readLine 141 = .ok (.dup, 1) := by decide +kernel
theorem dX11_readLine_142 : decode cX11_readLine 142 = .ok (.getfield 100, 3) := by decide +kernel
theorem dX11_readLine_145 : decode cX11_readLine 145 = .ok (.iconst 1, 1) := by decide +kernel
theorem dX11_readLine_146 : decode cX11_readLine 146 = .ok (.iadd, 1) := by decide +kernel
theorem dX11_readLine_147 : decode cX11_readLine 147 = .ok (.putfield 100, 3) := by decide +kernel
theorem dX11_readLine_150 : decode cX11_readLine 150 = .ok (.iconst 1, 1) := by decide +kernel
theorem dX11_readLine_151 : decode cX11_readLine 151 = .ok (.ireturn, 1) := by decide +kernel
theorem dX11_readItem_0 : decode cX11_readItem 0 = .ok (.aload_n 0, 1) := by decide +kernel
theorem dX11_readItem_1 : decode cX11_readItem 1 = .ok (.getfield 19, 3) := by decide +kernel
theorem dX11_readItem_4 : decode cX11_readItem 4 = .ok (.aload_n 0, 1) := by decide +kernel
theorem dX11_readItem_5 : decode cX11_readItem 5 = .ok (.getfield 134, 3) := by decide +kernel
theorem dX11_readItem_8 : decode cX11_readItem 8 = .ok (.iaload, 1) := by decide +kernel
theorem dX11_readItem_9 : decode cX11_readItem 9 = .ok (.istore_n 1, 1) := by decide +kernel
theorem dX11_readItem_10 : decode cX11_readItem 10 = .ok (.aload_n 0, 1) := by decide +kernel
theorem dX11_readItem_11 : decode cX11_readItem 11 = .ok (.dup, 1) := by decide +kernel
theorem dX11_readItem_12 : decode cX11_readItem 12 = .ok (.getfield 134, 3) := by decide +kernel
theorem dX11_readItem_15 : decode cX11_readItem 15 = .ok (.iconst 1, 1) := by decide +kernel
theorem dX11_readItem_16 : decode cX11_readItem 16 = .ok (.iadd, 1) := by decide +kernel
theorem dX11_readItem_17 : decode cX11_readItem 17 = .ok (.putfield 134, 3) := by decide +kernel
theorem dX11_readItem_20 : decode cX11_readItem 20 = .ok (.iload_n 1, 1) := by decide +kernel
theorem dX11_readItem_21 : decode cX11_readItem 21 = .ok (.lookupswitch 92 #[(98, 82), (106, 48), (108, 87), (122, 43)], 43) := by decide +kernel
theorem dX11_readItem_64 : decode cX11_readItem 64 = .ok (.aload_n 0, 1) := by decide +kernel
theorem dX11_readItem_65 : decode cX11_readItem 65 = .ok (.invokevirtual 151, 3) := by decide +kernel
theorem dX11_readItem_68 : decode cX11_readItem 68 = .ok (.ireturn, 1) := by decide +kernel
theorem dX11_readItem_69 : decode cX11_readItem 69 = .ok (.aload_n 0, 1) := by decide +kernel
theorem dX11_readItem_70 : decode cX11_readItem 70 = .ok (.invokevirtual 140, 3) := by decide +kernel
theorem dX11_readItem_73 : decode cX11_readItem 73 = .ok (.istore_n 2, 1) := by decide +kernel
theorem dX11_readItem_74 : decode cX11_readItem 74 = .ok (.aload_n 0, 1) := by decide +kernel
theorem dX11_readItem_75 : decode cX11_readItem 75 = .ok (.iload_n 2, 1) := by decide +kernel
theorem dX11_readItem_76 : decode cX11_readItem 76 = .ok (.putfield 114, 3) := by decide +kernel
theorem dX11_readItem_79 : decode cX11_readItem 79 = .ok (.iload_n 2, 1) := by decide +kernel
theorem dX11_readItem_80 : decode cX11_readItem 80 = .ok (.iconst 0, 1) := by decide +kernel
theorem dX11_readItem_81 : decode cX11_readItem 81 = .ok (.iconst 2, 1) := by decide +kernel
theorem dX11_readItem_82 : decode cX11_readItem 82 = .ok (.invokestatic 110, 3) := by decide +kernel
theorem dX11_readItem_85 : decode cX11_readItem 85 = .ok (.ifCond .eq 16, 3) := by decide +kernel
theorem dX11_readItem_88 : decode cX11_readItem 88 = .ok (.aload_n 0, 1) := by decide +kernel
theorem dX11_readItem_89 : decode cX11_readItem 89 = .ok (.bipush 59, 2) := by decide +kernel
theorem dX11_readItem_91 : decode cX11_readItem 91 = .ok (.invokevirtual 144, 3) := by decide +kernel
theorem dX11_readItem_94 : decode cX11_readItem 94 = .ok (.ifCond .eq 7, 3) := by decide +kernel
theorem dX11_readItem_97 : decode cX11_readItem 97 = .ok (.iconst 1, 1) := by decide +kernel
theorem dX11_readItem_98 : decode cX11_readItem 98 = .ok (.goto 4, 3) := by decide +kernel
theorem dX11_readItem_101 : decode cX11_readItem 101 = .ok (.iconst 0, 1) := by decide +kernel
theorem dX11_readItem_102 : decode cX11_readItem 102 = .ok (.ireturn, 1) := by decide +kernel
theorem dX11_readItem_103 : decode cX11_readItem 103 = .ok (.aload_n 0, 1) := by decide +kernel
theorem dX11_readItem_104 : decode cX11_readItem 104 = .ok (.invokevirtual 154, 3) := by decide +kernel
theorem dX11_readItem_107 : decode cX11_readItem 107 = .ok (.ireturn, 1) := by decide +kernel
theorem dX11_readItem_108 : decode cX11_readItem 108 = .ok (.aload_n 0, 1) := by decide +kernel
theorem dX11_readItem_109 : decode cX11_readItem 109 = .ok (.invokevirtual 157, 3) := by decide +kernel
theorem dX11_readItem_112 : decode cX11_readItem 112 = .ok (.ireturn, 1) := by decide +kernel
theorem dX11_readItem_113 : decode cX11_readItem 113 = .ok (.iconst 0, 1) := by decide +kernel
theorem dX11_readItem_114 : decode cX11_readItem 114 = .ok (.ireturn, 1) := by decide +kernel
theorem dX11_readText_0 : decode cX11_readText 0 = .ok (.aload_n 0, 1) := by decide +kernel
theorem dX11_readText_1 : decode cX11_readText 1 = .ok (.invokevirtual 89, 3) := by decide +kernel
theorem dX11_readText_4 : decode cX11_readText 4 = .ok (.aload_n 0, 1) := by decide +kernel
theorem dX11_readText_5 : decode cX11_readText 5 = .ok (.iconst 0, 1) := by decide +kernel
theorem dX11_readText_6 : decode cX11_readText 6 = .ok (.putfield 134, 3) := by decide +kernel
theorem dX11_readText_9 : decode cX11_readText 9 = .ok (.aload_n 0, 1) := by decide +kernel
theorem dX11_readText_10 : decode cX11_readText 10 = .ok (.getfield 134, 3) := by decide +kernel
theorem dX11_readText_13 : decode cX11_readText 13 = .ok (.aload_n 0, 1) := by decide +kernel
theorem dX11_readText_14 : decode cX11_readText 14 = .ok (.getfield 137, 3) := by decide +kernel
theorem dX11_readText_17 : decode cX11_readText 17 = .ok (.if_icmp .ge 20, 3) := by decide +kernel
theorem dX11_readText_20 : decode cX11_readText 20 = .ok (.aload_n 0, 1) := by decide +kernel
theorem dX11_readText_21 : decode cX11_readText 21 = .ok (.getfield 134, 3) := by decide +kernel
theorem dX11_readText_24 : decode cX11_readText 24 = .ok (.istore_n 1, 1) := by decide +kernel
theorem dX11_readText_25 : decode cX11_readText 25 = .ok (.aload_n 0, 1) := by decide +kernel
theorem dX11_readText_26 : decode cX11_readText 26 = .ok (.invokevirtual 160, 3) := by decide +kernel
theorem dX11_readText_29 : decode cX11_readText 29 = .ok (.ifCond .ne 5, 3) := by decide +kernel
theorem dX11_readText_32 : decode cX11_readText 32 = .ok (.iload_n 1, 1) := by decide +kernel
theorem dX11_readText_33 : decode cX11_readText 33 = .ok (.ireturn, 1) := by decide +kernel
theorem dX11_readText_34 : decode cX11_readText 34 = .ok (.goto (-25), 3) := by decide +kernel
theorem dX11_readText_37 : decode cX11_readText 37 = .ok (.bipush (-4), 2) := by decide +kernel
theorem dX11_readText_39 : decode cX11_readText 39 = .ok (.ireturn, 1) := by decide +kernel
theorem dX11_takeRead_0 : decode cX11_takeRead 0 = .ok (.aload_n 0, 1) := by decide +kernel
theorem dX11_takeRead_1 : decode cX11_takeRead 1 = .ok (.aload_n 0, 1) := by decide +kernel
theorem dX11_takeRead_2 : decode cX11_takeRead 2 = .ok (.getfield 100, 3) := by decide +kernel
theorem dX11_takeRead_5 : decode cX11_takeRead 5 = .ok (.putfield 107, 3) := by decide +kernel
theorem dX11_takeRead_8 : decode cX11_takeRead 8 = .ok (.iconst 0, 1) := by decide +kernel
theorem dX11_takeRead_9 : decode cX11_takeRead 9 = .ok (.istore_n 1, 1) := by decide +kernel
theorem dX11_takeRead_10 : decode cX11_takeRead 10 = .ok (.iload_n 1, 1) := by decide +kernel
theorem dX11_takeRead_11 : decode cX11_takeRead 11 = .ok (.iconst 3, 1) := by decide +kernel
theorem dX11_takeRead_12 : decode cX11_takeRead 12 = .ok (.if_icmp .ge 45, 3) := by decide +kernel
theorem dX11_takeRead_15 : decode cX11_takeRead 15 = .ok (.aload_n 0, 1) := by decide +kernel
theorem dX11_takeRead_16 : decode cX11_takeRead 16 = .ok (.getfield 40, 3) := by decide +kernel
theorem dX11_takeRead_19 : decode cX11_takeRead 19 = .ok (.iload_n 1, 1) := by decide +kernel
theorem dX11_takeRead_20 : decode cX11_takeRead 20 = .ok (.aload_n 0, 1) := by decide +kernel
theorem dX11_takeRead_21 : decode cX11_takeRead 21 = .ok (.getfield 22, 3) := by decide +kernel
theorem dX11_takeRead_24 : decode cX11_takeRead 24 = .ok (.iload_n 1, 1) := by decide +kernel
theorem dX11_takeRead_25 : decode cX11_takeRead 25 = .ok (.iaload, 1) := by decide +kernel
theorem dX11_takeRead_26 : decode cX11_takeRead 26 = .ok (.iastore, 1) := by decide +kernel
theorem dX11_takeRead_27 : decode cX11_takeRead 27 = .ok (.aload_n 0, 1) := by decide +kernel
theorem dX11_takeRead_28 : decode cX11_takeRead 28 = .ok (.getfield 43, 3) := by decide +kernel
theorem dX11_takeRead_31 : decode cX11_takeRead 31 = .ok (.iload_n 1, 1) := by decide +kernel
theorem dX11_takeRead_32 : decode cX11_takeRead 32 = .ok (.aload_n 0, 1) := by decide +kernel
theorem dX11_takeRead_33 : decode cX11_takeRead 33 = .ok (.getfield 28, 3) := by decide +kernel
theorem dX11_takeRead_36 : decode cX11_takeRead 36 = .ok (.iload_n 1, 1) := by decide +kernel
theorem dX11_takeRead_37 : decode cX11_takeRead 37 = .ok (.iaload, 1) := by decide +kernel
theorem dX11_takeRead_38 : decode cX11_takeRead 38 = .ok (.iastore, 1) := by decide +kernel
theorem dX11_takeRead_39 : decode cX11_takeRead 39 = .ok (.aload_n 0, 1) := by decide +kernel
theorem dX11_takeRead_40 : decode cX11_takeRead 40 = .ok (.getfield 49, 3) := by decide +kernel
theorem dX11_takeRead_43 : decode cX11_takeRead 43 = .ok (.iload_n 1, 1) := by decide +kernel
theorem dX11_takeRead_44 : decode cX11_takeRead 44 = .ok (.aload_n 0, 1) := by decide +kernel
theorem dX11_takeRead_45 : decode cX11_takeRead 45 = .ok (.getfield 34, 3) := by decide +kernel
theorem dX11_takeRead_48 : decode cX11_takeRead 48 = .ok (.iload_n 1, 1) := by decide +kernel
theorem dX11_takeRead_49 : decode cX11_takeRead 49 = .ok (.iaload, 1) := by decide +kernel
theorem dX11_takeRead_50 : decode cX11_takeRead 50 = .ok (.iastore, 1) := by decide +kernel
theorem dX11_takeRead_51 : decode cX11_takeRead 51 = .ok (.iinc 1 1, 3) := by decide +kernel
theorem dX11_takeRead_54 : decode cX11_takeRead 54 = .ok (.goto (-44), 3) := by decide +kernel
theorem dX11_takeRead_57 : decode cX11_takeRead 57 = .ok (.iconst 0, 1) := by decide +kernel
theorem dX11_takeRead_58 : decode cX11_takeRead 58 = .ok (.istore_n 1, 1) := by decide +kernel
theorem dX11_takeRead_59 : decode cX11_takeRead 59 = .ok (.iload_n 1, 1) := by decide +kernel
theorem dX11_takeRead_60 : decode cX11_takeRead 60 = .ok (.bipush 15, 2) := by decide +kernel
theorem dX11_takeRead_62 : decode cX11_takeRead 62 = .ok (.if_icmp .ge 21, 3) := by decide +kernel
theorem dX11_takeRead_65 : decode cX11_takeRead 65 = .ok (.aload_n 0, 1) := by decide +kernel
theorem dX11_takeRead_66 : decode cX11_takeRead 66 = .ok (.getfield 46, 3) := by decide +kernel
theorem dX11_takeRead_69 : decode cX11_takeRead 69 = .ok (.iload_n 1, 1) := by decide +kernel
theorem dX11_takeRead_70 : decode cX11_takeRead 70 = .ok (.aload_n 0, 1) := by decide +kernel
theorem dX11_takeRead_71 : decode cX11_takeRead 71 = .ok (.getfield 31, 3) := by decide +kernel
theorem dX11_takeRead_74 : decode cX11_takeRead 74 = .ok (.iload_n 1, 1) := by decide +kernel
theorem dX11_takeRead_75 : decode cX11_takeRead 75 = .ok (.iaload, 1) := by decide +kernel
theorem dX11_takeRead_76 : decode cX11_takeRead 76 = .ok (.iastore, 1) := by decide +kernel
theorem dX11_takeRead_77 : decode cX11_takeRead 77 = .ok (.iinc 1 1, 3) := by decide +kernel
theorem dX11_takeRead_80 : decode cX11_takeRead 80 = .ok (.goto (-21), 3) := by decide +kernel
theorem dX11_takeRead_83 : decode cX11_takeRead 83 = .ok (.iconst 0, 1) := by decide +kernel
theorem dX11_takeRead_84 : decode cX11_takeRead 84 = .ok (.istore_n 1, 1) := by decide +kernel
theorem dX11_takeRead_85 : decode cX11_takeRead 85 = .ok (.iload_n 1, 1) := by decide +kernel
theorem dX11_takeRead_86 : decode cX11_takeRead 86 = .ok (.sipush 180, 3) := by decide +kernel
theorem dX11_takeRead_89 : decode cX11_takeRead 89 = .ok (.if_icmp .ge 21, 3) := by decide +kernel
theorem dX11_takeRead_92 : decode cX11_takeRead 92 = .ok (.aload_n 0, 1) := by decide +kernel
theorem dX11_takeRead_93 : decode cX11_takeRead 93 = .ok (.getfield 52, 3) := by decide +kernel
theorem dX11_takeRead_96 : decode cX11_takeRead 96 = .ok (.iload_n 1, 1) := by decide +kernel
theorem dX11_takeRead_97 : decode cX11_takeRead 97 = .ok (.aload_n 0, 1) := by decide +kernel
theorem dX11_takeRead_98 : decode cX11_takeRead 98 = .ok (.getfield 37, 3) := by decide +kernel
theorem dX11_takeRead_101 : decode cX11_takeRead 101 = .ok (.iload_n 1, 1) := by decide +kernel
theorem dX11_takeRead_102 : decode cX11_takeRead 102 = .ok (.iaload, 1) := by decide +kernel
theorem dX11_takeRead_103 : decode cX11_takeRead 103 = .ok (.iastore, 1) := by decide +kernel
theorem dX11_takeRead_104 : decode cX11_takeRead 104 = .ok (.iinc 1 1, 3) := by decide +kernel
theorem dX11_takeRead_107 : decode cX11_takeRead 107 = .ok (.goto (-22), 3) := by decide +kernel
theorem dX11_takeRead_110 : decode cX11_takeRead 110 = .ok (.iconst 0, 1) := by decide +kernel
theorem dX11_takeRead_111 : decode cX11_takeRead 111 = .ok (.istore_n 1, 1) := by decide +kernel
theorem dX11_takeRead_112 : decode cX11_takeRead 112 = .ok (.iload_n 1, 1) := by decide +kernel
theorem dX11_takeRead_113 : decode cX11_takeRead 113 = .ok (.sipush 433, 3) := by decide +kernel
theorem dX11_takeRead_116 : decode cX11_takeRead 116 = .ok (.if_icmp .ge 27, 3) := by decide +kernel
theorem dX11_takeRead_119 : decode cX11_takeRead 119 = .ok (.aload_n 0, 1) := by decide +kernel
theorem dX11_takeRead_120 : decode cX11_takeRead 120 = .ok (.getfield 7, 3) := by decide +kernel
theorem dX11_takeRead_123 : decode cX11_takeRead 123 = .ok (.iload_n 1, 1) := by decide +kernel
theorem dX11_takeRead_124 : decode cX11_takeRead 124 = .ok (.iload_n 1, 1) := by decide +kernel
theorem dX11_takeRead_125 : decode cX11_takeRead 125 = .ok (.bipush 33, 2) := by decide +kernel
theorem dX11_takeRead_127 : decode cX11_takeRead 127 = .ok (.if_icmp .lt 8, 3) := by decide +kernel
theorem dX11_takeRead_130 : decode cX11_takeRead 130 = .ok (.bipush (-4), 2) := by decide +kernel
theorem dX11_takeRead_132 : decode cX11_takeRead 132 = .ok (.goto 4, 3) := by decide +kernel
theorem dX11_takeRead_135 : decode cX11_takeRead 135 = .ok (.iconst 0, 1) := by decide +kernel
theorem dX11_takeRead_136 : decode cX11_takeRead 136 = .ok (.iastore, 1) := by decide +kernel
theorem dX11_takeRead_137 : decode cX11_takeRead 137 = .ok (.iinc 1 1, 3) := by decide +kernel
theorem dX11_takeRead_140 : decode cX11_takeRead 140 = .ok (.goto (-28), 3) := by decide +kernel
theorem dX11_takeRead_143 : decode cX11_takeRead 143 = .ok (.aload_n 0, 1) := by decide +kernel
theorem dX11_takeRead_144 : decode cX11_takeRead 144 = .ok (.getfield 7, 3) := by decide +kernel
theorem dX11_takeRead_147 : decode cX11_takeRead 147 = .ok (.iconst 0, 1) := by decide +kernel
theorem dX11_takeRead_148 : decode cX11_takeRead 148 = .ok (.aload_n 0, 1) := by decide +kernel
theorem dX11_takeRead_149 : decode cX11_takeRead 149 = .ok (.getfield 114, 3) := by decide +kernel
theorem dX11_takeRead_152 : decode cX11_takeRead 152 = .ok (.iastore, 1) := by decide +kernel
theorem dX11_takeRead_153 : decode cX11_takeRead 153 = .ok (.iconst 0, 1) := by decide +kernel
theorem dX11_takeRead_154 : decode cX11_takeRead 154 = .ok (.istore_n 1, 1) := by decide +kernel
theorem dX11_takeRead_155 : decode cX11_takeRead 155 = .ok (.iload_n 1, 1) := by decide +kernel
theorem dX11_takeRead_156 : decode cX11_takeRead 156 = .ok (.bipush 9, 2) := by decide +kernel
theorem dX11_takeRead_158 : decode cX11_takeRead 158 = .ok (.if_icmp .ge 23, 3) := by decide +kernel
theorem dX11_takeRead_161 : decode cX11_takeRead 161 = .ok (.aload_n 0, 1) := by decide +kernel
theorem dX11_takeRead_162 : decode cX11_takeRead 162 = .ok (.getfield 7, 3) := by decide +kernel
theorem dX11_takeRead_165 : decode cX11_takeRead 165 = .ok (.iconst 1, 1) := by decide +kernel
theorem dX11_takeRead_166 : decode cX11_takeRead 166 = .ok (.iload_n 1, 1) := by decide +kernel
theorem dX11_takeRead_167 : decode cX11_takeRead 167 = .ok (.iadd, 1) := by decide +kernel
theorem dX11_takeRead_168 : decode cX11_takeRead 168 = .ok (.aload_n 0, 1) := by decide +kernel
theorem dX11_takeRead_169 : decode cX11_takeRead 169 = .ok (.getfield 25, 3) := by decide +kernel
theorem dX11_takeRead_172 : decode cX11_takeRead 172 = .ok (.iload_n 1, 1) := by decide +kernel
theorem dX11_takeRead_173 : decode cX11_takeRead 173 = .ok (.iaload, 1) := by decide +kernel
theorem dX11_takeRead_174 : decode cX11_takeRead 174 = .ok (.iastore, 1) := by decide +kernel
theorem dX11_takeRead_175 : decode cX11_takeRead 175 = .ok (.iinc 1 1, 3) := by decide +kernel
theorem dX11_takeRead_178 : decode cX11_takeRead 178 = .ok (.goto (-23), 3) := by decide +kernel
theorem dX11_takeRead_181 : decode cX11_takeRead 181 = .ok (.iconst 0, 1) := by decide +kernel
theorem dX11_takeRead_182 : decode cX11_takeRead 182 = .ok (.istore_n 1, 1) := by decide +kernel
theorem dX11_takeRead_183 : decode cX11_takeRead 183 = .ok (.iload_n 1, 1) := by decide +kernel
theorem dX11_takeRead_184 : decode cX11_takeRead 184 = .ok (.iconst 3, 1) := by decide +kernel
theorem dX11_takeRead_185 : decode cX11_takeRead 185 = .ok (.if_icmp .ge 20, 3) := by decide +kernel
theorem dX11_takeRead_188 : decode cX11_takeRead 188 = .ok (.aload_n 0, 1) := by decide +kernel
theorem dX11_takeRead_189 : decode cX11_takeRead 189 = .ok (.getfield 7, 3) := by decide +kernel
theorem dX11_takeRead_192 : decode cX11_takeRead 192 = .ok (.bipush 10, 2) := by decide +kernel
theorem dX11_takeRead_194 : decode cX11_takeRead 194 = .ok (.iload_n 1, 1) := by decide +kernel
theorem dX11_takeRead_195 : decode cX11_takeRead 195 = .ok (.iadd, 1) := by decide +kernel
theorem dX11_takeRead_196 : decode cX11_takeRead 196 = .ok (.bipush (-4), 2) := by decide +kernel
theorem dX11_takeRead_198 : decode cX11_takeRead 198 = .ok (.iastore, 1) := by decide +kernel
theorem dX11_takeRead_199 : decode cX11_takeRead 199 = .ok (.iinc 1 1, 3) := by decide +kernel
theorem dX11_takeRead_202 : decode cX11_takeRead 202 = .ok (.goto (-19), 3) := by decide +kernel
theorem dX11_takeRead_205 : decode cX11_takeRead 205 = .ok (.aload_n 0, 1) := by decide +kernel
theorem dX11_takeRead_206 : decode cX11_takeRead 206 = .ok (.iconst 0, 1) := by decide +kernel
theorem dX11_takeRead_207 : decode cX11_takeRead 207 = .ok (.putfield 163, 3) := by decide +kernel
theorem dX11_takeRead_210 : decode cX11_takeRead 210 = .ok (.return_, 1) := by decide +kernel
theorem dX11_write_0 : decode cX11_write 0 = .ok (.iload_n 1, 1) := by decide +kernel
theorem dX11_write_1 : decode cX11_write 1 = .ok (.bipush 32, 2) := by decide +kernel
theorem dX11_write_3 : decode cX11_write 3 = .ok (.bipush 126, 2) := by decide +kernel
theorem dX11_write_5 : decode cX11_write 5 = .ok (.invokestatic 110, 3) := by decide +kernel
theorem dX11_write_8 : decode cX11_write 8 = .ok (.ifCond .ne 5, 3) := by decide +kernel
theorem dX11_write_11 : decode cX11_write 11 = .ok (.iconst (-1), 1) := by decide +kernel
theorem dX11_write_12 : decode cX11_write 12 = .ok (.ireturn, 1) := by decide +kernel
theorem dX11_write_13 : decode cX11_write 13 = .ok (.aload_n 0, 1) := by decide +kernel
theorem dX11_write_14 : decode cX11_write 14 = .ok (.getfield 137, 3) := by decide +kernel
theorem dX11_write_17 : decode cX11_write 17 = .ok (.sipush 200, 3) := by decide +kernel
theorem dX11_write_20 : decode cX11_write 20 = .ok (.if_icmp .ne 6, 3) := by decide +kernel
theorem dX11_write_23 : decode cX11_write 23 = .ok (.bipush (-3), 2) := by decide +kernel
theorem dX11_write_25 : decode cX11_write 25 = .ok (.ireturn, 1) := by decide +kernel
theorem dX11_write_26 : decode cX11_write 26 = .ok (.aload_n 0, 1) := by decide +kernel
theorem dX11_write_27 : decode cX11_write 27 = .ok (.getfield 19, 3) := by decide +kernel
theorem dX11_write_30 : decode cX11_write 30 = .ok (.aload_n 0, 1) := by decide +kernel
theorem dX11_write_31 : decode cX11_write 31 = .ok (.getfield 137, 3) := by decide +kernel
theorem dX11_write_34 : decode cX11_write 34 = .ok (.iload_n 1, 1) := by decide +kernel
theorem dX11_write_35 : decode cX11_write 35 = .ok (.iastore, 1) := by decide +kernel
theorem dX11_write_36 : decode cX11_write 36 = .ok (.aload_n 0, 1) := by decide +kernel
theorem dX11_write_37 : decode cX11_write 37 = .ok (.dup, 1) := by decide +kernel
theorem dX11_write_38 : decode cX11_write 38 = .ok (.getfield 137, 3) := by decide +kernel
theorem dX11_write_41 : decode cX11_write 41 = .ok (.iconst 1, 1) := by decide +kernel
theorem dX11_write_42 : decode cX11_write 42 = .ok (.iadd, 1) := by decide +kernel
theorem dX11_write_43 : decode cX11_write 43 = .ok (.putfield 137, 3) := by decide +kernel
theorem dX11_write_46 : decode cX11_write 46 = .ok (.aload_n 0, 1) := by decide +kernel
theorem dX11_write_47 : decode cX11_write 47 = .ok (.getfield 137, 3) := by decide +kernel
theorem dX11_write_50 : decode cX11_write 50 = .ok (.ireturn, 1) := by decide +kernel
theorem dX11_wipe_0 : decode cX11_wipe 0 = .ok (.aload_n 0, 1) := by decide +kernel
theorem dX11_wipe_1 : decode cX11_wipe 1 = .ok (.getfield 137, 3) := by decide +kernel
theorem dX11_wipe_4 : decode cX11_wipe 4 = .ok (.istore_n 1, 1) := by decide +kernel
theorem dX11_wipe_5 : decode cX11_wipe 5 = .ok (.aload_n 0, 1) := by decide +kernel
theorem dX11_wipe_6 : decode cX11_wipe 6 = .ok (.iconst 0, 1) := by decide +kernel
theorem dX11_wipe_7 : decode cX11_wipe 7 = .ok (.putfield 137, 3) := by decide +kernel
theorem dX11_wipe_10 : decode cX11_wipe 10 = .ok (.iload_n 1, 1) := by decide +kernel
theorem dX11_wipe_11 : decode cX11_wipe 11 = .ok (.ireturn, 1) := by decide +kernel
theorem dX11_fault_0 : decode cX11_fault 0 = .ok (.aload_n 0, 1) := by decide +kernel
theorem dX11_fault_1 : decode cX11_fault 1 = .ok (.invokevirtual 166, 3) := by decide +kernel
theorem dX11_fault_4 : decode cX11_fault 4 = .ok (.ireturn, 1) := by decide +kernel
theorem dX11_lay_0 : decode cX11_lay 0 = .ok (.aload_n 0, 1) := by decide +kernel
theorem dX11_lay_1 : decode cX11_lay 1 = .ok (.invokevirtual 166, 3) := by decide +kernel
theorem dX11_lay_4 : decode cX11_lay 4 = .ok (.bipush (-4), 2) := by decide +kernel
theorem dX11_lay_6 : decode cX11_lay 6 = .ok (.if_icmp .ne 10, 3) := by decide +kernel
theorem dX11_lay_9 : decode cX11_lay 9 = .ok (.aload_n 0, 1) := by decide +kernel
theorem dX11_lay_10 : decode cX11_lay 10 = .ok (.getfield 100, 3) := by decide +kernel
theorem dX11_lay_13 : decode cX11_lay 13 = .ok (.ifCond .ne 6, 3) := by decide +kernel
theorem dX11_lay_16 : decode cX11_lay 16 = .ok (.bipush (-2), 2) := by decide +kernel
theorem dX11_lay_18 : decode cX11_lay 18 = .ok (.ireturn, 1) := by decide +kernel
theorem dX11_lay_19 : decode cX11_lay 19 = .ok (.aload_n 0, 1) := by decide +kernel
theorem dX11_lay_20 : decode cX11_lay 20 = .ok (.invokevirtual 104, 3) := by decide +kernel
theorem dX11_lay_23 : decode cX11_lay 23 = .ok (.aload_n 0, 1) := by decide +kernel
theorem dX11_lay_24 : decode cX11_lay 24 = .ok (.getfield 107, 3) := by decide +kernel
theorem dX11_lay_27 : decode cX11_lay 27 = .ok (.ireturn, 1) := by decide +kernel
theorem dX11_bring_0 : decode cX11_bring 0 = .ok (.iconst 0, 1) := by decide +kernel
theorem dX11_bring_1 : decode cX11_bring 1 = .ok (.istore 4, 2) := by decide +kernel
theorem dX11_bring_3 : decode cX11_bring 3 = .ok (.iload 4, 2) := by decide +kernel
theorem dX11_bring_5 : decode cX11_bring 5 = .ok (.sipush 433, 3) := by decide +kernel
theorem dX11_bring_8 : decode cX11_bring 8 = .ok (.if_icmp .ge 21, 3) := by decide +kernel
theorem dX11_bring_11 : decode cX11_bring 11 = .ok (.aload_n 2, 1) := by decide +kernel
theorem dX11_bring_12 : decode cX11_bring 12 = .ok (.iload_n 3, 1) := by decide +kernel
theorem dX11_bring_13 : decode cX11_bring 13 = .ok (.iload 4, 2) := by decide +kernel
theorem dX11_bring_15 : decode cX11_bring 15 = .ok (.iadd, 1) := by decide +kernel
theorem dX11_bring_16 : decode cX11_bring 16 = .ok (.aload_n 0, 1) := by decide +kernel
theorem dX11_bring_17 : decode cX11_bring 17 = .ok (.iload_n 1, 1) := by decide +kernel
theorem dX11_bring_18 : decode cX11_bring 18 = .ok (.iload 4, 2) := by decide +kernel
theorem dX11_bring_20 : decode cX11_bring 20 = .ok (.iadd, 1) := by decide +kernel
theorem dX11_bring_21 : decode cX11_bring 21 = .ok (.iaload, 1) := by decide +kernel
theorem dX11_bring_22 : decode cX11_bring 22 = .ok (.iastore, 1) := by decide +kernel
theorem dX11_bring_23 : decode cX11_bring 23 = .ok (.iinc 4 1, 3) := by decide +kernel
theorem dX11_bring_26 : decode cX11_bring 26 = .ok (.goto (-23), 3) := by decide +kernel
theorem dX11_bring_29 : decode cX11_bring 29 = .ok (.return_, 1) := by decide +kernel
theorem dX11_note_0 : decode cX11_note 0 = .ok (.aload_n 0, 1) := by decide +kernel
theorem dX11_note_1 : decode cX11_note 1 = .ok (.getfield 163, 3) := by decide +kernel
theorem dX11_note_4 : decode cX11_note 4 = .ok (.bipush 6, 2) := by decide +kernel
theorem dX11_note_6 : decode cX11_note 6 = .ok (.if_icmp .ne 44, 3) := by decide +kernel
theorem dX11_note_9 : decode cX11_note 9 = .ok (.iconst 0, 1) := by decide +kernel
theorem dX11_note_10 : decode cX11_note 10 = .ok (.istore_n 1, 1) := by decide +kernel
theorem dX11_note_11 : decode cX11_note 11 = .ok (.iload_n 1, 1) := by decide +kernel
theorem dX11_note_12 : decode cX11_note 12 = .ok (.sipush 2165, 3) := by decide +kernel
theorem dX11_note_15 : decode cX11_note 15 = .ok (.if_icmp .ge 25, 3) := by decide +kernel
theorem dX11_note_18 : decode cX11_note 18 = .ok (.aload_n 0, 1) := by decide +kernel
theorem dX11_note_19 : decode cX11_note 19 = .ok (.getfield 16, 3) := by decide +kernel
theorem dX11_note_22 : decode cX11_note 22 = .ok (.iload_n 1, 1) := by decide +kernel
theorem dX11_note_23 : decode cX11_note 23 = .ok (.aload_n 0, 1) := by decide +kernel
theorem dX11_note_24 : decode cX11_note 24 = .ok (.getfield 16, 3) := by decide +kernel
theorem dX11_note_27 : decode cX11_note 27 = .ok (.iload_n 1, 1) := by decide +kernel
theorem dX11_note_28 : decode cX11_note 28 = .ok (.sipush 433, 3) := by decide +kernel
theorem dX11_note_31 : decode cX11_note 31 = .ok (.iadd, 1) := by decide +kernel
theorem dX11_note_32 : decode cX11_note 32 = .ok (.iaload, 1) := by decide +kernel
theorem dX11_note_33 : decode cX11_note 33 = .ok (.iastore, 1) := by decide +kernel
theorem dX11_note_34 : decode cX11_note 34 = .ok (.iinc 1 1, 3) := by decide +kernel
theorem dX11_note_37 : decode cX11_note 37 = .ok (.goto (-26), 3) := by decide +kernel
theorem dX11_note_40 : decode cX11_note 40 = .ok (.aload_n 0, 1) := by decide +kernel
theorem dX11_note_41 : decode cX11_note 41 = .ok (.dup, 1) := by decide +kernel
theorem dX11_note_42 : decode cX11_note 42 = .ok (.getfield 163, 3) := by decide +kernel
theorem dX11_note_45 : decode cX11_note 45 = .ok (.iconst 1, 1) := by decide +kernel
theorem dX11_note_46 : decode cX11_note 46 = .ok (.isub, 1) := by decide +kernel
theorem dX11_note_47 : decode cX11_note 47 = .ok (.putfield 163, 3) := by decide +kernel
theorem dX11_note_50 : decode cX11_note 50 = .ok (.aload_n 0, 1) := by decide +kernel
theorem dX11_note_51 : decode cX11_note 51 = .ok (.getfield 7, 3) := by decide +kernel
theorem dX11_note_54 : decode cX11_note 54 = .ok (.iconst 0, 1) := by decide +kernel
theorem dX11_note_55 : decode cX11_note 55 = .ok (.aload_n 0, 1) := by decide +kernel
theorem dX11_note_56 : decode cX11_note 56 = .ok (.getfield 16, 3) := by decide +kernel
theorem dX11_note_59 : decode cX11_note 59 = .ok (.sipush 433, 3) := by decide +kernel
theorem dX11_note_62 : decode cX11_note 62 = .ok (.aload_n 0, 1) := by decide +kernel
theorem dX11_note_63 : decode cX11_note 63 = .ok (.getfield 163, 3) := by decide +kernel
theorem dX11_note_66 : decode cX11_note 66 = .ok (.imul, 1) := by decide +kernel
theorem dX11_note_67 : decode cX11_note 67 = .ok (.invokestatic 169, 3) := by decide +kernel
theorem dX11_note_70 : decode cX11_note 70 = .ok (.aload_n 0, 1) := by decide +kernel
theorem dX11_note_71 : decode cX11_note 71 = .ok (.dup, 1) := by decide +kernel
theorem dX11_note_72 : decode cX11_note 72 = .ok (.getfield 163, 3) := by decide +kernel
theorem dX11_note_75 : decode cX11_note 75 = .ok (.iconst 1, 1) := by decide +kernel
theorem dX11_note_76 : decode cX11_note 76 = .ok (.iadd, 1) := by decide +kernel
theorem dX11_note_77 : decode cX11_note 77 = .ok (.putfield 163, 3) := by decide +kernel
theorem dX11_note_80 : decode cX11_note 80 = .ok (.return_, 1) := by decide +kernel
theorem dX11_undo_0 : decode cX11_undo 0 = .ok (.aload_n 0, 1) := by decide +kernel
theorem dX11_undo_1 : decode cX11_undo 1 = .ok (.getfield 163, 3) := by decide +kernel
theorem dX11_undo_4 : decode cX11_undo 4 = .ok (.ifCond .ne 6, 3) := by decide +kernel
theorem dX11_undo_7 : decode cX11_undo 7 = .ok (.bipush (-2), 2) := by decide +kernel
theorem dX11_undo_9 : decode cX11_undo 9 = .ok (.ireturn, 1) := by decide +kernel
theorem dX11_undo_10 : decode cX11_undo 10 = .ok (.aload_n 0, 1) := by decide +kernel
theorem dX11_undo_11 : decode cX11_undo 11 = .ok (.dup, 1) := by decide +kernel
theorem dX11_undo_12 : decode cX11_undo 12 = .ok (.getfield 163, 3) := by decide +kernel
theorem dX11_undo_15 : decode cX11_undo 15 = .ok (.iconst 1, 1) := by decide +kernel
theorem dX11_undo_16 : decode cX11_undo 16 = .ok (.isub, 1) := by decide +kernel
theorem dX11_undo_17 : decode cX11_undo 17 = .ok (.putfield 163, 3) := by decide +kernel
theorem dX11_undo_20 : decode cX11_undo 20 = .ok (.aload_n 0, 1) := by decide +kernel
theorem dX11_undo_21 : decode cX11_undo 21 = .ok (.getfield 16, 3) := by decide +kernel
theorem dX11_undo_24 : decode cX11_undo 24 = .ok (.sipush 433, 3) := by decide +kernel
theorem dX11_undo_27 : decode cX11_undo 27 = .ok (.aload_n 0, 1) := by decide +kernel
theorem dX11_undo_28 : decode cX11_undo 28 = .ok (.getfield 163, 3) := by decide +kernel
theorem dX11_undo_31 : decode cX11_undo 31 = .ok (.imul, 1) := by decide +kernel
theorem dX11_undo_32 : decode cX11_undo 32 = .ok (.aload_n 0, 1) := by decide +kernel
theorem dX11_undo_33 : decode cX11_undo 33 = .ok (.getfield 7, 3) := by decide +kernel
theorem dX11_undo_36 : decode cX11_undo 36 = .ok (.iconst 0, 1) := by decide +kernel
theorem dX11_undo_37 : decode cX11_undo 37 = .ok (.invokestatic 169, 3) := by decide +kernel
theorem dX11_undo_40 : decode cX11_undo 40 = .ok (.aload_n 0, 1) := by decide +kernel
theorem dX11_undo_41 : decode cX11_undo 41 = .ok (.getfield 163, 3) := by decide +kernel
theorem dX11_undo_44 : decode cX11_undo 44 = .ok (.ireturn, 1) := by decide +kernel
theorem dX11_joint_0 : decode cX11_joint 0 = .ok (.iload_n 1, 1) := by decide +kernel
theorem dX11_joint_1 : decode cX11_joint 1 = .ok (.iconst 0, 1) := by decide +kernel
theorem dX11_joint_2 : decode cX11_joint 2 = .ok (.iconst 2, 1) := by decide +kernel
theorem dX11_joint_3 : decode cX11_joint 3 = .ok (.invokestatic 110, 3) := by decide +kernel
theorem dX11_joint_6 : decode cX11_joint 6 = .ok (.ifCond .ne 5, 3) := by decide +kernel
theorem dX11_joint_9 : decode cX11_joint 9 = .ok (.iconst (-1), 1) := by decide +kernel
theorem dX11_joint_10 : decode cX11_joint 10 = .ok (.ireturn, 1) := by decide +kernel
theorem dX11_joint_11 : decode cX11_joint 11 = .ok (.aload_n 0, 1) := by decide +kernel
theorem dX11_joint_12 : decode cX11_joint 12 = .ok (.getfield 7, 3) := by decide +kernel
theorem dX11_joint_15 : decode cX11_joint 15 = .ok (.iconst 0, 1) := by decide +kernel
theorem dX11_joint_16 : decode cX11_joint 16 = .ok (.iaload, 1) := by decide +kernel
theorem dX11_joint_17 : decode cX11_joint 17 = .ok (.iload_n 1, 1) := by decide +kernel
theorem dX11_joint_18 : decode cX11_joint 18 = .ok (.if_icmp .ne 6, 3) := by decide +kernel
theorem dX11_joint_21 : decode cX11_joint 21 = .ok (.bipush (-2), 2) := by decide +kernel
theorem dX11_joint_23 : decode cX11_joint 23 = .ok (.ireturn, 1) := by decide +kernel
theorem dX11_joint_24 : decode cX11_joint 24 = .ok (.aload_n 0, 1) := by decide +kernel
theorem dX11_joint_25 : decode cX11_joint 25 = .ok (.invokevirtual 173, 3) := by decide +kernel
theorem dX11_joint_28 : decode cX11_joint 28 = .ok (.aload_n 0, 1) := by decide +kernel
theorem dX11_joint_29 : decode cX11_joint 29 = .ok (.getfield 7, 3) := by decide +kernel
theorem dX11_joint_32 : decode cX11_joint 32 = .ok (.iconst 0, 1) := by decide +kernel
theorem dX11_joint_33 : decode cX11_joint 33 = .ok (.iaload, 1) := by decide +kernel
theorem dX11_joint_34 : decode cX11_joint 34 = .ok (.istore_n 2, 1) := by decide +kernel
theorem dX11_joint_35 : decode cX11_joint 35 = .ok (.aload_n 0, 1) := by decide +kernel
theorem dX11_joint_36 : decode cX11_joint 36 = .ok (.getfield 7, 3) := by decide +kernel
theorem dX11_joint_39 : decode cX11_joint 39 = .ok (.iconst 0, 1) := by decide +kernel
theorem dX11_joint_40 : decode cX11_joint 40 = .ok (.iload_n 1, 1) := by decide +kernel
theorem dX11_joint_41 : decode cX11_joint 41 = .ok (.iastore, 1) := by decide +kernel
theorem dX11_joint_42 : decode cX11_joint 42 = .ok (.iload_n 2, 1) := by decide +kernel
theorem dX11_joint_43 : decode cX11_joint 43 = .ok (.ireturn, 1) := by decide +kernel
theorem dX11_ownMany_0 : decode cX11_ownMany 0 = .ok (.iconst 0, 1) := by decide +kernel
theorem dX11_ownMany_1 : decode cX11_ownMany 1 = .ok (.istore_n 2, 1) := by decide +kernel
theorem dX11_ownMany_2 : decode cX11_ownMany 2 = .ok (.iconst 0, 1) := by decide +kernel
theorem dX11_ownMany_3 : decode cX11_ownMany 3 = .ok (.istore_n 3, 1) := by decide +kernel
theorem dX11_ownMany_4 : decode cX11_ownMany 4 = .ok (.iload_n 3, 1) := by decide +kernel
theorem dX11_ownMany_5 : decode cX11_ownMany 5 = .ok (.sipush 400, 3) := by decide +kernel
theorem dX11_ownMany_8 : decode cX11_ownMany 8 = .ok (.if_icmp .ge 30, 3) := by decide +kernel
theorem dX11_ownMany_11 : decode cX11_ownMany 11 = .ok (.iload_n 2, 1) := by decide +kernel
theorem dX11_ownMany_12 : decode cX11_ownMany 12 = .ok (.aload_n 0, 1) := by decide +kernel
theorem dX11_ownMany_13 : decode cX11_ownMany 13 = .ok (.getfield 7, 3) := by decide +kernel
theorem dX11_ownMany_16 : decode cX11_ownMany 16 = .ok (.bipush 33, 2) := by decide +kernel
theorem dX11_ownMany_18 : decode cX11_ownMany 18 = .ok (.iload_n 3, 1) := by decide +kernel
theorem dX11_ownMany_19 : decode cX11_ownMany 19 = .ok (.iadd, 1) := by decide +kernel
theorem dX11_ownMany_20 : decode cX11_ownMany 20 = .ok (.iaload, 1) := by decide +kernel
theorem dX11_ownMany_21 : decode cX11_ownMany 21 = .ok (.iload_n 1, 1) := by decide +kernel
theorem dX11_ownMany_22 : decode cX11_ownMany 22 = .ok (.if_icmp .ne 7, 3) := by decide +kernel
theorem dX11_ownMany_25 : decode cX11_ownMany 25 = .ok (.iconst 1, 1) := by decide +kernel
theorem dX11_ownMany_26 : decode cX11_ownMany 26 = .ok (.goto 4, 3) := by decide +kernel
theorem dX11_ownMany_29 : decode cX11_ownMany 29 = .ok (.iconst 0, 1) := by decide +kernel
theorem dX11_ownMany_30 : decode cX11_ownMany 30 = .ok (.iadd, 1) := by decide +kernel
theorem dX11_ownMany_31 : decode cX11_ownMany 31 = .ok (.istore_n 2, 1) := by decide +kernel
theorem dX11_ownMany_32 : decode cX11_ownMany 32 = .ok (.iinc 3 1, 3) := by decide +kernel
theorem dX11_ownMany_35 : decode cX11_ownMany 35 = .ok (.goto (-31), 3) := by decide +kernel
theorem dX11_ownMany_38 : decode cX11_ownMany 38 = .ok (.iload_n 2, 1) := by decide +kernel
theorem dX11_ownMany_39 : decode cX11_ownMany 39 = .ok (.ireturn, 1) := by decide +kernel
theorem dX11_line_0 : decode cX11_line 0 = .ok (.aload_n 0, 1) := by decide +kernel
theorem dX11_line_1 : decode cX11_line 1 = .ok (.iload_n 1, 1) := by decide +kernel
theorem dX11_line_2 : decode cX11_line 2 = .ok (.invokevirtual 176, 3) := by decide +kernel
theorem dX11_line_5 : decode cX11_line 5 = .ok (.ifCond .ne 5, 3) := by decide +kernel
theorem dX11_line_8 : decode cX11_line 8 = .ok (.iconst (-1), 1) := by decide +kernel
theorem dX11_line_9 : decode cX11_line 9 = .ok (.ireturn, 1) := by decide +kernel
theorem dX11_line_10 : decode cX11_line 10 = .ok (.iload_n 2, 1) := by decide +kernel
theorem dX11_line_11 : decode cX11_line 11 = .ok (.tableswitch 100 0 6 #[41, 48, 55, 64, 74, 80, 90], 41) := by decide +kernel
theorem dX11_line_52 : decode cX11_line 52 = .ok (.aload_n 0, 1) := by decide +kernel
theorem dX11_line_53 : decode cX11_line 53 = .ok (.getfield 43, 3) := by decide +kernel
theorem dX11_line_56 : decode cX11_line 56 = .ok (.iload_n 1, 1) := by decide +kernel
theorem dX11_line_57 : decode cX11_line 57 = .ok (.iaload, 1) := by decide +kernel
theorem dX11_line_58 : decode cX11_line 58 = .ok (.ireturn, 1) := by decide +kernel
theorem dX11_line_59 : decode cX11_line 59 = .ok (.aload_n 0, 1) := by decide +kernel
theorem dX11_line_60 : decode cX11_line 60 = .ok (.getfield 49, 3) := by decide +kernel
theorem dX11_line_63 : decode cX11_line 63 = .ok (.iload_n 1, 1) := by decide +kernel
theorem dX11_line_64 : decode cX11_line 64 = .ok (.iaload, 1) := by decide +kernel
theorem dX11_line_65 : decode cX11_line 65 = .ok (.ireturn, 1) := by decide +kernel
theorem dX11_line_66 : decode cX11_line 66 = .ok (.aload_n 0, 1) := by decide +kernel
theorem dX11_line_67 : decode cX11_line 67 = .ok (.getfield 43, 3) := by decide +kernel
theorem dX11_line_70 : decode cX11_line 70 = .ok (.iload_n 1, 1) := by decide +kernel
theorem dX11_line_71 : decode cX11_line 71 = .ok (.iaload, 1) := by decide +kernel
theorem dX11_line_72 : decode cX11_line 72 = .ok (.iconst 1, 1) := by decide +kernel
theorem dX11_line_73 : decode cX11_line 73 = .ok (.isub, 1) := by decide +kernel
theorem dX11_line_74 : decode cX11_line 74 = .ok (.ireturn, 1) := by decide +kernel
theorem dX11_line_75 : decode cX11_line 75 = .ok (.aload_n 0, 1) := by decide +kernel
theorem dX11_line_76 : decode cX11_line 76 = .ok (.getfield 7, 3) := by decide +kernel
theorem dX11_line_79 : decode cX11_line 79 = .ok (.bipush 10, 2) := by decide +kernel
theorem dX11_line_81 : decode cX11_line 81 = .ok (.iload_n 1, 1) := by decide +kernel
theorem dX11_line_82 : decode cX11_line 82 = .ok (.iadd, 1) := by decide +kernel
theorem dX11_line_83 : decode cX11_line 83 = .ok (.iaload, 1) := by decide +kernel
theorem dX11_line_84 : decode cX11_line 84 = .ok (.ireturn, 1) := by decide +kernel
theorem dX11_line_85 : decode cX11_line 85 = .ok (.aload_n 0, 1) := by decide +kernel
theorem dX11_line_86 : decode cX11_line 86 = .ok (.iload_n 1, 1) := by decide +kernel
theorem dX11_line_87 : decode cX11_line 87 = .ok (.invokevirtual 179, 3) := by decide +kernel
theorem dX11_line_90 : decode cX11_line 90 = .ok (.ireturn, 1) := by decide +kernel
theorem dX11_line_91 : decode cX11_line 91 = .ok (.aload_n 0, 1) := by decide +kernel
theorem dX11_line_92 : decode cX11_line 92 = .ok (.getfield 7, 3) := by decide +kernel
theorem dX11_line_95 : decode cX11_line 95 = .ok (.bipush 13, 2) := by decide +kernel
theorem dX11_line_97 : decode cX11_line 97 = .ok (.iload_n 1, 1) := by decide +kernel
theorem dX11_line_98 : decode cX11_line 98 = .ok (.iadd, 1) := by decide +kernel
theorem dX11_line_99 : decode cX11_line 99 = .ok (.iaload, 1) := by decide +kernel
theorem dX11_line_100 : decode cX11_line 100 = .ok (.ireturn, 1) := by decide +kernel
theorem dX11_line_101 : decode cX11_line 101 = .ok (.aload_n 0, 1) := by decide +kernel
theorem dX11_line_102 : decode cX11_line 102 = .ok (.getfield 7, 3) := by decide +kernel
theorem dX11_line_105 : decode cX11_line 105 = .ok (.bipush 16, 2) := by decide +kernel
theorem dX11_line_107 : decode cX11_line 107 = .ok (.iload_n 1, 1) := by decide +kernel
theorem dX11_line_108 : decode cX11_line 108 = .ok (.iadd, 1) := by decide +kernel
theorem dX11_line_109 : decode cX11_line 109 = .ok (.iaload, 1) := by decide +kernel
theorem dX11_line_110 : decode cX11_line 110 = .ok (.ireturn, 1) := by decide +kernel
theorem dX11_line_111 : decode cX11_line 111 = .ok (.iconst (-1), 1) := by decide +kernel
theorem dX11_line_112 : decode cX11_line 112 = .ok (.ireturn, 1) := by decide +kernel
theorem dX11_cell_0 : decode cX11_cell 0 = .ok (.aload_n 0, 1) := by decide +kernel
theorem dX11_cell_1 : decode cX11_cell 1 = .ok (.iload_n 1, 1) := by decide +kernel
theorem dX11_cell_2 : decode cX11_cell 2 = .ok (.invokevirtual 176, 3) := by decide +kernel
theorem dX11_cell_5 : decode cX11_cell 5 = .ok (.ifCond .eq 7, 3) := by decide +kernel
theorem dX11_cell_8 : decode cX11_cell 8 = .ok (.iload_n 2, 1) := by decide +kernel
theorem dX11_cell_9 : decode cX11_cell 9 = .ok (.ifCond .ge 5, 3) := by decide +kernel
theorem dX11_cell_12 : decode cX11_cell 12 = .ok (.iconst (-1), 1) := by decide +kernel
theorem dX11_cell_13 : decode cX11_cell 13 = .ok (.ireturn, 1) := by decide +kernel
theorem dX11_cell_14 : decode cX11_cell 14 = .ok (.iload_n 2, 1) := by decide +kernel
theorem dX11_cell_15 : decode cX11_cell 15 = .ok (.aload_n 0, 1) := by decide +kernel
theorem dX11_cell_16 : decode cX11_cell 16 = .ok (.getfield 49, 3) := by decide +kernel
theorem dX11_cell_19 : decode cX11_cell 19 = .ok (.iload_n 1, 1) := by decide +kernel
theorem dX11_cell_20 : decode cX11_cell 20 = .ok (.iaload, 1) := by decide +kernel
theorem dX11_cell_21 : decode cX11_cell 21 = .ok (.if_icmp .ge 17, 3) := by decide +kernel
theorem dX11_cell_24 : decode cX11_cell 24 = .ok (.aload_n 0, 1) := by decide +kernel
theorem dX11_cell_25 : decode cX11_cell 25 = .ok (.getfield 52, 3) := by decide +kernel
theorem dX11_cell_28 : decode cX11_cell 28 = .ok (.bipush 60, 2) := by decide +kernel
theorem dX11_cell_30 : decode cX11_cell 30 = .ok (.iload_n 1, 1) := by decide +kernel
theorem dX11_cell_31 : decode cX11_cell 31 = .ok (.imul, 1) := by decide +kernel
theorem dX11_cell_32 : decode cX11_cell 32 = .ok (.iload_n 2, 1) := by decide +kernel
theorem dX11_cell_33 : decode cX11_cell 33 = .ok (.iadd, 1) := by decide +kernel
theorem dX11_cell_34 : decode cX11_cell 34 = .ok (.iaload, 1) := by decide +kernel
theorem dX11_cell_35 : decode cX11_cell 35 = .ok (.goto 5, 3) := by decide +kernel
theorem dX11_cell_38 : decode cX11_cell 38 = .ok (.bipush (-4), 2) := by decide +kernel
theorem dX11_cell_40 : decode cX11_cell 40 = .ok (.ireturn, 1) := by decide +kernel
theorem dX11_whose_0 : decode cX11_whose 0 = .ok (.iload_n 1, 1) := by decide +kernel
theorem dX11_whose_1 : decode cX11_whose 1 = .ok (.iconst 0, 1) := by decide +kernel
theorem dX11_whose_2 : decode cX11_whose 2 = .ok (.bipush 19, 2) := by decide +kernel
theorem dX11_whose_4 : decode cX11_whose 4 = .ok (.invokestatic 110, 3) := by decide +kernel
theorem dX11_whose_7 : decode cX11_whose 7 = .ok (.ifCond .eq 30, 3) := by decide +kernel
theorem dX11_whose_10 : decode cX11_whose 10 = .ok (.iload_n 2, 1) := by decide +kernel
theorem dX11_whose_11 : decode cX11_whose 11 = .ok (.iconst 0, 1) := by decide +kernel
theorem dX11_whose_12 : decode cX11_whose 12 = .ok (.bipush 19, 2) := by decide +kernel
theorem dX11_whose_14 : decode cX11_whose 14 = .ok (.invokestatic 110, 3) := by decide +kernel
theorem dX11_whose_17 : decode cX11_whose 17 = .ok (.ifCond .eq 20, 3) := by decide +kernel
theorem dX11_whose_20 : decode cX11_whose 20 = .ok (.aload_n 0, 1) := by decide +kernel
theorem dX11_whose_21 : decode cX11_whose 21 = .ok (.getfield 7, 3) := by decide +kernel
theorem dX11_whose_24 : decode cX11_whose 24 = .ok (.bipush 33, 2) := by decide +kernel
theorem dX11_whose_26 : decode cX11_whose 26 = .ok (.bipush 20, 2) := by decide +kernel
theorem dX11_whose_28 : decode cX11_whose 28 = .ok (.iload_n 2, 1) := by decide +kernel
theorem dX11_whose_29 : decode cX11_whose 29 = .ok (.imul, 1) := by decide +kernel
theorem dX11_whose_30 : decode cX11_whose 30 = .ok (.iadd, 1) := by decide +kernel
theorem dX11_whose_31 : decode cX11_whose 31 = .ok (.iload_n 1, 1) := by decide +kernel
theorem dX11_whose_32 : decode cX11_whose 32 = .ok (.iadd, 1) := by decide +kernel
theorem dX11_whose_33 : decode cX11_whose 33 = .ok (.iaload, 1) := by decide +kernel
theorem dX11_whose_34 : decode cX11_whose 34 = .ok (.goto 4, 3) := by decide +kernel
theorem dX11_whose_37 : decode cX11_whose 37 = .ok (.iconst (-1), 1) := by decide +kernel
theorem dX11_whose_38 : decode cX11_whose 38 = .ok (.ireturn, 1) := by decide +kernel
theorem dX11_endPiece_0 : decode cX11_endPiece 0 = .ok (.iload_n 1, 1) := by decide +kernel
theorem dX11_endPiece_1 : decode cX11_endPiece 1 = .ok (.ifCond .le 33, 3) := by decide +kernel
theorem dX11_endPiece_4 : decode cX11_endPiece 4 = .ok (.aload_n 0, 1) := by decide +kernel
theorem dX11_endPiece_5 : decode cX11_endPiece 5 = .ok (.getfield 55, 3) := by decide +kernel
theorem dX11_endPiece_8 : decode cX11_endPiece 8 = .ok (.aload_n 0, 1) := by decide +kernel
theorem dX11_endPiece_9 : decode cX11_endPiece 9 = .ok (.getfield 183, 3) := by decide +kernel
theorem dX11_endPiece_12 : decode cX11_endPiece 12 = .ok (.iload_n 1, 1) := by decide +kernel
theorem dX11_endPiece_13 : decode cX11_endPiece 13 = .ok (.iastore, 1) := by decide +kernel
theorem dX11_endPiece_14 : decode cX11_endPiece 14 = .ok (.aload_n 0, 1) := by decide +kernel
theorem dX11_endPiece_15 : decode cX11_endPiece 15 = .ok (.getfield 58, 3) := by decide +kernel
theorem dX11_endPiece_18 : decode cX11_endPiece 18 = .ok (.aload_n 0, 1) := by decide +kernel
theorem dX11_endPiece_19 : decode cX11_endPiece 19 = .ok (.getfield 183, 3) := by decide +kernel
theorem dX11_endPiece_22 : decode cX11_endPiece 22 = .ok (.iload_n 2, 1) := by decide +kernel
theorem dX11_endPiece_23 : decode cX11_endPiece 23 = .ok (.bastore, 1) := by decide +kernel
theorem dX11_endPiece_24 : decode cX11_endPiece 24 = .ok (.aload_n 0, 1) := by decide +kernel
theorem dX11_endPiece_25 : decode cX11_endPiece 25 = .ok (.dup, 1) := by decide +kernel
theorem dX11_endPiece_26 : decode cX11_endPiece 26 = .ok (.getfield 183, 3) := by decide +kernel
theorem dX11_endPiece_29 : decode cX11_endPiece 29 = .ok (.iconst 1, 1) := by decide +kernel
theorem dX11_endPiece_30 : decode cX11_endPiece 30 = .ok (.iadd, 1) := by decide +kernel
theorem dX11_endPiece_31 : decode cX11_endPiece 31 = .ok (.putfield 183, 3) := by decide +kernel
theorem dX11_endPiece_34 : decode cX11_endPiece 34 = .ok (.return_, 1) := by decide +kernel
theorem dX11_findPieces_0 : decode cX11_findPieces 0 = .ok (.aload_n 0, 1) := by decide +kernel
theorem dX11_findPieces_1 : decode cX11_findPieces 1 = .ok (.iconst 0, 1) := by decide +kernel
theorem dX11_findPieces_2 : decode cX11_findPieces 2 = .ok (.putfield 183, 3) := by decide +kernel
theorem dX11_findPieces_5 : decode cX11_findPieces 5 = .ok (.iconst 0, 1) := by decide +kernel
theorem dX11_findPieces_6 : decode cX11_findPieces 6 = .ok (.istore_n 2, 1) := by decide +kernel
theorem dX11_findPieces_7 : decode cX11_findPieces 7 = .ok (.iconst 0, 1) := by decide +kernel
theorem dX11_findPieces_8 : decode cX11_findPieces 8 = .ok (.istore_n 3, 1) := by decide +kernel
theorem dX11_findPieces_9 : decode cX11_findPieces 9 = .ok (.iload_n 3, 1) := by decide +kernel
theorem dX11_findPieces_10 : decode cX11_findPieces 10 = .ok (.aload_n 0, 1) := by decide +kernel
theorem dX11_findPieces_11 : decode cX11_findPieces 11 = .ok (.getfield 43, 3) := by decide +kernel
theorem dX11_findPieces_14 : decode cX11_findPieces 14 = .ok (.iload_n 1, 1) := by decide +kernel
theorem dX11_findPieces_15 : decode cX11_findPieces 15 = .ok (.iaload, 1) := by decide +kernel
theorem dX11_findPieces_16 : decode cX11_findPieces 16 = .ok (.if_icmp .ge 119, 3) := by decide +kernel
theorem dX11_findPieces_19 : decode cX11_findPieces 19 = .ok (.iconst 0, 1) := by decide +kernel
theorem dX11_findPieces_20 : decode cX11_findPieces 20 = .ok (.istore 4, 2) := by decide +kernel
theorem dX11_findPieces_22 : decode cX11_findPieces 22 = .ok (.iload_n 2, 1) := by decide +kernel
theorem dX11_findPieces_23 : decode cX11_findPieces 23 = .ok (.aload_n 0, 1) := by decide +kernel
theorem dX11_findPieces_24 : decode cX11_findPieces 24 = .ok (.getfield 46, 3) := by decide +kernel
theorem dX11_findPieces_27 : decode cX11_findPieces 27 = .ok (.iconst 5, 1) := by decide +kernel
theorem dX11_findPieces_28 : decode cX11_findPieces 28 = .ok (.iload_n 1, 1) := by decide +kernel
theorem dX11_findPieces_29 : decode cX11_findPieces 29 = .ok (.imul, 1) := by decide +kernel
theorem dX11_findPieces_30 : decode cX11_findPieces 30 = .ok (.iload_n 3, 1) := by decide +kernel
theorem dX11_findPieces_31 : decode cX11_findPieces 31 = .ok (.iadd, 1) := by decide +kernel
theorem dX11_findPieces_32 : decode cX11_findPieces 32 = .ok (.iaload, 1) := by decide +kernel
theorem dX11_findPieces_33 : decode cX11_findPieces 33 = .ok (.iadd, 1) := by decide +kernel
theorem dX11_findPieces_34 : decode cX11_findPieces 34 = .ok (.istore 5, 2) := by decide +kernel
theorem dX11_findPieces_36 : decode cX11_findPieces 36 = .ok (.iload_n 2, 1) := by decide +kernel
theorem dX11_findPieces_37 : decode cX11_findPieces 37 = .ok (.iload 5, 2) := by decide +kernel
theorem dX11_findPieces_39 : decode cX11_findPieces 39 = .ok (.if_icmp .ge 67, 3) := by decide +kernel
theorem dX11_findPieces_42 : decode cX11_findPieces 42 = .ok (.aload_n 0, 1) := by decide +kernel
theorem dX11_findPieces_43 : decode cX11_findPieces 43 = .ok (.getfield 7, 3) := by decide +kernel
theorem dX11_findPieces_46 : decode cX11_findPieces 46 = .ok (.bipush 33, 2) := by decide +kernel
theorem dX11_findPieces_48 : decode cX11_findPieces 48 = .ok (.aload_n 0, 1) := by decide +kernel
theorem dX11_findPieces_49 : decode cX11_findPieces 49 = .ok (.getfield 52, 3) := by decide +kernel
theorem dX11_findPieces_52 : decode cX11_findPieces 52 = .ok (.bipush 60, 2) := by decide +kernel
theorem dX11_findPieces_54 : decode cX11_findPieces 54 = .ok (.iload_n 1, 1) := by decide +kernel
theorem dX11_findPieces_55 : decode cX11_findPieces 55 = .ok (.imul, 1) := by decide +kernel
theorem dX11_findPieces_56 : decode cX11_findPieces 56 = .ok (.iload_n 2, 1) := by decide +kernel
theorem dX11_findPieces_57 : decode cX11_findPieces 57 = .ok (.iadd, 1) := by decide +kernel
theorem dX11_findPieces_58 : decode cX11_findPieces 58 = .ok (.iaload, 1) := by decide +kernel
theorem dX11_findPieces_59 : decode cX11_findPieces 59 = .ok (.iadd, 1) := by decide +kernel
theorem dX11_findPieces_60 : decode cX11_findPieces 60 = .ok (.iaload, 1) := by decide +kernel
theorem dX11_findPieces_61 : decode cX11_findPieces 61 = .ok (.bipush (-4), 2) := by decide +kernel
theorem dX11_findPieces_63 : decode cX11_findPieces 63 = .ok (.if_icmp .ne 7, 3) := by decide +kernel
theorem dX11_findPieces_66 : decode cX11_findPieces 66 = .ok (.iconst 1, 1) := by decide +kernel
theorem dX11_findPieces_67 : decode cX11_findPieces 67 = .ok (.goto 4, 3) := by decide +kernel
theorem dX11_findPieces_70 : decode cX11_findPieces 70 = .ok (.iconst 0, 1) := by decide +kernel
theorem dX11_findPieces_71 : decode cX11_findPieces 71 = .ok (.istore 6, 2) := by decide +kernel
theorem dX11_findPieces_73 : decode cX11_findPieces 73 = .ok (.iload 6, 2) := by decide +kernel
theorem dX11_findPieces_75 : decode cX11_findPieces 75 = .ok (.ifCond .ne 10, 3) := by decide +kernel
theorem dX11_findPieces_78 : decode cX11_findPieces 78 = .ok (.aload_n 0, 1) := by decide +kernel
theorem dX11_findPieces_79 : decode cX11_findPieces 79 = .ok (.iload 4, 2) := by decide +kernel
theorem dX11_findPieces_81 : decode cX11_findPieces 81 = .ok (.iconst 0, 1) := by decide +kernel
theorem dX11_findPieces_82 : decode cX11_findPieces 82 = .ok (.invokevirtual 186, 3) := by decide +kernel
theorem dX11_findPieces_85 : decode cX11_findPieces 85 = .ok (.iload 6, 2) := by decide +kernel
theorem dX11_findPieces_87 : decode cX11_findPieces 87 = .ok (.ifCond .eq 10, 3) := by decide +kernel
theorem dX11_findPieces_90 : decode cX11_findPieces 90 = .ok (.iload 4, 2) := by decide +kernel
theorem dX11_findPieces_92 : decode cX11_findPieces 92 = .ok (.iconst 1, 1) := by decide +kernel
theorem dX11_findPieces_93 : decode cX11_findPieces 93 = .ok (.iadd, 1) := by decide +kernel
theorem dX11_findPieces_94 : decode cX11_findPieces 94 = .ok (.goto 4, 3) := by decide +kernel
theorem dX11_findPieces_97 : decode cX11_findPieces 97 = .ok (.iconst 0, 1) := by decide +kernel
theorem dX11_findPieces_98 : decode cX11_findPieces 98 = .ok (.istore 4, 2) := by decide +kernel
theorem dX11_findPieces_100 : decode cX11_findPieces 100 = .ok (.iinc 2 1, 3) := by decide +kernel
theorem dX11_findPieces_103 : decode cX11_findPieces 103 = .ok (.goto (-67), 3) := by decide +kernel
theorem dX11_findPieces_106 : decode cX11_findPieces 106 = .ok (.aload_n 0, 1) := by decide +kernel
theorem dX11_findPieces_107 : decode cX11_findPieces 107 = .ok (.iload 4, 2) := by decide +kernel
theorem dX11_findPieces_109 : decode cX11_findPieces 109 = .ok (.iload_n 3, 1) := by decide +kernel
theorem dX11_findPieces_110 : decode cX11_findPieces 110 = .ok (.iconst 1, 1) := by decide +kernel
theorem dX11_findPieces_111 : decode cX11_findPieces 111 = .ok (.iadd, 1) := by decide +kernel
theorem dX11_findPieces_112 : decode cX11_findPieces 112 = .ok (.aload_n 0, 1) := by decide +kernel
theorem dX11_findPieces_113 : decode cX11_findPieces 113 = .ok (.getfield 43, 3) := by decide +kernel
theorem dX11_findPieces_116 : decode cX11_findPieces 116 = .ok (.iload_n 1, 1) := by decide +kernel
theorem dX11_findPieces_117 : decode cX11_findPieces 117 = .ok (.iaload, 1) := by decide +kernel
theorem dX11_findPieces_118 : decode cX11_findPieces 118 = .ok (.if_icmp .ge 7, 3) := by decide +kernel
theorem dX11_findPieces_121 : decode cX11_findPieces 121 = .ok (.iconst 1, 1) := by decide +kernel
theorem dX11_findPieces_122 : decode cX11_findPieces 122 = .ok (.goto 4, 3) := by decide +kernel
theorem dX11_findPieces_125 : decode cX11_findPieces 125 = .ok (.iconst 0, 1) := by decide +kernel
theorem dX11_findPieces_126 : decode cX11_findPieces 126 = .ok (.invokevirtual 186, 3) := by decide +kernel
theorem dX11_findPieces_129 : decode cX11_findPieces 129 = .ok (.iinc 3 1, 3) := by decide +kernel
theorem dX11_findPieces_132 : decode cX11_findPieces 132 = .ok (.goto (-123), 3) := by decide +kernel
theorem dX11_findPieces_135 : decode cX11_findPieces 135 = .ok (.return_, 1) := by decide +kernel
theorem dX11_piece_0 : decode cX11_piece 0 = .ok (.aload_n 0, 1) := by decide +kernel
theorem dX11_piece_1 : decode cX11_piece 1 = .ok (.iload_n 1, 1) := by decide +kernel
theorem dX11_piece_2 : decode cX11_piece 2 = .ok (.invokevirtual 176, 3) := by decide +kernel
theorem dX11_piece_5 : decode cX11_piece 5 = .ok (.ifCond .eq 8, 3) := by decide +kernel
theorem dX11_piece_8 : decode cX11_piece 8 = .ok (.iload_n 2, 1) := by decide +kernel
theorem dX11_piece_9 : decode cX11_piece 9 = .ok (.iconst (-1), 1) := by decide +kernel
theorem dX11_piece_10 : decode cX11_piece 10 = .ok (.if_icmp .ge 5, 3) := by decide +kernel
theorem dX11_piece_13 : decode cX11_piece 13 = .ok (.iconst (-1), 1) := by decide +kernel
theorem dX11_piece_14 : decode cX11_piece 14 = .ok (.ireturn, 1) := by decide +kernel
theorem dX11_piece_15 : decode cX11_piece 15 = .ok (.aload_n 0, 1) := by decide +kernel
theorem dX11_piece_16 : decode cX11_piece 16 = .ok (.iload_n 1, 1) := by decide +kernel
theorem dX11_piece_17 : decode cX11_piece 17 = .ok (.invokevirtual 190, 3) := by decide +kernel
theorem dX11_piece_20 : decode cX11_piece 20 = .ok (.ifCond .eq 6, 3) := by decide +kernel
theorem dX11_piece_23 : decode cX11_piece 23 = .ok (.bipush (-2), 2) := by decide +kernel
theorem dX11_piece_25 : decode cX11_piece 25 = .ok (.ireturn, 1) := by decide +kernel
theorem dX11_piece_26 : decode cX11_piece 26 = .ok (.aload_n 0, 1) := by decide +kernel
theorem dX11_piece_27 : decode cX11_piece 27 = .ok (.iload_n 1, 1) := by decide +kernel
theorem dX11_piece_28 : decode cX11_piece 28 = .ok (.invokevirtual 193, 3) := by decide +kernel
theorem dX11_piece_31 : decode cX11_piece 31 = .ok (.iload_n 2, 1) := by decide +kernel
theorem dX11_piece_32 : decode cX11_piece 32 = .ok (.iconst (-1), 1) := by decide +kernel
theorem dX11_piece_33 : decode cX11_piece 33 = .ok (.if_icmp .ne 10, 3) := by decide +kernel
theorem dX11_piece_36 : decode cX11_piece 36 = .ok (.aload_n 0, 1) := by decide +kernel
theorem dX11_piece_37 : decode cX11_piece 37 = .ok (.getfield 183, 3) := by decide +kernel
theorem dX11_piece_40 : decode cX11_piece 40 = .ok (.goto 22, 3) := by decide +kernel
theorem dX11_piece_43 : decode cX11_piece 43 = .ok (.iload_n 2, 1) := by decide +kernel
theorem dX11_piece_44 : decode cX11_piece 44 = .ok (.aload_n 0, 1) := by decide +kernel
theorem dX11_piece_45 : decode cX11_piece 45 = .ok (.getfield 183, 3) := by decide +kernel
theorem dX11_piece_48 : decode cX11_piece 48 = .ok (.if_icmp .ge 12, 3) := by decide +kernel
theorem dX11_piece_51 : decode cX11_piece 51 = .ok (.aload_n 0, 1) := by decide +kernel
theorem dX11_piece_52 : decode cX11_piece 52 = .ok (.getfield 55, 3) := by decide +kernel
theorem dX11_piece_55 : decode cX11_piece 55 = .ok (.iload_n 2, 1) := by decide +kernel
theorem dX11_piece_56 : decode cX11_piece 56 = .ok (.iaload, 1) := by decide +kernel
theorem dX11_piece_57 : decode cX11_piece 57 = .ok (.goto 5, 3) := by decide +kernel
theorem dX11_piece_60 : decode cX11_piece 60 = .ok (.bipush (-4), 2) := by decide +kernel
theorem dX11_piece_62 : decode cX11_piece 62 = .ok (.ireturn, 1) := by decide +kernel
theorem dX11_costAt_0 : decode cX11_costAt 0 = .ok (.iload_n 1, 1) := by decide +kernel
theorem dX11_costAt_1 : decode cX11_costAt 1 = .ok (.iconst 2, 1) := by decide +kernel
theorem dX11_costAt_2 : decode cX11_costAt 2 = .ok (.idiv, 1) := by decide +kernel
theorem dX11_costAt_3 : decode cX11_costAt 3 = .ok (.sipush 343, 3) := by decide +kernel
theorem dX11_costAt_6 : decode cX11_costAt 6 = .ok (.imul, 1) := by decide +kernel
theorem dX11_costAt_7 : decode cX11_costAt 7 = .ok (.iload_n 2, 1) := by decide +kernel
theorem dX11_costAt_8 : decode cX11_costAt 8 = .ok (.iadd, 1) := by decide +kernel
theorem dX11_costAt_9 : decode cX11_costAt 9 = .ok (.istore_n 3, 1) := by decide +kernel
theorem dX11_costAt_10 : decode cX11_costAt 10 = .ok (.iload_n 1, 1) := by decide +kernel
theorem dX11_costAt_11 : decode cX11_costAt 11 = .ok (.iconst 2, 1) := by decide +kernel
theorem dX11_costAt_12 : decode cX11_costAt 12 = .ok (.irem, 1) := by decide +kernel
theorem dX11_costAt_13 : decode cX11_costAt 13 = .ok (.ifCond .ne 12, 3) := by decide +kernel
theorem dX11_costAt_16 : decode cX11_costAt 16 = .ok (.aload_n 0, 1) := by decide +kernel
theorem dX11_costAt_17 : decode cX11_costAt 17 = .ok (.getfield 62, 3) := by decide +kernel
theorem dX11_costAt_20 : decode cX11_costAt 20 = .ok (.iload_n 3, 1) := by decide +kernel
theorem dX11_costAt_21 : decode cX11_costAt 21 = .ok (.iaload, 1) := by decide +kernel
theorem dX11_costAt_22 : decode cX11_costAt 22 = .ok (.goto 9, 3) := by decide +kernel
theorem dX11_costAt_25 : decode cX11_costAt 25 = .ok (.aload_n 0, 1) := by decide +kernel
theorem dX11_costAt_26 : decode cX11_costAt 26 = .ok (.getfield 65, 3) := by decide +kernel
theorem dX11_costAt_29 : decode cX11_costAt 29 = .ok (.iload_n 3, 1) := by decide +kernel
theorem dX11_costAt_30 : decode cX11_costAt 30 = .ok (.iaload, 1) := by decide +kernel
theorem dX11_costAt_31 : decode cX11_costAt 31 = .ok (.ireturn, 1) := by decide +kernel
theorem dX11_oneOf_0 : decode cX11_oneOf 0 = .ok (.iload_n 0, 1) := by decide +kernel
theorem dX11_oneOf_1 : decode cX11_oneOf 1 = .ok (.ifCond .ne 8, 3) := by decide +kernel
theorem dX11_oneOf_4 : decode cX11_oneOf 4 = .ok (.bipush 49, 2) := by decide +kernel
theorem dX11_oneOf_6 : decode cX11_oneOf 6 = .ok (.goto 14, 3) := by decide +kernel
theorem dX11_oneOf_9 : decode cX11_oneOf 9 = .ok (.iload_n 0, 1) := by decide +kernel
theorem dX11_oneOf_10 : decode cX11_oneOf 10 = .ok (.iconst 1, 1) := by decide +kernel
theorem dX11_oneOf_11 : decode cX11_oneOf 11 = .ok (.if_icmp .ne 8, 3) := by decide +kernel
theorem dX11_oneOf_14 : decode cX11_oneOf 14 = .ok (.bipush 7, 2) := by decide +kernel
theorem dX11_oneOf_16 : decode cX11_oneOf 16 = .ok (.goto 4, 3) := by decide +kernel
theorem dX11_oneOf_19 : decode cX11_oneOf 19 = .ok (.iconst 1, 1) := by decide +kernel
theorem dX11_oneOf_20 : decode cX11_oneOf 20 = .ok (.ireturn, 1) := by decide +kernel
theorem dX11_isCutAslant_0 : decode cX11_isCutAslant 0 = .ok (.iload_n 2, 1) := by decide +kernel
theorem dX11_isCutAslant_1 : decode cX11_isCutAslant 1 = .ok (.aload_n 0, 1) := by decide +kernel
theorem dX11_isCutAslant_2 : decode cX11_isCutAslant 2 = .ok (.getfield 68, 3) := by decide +kernel
theorem dX11_isCutAslant_5 : decode cX11_isCutAslant 5 = .ok (.iload_n 1, 1) := by decide +kernel
theorem dX11_isCutAslant_6 : decode cX11_isCutAslant 6 = .ok (.iaload, 1) := by decide +kernel
theorem dX11_isCutAslant_7 : decode cX11_isCutAslant 7 = .ok (.if_icmp .ne 30, 3) := by decide +kernel
theorem dX11_isCutAslant_10 : decode cX11_isCutAslant 10 = .ok (.aload_n 0, 1) := by decide +kernel
theorem dX11_isCutAslant_11 : decode cX11_isCutAslant 11 = .ok (.getfield 71, 3) := by decide +kernel
theorem dX11_isCutAslant_14 : decode cX11_isCutAslant 14 = .ok (.iload_n 1, 1) := by decide +kernel
theorem dX11_isCutAslant_15 : decode cX11_isCutAslant 15 = .ok (.baload, 1) := by decide +kernel
theorem dX11_isCutAslant_16 : decode cX11_isCutAslant 16 = .ok (.ifCond .eq 21, 3) := by decide +kernel
theorem dX11_isCutAslant_19 : decode cX11_isCutAslant 19 = .ok (.iload_n 3, 1) := by decide +kernel
theorem dX11_isCutAslant_20 : decode cX11_isCutAslant 20 = .ok (.ifCond .ne 13, 3) := by decide +kernel
theorem dX11_isCutAslant_23 : decode cX11_isCutAslant 23 = .ok (.iload_n 2, 1) := by decide +kernel
theorem dX11_isCutAslant_24 : decode cX11_isCutAslant 24 = .ok (.aload_n 0, 1) := by decide +kernel
theorem dX11_isCutAslant_25 : decode cX11_isCutAslant 25 = .ok (.getfield 40, 3) := by decide +kernel
theorem dX11_isCutAslant_28 : decode cX11_isCutAslant 28 = .ok (.iconst 0, 1) := by decide +kernel
theorem dX11_isCutAslant_29 : decode cX11_isCutAslant 29 = .ok (.iaload, 1) := by decide +kernel
theorem dX11_isCutAslant_30 : decode cX11_isCutAslant 30 = .ok (.if_icmp .eq 7, 3) := by decide +kernel
theorem dX11_isCutAslant_33 : decode cX11_isCutAslant 33 = .ok (.iconst 1, 1) := by decide +kernel
theorem dX11_isCutAslant_34 : decode cX11_isCutAslant 34 = .ok (.goto 4, 3) := by decide +kernel
theorem dX11_isCutAslant_37 : decode cX11_isCutAslant 37 = .ok (.iconst 0, 1) := by decide +kernel
theorem dX11_isCutAslant_38 : decode cX11_isCutAslant 38 = .ok (.ireturn, 1) := by decide +kernel
theorem dX11_costBy_0 : decode cX11_costBy 0 = .ok (.aload_n 0, 1) := by decide +kernel
theorem dX11_costBy_1 : decode cX11_costBy 1 = .ok (.getfield 68, 3) := by decide +kernel
theorem dX11_costBy_4 : decode cX11_costBy 4 = .ok (.iload_n 1, 1) := by decide +kernel
theorem dX11_costBy_5 : decode cX11_costBy 5 = .ok (.iaload, 1) := by decide +kernel
theorem dX11_costBy_6 : decode cX11_costBy 6 = .ok (.iload_n 3, 1) := by decide +kernel
theorem dX11_costBy_7 : decode cX11_costBy 7 = .ok (.isub, 1) := by decide +kernel
theorem dX11_costBy_8 : decode cX11_costBy 8 = .ok (.istore 5, 2) := by decide +kernel
theorem dX11_costBy_10 : decode cX11_costBy 10 = .ok (.iload_n 2, 1) := by decide +kernel
theorem dX11_costBy_11 : decode cX11_costBy 11 = .ok (.iload 4, 2) := by decide +kernel
theorem dX11_costBy_13 : decode cX11_costBy 13 = .ok (.invokestatic 197, 3) := by decide +kernel
theorem dX11_costBy_16 : decode cX11_costBy 16 = .ok (.idiv, 1) := by decide +kernel
theorem dX11_costBy_17 : decode cX11_costBy 17 = .ok (.bipush 7, 2) := by decide +kernel
theorem dX11_costBy_19 : decode cX11_costBy 19 = .ok (.irem, 1) := by decide +kernel
theorem dX11_costBy_20 : decode cX11_costBy 20 = .ok (.ifCond .eq 35, 3) := by decide +kernel
theorem dX11_costBy_23 : decode cX11_costBy 23 = .ok (.iload_n 3, 1) := by decide +kernel
theorem dX11_costBy_24 : decode cX11_costBy 24 = .ok (.aload_n 0, 1) := by decide +kernel
theorem dX11_costBy_25 : decode cX11_costBy 25 = .ok (.getfield 40, 3) := by decide +kernel
